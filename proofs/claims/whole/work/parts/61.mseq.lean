/-! the class's reader: sequences -/
/-- a set of places, by their places in a piece -/
def Mk (x : Int32) (K : Nat) (f : Nat → Bool) : Prop := ∀ o, o < 32 → bt x o = (decide (K ≤ o) && f (o - K))
theorem Mk.or {x y : Int32} {K : Nat} {f g : Nat → Bool} (h : Mk x K f) (h2 : Mk y K g) : Mk (x ||| y) K (fun j => f j || g j) := by
  intro o ho
  rw [bt_or, h o ho, h2 o ho]
  cases decide (K ≤ o) <;> rfl
theorem Mk.congr {x : Int32} {K : Nat} {f g : Nat → Bool} (h : Mk x K f) (e : ∀ j, K + j < 32 → f j = g j) : Mk x K g := by
  intro o ho
  rw [h o ho]
  by_cases hk : K ≤ o
  · rw [e (o - K) (by omega)]
  · rw [decide_eq_false hk]
    rfl
theorem Mk.shl {x : Int32} {K d : Nat} {f : Nat → Bool} (h : Mk x K f) (hd : d < 32) : Mk (x <<< J d) (K + d) f := by
  intro o ho
  rw [bt_shlJ x hd ho]
  by_cases h1 : d ≤ o
  · rw [h (o - d) (by omega), decide_eq_true h1, Bool.true_and, show o - d - K = o - (K + d) from by omega, show decide (K ≤ o - d) = decide (K + d ≤ o) from decide_eq_decide.mpr (by omega)]
  · rw [decide_eq_false h1, decide_eq_false (by omega)]
    rfl
theorem Mk.base {x : Int32} {K d : Nat} {f : Nat → Bool} (h : Mk x (K + d) f) : Mk x K (fun j => decide (d ≤ j) && f (j - d)) := by
  intro o ho
  rw [h o ho]
  by_cases h1 : K ≤ o
  · rw [decide_eq_true h1, Bool.true_and, show decide (K + d ≤ o) = decide (d ≤ o - K) from decide_eq_decide.mpr (by omega), show o - (K + d) = o - K - d from by omega]
  · rw [decide_eq_false h1, decide_eq_false (by omega)]
    rfl
theorem Mk.zero {K : Nat} : Mk (J 0) K (fun _ => false) := by
  intro o ho
  rw [show bt (J 0) o = false from bt0 o, Bool.and_false]
theorem Mk.one {K : Nat} (hK : K < 32) : Mk (J 1 <<< J K) K (fun j => decide (j = 0)) := by
  intro o ho
  rw [bt_setJ hK ho]
  by_cases h : K ≤ o
  · rw [decide_eq_true h, Bool.true_and]
    exact decide_eq_decide.mpr (by omega)
  · rw [decide_eq_false h, decide_eq_false (by omega)]
    rfl
theorem Mk.at {x : Int32} {K : Nat} {f : Nat → Bool} (h : Mk x K f) {j : Nat} (hj : K + j < 32) : bt x (K + j) = f j := by
  rw [h (K + j) hj, decide_eq_true (by omega), Bool.true_and, show K + j - K = j from by omega]
theorem Mk.below {x : Int32} {K : Nat} {f : Nat → Bool} (h : Mk x K f) {o : Nat} (ho : o < K) (h32 : o < 32) : bt x o = false := by
  rw [h o h32, decide_eq_false (by omega)]
  rfl
section SQ
variable {N ln : Nat} {ch : Nat → Nat}
/-- linking: what stands behind is put to each place of a set -/
theorem cls_link0 {k : Nat} (hk : k ≤ 9) (b x : Int32) : ∀ f o n (τ : St), o + f = k → f < n → gI τ 22 0 = J k → ∃ τ', fX1_link_2 N n τ b x (J o) = some τ' ∧ Fr [25] τ τ' ∧ (∀ i, i < o → gI τ' 25 i = gI τ 25 i) ∧ (∀ i, k ≤ i → gI τ' 25 i = gI τ 25 i) ∧ ∀ i, o ≤ i → i < k → gI τ' 25 i = if bt b i = true then gI τ 25 i ||| x else gI τ 25 i := by
  intro f
  induction f with
  | zero =>
    intro o n τ ho hn h22
    obtain ⟨n, rfl⟩ : ∃ k, n = k + 1 := ⟨n - 1, by omega⟩
    obtain rfl : o = k := by omega
    refine ⟨τ, ?_, Fr.rf, fun _ _ => rfl, fun _ _ => rfl, fun i h1 h2 => by omega⟩
    unfold fX1_link_2
    simp (decide := true) (disch := omega) only [letS_d, grd_t, bnd_d, bnd1_d, bndX_d, bndX_e, gI_sI, gI_sL, gL_sL, gL_sI, upd_at, updL_at, J_lit, J_add, J_mul, J_sub, J_lt, J_le, J_inj, J_ne, ne_J, m_lt, lt_m, m_le, le_m, J_cl, J_inB, if_true, if_false, ite_true, ite_false, reduceIte, isZ0, isZ1, J_and31, shrJ0, shlJ0, gI_sA, gL_sA, Nat.reduceEqDiff, Nat.reduceAdd, Nat.reduceMul, Nat.reduceLT, Nat.reduceLeDiff, h22, Nat.le_refl]
  | succ f ih =>
    intro o n τ ho hn h22
    obtain ⟨n, rfl⟩ : ∃ k, n = k + 1 := ⟨n - 1, by omega⟩
    have h1 : ¬ k ≤ o := by omega
    have hh := has8 (N := N) (τ := τ) (x := b) (o := o) (by omega)
    rw [show fX1_link_2 N (n + 1) τ b x (J o) = _ from by unfold fX1_link_2; rfl]
    cases hb : bt b o
    · rw [hb, zb_f] at hh
      obtain ⟨τ', e1, e2, e3, e4, e5⟩ := ih (o + 1) n τ (by omega) (by omega) h22
      refine ⟨τ', ?_, e2, fun i hi => e3 i (by omega), e4, fun i i1 i2 => ?_⟩
      · simp (decide := true) (disch := omega) only [letS_d, grd_t, bnd_d, bnd1_d, bndX_d, bndX_e, gI_sI, gI_sL, gL_sL, gL_sI, upd_at, updL_at, J_lit, J_add, J_mul, J_sub, J_lt, J_le, J_inj, J_ne, ne_J, m_lt, lt_m, m_le, le_m, J_cl, J_inB, if_true, if_false, ite_true, ite_false, reduceIte, isZ0, isZ1, J_and31, shrJ0, shlJ0, gI_sA, gL_sA, Nat.reduceEqDiff, Nat.reduceAdd, Nat.reduceMul, Nat.reduceLT, Nat.reduceLeDiff, h22, h1, hh, fX1_link_28]
        exact e1
      · by_cases hio : i = o
        · subst hio
          rw [e3 i (by omega), hb, if_neg (by decide)]
        · exact e5 i (by omega) i2
    · rw [hb, zb_t] at hh
      obtain ⟨τ', e1, e2, e3, e4, e5⟩ := ih (o + 1) n (sI τ 25 o (gI τ 25 o ||| x)) (by omega) (by omega) (by simp (decide := true) (disch := omega) only [letS_d, grd_t, bnd_d, bnd1_d, bndX_d, bndX_e, gI_sI, gI_sL, gL_sL, gL_sI, upd_at, updL_at, J_lit, J_add, J_mul, J_sub, J_lt, J_le, J_inj, J_ne, ne_J, m_lt, lt_m, m_le, le_m, J_cl, J_inB, if_true, if_false, ite_true, ite_false, reduceIte, isZ0, isZ1, J_and31, shrJ0, shlJ0, gI_sA, gL_sA, Nat.reduceEqDiff, Nat.reduceAdd, Nat.reduceMul, Nat.reduceLT, Nat.reduceLeDiff]; exact h22)
      refine ⟨τ', ?_, (Fr.i (by decide)).tr e2, fun i hi => ?_, fun i hi => ?_, fun i i1 i2 => ?_⟩
      · simp (decide := true) (disch := omega) only [letS_d, grd_t, bnd_d, bnd1_d, bndX_d, bndX_e, gI_sI, gI_sL, gL_sL, gL_sI, upd_at, updL_at, J_lit, J_add, J_mul, J_sub, J_lt, J_le, J_inj, J_ne, ne_J, m_lt, lt_m, m_le, le_m, J_cl, J_inB, if_true, if_false, ite_true, ite_false, reduceIte, isZ0, isZ1, J_and31, shrJ0, shlJ0, gI_sA, gL_sA, Nat.reduceEqDiff, Nat.reduceAdd, Nat.reduceMul, Nat.reduceLT, Nat.reduceLeDiff, h22, h1, hh, fX1_link_28]
        exact e1
      · rw [e3 i (by omega)]
        have : ¬ i = o := by omega
        simp (decide := true) (disch := omega) only [letS_d, grd_t, bnd_d, bnd1_d, bndX_d, bndX_e, gI_sI, gI_sL, gL_sL, gL_sI, upd_at, updL_at, J_lit, J_add, J_mul, J_sub, J_lt, J_le, J_inj, J_ne, ne_J, m_lt, lt_m, m_le, le_m, J_cl, J_inB, if_true, if_false, ite_true, ite_false, reduceIte, isZ0, isZ1, J_and31, shrJ0, shlJ0, gI_sA, gL_sA, Nat.reduceEqDiff, Nat.reduceAdd, Nat.reduceMul, Nat.reduceLT, Nat.reduceLeDiff, this]
      · rw [e4 i hi]
        have : ¬ i = o := by omega
        simp (decide := true) (disch := omega) only [letS_d, grd_t, bnd_d, bnd1_d, bndX_d, bndX_e, gI_sI, gI_sL, gL_sL, gL_sI, upd_at, updL_at, J_lit, J_add, J_mul, J_sub, J_lt, J_le, J_inj, J_ne, ne_J, m_lt, lt_m, m_le, le_m, J_cl, J_inB, if_true, if_false, ite_true, ite_false, reduceIte, isZ0, isZ1, J_and31, shrJ0, shlJ0, gI_sA, gL_sA, Nat.reduceEqDiff, Nat.reduceAdd, Nat.reduceMul, Nat.reduceLT, Nat.reduceLeDiff, this]
      · by_cases hio : i = o
        · subst hio
          rw [e3 i (by omega), hb, if_pos rfl]
          simp (decide := true) (disch := omega) only [letS_d, grd_t, bnd_d, bnd1_d, bndX_d, bndX_e, gI_sI, gI_sL, gL_sL, gL_sI, upd_at, updL_at, J_lit, J_add, J_mul, J_sub, J_lt, J_le, J_inj, J_ne, ne_J, m_lt, lt_m, m_le, le_m, J_cl, J_inB, if_true, if_false, ite_true, ite_false, reduceIte, isZ0, isZ1, J_and31, shrJ0, shlJ0, gI_sA, gL_sA, Nat.reduceEqDiff, Nat.reduceAdd, Nat.reduceMul, Nat.reduceLT, Nat.reduceLeDiff]
        · rw [e5 i (by omega) i2]
          have e : gI (sI τ 25 o (gI τ 25 o ||| x)) 25 i = gI τ 25 i := by simp (decide := true) (disch := omega) only [letS_d, grd_t, bnd_d, bnd1_d, bndX_d, bndX_e, gI_sI, gI_sL, gL_sL, gL_sI, upd_at, updL_at, J_lit, J_add, J_mul, J_sub, J_lt, J_le, J_inj, J_ne, ne_J, m_lt, lt_m, m_le, le_m, J_cl, J_inB, if_true, if_false, ite_true, ite_false, reduceIte, isZ0, isZ1, J_and31, shrJ0, shlJ0, gI_sA, gL_sA, Nat.reduceEqDiff, Nat.reduceAdd, Nat.reduceMul, Nat.reduceLT, Nat.reduceLeDiff, hio]
          rw [e]
theorem cls_link (hN : 100 ≤ N) {k : Nat} (hk : k ≤ 9) (b x : Int32) {τ : St} (h22 : gI τ 22 0 = J k) : ∃ τ', fX1_link N τ b x = some τ' ∧ Fr [25] τ τ' ∧ (∀ i, k ≤ i → gI τ' 25 i = gI τ 25 i) ∧ ∀ i, i < k → gI τ' 25 i = if bt b i = true then gI τ 25 i ||| x else gI τ 25 i := by
  obtain ⟨τ', e1, e2, e3, e4, e5⟩ := cls_link0 (N := N) hk b x k 0 N τ (by omega) (by omega) h22
  refine ⟨τ', ?_, e2, e4, fun i hi => e5 i (by omega) hi⟩
  unfold fX1_link
  simp (decide := true) (disch := omega) only [letS_d, grd_t, bnd_d, bnd1_d, bndX_d, bndX_e, gI_sI, gI_sL, gL_sL, gL_sI, upd_at, updL_at, J_lit, J_add, J_mul, J_sub, J_lt, J_le, J_inj, J_ne, ne_J, m_lt, lt_m, m_le, le_m, J_cl, J_inB, if_true, if_false, ite_true, ite_false, reduceIte, isZ0, isZ1, J_and31, shrJ0, shlJ0, gI_sA, gL_sA, Nat.reduceEqDiff, Nat.reduceAdd, Nat.reduceMul, Nat.reduceLT, Nat.reduceLeDiff]
  exact e1
/-- the places of a piece, and what follows each -/
def Plc (K : Nat) (s : Term) (τ : St) : Prop := ∀ j, j < len s → gI τ 24 (K + j) = J (bm (pl s j)) ∧ Mk (gI τ 25 (K + j)) K (fo s j)
/-- a piece that fits, as it stands when it was read -/
def Sx (K : Nat) (s : Term) (τ : St) : Prop := gI τ 23 0 = J 1 ∧ gI τ 22 0 = J (K + len s) ∧ K + len s ≤ 9 ∧ Plc K s τ ∧ Mk (gI τ 45 0) K (fi s) ∧ Mk (gI τ 46 0) K (la s)
/-- one that doesn't -/
def Nx (K : Nat) (τ : St) : Prop := gI τ 23 0 = J 0 ∧ ∃ k, K ≤ k ∧ k ≤ 9 ∧ gI τ 22 0 = J k
/-- what stood there before -/
def Kp (K : Nat) (τ τ' : St) : Prop := ∀ o, o < K → gI τ' 24 o = gI τ 24 o ∧ gI τ' 25 o = gI τ 25 o
theorem Kp.tr {K : Nat} {a b c : St} (h : Kp K a b) (h2 : Kp K b c) : Kp K a c := fun o ho => ⟨(h2 o ho).1.trans (h o ho).1, (h2 o ho).2.trans (h o ho).2⟩
theorem Kp.le {K L : Nat} {a b : St} (h : Kp L a b) (hl : K ≤ L) : Kp K a b := fun o ho => h o (by omega)
theorem Kp.of {K : Nat} {τ τ' : St} {S : List Nat} (f : Fr S τ τ') (d : ∀ k ∈ [24, 25], k ∉ S) : Kp K τ τ' := fun o _ => by
  rw [f.gi (d 24 (by decide)), f.gi (d 25 (by decide))]
  exact ⟨rfl, rfl⟩
/-- before a piece: so many places, fitting or not -/
def St0 (K : Nat) (τ : St) : Prop := K ≤ 9 ∧ gI τ 22 0 = J K ∧ (gI τ 23 0 = J 1 ∨ gI τ 23 0 = J 0)
/-- what a piece's read comes to -/
def Pv (K : Nat) (s : Term) (τ τ' : St) : Prop := 1 ≤ len s ∧ ((gI τ 23 0 = J 1 ∧ Sx K s τ' ∧ Kp K τ τ') ∨ (Nx K τ' ∧ (gI τ 23 0 = J 1 → 9 < K + len s)))
def SO (ch : Nat → Nat) (ln K : Nat) (r : PR) (τ : St) (z : Option (Int32 × Int32 × St)) : Prop := match r with
  | (q, some s) => ∃ τ', z = some (J 0, J 0, τ') ∧ Fr [22, 23, 24, 25, 43, 45, 46] τ τ' ∧ Rd ch ln q τ' ∧ Pv K s τ τ'
  | (q, none) => ∃ τ', z = some (J 1, J 0, τ') ∧ Fr [22, 23, 24, 25, 43, 44, 45, 46] τ τ' ∧ gI τ' 44 0 = J q
theorem J10 : ¬ (J 1 : Int32) = J 0 := by decide
theorem zc {x : Int32} (h : x = J 1 ∨ x = J 0) (hn : ¬ x = J 1) : x = J 0 := by
  rcases h with h | h
  · exact absurd h hn
  · exact h
/-- a place -/
theorem cls_place {K : Nat} {b : Term} {τ : St} (h : St0 K τ) : ∃ r τ', fX1_addPlace N τ (J (bm b)) = some (r, τ') ∧ Fr [22, 23, 24, 25] τ τ' ∧ Pv K (.field b "" "" "") τ (sI (sI τ' 45 0 r) 46 0 r) := by
  obtain ⟨hK, h22, h23⟩ := h
  have hlen : len (.field b "" "" "") = 1 := rfl
  unfold fX1_addPlace fX1_newObligation
  by_cases h9 : K < 9
  · have hne : ¬ K = 2147483648 := by omega
    refine ⟨J 1 <<< J K, sI (sI (sI τ 22 0 (J (K + 1))) 24 K (J (bm b))) 25 K (J 0), ?_, ((Fr.i (by decide)).tr (Fr.i (by decide))).tr (Fr.i (by decide)), by rw [hlen]; omega, ?_⟩
    · have e : K + 1 - 1 = K := by omega
      simp (decide := true) (disch := omega) only [letS_d, grd_t, bnd_d, bnd1_d, bndX_d, bndX_e, gI_sI, gI_sL, gL_sL, gL_sI, upd_at, updL_at, J_lit, J_add, J_mul, J_sub, J_lt, J_le, J_inj, J_ne, ne_J, m_lt, lt_m, m_le, le_m, J_cl, J_inB, if_true, if_false, ite_true, ite_false, reduceIte, isZ0, isZ1, J_and31, shrJ0, shlJ0, gI_sA, gL_sA, Nat.reduceEqDiff, Nat.reduceAdd, Nat.reduceMul, Nat.reduceLT, Nat.reduceLeDiff, h22, h9, e]
    · by_cases hf : gI τ 23 0 = J 1
      · left
        refine ⟨hf, ⟨by simp (decide := true) (disch := omega) only [letS_d, grd_t, bnd_d, bnd1_d, bndX_d, bndX_e, gI_sI, gI_sL, gL_sL, gL_sI, upd_at, updL_at, J_lit, J_add, J_mul, J_sub, J_lt, J_le, J_inj, J_ne, ne_J, m_lt, lt_m, m_le, le_m, J_cl, J_inB, if_true, if_false, ite_true, ite_false, reduceIte, isZ0, isZ1, J_and31, shrJ0, shlJ0, gI_sA, gL_sA, Nat.reduceEqDiff, Nat.reduceAdd, Nat.reduceMul, Nat.reduceLT, Nat.reduceLeDiff]; exact hf, by simp (decide := true) (disch := omega) only [letS_d, grd_t, bnd_d, bnd1_d, bndX_d, bndX_e, gI_sI, gI_sL, gL_sL, gL_sI, upd_at, updL_at, J_lit, J_add, J_mul, J_sub, J_lt, J_le, J_inj, J_ne, ne_J, m_lt, lt_m, m_le, le_m, J_cl, J_inB, if_true, if_false, ite_true, ite_false, reduceIte, isZ0, isZ1, J_and31, shrJ0, shlJ0, gI_sA, gL_sA, Nat.reduceEqDiff, Nat.reduceAdd, Nat.reduceMul, Nat.reduceLT, Nat.reduceLeDiff, hlen], by rw [hlen]; omega, fun j hj => ?_, ?_, ?_⟩, fun o ho => ?_⟩
        · rw [hlen] at hj
          obtain rfl : j = 0 := by omega
          refine ⟨by simp (decide := true) (disch := omega) only [letS_d, grd_t, bnd_d, bnd1_d, bndX_d, bndX_e, gI_sI, gI_sL, gL_sL, gL_sI, upd_at, updL_at, J_lit, J_add, J_mul, J_sub, J_lt, J_le, J_inj, J_ne, ne_J, m_lt, lt_m, m_le, le_m, J_cl, J_inB, if_true, if_false, ite_true, ite_false, reduceIte, isZ0, isZ1, J_and31, shrJ0, shlJ0, gI_sA, gL_sA, Nat.reduceEqDiff, Nat.reduceAdd, Nat.reduceMul, Nat.reduceLT, Nat.reduceLeDiff, Nat.add_zero]; rfl, ?_⟩
          have e : gI (sI (sI (sI (sI (sI τ 22 0 (J (K + 1))) 24 K (J (bm b))) 25 K (J 0)) 45 0 (J 1 <<< J K)) 46 0 (J 1 <<< J K)) 25 (K + 0) = J 0 := by simp (decide := true) (disch := omega) only [letS_d, grd_t, bnd_d, bnd1_d, bndX_d, bndX_e, gI_sI, gI_sL, gL_sL, gL_sI, upd_at, updL_at, J_lit, J_add, J_mul, J_sub, J_lt, J_le, J_inj, J_ne, ne_J, m_lt, lt_m, m_le, le_m, J_cl, J_inB, if_true, if_false, ite_true, ite_false, reduceIte, isZ0, isZ1, J_and31, shrJ0, shlJ0, gI_sA, gL_sA, Nat.reduceEqDiff, Nat.reduceAdd, Nat.reduceMul, Nat.reduceLT, Nat.reduceLeDiff, Nat.add_zero]
          rw [e]
          exact Mk.zero.congr (fun _ _ => rfl)
        · have e : gI (sI (sI (sI (sI (sI τ 22 0 (J (K + 1))) 24 K (J (bm b))) 25 K (J 0)) 45 0 (J 1 <<< J K)) 46 0 (J 1 <<< J K)) 45 0 = J 1 <<< J K := by simp (decide := true) (disch := omega) only [letS_d, grd_t, bnd_d, bnd1_d, bndX_d, bndX_e, gI_sI, gI_sL, gL_sL, gL_sI, upd_at, updL_at, J_lit, J_add, J_mul, J_sub, J_lt, J_le, J_inj, J_ne, ne_J, m_lt, lt_m, m_le, le_m, J_cl, J_inB, if_true, if_false, ite_true, ite_false, reduceIte, isZ0, isZ1, J_and31, shrJ0, shlJ0, gI_sA, gL_sA, Nat.reduceEqDiff, Nat.reduceAdd, Nat.reduceMul, Nat.reduceLT, Nat.reduceLeDiff]
          rw [e]
          exact (Mk.one (by omega)).congr (fun _ _ => rfl)
        · have e : gI (sI (sI (sI (sI (sI τ 22 0 (J (K + 1))) 24 K (J (bm b))) 25 K (J 0)) 45 0 (J 1 <<< J K)) 46 0 (J 1 <<< J K)) 46 0 = J 1 <<< J K := by simp (decide := true) (disch := omega) only [letS_d, grd_t, bnd_d, bnd1_d, bndX_d, bndX_e, gI_sI, gI_sL, gL_sL, gL_sI, upd_at, updL_at, J_lit, J_add, J_mul, J_sub, J_lt, J_le, J_inj, J_ne, ne_J, m_lt, lt_m, m_le, le_m, J_cl, J_inB, if_true, if_false, ite_true, ite_false, reduceIte, isZ0, isZ1, J_and31, shrJ0, shlJ0, gI_sA, gL_sA, Nat.reduceEqDiff, Nat.reduceAdd, Nat.reduceMul, Nat.reduceLT, Nat.reduceLeDiff]
          rw [e]
          exact (Mk.one (by omega)).congr (fun _ _ => rfl)
        · have : ¬ o = K := by omega
          exact ⟨by simp (decide := true) (disch := omega) only [letS_d, grd_t, bnd_d, bnd1_d, bndX_d, bndX_e, gI_sI, gI_sL, gL_sL, gL_sI, upd_at, updL_at, J_lit, J_add, J_mul, J_sub, J_lt, J_le, J_inj, J_ne, ne_J, m_lt, lt_m, m_le, le_m, J_cl, J_inB, if_true, if_false, ite_true, ite_false, reduceIte, isZ0, isZ1, J_and31, shrJ0, shlJ0, gI_sA, gL_sA, Nat.reduceEqDiff, Nat.reduceAdd, Nat.reduceMul, Nat.reduceLT, Nat.reduceLeDiff, this], by simp (decide := true) (disch := omega) only [letS_d, grd_t, bnd_d, bnd1_d, bndX_d, bndX_e, gI_sI, gI_sL, gL_sL, gL_sI, upd_at, updL_at, J_lit, J_add, J_mul, J_sub, J_lt, J_le, J_inj, J_ne, ne_J, m_lt, lt_m, m_le, le_m, J_cl, J_inB, if_true, if_false, ite_true, ite_false, reduceIte, isZ0, isZ1, J_and31, shrJ0, shlJ0, gI_sA, gL_sA, Nat.reduceEqDiff, Nat.reduceAdd, Nat.reduceMul, Nat.reduceLT, Nat.reduceLeDiff, this]⟩
      · right
        have h0 := zc h23 hf
        exact ⟨⟨by simp (decide := true) (disch := omega) only [letS_d, grd_t, bnd_d, bnd1_d, bndX_d, bndX_e, gI_sI, gI_sL, gL_sL, gL_sI, upd_at, updL_at, J_lit, J_add, J_mul, J_sub, J_lt, J_le, J_inj, J_ne, ne_J, m_lt, lt_m, m_le, le_m, J_cl, J_inB, if_true, if_false, ite_true, ite_false, reduceIte, isZ0, isZ1, J_and31, shrJ0, shlJ0, gI_sA, gL_sA, Nat.reduceEqDiff, Nat.reduceAdd, Nat.reduceMul, Nat.reduceLT, Nat.reduceLeDiff]; exact h0, K + 1, by omega, by omega, by simp (decide := true) (disch := omega) only [letS_d, grd_t, bnd_d, bnd1_d, bndX_d, bndX_e, gI_sI, gI_sL, gL_sL, gL_sI, upd_at, updL_at, J_lit, J_add, J_mul, J_sub, J_lt, J_le, J_inj, J_ne, ne_J, m_lt, lt_m, m_le, le_m, J_cl, J_inB, if_true, if_false, ite_true, ite_false, reduceIte, isZ0, isZ1, J_and31, shrJ0, shlJ0, gI_sA, gL_sA, Nat.reduceEqDiff, Nat.reduceAdd, Nat.reduceMul, Nat.reduceLT, Nat.reduceLeDiff]⟩, fun h => absurd h hf⟩
  · obtain rfl : K = 9 := by omega
    refine ⟨J 0, sI τ 23 0 (J 0), ?_, Fr.i (by decide), by rw [hlen]; omega, Or.inr ⟨⟨by simp (decide := true) (disch := omega) only [letS_d, grd_t, bnd_d, bnd1_d, bndX_d, bndX_e, gI_sI, gI_sL, gL_sL, gL_sI, upd_at, updL_at, J_lit, J_add, J_mul, J_sub, J_lt, J_le, J_inj, J_ne, ne_J, m_lt, lt_m, m_le, le_m, J_cl, J_inB, if_true, if_false, ite_true, ite_false, reduceIte, isZ0, isZ1, J_and31, shrJ0, shlJ0, gI_sA, gL_sA, Nat.reduceEqDiff, Nat.reduceAdd, Nat.reduceMul, Nat.reduceLT, Nat.reduceLeDiff], 9, by omega, by omega, by simp (decide := true) (disch := omega) only [letS_d, grd_t, bnd_d, bnd1_d, bndX_d, bndX_e, gI_sI, gI_sL, gL_sL, gL_sI, upd_at, updL_at, J_lit, J_add, J_mul, J_sub, J_lt, J_le, J_inj, J_ne, ne_J, m_lt, lt_m, m_le, le_m, J_cl, J_inB, if_true, if_false, ite_true, ite_false, reduceIte, isZ0, isZ1, J_and31, shrJ0, shlJ0, gI_sA, gL_sA, Nat.reduceEqDiff, Nat.reduceAdd, Nat.reduceMul, Nat.reduceLT, Nat.reduceLeDiff]; exact h22⟩, fun _ => by rw [hlen]; omega⟩⟩
    simp (decide := true) (disch := omega) only [letS_d, grd_t, bnd_d, bnd1_d, bndX_d, bndX_e, gI_sI, gI_sL, gL_sL, gL_sI, upd_at, updL_at, J_lit, J_add, J_mul, J_sub, J_lt, J_le, J_inj, J_ne, ne_J, m_lt, lt_m, m_le, le_m, J_cl, J_inB, if_true, if_false, ite_true, ite_false, reduceIte, isZ0, isZ1, J_and31, shrJ0, shlJ0, gI_sA, gL_sA, Nat.reduceEqDiff, Nat.reduceAdd, Nat.reduceMul, Nat.reduceLT, Nat.reduceLeDiff, h22]
/-- copies of the places, one more -/
theorem cls_copy1 {K w n0 a : Nat} (hw : K + w * n0 ≤ 9) (ha : 1 ≤ a) (han : a < n0) (k33 : St → Int32 → Int32 → Int32 → Int32 → Option St) : ∀ f i n (τ : St), i + f = K + w → K ≤ i → f < n → ∃ τ', fX1_copyPlaces_48 N k33 n τ (J K) (J n0) (J w) (J a) (J (a * w)) (J i) = k33 τ' (J K) (J n0) (J w) (J (a + 1)) ∧ Fr [24, 25] τ τ' ∧ (∀ o, (o < i + a * w ∨ K + w + a * w ≤ o) → gI τ' 24 o = gI τ 24 o ∧ gI τ' 25 o = gI τ 25 o) ∧ ∀ j, i ≤ j → j < K + w → gI τ' 24 (j + a * w) = gI τ 24 j ∧ gI τ' 25 (j + a * w) = gI τ 25 j <<< J (a * w) := by
  have haw : a * w + w ≤ w * n0 := by
    have := Nat.mul_le_mul_left w (show a + 1 ≤ n0 by omega)
    rw [Nat.mul_succ] at this
    rw [Nat.mul_comm a w]
    exact this
  intro f
  induction f with
  | zero =>
    intro i n τ hi hKi hn
    obtain ⟨n, rfl⟩ : ∃ k, n = k + 1 := ⟨n - 1, by omega⟩
    refine ⟨τ, ?_, Fr.rf, fun _ _ => ⟨rfl, rfl⟩, fun j h1 h2 => by omega⟩
    unfold fX1_copyPlaces_48
    have : K + w ≤ i := by omega
    simp (decide := true) (disch := omega) only [letS_d, grd_t, bnd_d, bnd1_d, bndX_d, bndX_e, gI_sI, gI_sL, gL_sL, gL_sI, upd_at, updL_at, J_lit, J_add, J_mul, J_sub, J_lt, J_le, J_inj, J_ne, ne_J, m_lt, lt_m, m_le, le_m, J_cl, J_inB, if_true, if_false, ite_true, ite_false, reduceIte, isZ0, isZ1, J_and31, shrJ0, shlJ0, gI_sA, gL_sA, Nat.reduceEqDiff, Nat.reduceAdd, Nat.reduceMul, Nat.reduceLT, Nat.reduceLeDiff, this]
  | succ f ih =>
    intro i n τ hi hKi hn
    obtain ⟨n, rfl⟩ : ∃ k, n = k + 1 := ⟨n - 1, by omega⟩
    have h1 : ¬ K + w ≤ i := by omega
    obtain ⟨τ', e1, e2, e3, e4⟩ := ih (i + 1) n (sI (sI τ 24 (i + a * w) (gI τ 24 i)) 25 (i + a * w) (gI τ 25 i <<< J (a * w))) (by omega) (by omega) (by omega)
    have hwp : 1 ≤ w := by omega
    have haw1 : w ≤ a * w := Nat.le_mul_of_pos_left w ha
    have hne : ¬ i = i + a * w := by omega
    refine ⟨τ', ?_, ((Fr.i (by decide)).tr (Fr.i (by decide))).tr e2, fun o ho => ?_, fun j j1 j2 => ?_⟩
    · rw [← e1]
      rw [show fX1_copyPlaces_48 N k33 (n + 1) τ (J K) (J n0) (J w) (J a) (J (a * w)) (J i) = _ from by unfold fX1_copyPlaces_48; rfl]
      simp (decide := true) (disch := omega) only [letS_d, grd_t, bnd_d, bnd1_d, bndX_d, bndX_e, gI_sI, gI_sL, gL_sL, gL_sI, upd_at, updL_at, J_lit, J_add, J_mul, J_sub, J_lt, J_le, J_inj, J_ne, ne_J, m_lt, lt_m, m_le, le_m, J_cl, J_inB, if_true, if_false, ite_true, ite_false, reduceIte, isZ0, isZ1, J_and31, shrJ0, shlJ0, gI_sA, gL_sA, Nat.reduceEqDiff, Nat.reduceAdd, Nat.reduceMul, Nat.reduceLT, Nat.reduceLeDiff, h1, hne]
    · obtain ⟨q1, q2⟩ := e3 o (by omega)
      have : ¬ o = i + a * w := by omega
      rw [q1, q2]
      exact ⟨by simp (decide := true) (disch := omega) only [letS_d, grd_t, bnd_d, bnd1_d, bndX_d, bndX_e, gI_sI, gI_sL, gL_sL, gL_sI, upd_at, updL_at, J_lit, J_add, J_mul, J_sub, J_lt, J_le, J_inj, J_ne, ne_J, m_lt, lt_m, m_le, le_m, J_cl, J_inB, if_true, if_false, ite_true, ite_false, reduceIte, isZ0, isZ1, J_and31, shrJ0, shlJ0, gI_sA, gL_sA, Nat.reduceEqDiff, Nat.reduceAdd, Nat.reduceMul, Nat.reduceLT, Nat.reduceLeDiff, this], by simp (decide := true) (disch := omega) only [letS_d, grd_t, bnd_d, bnd1_d, bndX_d, bndX_e, gI_sI, gI_sL, gL_sL, gL_sI, upd_at, updL_at, J_lit, J_add, J_mul, J_sub, J_lt, J_le, J_inj, J_ne, ne_J, m_lt, lt_m, m_le, le_m, J_cl, J_inB, if_true, if_false, ite_true, ite_false, reduceIte, isZ0, isZ1, J_and31, shrJ0, shlJ0, gI_sA, gL_sA, Nat.reduceEqDiff, Nat.reduceAdd, Nat.reduceMul, Nat.reduceLT, Nat.reduceLeDiff, this]⟩
    · by_cases hji : j = i
      · subst hji
        obtain ⟨q1, q2⟩ := e3 (j + a * w) (Or.inl (by omega))
        rw [q1, q2]
        exact ⟨by simp (decide := true) (disch := omega) only [letS_d, grd_t, bnd_d, bnd1_d, bndX_d, bndX_e, gI_sI, gI_sL, gL_sL, gL_sI, upd_at, updL_at, J_lit, J_add, J_mul, J_sub, J_lt, J_le, J_inj, J_ne, ne_J, m_lt, lt_m, m_le, le_m, J_cl, J_inB, if_true, if_false, ite_true, ite_false, reduceIte, isZ0, isZ1, J_and31, shrJ0, shlJ0, gI_sA, gL_sA, Nat.reduceEqDiff, Nat.reduceAdd, Nat.reduceMul, Nat.reduceLT, Nat.reduceLeDiff], by simp (decide := true) (disch := omega) only [letS_d, grd_t, bnd_d, bnd1_d, bndX_d, bndX_e, gI_sI, gI_sL, gL_sL, gL_sI, upd_at, updL_at, J_lit, J_add, J_mul, J_sub, J_lt, J_le, J_inj, J_ne, ne_J, m_lt, lt_m, m_le, le_m, J_cl, J_inB, if_true, if_false, ite_true, ite_false, reduceIte, isZ0, isZ1, J_and31, shrJ0, shlJ0, gI_sA, gL_sA, Nat.reduceEqDiff, Nat.reduceAdd, Nat.reduceMul, Nat.reduceLT, Nat.reduceLeDiff]⟩
      · obtain ⟨q1, q2⟩ := e4 j (by omega) j2
        have : ¬ j = i + a * w := by omega
        rw [q1, q2]
        exact ⟨by simp (decide := true) (disch := omega) only [letS_d, grd_t, bnd_d, bnd1_d, bndX_d, bndX_e, gI_sI, gI_sL, gL_sL, gL_sI, upd_at, updL_at, J_lit, J_add, J_mul, J_sub, J_lt, J_le, J_inj, J_ne, ne_J, m_lt, lt_m, m_le, le_m, J_cl, J_inB, if_true, if_false, ite_true, ite_false, reduceIte, isZ0, isZ1, J_and31, shrJ0, shlJ0, gI_sA, gL_sA, Nat.reduceEqDiff, Nat.reduceAdd, Nat.reduceMul, Nat.reduceLT, Nat.reduceLeDiff, this], by simp (decide := true) (disch := omega) only [letS_d, grd_t, bnd_d, bnd1_d, bndX_d, bndX_e, gI_sI, gI_sL, gL_sL, gL_sI, upd_at, updL_at, J_lit, J_add, J_mul, J_sub, J_lt, J_le, J_inj, J_ne, ne_J, m_lt, lt_m, m_le, le_m, J_cl, J_inB, if_true, if_false, ite_true, ite_false, reduceIte, isZ0, isZ1, J_and31, shrJ0, shlJ0, gI_sA, gL_sA, Nat.reduceEqDiff, Nat.reduceAdd, Nat.reduceMul, Nat.reduceLT, Nat.reduceLeDiff, this]⟩
theorem cls_copies (hN : 100 ≤ N) {K w n0 : Nat} (hw : K + w * n0 ≤ 9) (hw1 : 1 ≤ w) : ∀ f a n (τ : St), a + f = n0 → 1 ≤ a → f < n → ∃ τ', fX1_copyPlaces_33 N n τ (J K) (J n0) (J w) (J a) = some (sI τ' 22 0 (J (K + w * n0))) ∧ Fr [24, 25] τ τ' ∧ (∀ o, o < K + a * w → gI τ' 24 o = gI τ 24 o ∧ gI τ' 25 o = gI τ 25 o) ∧ ∀ b j, a ≤ b → b < n0 → j < w → gI τ' 24 (K + b * w + j) = gI τ 24 (K + j) ∧ gI τ' 25 (K + b * w + j) = gI τ 25 (K + j) <<< J (b * w) := by
  intro f
  induction f with
  | zero =>
    intro a n τ ha ha1 hn
    obtain ⟨n, rfl⟩ : ∃ k, n = k + 1 := ⟨n - 1, by omega⟩
    obtain rfl : a = n0 := by omega
    have hwa : a ≤ w * a := Nat.le_mul_of_pos_left a hw1
    refine ⟨τ, ?_, Fr.rf, fun _ _ => ⟨rfl, rfl⟩, fun b j h1 h2 => by omega⟩
    unfold fX1_copyPlaces_33
    simp (decide := true) (disch := omega) only [letS_d, grd_t, bnd_d, bnd1_d, bndX_d, bndX_e, gI_sI, gI_sL, gL_sL, gL_sI, upd_at, updL_at, J_lit, J_add, J_mul, J_sub, J_lt, J_le, J_inj, J_ne, ne_J, m_lt, lt_m, m_le, le_m, J_cl, J_inB, if_true, if_false, ite_true, ite_false, reduceIte, isZ0, isZ1, J_and31, shrJ0, shlJ0, gI_sA, gL_sA, Nat.reduceEqDiff, Nat.reduceAdd, Nat.reduceMul, Nat.reduceLT, Nat.reduceLeDiff, Nat.le_refl]
  | succ f ih =>
    intro a n τ ha ha1 hn
    obtain ⟨n, rfl⟩ : ∃ k, n = k + 1 := ⟨n - 1, by omega⟩
    have hwa : n0 ≤ w * n0 := Nat.le_mul_of_pos_left n0 hw1
    have hww : w ≤ w * n0 := Nat.le_mul_of_pos_right w (by omega)
    have h1 : ¬ n0 ≤ a := by omega
    obtain ⟨τ1, a1, a2, a3, a4⟩ := cls_copy1 (N := N) (K := K) (w := w) (n0 := n0) (a := a) hw ha1 (by omega) (fX1_copyPlaces_33 N n) w K N τ rfl (Nat.le_refl _) (by omega)
    obtain ⟨τ', b1, b2, b3, b4⟩ := ih (a + 1) n τ1 (by omega) (by omega) (by omega)
    have hmul : (a + 1) * w = a * w + w := Nat.succ_mul a w
    have hKj : ∀ j, j < w → gI τ1 24 (K + j) = gI τ 24 (K + j) ∧ gI τ1 25 (K + j) = gI τ 25 (K + j) := fun j hj => a3 (K + j) (Or.inl (by
      have : w ≤ a * w := Nat.le_mul_of_pos_left w ha1
      omega))
    refine ⟨τ', ?_, a2.tr b2, fun o ho => ?_, fun b j h1 h2 h3 => ?_⟩
    · rw [← b1, ← a1]
      rw [show fX1_copyPlaces_33 N (n + 1) τ (J K) (J n0) (J w) (J a) = _ from by unfold fX1_copyPlaces_33; rfl]
      simp (decide := true) (disch := omega) only [letS_d, grd_t, bnd_d, bnd1_d, bndX_d, bndX_e, gI_sI, gI_sL, gL_sL, gL_sI, upd_at, updL_at, J_lit, J_add, J_mul, J_sub, J_lt, J_le, J_inj, J_ne, ne_J, m_lt, lt_m, m_le, le_m, J_cl, J_inB, if_true, if_false, ite_true, ite_false, reduceIte, isZ0, isZ1, J_and31, shrJ0, shlJ0, gI_sA, gL_sA, Nat.reduceEqDiff, Nat.reduceAdd, Nat.reduceMul, Nat.reduceLT, Nat.reduceLeDiff, h1]
    · obtain ⟨q1, q2⟩ := b3 o (by omega)
      obtain ⟨q3, q4⟩ := a3 o (Or.inl (by omega))
      exact ⟨q1.trans q3, q2.trans q4⟩
    · by_cases hba : b = a
      · subst hba
        obtain ⟨q1, q2⟩ := b3 (K + b * w + j) (by omega)
        obtain ⟨q3, q4⟩ := a4 (K + j) (by omega) (by omega)
        rw [q1, q2, show K + b * w + j = K + j + b * w from by omega]
        exact ⟨q3, q4⟩
      · obtain ⟨q1, q2⟩ := b4 b j (by omega) h2 h3
        obtain ⟨q3, q4⟩ := hKj j h3
        rw [q1, q2, q3, q4]
        exact ⟨rfl, rfl⟩
end SQ
