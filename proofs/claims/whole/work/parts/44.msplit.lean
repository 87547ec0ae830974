/-! the reference's sorts -/
section SP
variable {N c : Nat} {ld : Nat → Nat → Nat} {F : Nat → Bool}
theorem cnt_mono (f : Nat → Bool) {a b : Nat} (h : a ≤ b) : cnt a f ≤ cnt b f := by
  induction b with
  | zero =>
    obtain rfl : a = 0 := by omega
    exact Nat.le_refl _
  | succ b ih =>
    by_cases hab : a = b + 1
    · rw [hab]
      exact Nat.le_refl _
    · have h1 := ih (by omega)
      have h2 : cnt (b + 1) f = cnt b f + (if f b = true then 1 else 0) := rfl
      omega
theorem cnt_strict (f : Nat → Bool) {a b : Nat} (h : a < b) (ha : f a = true) : cnt a f < cnt b f := by
  have h1 := cnt_mono f (show a + 1 ≤ b by omega)
  have h2 : cnt (a + 1) f = cnt a f + (if f a = true then 1 else 0) := rfl
  rw [if_pos ha] at h2
  omega
/-- the representatives that don't fail -/
def nR (F : Nat → Bool) (g : Nat → Nat) (j : Nat) : Bool := !F j && isR g j
def Sk (ld : Nat → Nat → Nat) (F : Nat → Bool) : Nat → Nat → Nat
  | 0, _ => 0
  | k + 1, i => cnt (gk ld F (k + 1) i) (nR F (gk ld F (k + 1)))
theorem Sk_le (k : Nat) {i : Nat} : Sk ld F k i ≤ i := by
  cases k with
  | zero => exact Nat.zero_le _
  | succ k => exact Nat.le_trans (cnt_le _ _) (rf_le (gk ld F k) i)
theorem rf_F (hF : ∀ i, i < c → F i = true → al ld F i = true) (hld : ∀ i l, i < c → l < 8 → ld i l < c) (k : Nat) {i j : Nat} (hi : i < c) (hj : j < c) (h : gk ld F k i = gk ld F k j) : F i = F j := by
  cases h1 : F i
  · cases h2 : F j
    · rfl
    · exact absurd h.symm ((gk_sep hF hld k j i hj hi).2 h2 h1)
  · cases h2 : F j
    · exact absurd h ((gk_sep hF hld k i j hi hj).2 h1 h2)
    · rfl
theorem Sk_iff (hF : ∀ i, i < c → F i = true → al ld F i = true) (hld : ∀ i l, i < c → l < 8 → ld i l < c) (k : Nat) {i j : Nat} (hi : i < c) (hj : j < c) (fi : F i = false) (fj : F j = false) : Sk ld F k i = Sk ld F k j ↔ gk ld F k i = gk ld F k j := by
  cases k with
  | zero =>
    refine ⟨fun _ => ?_, fun _ => rfl⟩
    show (if F i = true then 1 else 0) = (if F j = true then 1 else 0)
    rw [fi, fj]
  | succ k =>
    refine ⟨fun h => ?_, fun h => by show cnt _ _ = cnt _ _; rw [h]⟩
    have key : ∀ i, i < c → F i = false → nR F (gk ld F (k + 1)) (gk ld F (k + 1) i) = true := fun i hi fi => by
      have h1 := rf_lk (ld := ld) (gk ld F k) i
      have h2 := rf_le (ld := ld) (gk ld F k) i
      have h3 : F (rf ld (gk ld F k) i) = F i := rf_F hF hld k (by omega) hi h1.1
      unfold nR
      have h4 : isR (gk ld F (k + 1)) (gk ld F (k + 1) i) = true := decide_eq_true (rf_rf _ _)
      rw [h4]
      show (!F (rf ld (gk ld F k) i) && true) = true
      rw [h3, fi]
      rfl
    rcases Nat.lt_trichotomy (gk ld F (k + 1) i) (gk ld F (k + 1) j) with h1 | h1 | h1
    · have := cnt_strict _ h1 (key i hi fi)
      have h' : cnt (gk ld F (k + 1) i) (nR F (gk ld F (k + 1))) = cnt (gk ld F (k + 1) j) (nR F (gk ld F (k + 1))) := h
      omega
    · exact h1
    · have := cnt_strict _ h1 (key j hj fj)
      have h' : cnt (gk ld F (k + 1) i) (nR F (gk ld F (k + 1))) = cnt (gk ld F (k + 1) j) (nR F (gk ld F (k + 1))) := h
      omega
/-- where a letter leads, by sorts -/
def sv (ld : Nat → Nat → Nat) (F : Nat → Bool) (S : Nat → Nat) (i l : Nat) : Int32 := if F (ld i l) = true then -J 1 else J (S (ld i l))
def smb (ld : Nat → Nat → Nat) (F : Nat → Bool) (S : Nat → Nat) (i d : Nat) : Bool := (List.range 8).all (fun l => decide (sv ld F S i l = sv ld F S d l))
theorem lk_S (hF : ∀ i, i < c → F i = true → al ld F i = true) (hld : ∀ i l, i < c → l < 8 → ld i l < c) (hc : c ≤ 40) (k : Nat) {i d : Nat} (hi : i < c) (hd : d < c) (fi : F i = false) (fd : F d = false) : (Sk ld F k i = Sk ld F k d ∧ smb ld F (Sk ld F k) i d = true) ↔ lk ld (gk ld F k) d i := by
  unfold smb lk
  rw [Sk_iff hF hld k hi hd fi fd, List.all_eq_true]
  have hl : ∀ l, l < 8 → (decide (sv ld F (Sk ld F k) i l = sv ld F (Sk ld F k) d l) = true ↔ gk ld F k (ld d l) = gk ld F k (ld i l)) := fun l hl => by
    rw [decide_eq_true_eq]
    have a1 := hld i l hi hl
    have a2 := hld d l hd hl
    have b1 := Sk_le (ld := ld) (F := F) k (i := ld i l)
    have b2 := Sk_le (ld := ld) (F := F) k (i := ld d l)
    unfold sv
    cases h1 : F (ld i l)
    · cases h2 : F (ld d l)
      · rw [if_neg (by decide), if_neg (by decide), J_inj (by omega) (by omega), Sk_iff hF hld k a1 a2 h1 h2]
        exact eq_comm
      · rw [if_neg (by decide), if_pos rfl, J_ne (by omega)]
        exact ⟨fun h => h.elim, fun h => absurd h ((gk_sep hF hld k _ _ a2 a1).2 h2 h1)⟩
    · cases h2 : F (ld d l)
      · rw [if_pos rfl, if_neg (by decide), ne_J (by omega)]
        exact ⟨fun h => h.elim, fun h => absurd h.symm ((gk_sep hF hld k _ _ a1 a2).2 h1 h2)⟩
      · rw [if_pos rfl, if_pos rfl]
        exact ⟨fun _ => (gk_sep hF hld k _ _ a2 a1).1 h2 h1, fun _ => rfl⟩
  constructor
  · intro h
    exact ⟨h.1.symm, fun l h9 => (hl l h9).mp (h.2 l (List.mem_range.mpr h9))⟩
  · intro h
    exact ⟨h.1.symm, fun l h9 => (hl l (List.mem_range.mp h9)).mpr (h.2 l (List.mem_range.mp h9))⟩
/-- what a round of the reference reads -/
def Sr (c : Nat) (F : Nat → Bool) (S : Nat → Nat) (σ : St) : Prop := (∀ i, i < c → gI σ 37 i = zb (F i)) ∧ ∀ i, i < c → F i = false → gI σ 38 i = J (S i) ∧ S i < 100
theorem Sr.fr {S : Nat → Nat} {σ σ' : St} {X : List Nat} (h : Sr c F S σ) (f : Fr X σ σ') (d : ∀ k ∈ [37, 38], k ∉ X) : Sr c F S σ' := by
  unfold Sr
  rw [f.gi (d 37 (by decide)), f.gi (d 38 (by decide))]
  exact h
theorem ref_sortAt {τ σ : St} {S : Nat → Nat} (hL : Ls c ld τ σ) (hS : Sr c F S σ) {i l : Nat} (hi : i < c) (hl : l < 8) : fX9_sortAt N σ (J i) (J l) = some (sv ld F S i l, σ) := by
  obtain ⟨h1, h2, h3, h4, h5⟩ := hL
  obtain ⟨a1, a2, a3⟩ := h5 i l hi hl
  have hz := hS.1 _ a1
  unfold fX9_sortAt sv
  cases hf : F (ld i l)
  · obtain ⟨s1, s2⟩ := hS.2 _ a1 hf
    rw [hf, zb_f] at hz
    simp (decide := true) (disch := omega) only [letS_d, grd_t, bnd_d, bnd1_d, bndX_d, bndX_e, gI_sI, gI_sL, gL_sL, gL_sI, upd_at, updL_at, J_lit, J_add, J_mul, J_sub, J_lt, J_le, J_inj, J_ne, ne_J, m_lt, lt_m, m_le, le_m, J_cl, J_inB, if_true, if_false, ite_true, ite_false, reduceIte, isZ0, isZ1, J_and31, shrJ0, shlJ0, gI_sA, gL_sA, Nat.reduceEqDiff, Nat.reduceAdd, Nat.reduceMul, Nat.reduceLT, Nat.reduceLeDiff, a3, hz, s1, Bool.false_eq_true]
  · rw [hf, zb_t] at hz
    simp (decide := true) (disch := omega) only [letS_d, grd_t, bnd_d, bnd1_d, bndX_d, bndX_e, gI_sI, gI_sL, gL_sL, gL_sI, upd_at, updL_at, J_lit, J_add, J_mul, J_sub, J_lt, J_le, J_inj, J_ne, ne_J, m_lt, lt_m, m_le, le_m, J_cl, J_inB, if_true, if_false, ite_true, ite_false, reduceIte, isZ0, isZ1, J_and31, shrJ0, shlJ0, gI_sA, gL_sA, Nat.reduceEqDiff, Nat.reduceAdd, Nat.reduceMul, Nat.reduceLT, Nat.reduceLeDiff, a3, hz]
theorem ref_same {τ σ : St} {S : Nat → Nat} (hL : Ls c ld τ σ) (hS : Sr c F S σ) {i d : Nat} (hi : i < c) (hd : d < c) (k25 : St → Int32 → Option St) (k35 : St → Int32 → Int32 → Int32 → Option St) (k49 : St → Int32 → Int32 → Int32 → Int32 → Int32 → Option St) (x1 x2 x4 : Int32) : ∀ f l n (a : Bool), l + f = 8 → f < n → fX9_split_105 N k25 k35 k49 n σ x1 x2 (J i) x4 (J d) (zb a) (J l) = k49 σ x1 x2 (J i) (if (a && (List.range' l f).all (fun l => decide (sv ld F S i l = sv ld F S d l))) = true then J d else x4) (J (d + 1)) := by
  intro f
  induction f with
  | zero =>
    intro l n a hl hn
    obtain ⟨n, rfl⟩ : ∃ k, n = k + 1 := ⟨n - 1, by omega⟩
    obtain rfl : l = 8 := by omega
    unfold fX9_split_105
    cases a
    · simp (decide := true) (disch := omega) only [letS_d, grd_t, bnd_d, bnd1_d, bndX_d, bndX_e, gI_sI, gI_sL, gL_sL, gL_sI, upd_at, updL_at, J_lit, J_add, J_mul, J_sub, J_lt, J_le, J_inj, J_ne, ne_J, m_lt, lt_m, m_le, le_m, J_cl, J_inB, if_true, if_false, ite_true, ite_false, reduceIte, isZ0, isZ1, J_and31, shrJ0, shlJ0, gI_sA, gL_sA, Nat.reduceEqDiff, Nat.reduceAdd, Nat.reduceMul, Nat.reduceLT, Nat.reduceLeDiff, Nat.le_refl, zb_f, fX9_split_160, Bool.false_and, Bool.false_eq_true]
    · simp (decide := true) (disch := omega) only [letS_d, grd_t, bnd_d, bnd1_d, bndX_d, bndX_e, gI_sI, gI_sL, gL_sL, gL_sI, upd_at, updL_at, J_lit, J_add, J_mul, J_sub, J_lt, J_le, J_inj, J_ne, ne_J, m_lt, lt_m, m_le, le_m, J_cl, J_inB, if_true, if_false, ite_true, ite_false, reduceIte, isZ0, isZ1, J_and31, shrJ0, shlJ0, gI_sA, gL_sA, Nat.reduceEqDiff, Nat.reduceAdd, Nat.reduceMul, Nat.reduceLT, Nat.reduceLeDiff, Nat.le_refl, zb_t, fX9_split_160, Bool.true_and, List.range'_zero, List.all_nil]
  | succ f ih =>
    intro l n a hl hn
    obtain ⟨n, rfl⟩ : ∃ k, n = k + 1 := ⟨n - 1, by omega⟩
    have h8 : ¬ 8 ≤ l := by omega
    have e1 := ref_sortAt (N := N) hL hS hi (show l < 8 by omega)
    have e2 := ref_sortAt (N := N) hL hS hd (show l < 8 by omega)
    rw [show fX9_split_105 N k25 k35 k49 (n + 1) σ x1 x2 (J i) x4 (J d) (zb a) (J l) = _ from by unfold fX9_split_105; rfl]
    rw [List.range'_succ, List.all_cons]
    cases a
    · have := ih (l + 1) n false (by omega) (by omega)
      rw [Bool.false_and, zb_f] at this
      simp (decide := true) (disch := omega) only [letS_d, grd_t, bnd_d, bnd1_d, bndX_d, bndX_e, gI_sI, gI_sL, gL_sL, gL_sI, upd_at, updL_at, J_lit, J_add, J_mul, J_sub, J_lt, J_le, J_inj, J_ne, ne_J, m_lt, lt_m, m_le, le_m, J_cl, J_inB, if_true, if_false, ite_true, ite_false, reduceIte, isZ0, isZ1, J_and31, shrJ0, shlJ0, gI_sA, gL_sA, Nat.reduceEqDiff, Nat.reduceAdd, Nat.reduceMul, Nat.reduceLT, Nat.reduceLeDiff, h8, zb_f, fX9_split_139, fX9_split_140, Bool.false_and]
      exact this
    · by_cases hz : sv ld F S i l = sv ld F S d l
      · have := ih (l + 1) n true (by omega) (by omega)
        rw [Bool.true_and, zb_t] at this
        rw [decide_eq_true hz]
        simp (decide := true) (disch := omega) only [letS_d, grd_t, bnd_d, bnd1_d, bndX_d, bndX_e, gI_sI, gI_sL, gL_sL, gL_sI, upd_at, updL_at, J_lit, J_add, J_mul, J_sub, J_lt, J_le, J_inj, J_ne, ne_J, m_lt, lt_m, m_le, le_m, J_cl, J_inB, if_true, if_false, ite_true, ite_false, reduceIte, isZ0, isZ1, J_and31, shrJ0, shlJ0, gI_sA, gL_sA, Nat.reduceEqDiff, Nat.reduceAdd, Nat.reduceMul, Nat.reduceLT, Nat.reduceLeDiff, h8, zb_t, e1, e2, hz, fX9_split_140, Bool.true_and]
        exact this
      · have := ih (l + 1) n false (by omega) (by omega)
        rw [Bool.false_and, zb_f] at this
        rw [decide_eq_false hz]
        simp (decide := true) (disch := omega) only [letS_d, grd_t, bnd_d, bnd1_d, bndX_d, bndX_e, gI_sI, gI_sL, gL_sL, gL_sI, upd_at, updL_at, J_lit, J_add, J_mul, J_sub, J_lt, J_le, J_inj, J_ne, ne_J, m_lt, lt_m, m_le, le_m, J_cl, J_inB, if_true, if_false, ite_true, ite_false, reduceIte, isZ0, isZ1, J_and31, shrJ0, shlJ0, gI_sA, gL_sA, Nat.reduceEqDiff, Nat.reduceAdd, Nat.reduceMul, Nat.reduceLT, Nat.reduceLeDiff, h8, zb_t, e1, e2, hz, fX9_split_139, fX9_split_140, Bool.false_and, Bool.and_false]
        exact this
theorem ref_first (hN : 100 ≤ N) {τ σ : St} {k : Nat} (hF : ∀ i, i < c → F i = true → al ld F i = true) (hL : Ls c ld τ σ) (hS : Sr c F (Sk ld F k) σ) {i : Nat} (hi : i < c) (fi : F i = false) (k25 : St → Int32 → Option St) (k35 : St → Int32 → Int32 → Int32 → Option St) (x1 x2 : Int32) : ∀ f d n, d + f = i → f + 1 < n → (∀ j, j < d → ¬ lk ld (gk ld F k) j i) → fX9_split_49 N k25 k35 n σ x1 x2 (J i) (-J 1) (J d) = fX9_split_168 N k25 k35 σ x1 x2 (J i) (if rf ld (gk ld F k) i < i then J (rf ld (gk ld F k) i) else -J 1) := by
  obtain ⟨h1, h2, h3, h4, h5⟩ := id hL
  have hld : ∀ i l, i < c → l < 8 → ld i l < c := fun i l hi hl => (h5 i l hi hl).1
  intro f
  induction f with
  | zero =>
    intro d n hd hn hk
    obtain ⟨n, rfl⟩ : ∃ k, n = k + 1 := ⟨n - 1, by omega⟩
    obtain rfl : d = i := by omega
    have : ¬ rf ld (gk ld F k) d < d := fun h => hk _ h (rf_lk _ d)
    unfold fX9_split_49
    simp (decide := true) (disch := omega) only [letS_d, grd_t, bnd_d, bnd1_d, bndX_d, bndX_e, gI_sI, gI_sL, gL_sL, gL_sI, upd_at, updL_at, J_lit, J_add, J_mul, J_sub, J_lt, J_le, J_inj, J_ne, ne_J, m_lt, lt_m, m_le, le_m, J_cl, J_inB, if_true, if_false, ite_true, ite_false, reduceIte, isZ0, isZ1, J_and31, shrJ0, shlJ0, gI_sA, gL_sA, Nat.reduceEqDiff, Nat.reduceAdd, Nat.reduceMul, Nat.reduceLT, Nat.reduceLeDiff, Nat.le_refl, this]
  | succ f ih =>
    intro d n hd hn hk
    obtain ⟨n, rfl⟩ : ∃ k, n = k + 1 := ⟨n - 1, by omega⟩
    have hid : ¬ i ≤ d := by omega
    have hzi := hS.1 i hi
    have hzd := hS.1 d (by omega)
    obtain ⟨si1, si2⟩ := hS.2 i hi fi
    rw [fi, zb_f] at hzi
    have hnext : (¬ lk ld (gk ld F k) d i) → fX9_split_49 N k25 k35 n σ x1 x2 (J i) (-J 1) (J (d + 1)) = fX9_split_168 N k25 k35 σ x1 x2 (J i) (if rf ld (gk ld F k) i < i then J (rf ld (gk ld F k) i) else -J 1) := fun hx => ih (d + 1) n (by omega) (by omega) (fun j hj => by
      by_cases hjd : j = d
      · subst hjd; exact hx
      · exact hk j (by omega))
    have hsame := fun x4 a => ref_same (N := N) hL hS hi (show d < c by omega) k25 k35 (fX9_split_49 N k25 k35 n) x1 x2 x4 8 0 N a (by omega) (by omega)
    rw [show fX9_split_49 N k25 k35 (n + 1) σ x1 x2 (J i) (-J 1) (J d) = _ from by unfold fX9_split_49; rfl]
    have h99 : fX9_split_99 N k25 k35 (fX9_split_49 N k25 k35 n) σ x1 x2 (J i) (-J 1) (J d) = fX9_split_49 N k25 k35 n σ x1 x2 (J i) (-J 1) (J (d + 1)) := by
      unfold fX9_split_99 fX9_split_100
      have := hsame (-J 1) false
      rw [Bool.false_and, zb_f, if_neg (by decide)] at this
      exact this
    cases fd : F d
    · rw [fd, zb_f] at hzd
      obtain ⟨sd1, sd2⟩ := hS.2 d (by omega) fd
      have hiff := lk_S hF hld h2 k hi (show d < c by omega) fi fd
      by_cases hs : Sk ld F k i = Sk ld F k d
      · have h100 := hsame (-J 1) true
        rw [Bool.true_and, zb_t, ← List.range_eq_range'] at h100
        have hsm : (List.range 8).all (fun l => decide (sv ld F (Sk ld F k) i l = sv ld F (Sk ld F k) d l)) = smb ld F (Sk ld F k) i d := rfl
        rw [hsm] at h100
        cases hx : smb ld F (Sk ld F k) i d
        · rw [hx, if_neg (by decide)] at h100
          simp (decide := true) (disch := omega) only [letS_d, grd_t, bnd_d, bnd1_d, bndX_d, bndX_e, gI_sI, gI_sL, gL_sL, gL_sI, upd_at, updL_at, J_lit, J_add, J_mul, J_sub, J_lt, J_le, J_inj, J_ne, ne_J, m_lt, lt_m, m_le, le_m, J_cl, J_inB, if_true, if_false, ite_true, ite_false, reduceIte, isZ0, isZ1, J_and31, shrJ0, shlJ0, gI_sA, gL_sA, Nat.reduceEqDiff, Nat.reduceAdd, Nat.reduceMul, Nat.reduceLT, Nat.reduceLeDiff, hid, le_mz, hzi, hzd, si1, sd1, hs, fX9_split_100]
          rw [h100]
          exact hnext (fun h9 => by
            have := (hiff.mpr h9).2
            rw [hx] at this
            cases this)
        · rw [hx, if_pos rfl] at h100
          have hlk := hiff.mp ⟨hs, hx⟩
          have hrd : rf ld (gk ld F k) i = d := by
            have h6 := rf_min hlk
            rcases Nat.lt_or_ge (rf ld (gk ld F k) i) d with h | h
            · exact absurd (rf_lk _ i) (hk _ h)
            · omega
          simp (decide := true) (disch := omega) only [letS_d, grd_t, bnd_d, bnd1_d, bndX_d, bndX_e, gI_sI, gI_sL, gL_sL, gL_sI, upd_at, updL_at, J_lit, J_add, J_mul, J_sub, J_lt, J_le, J_inj, J_ne, ne_J, m_lt, lt_m, m_le, le_m, J_cl, J_inB, if_true, if_false, ite_true, ite_false, reduceIte, isZ0, isZ1, J_and31, shrJ0, shlJ0, gI_sA, gL_sA, Nat.reduceEqDiff, Nat.reduceAdd, Nat.reduceMul, Nat.reduceLT, Nat.reduceLeDiff, hid, le_mz, hzi, hzd, si1, sd1, hs, fX9_split_100]
          rw [h100, hrd, if_pos (by omega)]
          obtain ⟨n, rfl⟩ : ∃ k, n = k + 1 := ⟨n - 1, by omega⟩
          unfold fX9_split_49
          by_cases hi9 : i ≤ d + 1
          · simp (decide := true) (disch := omega) only [letS_d, grd_t, bnd_d, bnd1_d, bndX_d, bndX_e, gI_sI, gI_sL, gL_sL, gL_sI, upd_at, updL_at, J_lit, J_add, J_mul, J_sub, J_lt, J_le, J_inj, J_ne, ne_J, m_lt, lt_m, m_le, le_m, J_cl, J_inB, if_true, if_false, ite_true, ite_false, reduceIte, isZ0, isZ1, J_and31, shrJ0, shlJ0, gI_sA, gL_sA, Nat.reduceEqDiff, Nat.reduceAdd, Nat.reduceMul, Nat.reduceLT, Nat.reduceLeDiff, hi9]
          · simp (decide := true) (disch := omega) only [letS_d, grd_t, bnd_d, bnd1_d, bndX_d, bndX_e, gI_sI, gI_sL, gL_sL, gL_sI, upd_at, updL_at, J_lit, J_add, J_mul, J_sub, J_lt, J_le, J_inj, J_ne, ne_J, m_lt, lt_m, m_le, le_m, J_cl, J_inB, if_true, if_false, ite_true, ite_false, reduceIte, isZ0, isZ1, J_and31, shrJ0, shlJ0, gI_sA, gL_sA, Nat.reduceEqDiff, Nat.reduceAdd, Nat.reduceMul, Nat.reduceLT, Nat.reduceLeDiff, hi9, Nat.zero_le]
      · simp (decide := true) (disch := omega) only [letS_d, grd_t, bnd_d, bnd1_d, bndX_d, bndX_e, gI_sI, gI_sL, gL_sL, gL_sI, upd_at, updL_at, J_lit, J_add, J_mul, J_sub, J_lt, J_le, J_inj, J_ne, ne_J, m_lt, lt_m, m_le, le_m, J_cl, J_inB, if_true, if_false, ite_true, ite_false, reduceIte, isZ0, isZ1, J_and31, shrJ0, shlJ0, gI_sA, gL_sA, Nat.reduceEqDiff, Nat.reduceAdd, Nat.reduceMul, Nat.reduceLT, Nat.reduceLeDiff, hid, le_mz, hzi, hzd, si1, sd1, hs]
        rw [h99]
        exact hnext (fun h9 => hs (hiff.mpr h9).1)
    · rw [fd, zb_t] at hzd
      simp (decide := true) (disch := omega) only [letS_d, grd_t, bnd_d, bnd1_d, bndX_d, bndX_e, gI_sI, gI_sL, gL_sL, gL_sI, upd_at, updL_at, J_lit, J_add, J_mul, J_sub, J_lt, J_le, J_inj, J_ne, ne_J, m_lt, lt_m, m_le, le_m, J_cl, J_inB, if_true, if_false, ite_true, ite_false, reduceIte, isZ0, isZ1, J_and31, shrJ0, shlJ0, gI_sA, gL_sA, Nat.reduceEqDiff, Nat.reduceAdd, Nat.reduceMul, Nat.reduceLT, Nat.reduceLeDiff, hid, le_mz, hzi, hzd]
      rw [h99]
      exact hnext (fun h9 => by
        have := rf_F hF hld k (show d < c by omega) hi h9.1
        rw [fd, fi] at this
        cases this)
theorem ref_copy2 (k25 : St → Int32 → Option St) {τ : St} {r : Nat} : ∀ f i n (σ : St), i + f = c → f < n → Ls c ld τ σ → ∃ σ', fX9_split_220 N k25 n σ (J r) (J i) = k25 σ' (J (r + 1)) ∧ Fr [38] σ σ' ∧ (∀ j, j < i → gI σ' 38 j = gI σ 38 j) ∧ ∀ j, i ≤ j → j < c → gI σ' 38 j = gI σ 39 j := by
  intro f
  induction f with
  | zero =>
    intro i n σ hi hn hL
    obtain ⟨n, rfl⟩ : ∃ k, n = k + 1 := ⟨n - 1, by omega⟩
    obtain ⟨h1, h2, h3, h4, h5⟩ := id hL
    unfold fX9_split_220
    have : c ≤ i := by omega
    exact ⟨σ, by simp (decide := true) (disch := omega) only [letS_d, grd_t, bnd_d, bnd1_d, bndX_d, bndX_e, gI_sI, gI_sL, gL_sL, gL_sI, upd_at, updL_at, J_lit, J_add, J_mul, J_sub, J_lt, J_le, J_inj, J_ne, ne_J, m_lt, lt_m, m_le, le_m, J_cl, J_inB, if_true, if_false, ite_true, ite_false, reduceIte, isZ0, isZ1, J_and31, shrJ0, shlJ0, gI_sA, gL_sA, Nat.reduceEqDiff, Nat.reduceAdd, Nat.reduceMul, Nat.reduceLT, Nat.reduceLeDiff, h4, this], Fr.rf, fun _ _ => rfl, fun j a b => by omega⟩
  | succ f ih =>
    intro i n σ hi hn hL
    obtain ⟨n, rfl⟩ : ∃ k, n = k + 1 := ⟨n - 1, by omega⟩
    obtain ⟨h1, h2, h3, h4, h5⟩ := id hL
    have hci : ¬ c ≤ i := by omega
    obtain ⟨σ', e1, e2, e3, e4⟩ := ih (i + 1) n (sI σ 38 i (gI σ 39 i)) (by omega) (by omega) (hL.fr (S := []) (S' := [38]) Fr.rf (Fr.i (by decide)) (by decide) (by decide))
    refine ⟨σ', ?_, (Fr.i (by decide)).tr e2, fun j hj => ?_, fun j h1 h2 => ?_⟩
    · rw [show fX9_split_220 N k25 (n + 1) σ (J r) (J i) = _ from by unfold fX9_split_220; rfl]
      simp (decide := true) (disch := omega) only [letS_d, grd_t, bnd_d, bnd1_d, bndX_d, bndX_e, gI_sI, gI_sL, gL_sL, gL_sI, upd_at, updL_at, J_lit, J_add, J_mul, J_sub, J_lt, J_le, J_inj, J_ne, ne_J, m_lt, lt_m, m_le, le_m, J_cl, J_inB, if_true, if_false, ite_true, ite_false, reduceIte, isZ0, isZ1, J_and31, shrJ0, shlJ0, gI_sA, gL_sA, Nat.reduceEqDiff, Nat.reduceAdd, Nat.reduceMul, Nat.reduceLT, Nat.reduceLeDiff, h4, hci]
      exact e1
    · rw [e3 j (by omega)]
      have : ¬ j = i := by omega
      simp (decide := true) (disch := omega) only [letS_d, grd_t, bnd_d, bnd1_d, bndX_d, bndX_e, gI_sI, gI_sL, gL_sL, gL_sI, upd_at, updL_at, J_lit, J_add, J_mul, J_sub, J_lt, J_le, J_inj, J_ne, ne_J, m_lt, lt_m, m_le, le_m, J_cl, J_inB, if_true, if_false, ite_true, ite_false, reduceIte, isZ0, isZ1, J_and31, shrJ0, shlJ0, gI_sA, gL_sA, Nat.reduceEqDiff, Nat.reduceAdd, Nat.reduceMul, Nat.reduceLT, Nat.reduceLeDiff, this]
    · by_cases hji : j = i
      · subst hji
        rw [e3 j (by omega)]
        simp (decide := true) (disch := omega) only [letS_d, grd_t, bnd_d, bnd1_d, bndX_d, bndX_e, gI_sI, gI_sL, gL_sL, gL_sI, upd_at, updL_at, J_lit, J_add, J_mul, J_sub, J_lt, J_le, J_inj, J_ne, ne_J, m_lt, lt_m, m_le, le_m, J_cl, J_inB, if_true, if_false, ite_true, ite_false, reduceIte, isZ0, isZ1, J_and31, shrJ0, shlJ0, gI_sA, gL_sA, Nat.reduceEqDiff, Nat.reduceAdd, Nat.reduceMul, Nat.reduceLT, Nat.reduceLeDiff]
      · rw [e4 j (by omega) h2]
        simp (decide := true) (disch := omega) only [letS_d, grd_t, bnd_d, bnd1_d, bndX_d, bndX_e, gI_sI, gI_sL, gL_sL, gL_sI, upd_at, updL_at, J_lit, J_add, J_mul, J_sub, J_lt, J_le, J_inj, J_ne, ne_J, m_lt, lt_m, m_le, le_m, J_cl, J_inB, if_true, if_false, ite_true, ite_false, reduceIte, isZ0, isZ1, J_and31, shrJ0, shlJ0, gI_sA, gL_sA, Nat.reduceEqDiff, Nat.reduceAdd, Nat.reduceMul, Nat.reduceLT, Nat.reduceLeDiff]
theorem ref_turn2 (hN : 100 ≤ N) {τ : St} {k r : Nat} (hF : ∀ i, i < c → F i = true → al ld F i = true) (k25 : St → Int32 → Option St) : ∀ f i n (σ : St), i + f = c → f < n → Ls c ld τ σ → Sr c F (Sk ld F k) σ → (∀ j, j < i → F j = false → gI σ 39 j = J (Sk ld F (k + 1) j)) → ∃ σ', fX9_split_35 N k25 n σ (J r) (J (cnt i (nR F (gk ld F (k + 1))))) (J i) = k25 σ' (J (r + 1)) ∧ Fr [38, 39] σ σ' ∧ Sr c F (Sk ld F (k + 1)) σ' := by
  intro f
  induction f with
  | zero =>
    intro i n σ hi hn hL hS hW
    obtain ⟨n, rfl⟩ : ∃ k, n = k + 1 := ⟨n - 1, by omega⟩
    obtain ⟨h1, h2, h3, h4, h5⟩ := id hL
    obtain rfl : i = c := by omega
    obtain ⟨σ1, a1, a2, a3, a4⟩ := ref_copy2 (N := N) (ld := ld) k25 (τ := τ) (r := r) i 0 N σ (by omega) (by omega) hL
    refine ⟨σ1, ?_, a2.mono (by decide), fun j hj => ?_, fun j hj fj => ⟨?_, ?_⟩⟩
    · unfold fX9_split_35
      simp (decide := true) (disch := omega) only [letS_d, grd_t, bnd_d, bnd1_d, bndX_d, bndX_e, gI_sI, gI_sL, gL_sL, gL_sI, upd_at, updL_at, J_lit, J_add, J_mul, J_sub, J_lt, J_le, J_inj, J_ne, ne_J, m_lt, lt_m, m_le, le_m, J_cl, J_inB, if_true, if_false, ite_true, ite_false, reduceIte, isZ0, isZ1, J_and31, shrJ0, shlJ0, gI_sA, gL_sA, Nat.reduceEqDiff, Nat.reduceAdd, Nat.reduceMul, Nat.reduceLT, Nat.reduceLeDiff, h4, Nat.le_refl]
      exact a1
    · rw [a2.gi (by decide)]
      exact hS.1 j hj
    · rw [a4 j (by omega) hj]
      exact hW j hj fj
    · have := Sk_le (ld := ld) (F := F) (k + 1) (i := j)
      omega
  | succ f ih =>
    intro i n σ hi hn hL hS hW
    obtain ⟨n, rfl⟩ : ∃ k, n = k + 1 := ⟨n - 1, by omega⟩
    obtain ⟨h1, h2, h3, h4, h5⟩ := id hL
    have hld : ∀ i l, i < c → l < 8 → ld i l < c := fun i l hi hl => (h5 i l hi hl).1
    have hci : ¬ c ≤ i := by omega
    have hzi := hS.1 i (by omega)
    have hcl := cnt_le (nR F (gk ld F (k + 1))) i
    have hstep : cnt (i + 1) (nR F (gk ld F (k + 1))) = cnt i (nR F (gk ld F (k + 1))) + (if nR F (gk ld F (k + 1)) i = true then 1 else 0) := rfl
    have go : ∀ v, (F i = false → v = J (Sk ld F (k + 1) i)) → ∃ σ', fX9_split_35 N k25 n (sI σ 39 i v) (J r) (J (cnt (i + 1) (nR F (gk ld F (k + 1))))) (J (i + 1)) = k25 σ' (J (r + 1)) ∧ Fr [38, 39] σ σ' ∧ Sr c F (Sk ld F (k + 1)) σ' := fun v hv => by
      obtain ⟨σ', e1, e2, e3⟩ := ih (i + 1) n (sI σ 39 i v) (by omega) (by omega) (hL.fr (S := []) (S' := [39]) Fr.rf (Fr.i (by decide)) (by decide) (by decide)) (hS.fr (X := [39]) (Fr.i (by decide)) (by decide)) (fun j hj fj => by
        by_cases hji : j = i
        · subst hji
          simp (decide := true) (disch := omega) only [letS_d, grd_t, bnd_d, bnd1_d, bndX_d, bndX_e, gI_sI, gI_sL, gL_sL, gL_sI, upd_at, updL_at, J_lit, J_add, J_mul, J_sub, J_lt, J_le, J_inj, J_ne, ne_J, m_lt, lt_m, m_le, le_m, J_cl, J_inB, if_true, if_false, ite_true, ite_false, reduceIte, isZ0, isZ1, J_and31, shrJ0, shlJ0, gI_sA, gL_sA, Nat.reduceEqDiff, Nat.reduceAdd, Nat.reduceMul, Nat.reduceLT, Nat.reduceLeDiff]
          exact hv fj
        · simp (decide := true) (disch := omega) only [letS_d, grd_t, bnd_d, bnd1_d, bndX_d, bndX_e, gI_sI, gI_sL, gL_sL, gL_sI, upd_at, updL_at, J_lit, J_add, J_mul, J_sub, J_lt, J_le, J_inj, J_ne, ne_J, m_lt, lt_m, m_le, le_m, J_cl, J_inB, if_true, if_false, ite_true, ite_false, reduceIte, isZ0, isZ1, J_and31, shrJ0, shlJ0, gI_sA, gL_sA, Nat.reduceEqDiff, Nat.reduceAdd, Nat.reduceMul, Nat.reduceLT, Nat.reduceLeDiff, hji]
          exact hW j (by omega) fj)
      exact ⟨σ', e1, (Fr.i (by decide)).tr e2, e3⟩
    rw [show fX9_split_35 N k25 (n + 1) σ (J r) (J (cnt i (nR F (gk ld F (k + 1))))) (J i) = _ from by unfold fX9_split_35; rfl]
    cases fi : F i
    · have hfst := ref_first (N := N) hN hF hL hS (show i < c by omega) fi k25 (fX9_split_35 N k25 n) (J r) (J (cnt i (nR F (gk ld F (k + 1))))) i 0 N (by omega) (by omega) (fun j hj => by omega)
      rw [fi, zb_f] at hzi
      have hgk : gk ld F (k + 1) i = rf ld (gk ld F k) i := rfl
      by_cases hr : rf ld (gk ld F k) i < i
      · rw [if_pos hr] at hfst
        have hnr : nR F (gk ld F (k + 1)) i = false := by
          unfold nR isR
          rw [hgk, decide_eq_false (by omega)]
          simp
        have fr : F (rf ld (gk ld F k) i) = false := by
          rw [rf_F hF hld k (show rf ld (gk ld F k) i < c by omega) (show i < c by omega) (rf_lk _ i).1]
          exact fi
        have hw := hW _ hr fr
        have hSS : Sk ld F (k + 1) (rf ld (gk ld F k) i) = Sk ld F (k + 1) i := by
          show cnt (rf ld (gk ld F k) (rf ld (gk ld F k) i)) _ = cnt (rf ld (gk ld F k) i) _
          rw [rf_rf]
        rw [hSS] at hw
        obtain ⟨σ', e1, e2, e3⟩ := go (J (Sk ld F (k + 1) i)) (fun _ => rfl)
        rw [hstep, hnr, if_neg (by decide), Nat.add_zero] at e1
        refine ⟨σ', ?_, e2, e3⟩
        simp (decide := true) (disch := omega) only [letS_d, grd_t, bnd_d, bnd1_d, bndX_d, bndX_e, gI_sI, gI_sL, gL_sL, gL_sI, upd_at, updL_at, J_lit, J_add, J_mul, J_sub, J_lt, J_le, J_inj, J_ne, ne_J, m_lt, lt_m, m_le, le_m, J_cl, J_inB, if_true, if_false, ite_true, ite_false, reduceIte, isZ0, isZ1, J_and31, shrJ0, shlJ0, gI_sA, gL_sA, Nat.reduceEqDiff, Nat.reduceAdd, Nat.reduceMul, Nat.reduceLT, Nat.reduceLeDiff, h4, hci]
        rw [hfst]
        simp (decide := true) (disch := omega) only [letS_d, grd_t, bnd_d, bnd1_d, bndX_d, bndX_e, gI_sI, gI_sL, gL_sL, gL_sI, upd_at, updL_at, J_lit, J_add, J_mul, J_sub, J_lt, J_le, J_inj, J_ne, ne_J, m_lt, lt_m, m_le, le_m, J_cl, J_inB, if_true, if_false, ite_true, ite_false, reduceIte, isZ0, isZ1, J_and31, shrJ0, shlJ0, gI_sA, gL_sA, Nat.reduceEqDiff, Nat.reduceAdd, Nat.reduceMul, Nat.reduceLT, Nat.reduceLeDiff, fX9_split_168, Nat.zero_le, hw, fX9_split_189, fX9_split_209, fX9_split_210]
        exact e1
      · rw [if_neg hr] at hfst
        have hri : rf ld (gk ld F k) i = i := by
          have := rf_le (ld := ld) (gk ld F k) i
          omega
        have hnr : nR F (gk ld F (k + 1)) i = true := by
          unfold nR isR
          rw [hgk, decide_eq_true hri, fi]
          rfl
        have hSS : Sk ld F (k + 1) i = cnt i (nR F (gk ld F (k + 1))) := by
          show cnt (rf ld (gk ld F k) i) _ = _
          rw [hri]
        obtain ⟨σ', e1, e2, e3⟩ := go (J (cnt i (nR F (gk ld F (k + 1))))) (fun _ => by rw [hSS])
        rw [hstep, hnr, if_pos rfl] at e1
        refine ⟨σ', ?_, e2, e3⟩
        simp (decide := true) (disch := omega) only [letS_d, grd_t, bnd_d, bnd1_d, bndX_d, bndX_e, gI_sI, gI_sL, gL_sL, gL_sI, upd_at, updL_at, J_lit, J_add, J_mul, J_sub, J_lt, J_le, J_inj, J_ne, ne_J, m_lt, lt_m, m_le, le_m, J_cl, J_inB, if_true, if_false, ite_true, ite_false, reduceIte, isZ0, isZ1, J_and31, shrJ0, shlJ0, gI_sA, gL_sA, Nat.reduceEqDiff, Nat.reduceAdd, Nat.reduceMul, Nat.reduceLT, Nat.reduceLeDiff, h4, hci]
        rw [hfst]
        simp (decide := true) (disch := omega) only [letS_d, grd_t, bnd_d, bnd1_d, bndX_d, bndX_e, gI_sI, gI_sL, gL_sL, gL_sI, upd_at, updL_at, J_lit, J_add, J_mul, J_sub, J_lt, J_le, J_inj, J_ne, ne_J, m_lt, lt_m, m_le, le_m, J_cl, J_inB, if_true, if_false, ite_true, ite_false, reduceIte, isZ0, isZ1, J_and31, shrJ0, shlJ0, gI_sA, gL_sA, Nat.reduceEqDiff, Nat.reduceAdd, Nat.reduceMul, Nat.reduceLT, Nat.reduceLeDiff, fX9_split_168, le_mz, hzi, fX9_split_189, fX9_split_209, fX9_split_210]
        exact e1
    · rw [fi, zb_t] at hzi
      have hnr : nR F (gk ld F (k + 1)) i = false := by
        unfold nR
        rw [fi]
        rfl
      obtain ⟨σ', e1, e2, e3⟩ := go (J (cnt i (nR F (gk ld F (k + 1))))) (fun h => by cases fi.symm.trans h)
      rw [hstep, hnr, if_neg (by decide), Nat.add_zero] at e1
      refine ⟨σ', ?_, e2, e3⟩
      have h49 : fX9_split_49 N k25 (fX9_split_35 N k25 n) N σ (J r) (J (cnt i (nR F (gk ld F (k + 1))))) (J i) (-J 1) (J 0) = fX9_split_168 N k25 (fX9_split_35 N k25 n) σ (J r) (J (cnt i (nR F (gk ld F (k + 1))))) (J i) (-J 1) := by
        obtain ⟨M, hM⟩ : ∃ M, N = M + 1 := ⟨N - 1, by omega⟩
        rw [show fX9_split_49 N k25 (fX9_split_35 N k25 n) N = fX9_split_49 N k25 (fX9_split_35 N k25 n) (M + 1) from by rw [← hM]]
        unfold fX9_split_49
        by_cases hi0 : i ≤ 0
        · simp (decide := true) (disch := omega) only [letS_d, grd_t, bnd_d, bnd1_d, bndX_d, bndX_e, gI_sI, gI_sL, gL_sL, gL_sI, upd_at, updL_at, J_lit, J_add, J_mul, J_sub, J_lt, J_le, J_inj, J_ne, ne_J, m_lt, lt_m, m_le, le_m, J_cl, J_inB, if_true, if_false, ite_true, ite_false, reduceIte, isZ0, isZ1, J_and31, shrJ0, shlJ0, gI_sA, gL_sA, Nat.reduceEqDiff, Nat.reduceAdd, Nat.reduceMul, Nat.reduceLT, Nat.reduceLeDiff, hi0]
        · simp (decide := true) (disch := omega) only [letS_d, grd_t, bnd_d, bnd1_d, bndX_d, bndX_e, gI_sI, gI_sL, gL_sL, gL_sI, upd_at, updL_at, J_lit, J_add, J_mul, J_sub, J_lt, J_le, J_inj, J_ne, ne_J, m_lt, lt_m, m_le, le_m, J_cl, J_inB, if_true, if_false, ite_true, ite_false, reduceIte, isZ0, isZ1, J_and31, shrJ0, shlJ0, gI_sA, gL_sA, Nat.reduceEqDiff, Nat.reduceAdd, Nat.reduceMul, Nat.reduceLT, Nat.reduceLeDiff, hi0, le_mz, hzi]
      simp (decide := true) (disch := omega) only [letS_d, grd_t, bnd_d, bnd1_d, bndX_d, bndX_e, gI_sI, gI_sL, gL_sL, gL_sI, upd_at, updL_at, J_lit, J_add, J_mul, J_sub, J_lt, J_le, J_inj, J_ne, ne_J, m_lt, lt_m, m_le, le_m, J_cl, J_inB, if_true, if_false, ite_true, ite_false, reduceIte, isZ0, isZ1, J_and31, shrJ0, shlJ0, gI_sA, gL_sA, Nat.reduceEqDiff, Nat.reduceAdd, Nat.reduceMul, Nat.reduceLT, Nat.reduceLeDiff, h4, hci]
      rw [h49]
      simp (decide := true) (disch := omega) only [letS_d, grd_t, bnd_d, bnd1_d, bndX_d, bndX_e, gI_sI, gI_sL, gL_sL, gL_sI, upd_at, updL_at, J_lit, J_add, J_mul, J_sub, J_lt, J_le, J_inj, J_ne, ne_J, m_lt, lt_m, m_le, le_m, J_cl, J_inB, if_true, if_false, ite_true, ite_false, reduceIte, isZ0, isZ1, J_and31, shrJ0, shlJ0, gI_sA, gL_sA, Nat.reduceEqDiff, Nat.reduceAdd, Nat.reduceMul, Nat.reduceLT, Nat.reduceLeDiff, fX9_split_168, le_mz, hzi, fX9_split_189, fX9_split_209, fX9_split_210]
      exact e1
theorem ref_turns2 (hN : 100 ≤ N) {τ : St} (hF : ∀ i, i < c → F i = true → al ld F i = true) : ∀ f r n (σ : St), r + f = 40 → f < n → Ls c ld τ σ → Sr c F (Sk ld F r) σ → ∃ σ', fX9_split_25 N n σ (J r) = some σ' ∧ Fr [38, 39] σ σ' ∧ Sr c F (Sk ld F 40) σ' := by
  intro f
  induction f with
  | zero =>
    intro r n σ hr hn hL hS
    obtain ⟨n, rfl⟩ : ∃ k, n = k + 1 := ⟨n - 1, by omega⟩
    obtain rfl : r = 40 := by omega
    unfold fX9_split_25
    exact ⟨σ, by simp (decide := true) (disch := omega) only [letS_d, grd_t, bnd_d, bnd1_d, bndX_d, bndX_e, gI_sI, gI_sL, gL_sL, gL_sI, upd_at, updL_at, J_lit, J_add, J_mul, J_sub, J_lt, J_le, J_inj, J_ne, ne_J, m_lt, lt_m, m_le, le_m, J_cl, J_inB, if_true, if_false, ite_true, ite_false, reduceIte, isZ0, isZ1, J_and31, shrJ0, shlJ0, gI_sA, gL_sA, Nat.reduceEqDiff, Nat.reduceAdd, Nat.reduceMul, Nat.reduceLT, Nat.reduceLeDiff, Nat.le_refl], Fr.rf, hS⟩
  | succ f ih =>
    intro r n σ hr hn hL hS
    obtain ⟨n, rfl⟩ : ∃ k, n = k + 1 := ⟨n - 1, by omega⟩
    have hc := hL.2.1
    obtain ⟨σ1, a1, a2, a3⟩ := ref_turn2 (N := N) hN (τ := τ) (k := r) (r := r) hF (fX9_split_25 N n) c 0 N σ (by omega) (by omega) hL hS (fun j hj => by omega)
    obtain ⟨σ', e1, e2, e3⟩ := ih (r + 1) n σ1 (by omega) (by omega) (hL.fr (S := []) Fr.rf a2 (by decide) (by decide)) a3
    refine ⟨σ', ?_, a2.tr e2, e3⟩
    rw [show fX9_split_25 N (n + 1) σ (J r) = _ from by unfold fX9_split_25; rfl]
    have : ¬ 40 ≤ r := by omega
    have hz : cnt 0 (nR F (gk ld F (r + 1))) = 0 := rfl
    rw [hz] at a1
    simp (decide := true) (disch := omega) only [letS_d, grd_t, bnd_d, bnd1_d, bndX_d, bndX_e, gI_sI, gI_sL, gL_sL, gL_sI, upd_at, updL_at, J_lit, J_add, J_mul, J_sub, J_lt, J_le, J_inj, J_ne, ne_J, m_lt, lt_m, m_le, le_m, J_cl, J_inB, if_true, if_false, ite_true, ite_false, reduceIte, isZ0, isZ1, J_and31, shrJ0, shlJ0, gI_sA, gL_sA, Nat.reduceEqDiff, Nat.reduceAdd, Nat.reduceMul, Nat.reduceLT, Nat.reduceLeDiff, this]
    exact a1.trans e1
theorem ref_sinit {τ : St} : ∀ f i n (σ : St), i + f = c → f < n → Ls c ld τ σ → ∃ σ', fX9_split_2 N n σ (J i) = fX9_split_25 N N σ' (J 0) ∧ Fr [38] σ σ' ∧ (∀ j, j < i → gI σ' 38 j = gI σ 38 j) ∧ ∀ j, i ≤ j → j < c → gI σ' 38 j = J 0 := by
  intro f
  induction f with
  | zero =>
    intro i n σ hi hn hL
    obtain ⟨n, rfl⟩ : ∃ k, n = k + 1 := ⟨n - 1, by omega⟩
    obtain ⟨h1, h2, h3, h4, h5⟩ := id hL
    unfold fX9_split_2
    have : c ≤ i := by omega
    exact ⟨σ, by simp (decide := true) (disch := omega) only [letS_d, grd_t, bnd_d, bnd1_d, bndX_d, bndX_e, gI_sI, gI_sL, gL_sL, gL_sI, upd_at, updL_at, J_lit, J_add, J_mul, J_sub, J_lt, J_le, J_inj, J_ne, ne_J, m_lt, lt_m, m_le, le_m, J_cl, J_inB, if_true, if_false, ite_true, ite_false, reduceIte, isZ0, isZ1, J_and31, shrJ0, shlJ0, gI_sA, gL_sA, Nat.reduceEqDiff, Nat.reduceAdd, Nat.reduceMul, Nat.reduceLT, Nat.reduceLeDiff, h4, this], Fr.rf, fun _ _ => rfl, fun j a b => by omega⟩
  | succ f ih =>
    intro i n σ hi hn hL
    obtain ⟨n, rfl⟩ : ∃ k, n = k + 1 := ⟨n - 1, by omega⟩
    obtain ⟨h1, h2, h3, h4, h5⟩ := id hL
    have hci : ¬ c ≤ i := by omega
    obtain ⟨σ', e1, e2, e3, e4⟩ := ih (i + 1) n (sI σ 38 i (J 0)) (by omega) (by omega) (hL.fr (S := []) (S' := [38]) Fr.rf (Fr.i (by decide)) (by decide) (by decide))
    refine ⟨σ', ?_, (Fr.i (by decide)).tr e2, fun j hj => ?_, fun j h1 h2 => ?_⟩
    · rw [show fX9_split_2 N (n + 1) σ (J i) = _ from by unfold fX9_split_2; rfl]
      simp (decide := true) (disch := omega) only [letS_d, grd_t, bnd_d, bnd1_d, bndX_d, bndX_e, gI_sI, gI_sL, gL_sL, gL_sI, upd_at, updL_at, J_lit, J_add, J_mul, J_sub, J_lt, J_le, J_inj, J_ne, ne_J, m_lt, lt_m, m_le, le_m, J_cl, J_inB, if_true, if_false, ite_true, ite_false, reduceIte, isZ0, isZ1, J_and31, shrJ0, shlJ0, gI_sA, gL_sA, Nat.reduceEqDiff, Nat.reduceAdd, Nat.reduceMul, Nat.reduceLT, Nat.reduceLeDiff, h4, hci]
      exact e1
    · rw [e3 j (by omega)]
      have : ¬ j = i := by omega
      simp (decide := true) (disch := omega) only [letS_d, grd_t, bnd_d, bnd1_d, bndX_d, bndX_e, gI_sI, gI_sL, gL_sL, gL_sI, upd_at, updL_at, J_lit, J_add, J_mul, J_sub, J_lt, J_le, J_inj, J_ne, ne_J, m_lt, lt_m, m_le, le_m, J_cl, J_inB, if_true, if_false, ite_true, ite_false, reduceIte, isZ0, isZ1, J_and31, shrJ0, shlJ0, gI_sA, gL_sA, Nat.reduceEqDiff, Nat.reduceAdd, Nat.reduceMul, Nat.reduceLT, Nat.reduceLeDiff, this]
    · by_cases hji : j = i
      · subst hji
        rw [e3 j (by omega)]
        simp (decide := true) (disch := omega) only [letS_d, grd_t, bnd_d, bnd1_d, bndX_d, bndX_e, gI_sI, gI_sL, gL_sL, gL_sI, upd_at, updL_at, J_lit, J_add, J_mul, J_sub, J_lt, J_le, J_inj, J_ne, ne_J, m_lt, lt_m, m_le, le_m, J_cl, J_inB, if_true, if_false, ite_true, ite_false, reduceIte, isZ0, isZ1, J_and31, shrJ0, shlJ0, gI_sA, gL_sA, Nat.reduceEqDiff, Nat.reduceAdd, Nat.reduceMul, Nat.reduceLT, Nat.reduceLeDiff]
      · exact e4 j (by omega) h2
theorem ref_split (hN : 100 ≤ N) {τ σ : St} (hF : ∀ i, i < c → F i = true → al ld F i = true) (hL : Ls c ld τ σ) (hf : ∀ i, i < c → gI σ 37 i = zb (F i)) : ∃ σ', fX9_split N σ = some σ' ∧ Fr [38, 39] σ σ' ∧ Sr c F (Sk ld F 40) σ' := by
  have hc := hL.2.1
  obtain ⟨σ1, a1, a2, a3, a4⟩ := ref_sinit (N := N) (ld := ld) (τ := τ) c 0 N σ (by omega) (by omega) hL
  obtain ⟨σ', b1, b2, b3⟩ := ref_turns2 (N := N) hN (τ := τ) hF 40 0 N σ1 (by omega) (by omega) (hL.fr (S := []) Fr.rf a2 (by decide) (by decide)) ⟨fun i hi => by rw [a2.gi (by decide)]; exact hf i hi, fun i hi _ => ⟨a4 i (by omega) hi, by show 0 < 100; omega⟩⟩
  refine ⟨σ', ?_, (a2.mono (by decide)).tr b2, b3⟩
  unfold fX9_split
  simp (decide := true) (disch := omega) only [letS_d, grd_t, bnd_d, bnd1_d, bndX_d, bndX_e, gI_sI, gI_sL, gL_sL, gL_sI, upd_at, updL_at, J_lit, J_add, J_mul, J_sub, J_lt, J_le, J_inj, J_ne, ne_J, m_lt, lt_m, m_le, le_m, J_cl, J_inB, if_true, if_false, ite_true, ite_false, reduceIte, isZ0, isZ1, J_and31, shrJ0, shlJ0, gI_sA, gL_sA, Nat.reduceEqDiff, Nat.reduceAdd, Nat.reduceMul, Nat.reduceLT, Nat.reduceLeDiff]
  exact a1.trans b1
end SP
