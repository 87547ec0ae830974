/-! the reference's nodes of a tree; steps of its reader -/
/-- the last of a list -/
def lastn : Term → Nat → Nat
  | .elem s (.length _), x => x + nN s
  | .elem g (.old _), x => x + nN g
  | _, x => x
def RR (F : Nat → ND) : Term → Nat → Prop
  | .index v, x => nK (F x) = J 1 ∧ nL (F x) = J v
  | .length b, x => (nK (F x) = J 2 ∧ nO (F x) = J (x + 1)) ∧ RR F b (x + 1)
  | .add p q, x => (nK (F x) = J 3 ∧ nO (F x) = J (x + 1) ∧ nT (F x) = J (x + 1 + nN p)) ∧ RR F p (x + 1) ∧ RR F q (x + 1 + nN p)
  | .sub p q, x => (nK (F x) = J 4 ∧ nO (F x) = J (x + 1) ∧ nT (F x) = J (x + 1 + nN p)) ∧ RR F p (x + 1) ∧ RR F q (x + 1 + nN p)
  | .mul p q, x => (nK (F x) = J 5 ∧ nO (F x) = J (x + 1) ∧ nT (F x) = J (x + 1 + nN p)) ∧ RR F p (x + 1) ∧ RR F q (x + 1 + nN p)
  | .sum p, x => (nK (F x) = J 6 ∧ nO (F x) = J (x + 1)) ∧ RR F p (x + 1)
  | .old p, x => (nK (F x) = J 7 ∧ nO (F x) = J (x + 1)) ∧ RR F p (x + 1)
  | .div s p, x => (nK (F x) = J 8 ∧ nO (F x) = J (x + 1) ∧ nT (F x) = J (x + 2 + nN s) ∧ nK (F (x + 1)) = J 10 ∧ nO (F (x + 1)) = J (x + 2) ∧ nB (F (lastn s (x + 2))) = -J 1) ∧ RR F s (x + 2) ∧ RR F p (x + 2 + nN s)
  | .rem s p, x => (nK (F x) = J 9 ∧ nO (F x) = J (x + 1) ∧ nT (F x) = J (x + 2 + nN s) ∧ nK (F (x + 1)) = J 10 ∧ nO (F (x + 1)) = J (x + 2) ∧ nB (F (lastn s (x + 2))) = -J 1) ∧ RR F s (x + 2) ∧ RR F p (x + 2 + nN s)
  | .field b _ _ _, x => lastn b x = x ∧ RR F b x
  | .elem u (.index c), x => (nK (F x) = J 11 ∧ nL (F x) = J (c / 16) ∧ nM (F x) = J (c % 16) ∧ nO (F x) = J (x + 1) ∧ (∀ g s, u = .elem g (.old s) → nB (F (lastn u (x + 1))) = -J 1)) ∧ RR F u (x + 1)
  | .elem s (.length t), x => (lastn t (x + nN s) = x + nN s ∧ nB (F (lastn s x)) = J (x + nN s)) ∧ RR F s x ∧ RR F t (x + nN s)
  | .elem g (.old s), x => (nK (F (x + nN g)) = J 10 ∧ nO (F (x + nN g)) = J (x + nN g + 1) ∧ nB (F (lastn s (x + nN g + 1))) = -J 1 ∧ (g = .null → nO (F x) = J (x + 1)) ∧ (¬ g = .null → nB (F (lastn g x)) = J (x + nN g))) ∧ RR F g x ∧ RR F s (x + nN g + 1)
  | .null, x => nK (F x) = J 12
  | _, _ => False
theorem RR_pos {F : Nat → ND} : ∀ t x, RR F t x → 1 ≤ nN t ∧ x ≤ lastn t x ∧ lastn t x < x + nN t := by
  intro t
  induction t using tind with
  | h t ih =>
    intro x h
    unfold RR at h
    split at h
    all_goals first
      | (exfalso; exact h)
      | (rename_i b _ _ _
         have := ih b (by simp; omega) x h.2
         refine ⟨this.1, Nat.le_refl _, ?_⟩
         show x < x + nN b
         omega)
      | (simp only [nN, lastn]; omega)
      | skip
    · rename_i s t
      have h1 := (ih s (by simp; omega) x h.2.1).1
      have h2 := (ih t (by simp; omega) _ h.2.2).1
      simp only [nN, lastn]
      omega
/-- what a node's tree hangs on, but for its neighbour -/
def agB (a b : ND) : Prop := nK a = nK b ∧ nO a = nO b ∧ nT a = nT b ∧ nL a = nL b ∧ nM a = nM b
theorem agB.rf {a : ND} : agB a a := ⟨rfl, rfl, rfl, rfl, rfl⟩
theorem RR_keep {F F' : Nat → ND} {z : Nat} : ∀ t x, (z = lastn t x ∨ z < x ∨ x + nN t ≤ z) → (∀ i, x ≤ i → i < x + nN t → agB (F' i) (F i) ∧ (¬ i = z → nB (F' i) = nB (F i))) → RR F t x → RR F' t x := by
  intro t
  induction t using tind with
  | h t ih =>
    intro x hz hA h
    have hpos := RR_pos t x h
    unfold RR at h ⊢
    split at h
    · obtain ⟨a1, a2, a3, a4, a5⟩ := (hA x (by omega) (by omega)).1
      exact ⟨by rw [a1]; exact h.1, by rw [a4]; exact h.2⟩
    · rename_i b
      have e : nN (.length b) = 1 + nN b := rfl
      have el : lastn (.length b) x = x := rfl
      rw [e] at hA hz
      rw [el] at hz
      obtain ⟨a1, a2, a3, a4, a5⟩ := (hA x (by omega) (by omega)).1
      exact ⟨⟨by rw [a1]; exact h.1.1, by rw [a2]; exact h.1.2⟩, ih b (by simp) _ (by omega) (fun i i1 i2 => hA i (by omega) (by omega)) h.2⟩
    · rename_i p q
      have e : nN (.add p q) = 1 + nN p + nN q := rfl
      have el : lastn (.add p q) x = x := rfl
      rw [e] at hA hz
      rw [el] at hz
      obtain ⟨a1, a2, a3, a4, a5⟩ := (hA x (by omega) (by omega)).1
      exact ⟨⟨by rw [a1]; exact h.1.1, by rw [a2]; exact h.1.2.1, by rw [a3]; exact h.1.2.2⟩, ih p (by simp; omega) _ (by omega) (fun i i1 i2 => hA i (by omega) (by omega)) h.2.1, ih q (by simp; omega) _ (by omega) (fun i i1 i2 => hA i (by omega) (by omega)) h.2.2⟩
    · rename_i p q
      have e : nN (.sub p q) = 1 + nN p + nN q := rfl
      have el : lastn (.sub p q) x = x := rfl
      rw [e] at hA hz
      rw [el] at hz
      obtain ⟨a1, a2, a3, a4, a5⟩ := (hA x (by omega) (by omega)).1
      exact ⟨⟨by rw [a1]; exact h.1.1, by rw [a2]; exact h.1.2.1, by rw [a3]; exact h.1.2.2⟩, ih p (by simp; omega) _ (by omega) (fun i i1 i2 => hA i (by omega) (by omega)) h.2.1, ih q (by simp; omega) _ (by omega) (fun i i1 i2 => hA i (by omega) (by omega)) h.2.2⟩
    · rename_i p q
      have e : nN (.mul p q) = 1 + nN p + nN q := rfl
      have el : lastn (.mul p q) x = x := rfl
      rw [e] at hA hz
      rw [el] at hz
      obtain ⟨a1, a2, a3, a4, a5⟩ := (hA x (by omega) (by omega)).1
      exact ⟨⟨by rw [a1]; exact h.1.1, by rw [a2]; exact h.1.2.1, by rw [a3]; exact h.1.2.2⟩, ih p (by simp; omega) _ (by omega) (fun i i1 i2 => hA i (by omega) (by omega)) h.2.1, ih q (by simp; omega) _ (by omega) (fun i i1 i2 => hA i (by omega) (by omega)) h.2.2⟩
    · rename_i b
      have e : nN (.sum b) = 1 + nN b := rfl
      have el : lastn (.sum b) x = x := rfl
      rw [e] at hA hz
      rw [el] at hz
      obtain ⟨a1, a2, a3, a4, a5⟩ := (hA x (by omega) (by omega)).1
      exact ⟨⟨by rw [a1]; exact h.1.1, by rw [a2]; exact h.1.2⟩, ih b (by simp) _ (by omega) (fun i i1 i2 => hA i (by omega) (by omega)) h.2⟩
    · rename_i b
      have e : nN (.old b) = 1 + nN b := rfl
      have el : lastn (.old b) x = x := rfl
      rw [e] at hA hz
      rw [el] at hz
      obtain ⟨a1, a2, a3, a4, a5⟩ := (hA x (by omega) (by omega)).1
      exact ⟨⟨by rw [a1]; exact h.1.1, by rw [a2]; exact h.1.2⟩, ih b (by simp) _ (by omega) (fun i i1 i2 => hA i (by omega) (by omega)) h.2⟩
    · rename_i s p
      have e : nN (.div s p) = 2 + nN s + nN p := rfl
      have el : lastn (.div s p) x = x := rfl
      rw [e] at hA hz
      rw [el] at hz
      obtain ⟨⟨b1, b2, b3, b4, b5, b6⟩, h2, h3⟩ := h
      have ps := RR_pos s _ h2
      obtain ⟨a1, a2, a3, a4, a5⟩ := (hA x (by omega) (by omega)).1
      obtain ⟨c1, c2, c3, c4, c5⟩ := (hA (x + 1) (by omega) (by omega)).1
      have hb := (hA (lastn s (x + 2)) (by omega) (by omega)).2 (by omega)
      exact ⟨⟨by rw [a1]; exact b1, by rw [a2]; exact b2, by rw [a3]; exact b3, by rw [c1]; exact b4, by rw [c2]; exact b5, by rw [hb]; exact b6⟩, ih s (by simp; omega) _ (by omega) (fun i i1 i2 => hA i (by omega) (by omega)) h2, ih p (by simp; omega) _ (by omega) (fun i i1 i2 => hA i (by omega) (by omega)) h3⟩
    · rename_i s p
      have e : nN (.rem s p) = 2 + nN s + nN p := rfl
      have el : lastn (.rem s p) x = x := rfl
      rw [e] at hA hz
      rw [el] at hz
      obtain ⟨⟨b1, b2, b3, b4, b5, b6⟩, h2, h3⟩ := h
      have ps := RR_pos s _ h2
      obtain ⟨a1, a2, a3, a4, a5⟩ := (hA x (by omega) (by omega)).1
      obtain ⟨c1, c2, c3, c4, c5⟩ := (hA (x + 1) (by omega) (by omega)).1
      have hb := (hA (lastn s (x + 2)) (by omega) (by omega)).2 (by omega)
      exact ⟨⟨by rw [a1]; exact b1, by rw [a2]; exact b2, by rw [a3]; exact b3, by rw [c1]; exact b4, by rw [c2]; exact b5, by rw [hb]; exact b6⟩, ih s (by simp; omega) _ (by omega) (fun i i1 i2 => hA i (by omega) (by omega)) h2, ih p (by simp; omega) _ (by omega) (fun i i1 i2 => hA i (by omega) (by omega)) h3⟩
    · rename_i b a1 a2 a3
      have e : nN (.field b a1 a2 a3) = nN b := rfl
      have el : lastn (.field b a1 a2 a3) x = x := rfl
      rw [e] at hA hz
      rw [el] at hz
      exact ⟨h.1, ih b (by simp; omega) x (by omega) (fun i i1 i2 => hA i i1 i2) h.2⟩
    · rename_i u c
      have e : nN (.elem u (.index c)) = 1 + nN u := rfl
      have el : lastn (.elem u (.index c)) x = x := rfl
      rw [e] at hA hz
      rw [el] at hz
      obtain ⟨⟨b1, b2, b3, b4, b5⟩, h2⟩ := h
      have pu := RR_pos u _ h2
      obtain ⟨a1, a2, a3, a4, a5⟩ := (hA x (by omega) (by omega)).1
      have hb := (hA (lastn u (x + 1)) (by omega) (by omega)).2 (by omega)
      exact ⟨⟨by rw [a1]; exact b1, by rw [a4]; exact b2, by rw [a5]; exact b3, by rw [a2]; exact b4, fun g s hg => by rw [hb]; exact b5 g s hg⟩, ih u (by simp; omega) _ (by omega) (fun i i1 i2 => hA i (by omega) (by omega)) h2⟩
    · rename_i s t
      have e : nN (.elem s (.length t)) = nN s + nN t := rfl
      have el : lastn (.elem s (.length t)) x = x + nN s := rfl
      rw [e] at hA hz
      rw [el] at hz
      obtain ⟨⟨b1, b2⟩, h2, h3⟩ := h
      have ps := RR_pos s _ h2
      have pt := RR_pos t _ h3
      have hb := (hA (lastn s x) (by omega) (by omega)).2 (by omega)
      exact ⟨⟨b1, by rw [hb]; exact b2⟩, ih s (by simp; omega) _ (by omega) (fun i i1 i2 => hA i (by omega) (by omega)) h2, ih t (by simp; omega) _ (by omega) (fun i i1 i2 => hA i (by omega) (by omega)) h3⟩
    · rename_i g s
      have e : nN (.elem g (.old s)) = nN g + 1 + nN s := rfl
      have el : lastn (.elem g (.old s)) x = x + nN g := rfl
      rw [e] at hA hz
      rw [el] at hz
      obtain ⟨⟨b1, b2, b3, b4, b5⟩, h2, h3⟩ := h
      have pg := RR_pos g _ h2
      have ps := RR_pos s _ h3
      obtain ⟨a1, a2, a3, a4, a5⟩ := (hA (x + nN g) (by omega) (by omega)).1
      obtain ⟨c1, c2, c3, c4, c5⟩ := (hA x (by omega) (by omega)).1
      have hb := (hA (lastn s (x + nN g + 1)) (by omega) (by omega)).2 (by omega)
      have hb2 := (hA (lastn g x) (by omega) (by omega)).2 (by omega)
      exact ⟨⟨by rw [a1]; exact b1, by rw [a2]; exact b2, by rw [hb]; exact b3, fun hg => by rw [c2]; exact b4 hg, fun hg => by rw [hb2]; exact b5 hg⟩, ih g (by simp; omega) _ (by omega) (fun i i1 i2 => hA i (by omega) (by omega)) h2, ih s (by simp; omega) _ (by omega) (fun i i1 i2 => hA i (by omega) (by omega)) h3⟩
    · rw [(hA x (by omega) (by omega)).1.1]
      exact h
    · exact h.elim
section STP
variable {N ln : Nat} {ch : Nat → Nat}
/-- a node of a kind is made and hung up -/
theorem ref_sp {p x k : Nat} {par : Option Nat} {L : List IT} {σ : St} {x6 : Int32} (h : RQ ch ln p x L σ) (hx : x < 160) (hp : HO (nd σ) par) (hpx : ∀ k, par = some k → k < x) : ∃ σ', (∀ (K : Int32 → St → Option St), (bnd (fX9_node N σ (J k)) fun r22 σ21 => bnd1 (fX9_hang N σ21 (pI par) r22) fun σ23 => grd (inB r22 160) (letS (sI σ23 9 r22.toNatClampNeg x6) fun σ25 => K r22 σ25)) = K (J x) σ') ∧ RQ ch ln p (x + 1) L σ' ∧ Fr RdL σ σ' ∧ nd σ' x = (J k, -J 1, -J 1, -J 1, x6, J 1) ∧ ∀ i, i < x → nd σ' i = hangF (nd σ) par x i := by
  obtain ⟨σ1, a1, a2, a3, a4⟩ := ref_node (N := N) (k := k) h hx
  have hnd : ∀ i, i < x → nd σ1 i = nd σ i := fun i hi => by rw [a4 i, if_neg (by omega)]
  have hp1 : HO (nd σ1) par := fun j hj => by
    obtain ⟨b1, b2⟩ := hp j hj
    rw [hnd j (hpx j hj)]
    exact ⟨b1, b2⟩
  obtain ⟨σ2, b1, b2, b3, b4⟩ := ref_hang (N := N) (x := x) a2 hp1
  have f9 : Fr [9] σ2 (sI σ2 9 x x6) := Fr.i (by decide)
  have hat : nd σ2 x = nN0 k := by
    rw [b4 x]
    cases par with
    | none => show nd σ1 x = _; rw [a4 x, if_pos rfl]
    | some j =>
      have := hpx j rfl
      rw [hangF_ne (by omega), a4 x, if_pos rfl]
  refine ⟨sI σ2 9 x x6, fun K => ?_, b2.fr f9 (by decide), (a3.tr b3).tr (f9.mono (by decide)), ?_, fun i hi => ?_⟩
  · rw [a1, bnd_d, b1, bnd1_d, J_inB hx (by omega), grd_t, letS_d, J_cl (by omega)]
  · rw [nd9, if_pos rfl, hat]
    rfl
  · rw [nd9, if_neg (by omega), b4 i]
    cases par with
    | none => exact hnd i hi
    | some j =>
      have hj := hpx j rfl
      by_cases hij : i = j
      · subst hij
        show (if i = i then _ else _) = (if i = i then _ else _)
        rw [if_pos rfl, if_pos rfl, hnd i hi]
      · rw [hangF_ne hij, hangF_ne hij]
        exact hnd i hi
/-- who is asked for: a property or a boolean -/
def wY (w : Nat) : Nat := if w = 1 then 1 else 0
theorem ref_take_sp {p x w dep : Nat} {par : Option Nat} {L : List IT} {σ : St} (h : RQ ch ln p x L σ) (hw : w = 1 ∨ w = 2) : fX9_take N σ (J w) (pI par) (J dep) = bnd1 (fX9_sprout_10 N σ (J w) (pI par) (J dep) (J (ch p)) (J (wY w))) fun σ53 => some σ53 := by
  unfold fX9_take fX9_take_16 fX9_sprout
  rw [ref_now h, bnd_d]
  rcases hw with rfl | rfl <;> rfl
/-- a good beginning -/
theorem ref_sp76 {p x : Nat} {L : List IT} {σ : St} {x1 x2 x3 x5 x6 : Int32} {c : Nat} (h : RQ ch ln p x L σ) (hp : p < ln) (hc : c < 128) : RQ ch ln (p + 1) x L (sI (sI σ 12 0 (J 1)) 11 0 (J (p + 1))) ∧ nd (sI (sI σ 12 0 (J 1)) 11 0 (J (p + 1))) = nd σ ∧ Fr RdL σ (sI (sI σ 12 0 (J 1)) 11 0 (J (p + 1))) ∧ fX9_sprout_76 N σ x1 x2 x3 (J c) x5 x6 (J 1) = (if x6 < 0 then fX9_sprout_155 N (sI (sI σ 12 0 (J 1)) 11 0 (J (p + 1))) x1 x2 x3 (J c) x5 x6 (J (if c = 33 then 2 else if c = 40 then 3 else if c = 71 then 6 else if c = 88 then 7 else 8)) else fX9_sprout_155 N (sI (sI σ 12 0 (J 1)) 11 0 (J (p + 1))) x1 x2 x3 (J c) x5 x6 (J 1)) := by
  have f : Fr [11, 12] σ (sI (sI σ 12 0 (J 1)) 11 0 (J (p + 1))) := (Fr.i (by decide)).tr (Fr.i (by decide))
  refine ⟨h.good.go (by omega), nd_of f (by decide), f.mono (by decide), ?_⟩
  have h11 := h.1.1
  unfold fX9_sprout_76
  simp (decide := true) (disch := omega) only [letS_d, grd_tt, bnd_d, bnd1_d, bndX_d, bndX_e, gI_at, gI_ne, gI_sL, gL_sL, gL_sI, upd_at, updL_at, J_lit, J_add, J_mul, J_sub, J_lt, J_le, J_inj, J_ne, ne_J, m_lt, lt_m, m_le, le_m, J_cl, J_inB, if_true, if_false, ite_true, ite_false, reduceIte, isZ0, isZ1, J_and31, shrJ0, shlJ0, gI_sA, gL_sA, Nat.reduceEqDiff, Nat.reduceAdd, Nat.reduceMul, Nat.reduceLT, Nat.reduceLeDiff, h11]
  by_cases c1 : c = 33
  · simp (decide := true) (disch := omega) only [letS_d, grd_tt, bnd_d, bnd1_d, bndX_d, bndX_e, gI_at, gI_ne, gI_sL, gL_sL, gL_sI, upd_at, updL_at, J_lit, J_add, J_mul, J_sub, J_lt, J_le, J_inj, J_ne, ne_J, m_lt, lt_m, m_le, le_m, J_cl, J_inB, if_true, if_false, ite_true, ite_false, reduceIte, isZ0, isZ1, J_and31, shrJ0, shlJ0, gI_sA, gL_sA, Nat.reduceEqDiff, Nat.reduceAdd, Nat.reduceMul, Nat.reduceLT, Nat.reduceLeDiff, c1]
  · by_cases c2 : c = 40
    · simp (decide := true) (disch := omega) only [letS_d, grd_tt, bnd_d, bnd1_d, bndX_d, bndX_e, gI_at, gI_ne, gI_sL, gL_sL, gL_sI, upd_at, updL_at, J_lit, J_add, J_mul, J_sub, J_lt, J_le, J_inj, J_ne, ne_J, m_lt, lt_m, m_le, le_m, J_cl, J_inB, if_true, if_false, ite_true, ite_false, reduceIte, isZ0, isZ1, J_and31, shrJ0, shlJ0, gI_sA, gL_sA, Nat.reduceEqDiff, Nat.reduceAdd, Nat.reduceMul, Nat.reduceLT, Nat.reduceLeDiff, c2]
    · by_cases c3 : c = 71
      · simp (decide := true) (disch := omega) only [letS_d, grd_tt, bnd_d, bnd1_d, bndX_d, bndX_e, gI_at, gI_ne, gI_sL, gL_sL, gL_sI, upd_at, updL_at, J_lit, J_add, J_mul, J_sub, J_lt, J_le, J_inj, J_ne, ne_J, m_lt, lt_m, m_le, le_m, J_cl, J_inB, if_true, if_false, ite_true, ite_false, reduceIte, isZ0, isZ1, J_and31, shrJ0, shlJ0, gI_sA, gL_sA, Nat.reduceEqDiff, Nat.reduceAdd, Nat.reduceMul, Nat.reduceLT, Nat.reduceLeDiff, c3]
      · by_cases c4 : c = 88
        · simp (decide := true) (disch := omega) only [letS_d, grd_tt, bnd_d, bnd1_d, bndX_d, bndX_e, gI_at, gI_ne, gI_sL, gL_sL, gL_sI, upd_at, updL_at, J_lit, J_add, J_mul, J_sub, J_lt, J_le, J_inj, J_ne, ne_J, m_lt, lt_m, m_le, le_m, J_cl, J_inB, if_true, if_false, ite_true, ite_false, reduceIte, isZ0, isZ1, J_and31, shrJ0, shlJ0, gI_sA, gL_sA, Nat.reduceEqDiff, Nat.reduceAdd, Nat.reduceMul, Nat.reduceLT, Nat.reduceLeDiff, c4]
        · simp (decide := true) (disch := omega) only [letS_d, grd_tt, bnd_d, bnd1_d, bndX_d, bndX_e, gI_at, gI_ne, gI_sL, gL_sL, gL_sI, upd_at, updL_at, J_lit, J_add, J_mul, J_sub, J_lt, J_le, J_inj, J_ne, ne_J, m_lt, lt_m, m_le, le_m, J_cl, J_inB, if_true, if_false, ite_true, ite_false, reduceIte, isZ0, isZ1, J_and31, shrJ0, shlJ0, gI_sA, gL_sA, Nat.reduceEqDiff, Nat.reduceAdd, Nat.reduceMul, Nat.reduceLT, Nat.reduceLeDiff, c1, c2, c3, c4]
/-- a character that can't stand there -/
theorem ref_bad_sp {p x w dep : Nat} {par : Option Nat} {L : List IT} {σ : St} (h : RQ ch ln p x ((J w, pI par, J dep) :: L) σ) (hL : L.length < 200) (hw : w = 1 ∨ w = 2) (hdep : dep < 100) (hbad : 12 < dep ∨ (litv (ch p) = none ∧ ¬ ch p = 33 ∧ ¬ ch p = 40 ∧ (w = 2 ∨ (¬ ch p = 71 ∧ ¬ ch p = 88 ∧ ¬ ch p = 123)))) : Bd N 2 p σ := by
  have h1 := h.pop
  have hc := h.ch_lt p
  have f : Fr [12] (sI σ 13 0 (J L.length)) (sI (sI σ 13 0 (J L.length)) 12 0 (J 0)) := Fr.i (by decide)
  refine Bd.step (σ' := sI (sI σ 13 0 (J L.length)) 12 0 (J 0)) h hL ?_ (f.mono (by decide)) (by simp (decide := true) (disch := omega) only [letS_d, grd_tt, bnd_d, bnd1_d, bndX_d, bndX_e, gI_at, gI_ne, gI_sL, gL_sL, gL_sI, upd_at, updL_at, J_lit, J_add, J_mul, J_sub, J_lt, J_le, J_inj, J_ne, ne_J, m_lt, lt_m, m_le, le_m, J_cl, J_inB, if_true, if_false, ite_true, ite_false, reduceIte, isZ0, isZ1, J_and31, shrJ0, shlJ0, gI_sA, gL_sA, Nat.reduceEqDiff, Nat.reduceAdd, Nat.reduceMul, Nat.reduceLT, Nat.reduceLeDiff]) (by simp (decide := true) (disch := omega) only [letS_d, grd_tt, bnd_d, bnd1_d, bndX_d, bndX_e, gI_at, gI_ne, gI_sL, gL_sL, gL_sI, upd_at, updL_at, J_lit, J_add, J_mul, J_sub, J_lt, J_le, J_inj, J_ne, ne_J, m_lt, lt_m, m_le, le_m, J_cl, J_inB, if_true, if_false, ite_true, ite_false, reduceIte, isZ0, isZ1, J_and31, shrJ0, shlJ0, gI_sA, gL_sA, Nat.reduceEqDiff, Nat.reduceAdd, Nat.reduceMul, Nat.reduceLT, Nat.reduceLeDiff]; exact h.1.1)
  rw [ref_take_sp h1 hw]
  generalize sI σ 13 0 (J L.length) = σ1 at h1
  have h75 : ∀ y v, fX9_sprout_75 N σ1 (J w) (pI par) (J dep) (J (ch p)) y v = some (sI σ1 12 0 (J 0)) := fun y v => by
    unfold fX9_sprout_75 fX9_sprout_76
    simp (decide := true) (disch := omega) only [letS_d, grd_tt, bnd_d, bnd1_d, bndX_d, bndX_e, gI_at, gI_ne, gI_sL, gL_sL, gL_sI, upd_at, updL_at, J_lit, J_add, J_mul, J_sub, J_lt, J_le, J_inj, J_ne, ne_J, m_lt, lt_m, m_le, le_m, J_cl, J_inB, if_true, if_false, ite_true, ite_false, reduceIte, isZ0, isZ1, J_and31, shrJ0, shlJ0, gI_sA, gL_sA, Nat.reduceEqDiff, Nat.reduceAdd, Nat.reduceMul, Nat.reduceLT, Nat.reduceLeDiff]
  unfold fX9_sprout_10
  rw [ref_lit hc, bnd_d]
  rcases hbad with hd | ⟨b1, b2, b3, b4⟩
  · rw [if_pos (show (12 : Int32) < J dep by show J 12 < J dep; rw [J_lt (by omega) (by omega)]; exact hd), h75]
    rfl
  · rw [b1]
    have hm : ¬ J 0 ≤ -J 1 := by decide
    by_cases hd : 12 < dep
    · simp (decide := true) (disch := omega) only [letS_d, grd_tt, bnd_d, bnd1_d, bndX_d, bndX_e, gI_at, gI_ne, gI_sL, gL_sL, gL_sI, upd_at, updL_at, J_lit, J_add, J_mul, J_sub, J_lt, J_le, J_inj, J_ne, ne_J, m_lt, lt_m, m_le, le_m, J_cl, J_inB, if_true, if_false, ite_true, ite_false, reduceIte, isZ0, isZ1, J_and31, shrJ0, shlJ0, gI_sA, gL_sA, Nat.reduceEqDiff, Nat.reduceAdd, Nat.reduceMul, Nat.reduceLT, Nat.reduceLeDiff, hd, h75]
    · rcases b4 with rfl | ⟨n1, n2, n3⟩
      · have e : wY 2 = 0 := rfl
        simp (decide := true) (disch := omega) only [letS_d, grd_tt, bnd_d, bnd1_d, bndX_d, bndX_e, gI_at, gI_ne, gI_sL, gL_sL, gL_sI, upd_at, updL_at, J_lit, J_add, J_mul, J_sub, J_lt, J_le, J_inj, J_ne, ne_J, m_lt, lt_m, m_le, le_m, J_cl, J_inB, if_true, if_false, ite_true, ite_false, reduceIte, isZ0, isZ1, J_and31, shrJ0, shlJ0, gI_sA, gL_sA, Nat.reduceEqDiff, Nat.reduceAdd, Nat.reduceMul, Nat.reduceLT, Nat.reduceLeDiff, hd, hm, b2, b3, e, h75]
      · by_cases hy : wY w = 0
        · simp (decide := true) (disch := omega) only [letS_d, grd_tt, bnd_d, bnd1_d, bndX_d, bndX_e, gI_at, gI_ne, gI_sL, gL_sL, gL_sI, upd_at, updL_at, J_lit, J_add, J_mul, J_sub, J_lt, J_le, J_inj, J_ne, ne_J, m_lt, lt_m, m_le, le_m, J_cl, J_inB, if_true, if_false, ite_true, ite_false, reduceIte, isZ0, isZ1, J_and31, shrJ0, shlJ0, gI_sA, gL_sA, Nat.reduceEqDiff, Nat.reduceAdd, Nat.reduceMul, Nat.reduceLT, Nat.reduceLeDiff, hd, hm, b2, b3, hy, h75]
        · have e1 : wY w = 1 := by
            unfold wY at hy ⊢
            split <;> simp_all
          simp (decide := true) (disch := omega) only [letS_d, grd_tt, bnd_d, bnd1_d, bndX_d, bndX_e, gI_at, gI_ne, gI_sL, gL_sL, gL_sI, upd_at, updL_at, J_lit, J_add, J_mul, J_sub, J_lt, J_le, J_inj, J_ne, ne_J, m_lt, lt_m, m_le, le_m, J_cl, J_inB, if_true, if_false, ite_true, ite_false, reduceIte, isZ0, isZ1, J_and31, shrJ0, shlJ0, gI_sA, gL_sA, Nat.reduceEqDiff, Nat.reduceAdd, Nat.reduceMul, Nat.reduceLT, Nat.reduceLeDiff, hd, hm, b2, b3, e1, n1, n2, n3, h75]
/-- a letter -/
theorem ref_lit1 {p x w dep v : Nat} {par : Option Nat} {L : List IT} {σ : St} (h : RQ ch ln p x ((J w, pI par, J dep) :: L) σ) (hL : L.length < 200) (hw : w = 1 ∨ w = 2) (hdep : dep ≤ 12) (hx : x < 160) (hp : HO (nd σ) par) (hpx : ∀ k, par = some k → k < x) (hv : litv (ch p) = some v) : ∃ σ', Go N 1 σ σ' ∧ RQ ch ln (p + 1) (x + 1) L σ' ∧ nd σ' x = (J 1, -J 1, -J 1, -J 1, J v, J 1) ∧ ∀ i, i < x → nd σ' i = hangF (nd σ) par x i := by
  have h1 := h.pop
  have hc := h.ch_lt p
  have hv9 : v < 9 ∧ ¬ ch p = 0 := by
    unfold litv at hv
    split at hv
    · cases hv; omega
    · split at hv
      · cases hv; omega
      · split at hv
        · cases hv; omega
        · split at hv
          · cases hv; omega
          · split at hv
            · cases hv; omega
            · cases hv
  have hpl := h.lt hv9.2
  obtain ⟨s1, s2, s3, s4⟩ := ref_sp76 (N := N) (x1 := J w) (x2 := pI par) (x3 := J dep) (x5 := J (wY w)) (x6 := J v) (c := ch p) h1 hpl hc
  have hn1 : nd (sI σ 13 0 (J L.length)) = nd σ := nd_of (S := [13]) (Fr.i (by decide)) (by decide)
  rw [hn1] at s2
  obtain ⟨σ', t1, t2, t3, t4, t5⟩ := ref_sp (N := N) (k := 1) (par := par) (x6 := J v) s1 hx (by rw [s2]; exact hp) hpx
  rw [s2] at t5
  refine ⟨σ', Go.step h hL ?_ (s3.tr t3), t2, t4, t5⟩
  rw [ref_take_sp h1 hw]
  unfold fX9_sprout_10
  rw [ref_lit hc, bnd_d, hv]
  have hd : ¬ 12 < dep := by omega
  have h155 := t1 (fun r22 σ25 => if J v < 0 then if J (ch p) = (40 : Int32) then bnd1 (fX9_expect N σ25 (3 : Int32) (41 : Int32) (0 : Int32)) fun σ37 => bnd1 (fX9_expect N σ37 (J w) r22 (J dep + (1 : Int32))) fun σ38 => if J (wY w) = 0 then fX9_sprout_218 N σ38 (J w) (J dep) r22 (5 : Int32) else fX9_sprout_218 N σ38 (J w) (J dep) r22 (4 : Int32) else if J (ch p) = (123 : Int32) then bnd1 (fX9_expect N σ25 (1 : Int32) r22 (J dep + (1 : Int32))) fun σ30 => bnd1 (fX9_expect N σ30 (6 : Int32) r22 (0 : Int32)) fun σ31 => bnd1 (fX9_expect N σ31 (3 : Int32) (125 : Int32) (0 : Int32)) fun σ32 => bnd (fX9_node N σ32 (10 : Int32)) fun r34 σ33 => bnd1 (fX9_hang N σ33 r22 r34) fun σ35 => bnd1 (fX9_expect N σ35 (7 : Int32) r34 (J dep + (1 : Int32))) fun σ36 => some σ36 else if J (ch p) = (33 : Int32) then fX9_sprout_314 N σ25 (J dep) r22 (2 : Int32) else fX9_sprout_314 N σ25 (J dep) r22 (1 : Int32) else some σ25)
  have h155' : fX9_sprout_155 N (sI (sI (sI σ 13 0 (J L.length)) 12 0 (J 1)) 11 0 (J (p + 1))) (J w) (pI par) (J dep) (J (ch p)) (J (wY w)) (J v) (J 1) = some σ' := by
    refine Eq.trans h155 ?_
    simp (decide := true) (disch := omega) only [letS_d, grd_tt, bnd_d, bnd1_d, bndX_d, bndX_e, gI_at, gI_ne, gI_sL, gL_sL, gL_sI, upd_at, updL_at, J_lit, J_add, J_mul, J_sub, J_lt, J_le, J_inj, J_ne, ne_J, m_lt, lt_m, m_le, le_m, J_cl, J_inB, if_true, if_false, ite_true, ite_false, reduceIte, isZ0, isZ1, J_and31, shrJ0, shlJ0, gI_sA, gL_sA, Nat.reduceEqDiff, Nat.reduceAdd, Nat.reduceMul, Nat.reduceLT, Nat.reduceLeDiff, Nat.not_lt_zero]
  have s4' : fX9_sprout_71 N (sI σ 13 0 (J L.length)) (J w) (pI par) (J dep) (J (ch p)) (J (wY w)) (J v) = some σ' := by
    unfold fX9_sprout_71
    rw [show (1 : Int32) = J 1 from rfl, s4]
    simp (decide := true) (disch := omega) only [letS_d, grd_tt, bnd_d, bnd1_d, bndX_d, bndX_e, gI_at, gI_ne, gI_sL, gL_sL, gL_sI, upd_at, updL_at, J_lit, J_add, J_mul, J_sub, J_lt, J_le, J_inj, J_ne, ne_J, m_lt, lt_m, m_le, le_m, J_cl, J_inB, if_true, if_false, ite_true, ite_false, reduceIte, isZ0, isZ1, J_and31, shrJ0, shlJ0, gI_sA, gL_sA, Nat.reduceEqDiff, Nat.reduceAdd, Nat.reduceMul, Nat.reduceLT, Nat.reduceLeDiff, Nat.not_lt_zero, h155']
  simp (decide := true) (disch := omega) only [letS_d, grd_tt, bnd_d, bnd1_d, bndX_d, bndX_e, gI_at, gI_ne, gI_sL, gL_sL, gL_sI, upd_at, updL_at, J_lit, J_add, J_mul, J_sub, J_lt, J_le, J_inj, J_ne, ne_J, m_lt, lt_m, m_le, le_m, J_cl, J_inB, if_true, if_false, ite_true, ite_false, reduceIte, isZ0, isZ1, J_and31, shrJ0, shlJ0, gI_sA, gL_sA, Nat.reduceEqDiff, Nat.reduceAdd, Nat.reduceMul, Nat.reduceLT, Nat.reduceLeDiff, hd, Nat.zero_le, s4']
/-- a sign that must stand there -/
theorem ref_sign {p x c : Nat} {L : List IT} {σ : St} (h : RQ ch ln p x ((J 3, J c, J 0) :: L) σ) (hL : L.length < 200) (hc0 : ¬ c = 0) (hc1 : c < 128) : (ch p = c → ∃ σ', Go N 1 σ σ' ∧ RQ ch ln (p + 1) x L σ' ∧ nd σ' = nd σ) ∧ (¬ ch p = c → Bd N 2 p σ) := by
  have h1 := h.pop
  have hc := h.ch_lt p
  have h11 := h1.1.1
  have hnow := ref_now (N := N) h1
  constructor
  · intro he
    have hpl := h.lt (show ¬ ch p = 0 by omega)
    have f : Fr [11, 12] (sI σ 13 0 (J L.length)) (sI (sI (sI σ 13 0 (J L.length)) 12 0 (J 1)) 11 0 (J (p + 1))) := (Fr.i (by decide)).tr (Fr.i (by decide))
    refine ⟨_, Go.step h hL ?_ (f.mono (by decide)), h1.good.go (by omega), (nd_of f (by decide)).trans (nd_of (S := [13]) (Fr.i (by decide)) (by decide))⟩
    show fX9_take N (sI σ 13 0 (J L.length)) (J 3) (J c) (J 0) = _
    generalize sI σ 13 0 (J L.length) = σ1 at *
    unfold fX9_take fX9_take_45 fX9_take_65
    simp (decide := true) (disch := omega) only [letS_d, grd_tt, bnd_d, bnd1_d, bndX_d, bndX_e, gI_at, gI_ne, gI_sL, gL_sL, gL_sI, upd_at, updL_at, J_lit, J_add, J_mul, J_sub, J_lt, J_le, J_inj, J_ne, ne_J, m_lt, lt_m, m_le, le_m, J_cl, J_inB, if_true, if_false, ite_true, ite_false, reduceIte, isZ0, isZ1, J_and31, shrJ0, shlJ0, gI_sA, gL_sA, Nat.reduceEqDiff, Nat.reduceAdd, Nat.reduceMul, Nat.reduceLT, Nat.reduceLeDiff, hnow, he, h11]
  · intro he
    have f : Fr [11, 12] (sI σ 13 0 (J L.length)) (sI (sI (sI σ 13 0 (J L.length)) 12 0 (J 0)) 11 0 (J p)) := (Fr.i (by decide)).tr (Fr.i (by decide))
    refine Bd.step (σ' := sI (sI (sI σ 13 0 (J L.length)) 12 0 (J 0)) 11 0 (J p)) h hL ?_ (f.mono (by decide)) (by simp (decide := true) (disch := omega) only [letS_d, grd_tt, bnd_d, bnd1_d, bndX_d, bndX_e, gI_at, gI_ne, gI_sL, gL_sL, gL_sI, upd_at, updL_at, J_lit, J_add, J_mul, J_sub, J_lt, J_le, J_inj, J_ne, ne_J, m_lt, lt_m, m_le, le_m, J_cl, J_inB, if_true, if_false, ite_true, ite_false, reduceIte, isZ0, isZ1, J_and31, shrJ0, shlJ0, gI_sA, gL_sA, Nat.reduceEqDiff, Nat.reduceAdd, Nat.reduceMul, Nat.reduceLT, Nat.reduceLeDiff]) (by simp (decide := true) (disch := omega) only [letS_d, grd_tt, bnd_d, bnd1_d, bndX_d, bndX_e, gI_at, gI_ne, gI_sL, gL_sL, gL_sI, upd_at, updL_at, J_lit, J_add, J_mul, J_sub, J_lt, J_le, J_inj, J_ne, ne_J, m_lt, lt_m, m_le, le_m, J_cl, J_inB, if_true, if_false, ite_true, ite_false, reduceIte, isZ0, isZ1, J_and31, shrJ0, shlJ0, gI_sA, gL_sA, Nat.reduceEqDiff, Nat.reduceAdd, Nat.reduceMul, Nat.reduceLT, Nat.reduceLeDiff])
    show fX9_take N (sI σ 13 0 (J L.length)) (J 3) (J c) (J 0) = _
    generalize sI σ 13 0 (J L.length) = σ1 at *
    unfold fX9_take fX9_take_45 fX9_take_65
    simp (decide := true) (disch := omega) only [letS_d, grd_tt, bnd_d, bnd1_d, bndX_d, bndX_e, gI_at, gI_ne, gI_sL, gL_sL, gL_sI, upd_at, updL_at, J_lit, J_add, J_mul, J_sub, J_lt, J_le, J_inj, J_ne, ne_J, m_lt, lt_m, m_le, le_m, J_cl, J_inB, if_true, if_false, ite_true, ite_false, reduceIte, isZ0, isZ1, J_and31, shrJ0, shlJ0, gI_sA, gL_sA, Nat.reduceEqDiff, Nat.reduceAdd, Nat.reduceMul, Nat.reduceLT, Nat.reduceLeDiff, hnow, he, h11, Nat.add_zero]
end STP
