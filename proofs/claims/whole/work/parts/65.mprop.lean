/-! the class's reader: properties -/
/-- the obligation of a property's top: its own, or one that was asked for, or none -/
def tob (t : Term) (K : Nat) (ob : Bool) : Int32 := if own t = true then J (K + oC t - 1) else if ob = true then J (K + oC t) else -J 1
/-- the class's nodes of a property, from one on, with its obligations, from one on -/
def RC (τ : St) : Term → Nat → Nat → Prop
  | .add p q, b, K => (RC τ p b K ∧ RC τ q (b + nC p) (K + oC p)) ∧ (gI τ 33 (b + nC p - 1) = tob p K false ∧ gI τ 33 (b + nC p + nC q - 1) = tob q (K + oC p) false) ∧ gI τ 30 (b + nC p + nC q) = J 38 ∧ gI τ 31 (b + nC p + nC q) = J (b + nC p - 1) ∧ gI τ 32 (b + nC p + nC q) = J (b + nC p + nC q - 1)
  | .sub p q, b, K => (RC τ p b K ∧ RC τ q (b + nC p) (K + oC p)) ∧ (gI τ 33 (b + nC p - 1) = tob p K false ∧ gI τ 33 (b + nC p + nC q - 1) = tob q (K + oC p) false) ∧ gI τ 30 (b + nC p + nC q) = J 124 ∧ gI τ 31 (b + nC p + nC q) = J (b + nC p - 1) ∧ gI τ 32 (b + nC p + nC q) = J (b + nC p + nC q - 1)
  | .mul p q, b, K => (RC τ p b K ∧ RC τ q (b + nC p) (K + oC p)) ∧ (gI τ 33 (b + nC p - 1) = tob p K false ∧ gI τ 33 (b + nC p + nC q - 1) = tob q (K + oC p) false) ∧ gI τ 30 (b + nC p + nC q) = J 87 ∧ gI τ 31 (b + nC p + nC q) = J (b + nC p - 1) ∧ gI τ 32 (b + nC p + nC q) = J (b + nC p + nC q - 1)
  | .sum p, b, K => RC τ p b K ∧ gI τ 33 (b + nC p - 1) = tob p K false ∧ gI τ 30 (b + nC p) = J 71 ∧ gI τ 31 (b + nC p) = J (b + nC p - 1)
  | .old p, b, K => RC τ p b K ∧ gI τ 33 (b + nC p - 1) = tob p K true ∧ gI τ 30 (b + nC p) = J 88 ∧ gI τ 31 (b + nC p) = J (b + nC p - 1)
  | .div s p, b, K => RC τ p b (K + len s) ∧ gI τ 33 (b + nC p - 1) = tob p (K + len s) false ∧ gI τ 30 (b + nC p) = J 62 ∧ gI τ 31 (b + nC p) = J (b + nC p - 1) ∧ gI τ 35 (b + nC p) = J K ∧ gI τ 36 (b + nC p) = J (K + len s) ∧ Mk (gI τ 37 (b + nC p)) K (fi s) ∧ Mk (gI τ 38 (b + nC p)) K (la s) ∧ Plc K s τ
  | .rem s p, b, K => RC τ p b (K + len s) ∧ gI τ 33 (b + nC p - 1) = tob p (K + len s) true ∧ gI τ 30 (b + nC p) = J 58 ∧ gI τ 31 (b + nC p) = J (b + nC p - 1) ∧ gI τ 35 (b + nC p) = J K ∧ gI τ 36 (b + nC p) = J (K + len s) ∧ Mk (gI τ 37 (b + nC p)) K (fi s) ∧ Mk (gI τ 38 (b + nC p)) K (la s) ∧ Plc K s τ
  | t, b, _ => gI τ 30 b = J 33 ∧ gI τ 34 b = J (bm t)
theorem nC_pos : ∀ t, 1 ≤ nC t := by
  intro t
  cases t <;> simp [nC]
/-- what a property's nodes and places hang on -/
def Ag (b e K L : Nat) (τ τ' : St) : Prop := (∀ i, b ≤ i → i < e → gI τ' 30 i = gI τ 30 i ∧ gI τ' 31 i = gI τ 31 i ∧ gI τ' 32 i = gI τ 32 i ∧ gI τ' 34 i = gI τ 34 i ∧ gI τ' 35 i = gI τ 35 i ∧ gI τ' 36 i = gI τ 36 i ∧ gI τ' 37 i = gI τ 37 i ∧ gI τ' 38 i = gI τ 38 i) ∧ (∀ i, b ≤ i → i + 1 < e → gI τ' 33 i = gI τ 33 i) ∧ ∀ o, K ≤ o → o < L → gI τ' 24 o = gI τ 24 o ∧ gI τ' 25 o = gI τ 25 o
theorem Ag.sub {b e K L b' e' K' L' : Nat} {τ τ' : St} (h : Ag b e K L τ τ') (hb : b ≤ b') (he : e' ≤ e) (hK : K ≤ K') (hL : L' ≤ L) : Ag b' e' K' L' τ τ' := ⟨fun i h1 h2 => h.1 i (by omega) (by omega), fun i h1 h2 => h.2.1 i (by omega) (by omega), fun o h1 h2 => h.2.2 o (by omega) (by omega)⟩
theorem RC_keep {τ τ' : St} : ∀ t b K, Ag b (b + nC t) K (K + oC t) τ τ' → RC τ t b K → RC τ' t b K := by
  have pair : ∀ (p q : Term) (z : Nat) b K, (∀ b K, Ag b (b + nC p) K (K + oC p) τ τ' → RC τ p b K → RC τ' p b K) → (∀ b K, Ag b (b + nC q) K (K + oC q) τ τ' → RC τ q b K → RC τ' q b K) → Ag b (b + (nC p + nC q + 1)) K (K + (oC p + oC q)) τ τ' → ((RC τ p b K ∧ RC τ q (b + nC p) (K + oC p)) ∧ (gI τ 33 (b + nC p - 1) = tob p K false ∧ gI τ 33 (b + nC p + nC q - 1) = tob q (K + oC p) false) ∧ gI τ 30 (b + nC p + nC q) = J z ∧ gI τ 31 (b + nC p + nC q) = J (b + nC p - 1) ∧ gI τ 32 (b + nC p + nC q) = J (b + nC p + nC q - 1)) → ((RC τ' p b K ∧ RC τ' q (b + nC p) (K + oC p)) ∧ (gI τ' 33 (b + nC p - 1) = tob p K false ∧ gI τ' 33 (b + nC p + nC q - 1) = tob q (K + oC p) false) ∧ gI τ' 30 (b + nC p + nC q) = J z ∧ gI τ' 31 (b + nC p + nC q) = J (b + nC p - 1) ∧ gI τ' 32 (b + nC p + nC q) = J (b + nC p + nC q - 1)) := by
    intro p q z b K ip iq hA ⟨⟨h1, h2⟩, ⟨h3, h4⟩, h5, h6, h7⟩
    have np := nC_pos p
    have nq := nC_pos q
    obtain ⟨a1, a2, a3, _⟩ := hA.1 (b + nC p + nC q) (by omega) (by omega)
    refine ⟨⟨ip b K (hA.sub (by omega) (by omega) (by omega) (by omega)) h1, iq _ _ (hA.sub (by omega) (by omega) (by omega) (by omega)) h2⟩, ⟨by rw [hA.2.1 _ (by omega) (by omega)]; exact h3, by rw [hA.2.1 _ (by omega) (by omega)]; exact h4⟩, by rw [a1]; exact h5, by rw [a2]; exact h6, by rw [a3]; exact h7⟩
  have one : ∀ (p : Term) (z : Nat) (x : Bool) b K, (∀ b K, Ag b (b + nC p) K (K + oC p) τ τ' → RC τ p b K → RC τ' p b K) → Ag b (b + (nC p + 1)) K (K + oC p) τ τ' → (RC τ p b K ∧ gI τ 33 (b + nC p - 1) = tob p K x ∧ gI τ 30 (b + nC p) = J z ∧ gI τ 31 (b + nC p) = J (b + nC p - 1)) → (RC τ' p b K ∧ gI τ' 33 (b + nC p - 1) = tob p K x ∧ gI τ' 30 (b + nC p) = J z ∧ gI τ' 31 (b + nC p) = J (b + nC p - 1)) := by
    intro p z x b K ip hA ⟨h1, h2, h3, h4⟩
    have np := nC_pos p
    obtain ⟨a1, a2, _⟩ := hA.1 (b + nC p) (by omega) (by omega)
    exact ⟨ip b K (hA.sub (by omega) (by omega) (by omega) (by omega)) h1, by rw [hA.2.1 _ (by omega) (by omega)]; exact h2, by rw [a1]; exact h3, by rw [a2]; exact h4⟩
  have rule : ∀ (s p : Term) (z : Nat) (x : Bool) b K, (∀ b K, Ag b (b + nC p) K (K + oC p) τ τ' → RC τ p b K → RC τ' p b K) → Ag b (b + (nC p + 1)) K (K + (len s + oC p)) τ τ' → (RC τ p b (K + len s) ∧ gI τ 33 (b + nC p - 1) = tob p (K + len s) x ∧ gI τ 30 (b + nC p) = J z ∧ gI τ 31 (b + nC p) = J (b + nC p - 1) ∧ gI τ 35 (b + nC p) = J K ∧ gI τ 36 (b + nC p) = J (K + len s) ∧ Mk (gI τ 37 (b + nC p)) K (fi s) ∧ Mk (gI τ 38 (b + nC p)) K (la s) ∧ Plc K s τ) → (RC τ' p b (K + len s) ∧ gI τ' 33 (b + nC p - 1) = tob p (K + len s) x ∧ gI τ' 30 (b + nC p) = J z ∧ gI τ' 31 (b + nC p) = J (b + nC p - 1) ∧ gI τ' 35 (b + nC p) = J K ∧ gI τ' 36 (b + nC p) = J (K + len s) ∧ Mk (gI τ' 37 (b + nC p)) K (fi s) ∧ Mk (gI τ' 38 (b + nC p)) K (la s) ∧ Plc K s τ') := by
    intro s p z x b K ip hA ⟨h1, h2, h3, h4, h5, h6, h7, h8, h9⟩
    have np := nC_pos p
    obtain ⟨a1, a2, a3, a4, a5, a6, a7, a8⟩ := hA.1 (b + nC p) (by omega) (by omega)
    refine ⟨ip b (K + len s) (hA.sub (by omega) (by omega) (by omega) (by omega)) h1, by rw [hA.2.1 _ (by omega) (by omega)]; exact h2, by rw [a1]; exact h3, by rw [a2]; exact h4, by rw [a5]; exact h5, by rw [a6]; exact h6, by rw [a7]; exact h7, by rw [a8]; exact h8, fun j hj => ?_⟩
    obtain ⟨q1, q2⟩ := hA.2.2 (K + j) (by omega) (by omega)
    rw [q1, q2]
    exact h9 j hj
  intro t
  induction t using tind with
  | h t ih =>
    intro b K hA h
    unfold RC at h ⊢
    split at h
    · rename_i p q
      exact pair p q 38 b K (ih p (by simp; omega)) (ih q (by simp; omega)) hA h
    · rename_i p q
      exact pair p q 124 b K (ih p (by simp; omega)) (ih q (by simp; omega)) hA h
    · rename_i p q
      exact pair p q 87 b K (ih p (by simp; omega)) (ih q (by simp; omega)) (hA.sub (by omega) (by show b + (nC p + nC q + 1) ≤ b + nC (.mul p q); exact Nat.le_refl _) (by omega) (by show K + (oC p + oC q) ≤ K + (oC p + oC q + 1); omega)) h
    · rename_i p
      exact one p 71 false b K (ih p (by simp)) (hA.sub (by omega) (Nat.le_refl _) (by omega) (by show K + oC p ≤ K + (oC p + 1); omega)) h
    · rename_i p
      exact one p 88 true b K (ih p (by simp)) (hA.sub (by omega) (Nat.le_refl _) (by omega) (by show K + oC p ≤ K + (oC p + _); omega)) h
    · rename_i s p
      exact rule s p 62 false b K (ih p (by simp; omega)) hA h
    · rename_i s p
      exact rule s p 58 true b K (ih p (by simp; omega)) (hA.sub (by omega) (Nat.le_refl _) (by omega) (by show K + (len s + oC p) ≤ K + (len s + oC p + _); omega)) h
    · have hp := nC_pos t
      obtain ⟨a1, a2, a3, a4, _⟩ := hA.1 b (by omega) (by omega)
      exact ⟨by rw [a1]; exact h.1, by rw [a4]; exact h.2⟩
section PRP
variable {N ln : Nat} {ch : Nat → Nat}
theorem isK_J {c : Nat} (hc : c < 128) : isK (J c) = true := by
  have : ∀ c < 128, isK (J c) = true := by decide +kernel
  exact this c hc
/-- the node that add makes -/
def addS (τ : St) (c kd : Nat) (l r : Int32) : St := sI (sI (sI (sI (sI τ 30 c (J kd)) 31 c l) 32 c r) 33 c (-J 1)) 21 0 (J (c + 1))
theorem cls_add {c kd : Nat} {l r : Int32} {τ : St} (h21 : gI τ 21 0 = J c) (hc : c < 40) (hk : kd < 128) : fX1_add N τ (J kd) l r = some (J c, addS τ c kd l r) := by
  unfold fX1_add addS
  have hd : decide (c < 40) = true := decide_eq_true hc
  have hk' := isK_J hk
  have e : c + 1 - 1 = c := by omega
  simp (decide := true) (disch := omega) only [letS_d, grd_t, bnd_d, bnd1_d, bndX_d, bndX_e, gI_sI, gI_sL, gL_sL, gL_sI, upd_at, updL_at, J_lit, J_add, J_mul, J_sub, J_lt, J_le, J_inj, J_ne, ne_J, m_lt, lt_m, m_le, le_m, J_cl, J_inB, if_true, if_false, ite_true, ite_false, reduceIte, isZ0, isZ1, J_and31, shrJ0, shlJ0, gI_sA, gL_sA, Nat.reduceEqDiff, Nat.reduceAdd, Nat.reduceMul, Nat.reduceLT, Nat.reduceLeDiff, h21, hc, decide_true, hd, hk', e]
theorem addS_fr {c kd : Nat} {l r : Int32} {τ : St} : Fr [21, 30, 31, 32, 33] τ (addS τ c kd l r) := ((((Fr.i (by decide)).tr (Fr.i (by decide))).tr (Fr.i (by decide))).tr (Fr.i (by decide))).tr (Fr.i (by decide))
theorem addS_ne {c kd : Nat} {l r : Int32} {τ : St} {i : Nat} (h : ¬ i = c) : gI (addS τ c kd l r) 30 i = gI τ 30 i ∧ gI (addS τ c kd l r) 31 i = gI τ 31 i ∧ gI (addS τ c kd l r) 32 i = gI τ 32 i ∧ gI (addS τ c kd l r) 33 i = gI τ 33 i := by
  unfold addS
  exact ⟨by simp (decide := true) (disch := omega) only [letS_d, grd_t, bnd_d, bnd1_d, bndX_d, bndX_e, gI_sI, gI_sL, gL_sL, gL_sI, upd_at, updL_at, J_lit, J_add, J_mul, J_sub, J_lt, J_le, J_inj, J_ne, ne_J, m_lt, lt_m, m_le, le_m, J_cl, J_inB, if_true, if_false, ite_true, ite_false, reduceIte, isZ0, isZ1, J_and31, shrJ0, shlJ0, gI_sA, gL_sA, Nat.reduceEqDiff, Nat.reduceAdd, Nat.reduceMul, Nat.reduceLT, Nat.reduceLeDiff, h], by simp (decide := true) (disch := omega) only [letS_d, grd_t, bnd_d, bnd1_d, bndX_d, bndX_e, gI_sI, gI_sL, gL_sL, gL_sI, upd_at, updL_at, J_lit, J_add, J_mul, J_sub, J_lt, J_le, J_inj, J_ne, ne_J, m_lt, lt_m, m_le, le_m, J_cl, J_inB, if_true, if_false, ite_true, ite_false, reduceIte, isZ0, isZ1, J_and31, shrJ0, shlJ0, gI_sA, gL_sA, Nat.reduceEqDiff, Nat.reduceAdd, Nat.reduceMul, Nat.reduceLT, Nat.reduceLeDiff, h], by simp (decide := true) (disch := omega) only [letS_d, grd_t, bnd_d, bnd1_d, bndX_d, bndX_e, gI_sI, gI_sL, gL_sL, gL_sI, upd_at, updL_at, J_lit, J_add, J_mul, J_sub, J_lt, J_le, J_inj, J_ne, ne_J, m_lt, lt_m, m_le, le_m, J_cl, J_inB, if_true, if_false, ite_true, ite_false, reduceIte, isZ0, isZ1, J_and31, shrJ0, shlJ0, gI_sA, gL_sA, Nat.reduceEqDiff, Nat.reduceAdd, Nat.reduceMul, Nat.reduceLT, Nat.reduceLeDiff, h], by simp (decide := true) (disch := omega) only [letS_d, grd_t, bnd_d, bnd1_d, bndX_d, bndX_e, gI_sI, gI_sL, gL_sL, gL_sI, upd_at, updL_at, J_lit, J_add, J_mul, J_sub, J_lt, J_le, J_inj, J_ne, ne_J, m_lt, lt_m, m_le, le_m, J_cl, J_inB, if_true, if_false, ite_true, ite_false, reduceIte, isZ0, isZ1, J_and31, shrJ0, shlJ0, gI_sA, gL_sA, Nat.reduceEqDiff, Nat.reduceAdd, Nat.reduceMul, Nat.reduceLT, Nat.reduceLeDiff, h]⟩
theorem addS_at {c kd : Nat} {l r : Int32} {τ : St} : gI (addS τ c kd l r) 30 c = J kd ∧ gI (addS τ c kd l r) 31 c = l ∧ gI (addS τ c kd l r) 32 c = r ∧ gI (addS τ c kd l r) 33 c = -J 1 ∧ gI (addS τ c kd l r) 21 0 = J (c + 1) := by
  unfold addS
  exact ⟨by simp (decide := true) (disch := omega) only [letS_d, grd_t, bnd_d, bnd1_d, bndX_d, bndX_e, gI_sI, gI_sL, gL_sL, gL_sI, upd_at, updL_at, J_lit, J_add, J_mul, J_sub, J_lt, J_le, J_inj, J_ne, ne_J, m_lt, lt_m, m_le, le_m, J_cl, J_inB, if_true, if_false, ite_true, ite_false, reduceIte, isZ0, isZ1, J_and31, shrJ0, shlJ0, gI_sA, gL_sA, Nat.reduceEqDiff, Nat.reduceAdd, Nat.reduceMul, Nat.reduceLT, Nat.reduceLeDiff], by simp (decide := true) (disch := omega) only [letS_d, grd_t, bnd_d, bnd1_d, bndX_d, bndX_e, gI_sI, gI_sL, gL_sL, gL_sI, upd_at, updL_at, J_lit, J_add, J_mul, J_sub, J_lt, J_le, J_inj, J_ne, ne_J, m_lt, lt_m, m_le, le_m, J_cl, J_inB, if_true, if_false, ite_true, ite_false, reduceIte, isZ0, isZ1, J_and31, shrJ0, shlJ0, gI_sA, gL_sA, Nat.reduceEqDiff, Nat.reduceAdd, Nat.reduceMul, Nat.reduceLT, Nat.reduceLeDiff], by simp (decide := true) (disch := omega) only [letS_d, grd_t, bnd_d, bnd1_d, bndX_d, bndX_e, gI_sI, gI_sL, gL_sL, gL_sI, upd_at, updL_at, J_lit, J_add, J_mul, J_sub, J_lt, J_le, J_inj, J_ne, ne_J, m_lt, lt_m, m_le, le_m, J_cl, J_inB, if_true, if_false, ite_true, ite_false, reduceIte, isZ0, isZ1, J_and31, shrJ0, shlJ0, gI_sA, gL_sA, Nat.reduceEqDiff, Nat.reduceAdd, Nat.reduceMul, Nat.reduceLT, Nat.reduceLeDiff], by simp (decide := true) (disch := omega) only [letS_d, grd_t, bnd_d, bnd1_d, bndX_d, bndX_e, gI_sI, gI_sL, gL_sL, gL_sI, upd_at, updL_at, J_lit, J_add, J_mul, J_sub, J_lt, J_le, J_inj, J_ne, ne_J, m_lt, lt_m, m_le, le_m, J_cl, J_inB, if_true, if_false, ite_true, ite_false, reduceIte, isZ0, isZ1, J_and31, shrJ0, shlJ0, gI_sA, gL_sA, Nat.reduceEqDiff, Nat.reduceAdd, Nat.reduceMul, Nat.reduceLT, Nat.reduceLeDiff], by simp (decide := true) (disch := omega) only [letS_d, grd_t, bnd_d, bnd1_d, bndX_d, bndX_e, gI_sI, gI_sL, gL_sL, gL_sI, upd_at, updL_at, J_lit, J_add, J_mul, J_sub, J_lt, J_le, J_inj, J_ne, ne_J, m_lt, lt_m, m_le, le_m, J_cl, J_inB, if_true, if_false, ite_true, ite_false, reduceIte, isZ0, isZ1, J_and31, shrJ0, shlJ0, gI_sA, gL_sA, Nat.reduceEqDiff, Nat.reduceAdd, Nat.reduceMul, Nat.reduceLT, Nat.reduceLeDiff]⟩
theorem addS_ag {b e K L c kd : Nat} {l r : Int32} {τ : St} (he : e ≤ c) : Ag b e K L τ (addS τ c kd l r) := by
  have f := addS_fr (c := c) (kd := kd) (l := l) (r := r) (τ := τ)
  refine ⟨fun i h1 h2 => ?_, fun i h1 h2 => (addS_ne (by omega)).2.2.2, fun o h1 h2 => by rw [f.gi (by decide), f.gi (by decide)]; exact ⟨rfl, rfl⟩⟩
  obtain ⟨a1, a2, a3, a4⟩ := addS_ne (c := c) (kd := kd) (l := l) (r := r) (τ := τ) (i := i) (by omega)
  exact ⟨a1, a2, a3, by rw [f.gi (by decide)], by rw [f.gi (by decide)], by rw [f.gi (by decide)], by rw [f.gi (by decide)], by rw [f.gi (by decide)]⟩
/-- making a node an obligation -/
theorem cls_oblige {i k : Nat} {τ : St} (hi : i < 40) (hk : k ≤ 9) (h22 : gI τ 22 0 = J k) : ∃ τ', fX1_oblige N τ (J i) = some τ' ∧ Fr [22, 23, 33] τ τ' ∧ (∀ j, ¬ j = i → gI τ' 33 j = gI τ 33 j) ∧ ((¬ gI τ 33 i = -J 1 ∧ τ' = τ) ∨ (gI τ 33 i = -J 1 ∧ k < 9 ∧ gI τ' 33 i = J k ∧ gI τ' 22 0 = J (k + 1) ∧ gI τ' 23 0 = gI τ 23 0) ∨ (gI τ 33 i = -J 1 ∧ k = 9 ∧ gI τ' 23 0 = J 0 ∧ gI τ' 22 0 = J 9)) := by
  have hd : decide (i < 40) = true := decide_eq_true hi
  unfold fX1_oblige fX1_newObligation
  by_cases h33 : gI τ 33 i = -J 1
  · by_cases h9 : k < 9
    · have e : k + 1 - 1 = k := by omega
      refine ⟨sI (sI τ 22 0 (J (k + 1))) 33 i (J k), by simp (decide := true) (disch := omega) only [letS_d, grd_t, bnd_d, bnd1_d, bndX_d, bndX_e, gI_sI, gI_sL, gL_sL, gL_sI, upd_at, updL_at, J_lit, J_add, J_mul, J_sub, J_lt, J_le, J_inj, J_ne, ne_J, m_lt, lt_m, m_le, le_m, J_cl, J_inB, if_true, if_false, ite_true, ite_false, reduceIte, isZ0, isZ1, J_and31, shrJ0, shlJ0, gI_sA, gL_sA, Nat.reduceEqDiff, Nat.reduceAdd, Nat.reduceMul, Nat.reduceLT, Nat.reduceLeDiff, decide_true, hd, h33, h22, h9, e], (Fr.i (by decide)).tr (Fr.i (by decide)), fun j hj => by simp (decide := true) (disch := omega) only [letS_d, grd_t, bnd_d, bnd1_d, bndX_d, bndX_e, gI_sI, gI_sL, gL_sL, gL_sI, upd_at, updL_at, J_lit, J_add, J_mul, J_sub, J_lt, J_le, J_inj, J_ne, ne_J, m_lt, lt_m, m_le, le_m, J_cl, J_inB, if_true, if_false, ite_true, ite_false, reduceIte, isZ0, isZ1, J_and31, shrJ0, shlJ0, gI_sA, gL_sA, Nat.reduceEqDiff, Nat.reduceAdd, Nat.reduceMul, Nat.reduceLT, Nat.reduceLeDiff, hj], Or.inr (Or.inl ⟨h33, h9, by simp (decide := true) (disch := omega) only [letS_d, grd_t, bnd_d, bnd1_d, bndX_d, bndX_e, gI_sI, gI_sL, gL_sL, gL_sI, upd_at, updL_at, J_lit, J_add, J_mul, J_sub, J_lt, J_le, J_inj, J_ne, ne_J, m_lt, lt_m, m_le, le_m, J_cl, J_inB, if_true, if_false, ite_true, ite_false, reduceIte, isZ0, isZ1, J_and31, shrJ0, shlJ0, gI_sA, gL_sA, Nat.reduceEqDiff, Nat.reduceAdd, Nat.reduceMul, Nat.reduceLT, Nat.reduceLeDiff], by simp (decide := true) (disch := omega) only [letS_d, grd_t, bnd_d, bnd1_d, bndX_d, bndX_e, gI_sI, gI_sL, gL_sL, gL_sI, upd_at, updL_at, J_lit, J_add, J_mul, J_sub, J_lt, J_le, J_inj, J_ne, ne_J, m_lt, lt_m, m_le, le_m, J_cl, J_inB, if_true, if_false, ite_true, ite_false, reduceIte, isZ0, isZ1, J_and31, shrJ0, shlJ0, gI_sA, gL_sA, Nat.reduceEqDiff, Nat.reduceAdd, Nat.reduceMul, Nat.reduceLT, Nat.reduceLeDiff], by simp (decide := true) (disch := omega) only [letS_d, grd_t, bnd_d, bnd1_d, bndX_d, bndX_e, gI_sI, gI_sL, gL_sL, gL_sI, upd_at, updL_at, J_lit, J_add, J_mul, J_sub, J_lt, J_le, J_inj, J_ne, ne_J, m_lt, lt_m, m_le, le_m, J_cl, J_inB, if_true, if_false, ite_true, ite_false, reduceIte, isZ0, isZ1, J_and31, shrJ0, shlJ0, gI_sA, gL_sA, Nat.reduceEqDiff, Nat.reduceAdd, Nat.reduceMul, Nat.reduceLT, Nat.reduceLeDiff]⟩)⟩
    · obtain rfl : k = 9 := by omega
      refine ⟨sI (sI τ 23 0 (J 0)) 33 i (-J 1), by simp (decide := true) (disch := omega) only [letS_d, grd_t, bnd_d, bnd1_d, bndX_d, bndX_e, gI_sI, gI_sL, gL_sL, gL_sI, upd_at, updL_at, J_lit, J_add, J_mul, J_sub, J_lt, J_le, J_inj, J_ne, ne_J, m_lt, lt_m, m_le, le_m, J_cl, J_inB, if_true, if_false, ite_true, ite_false, reduceIte, isZ0, isZ1, J_and31, shrJ0, shlJ0, gI_sA, gL_sA, Nat.reduceEqDiff, Nat.reduceAdd, Nat.reduceMul, Nat.reduceLT, Nat.reduceLeDiff, decide_true, hd, h33, h22], (Fr.i (by decide)).tr (Fr.i (by decide)), fun j hj => by simp (decide := true) (disch := omega) only [letS_d, grd_t, bnd_d, bnd1_d, bndX_d, bndX_e, gI_sI, gI_sL, gL_sL, gL_sI, upd_at, updL_at, J_lit, J_add, J_mul, J_sub, J_lt, J_le, J_inj, J_ne, ne_J, m_lt, lt_m, m_le, le_m, J_cl, J_inB, if_true, if_false, ite_true, ite_false, reduceIte, isZ0, isZ1, J_and31, shrJ0, shlJ0, gI_sA, gL_sA, Nat.reduceEqDiff, Nat.reduceAdd, Nat.reduceMul, Nat.reduceLT, Nat.reduceLeDiff, hj], Or.inr (Or.inr ⟨h33, rfl, by simp (decide := true) (disch := omega) only [letS_d, grd_t, bnd_d, bnd1_d, bndX_d, bndX_e, gI_sI, gI_sL, gL_sL, gL_sI, upd_at, updL_at, J_lit, J_add, J_mul, J_sub, J_lt, J_le, J_inj, J_ne, ne_J, m_lt, lt_m, m_le, le_m, J_cl, J_inB, if_true, if_false, ite_true, ite_false, reduceIte, isZ0, isZ1, J_and31, shrJ0, shlJ0, gI_sA, gL_sA, Nat.reduceEqDiff, Nat.reduceAdd, Nat.reduceMul, Nat.reduceLT, Nat.reduceLeDiff], by simp (decide := true) (disch := omega) only [letS_d, grd_t, bnd_d, bnd1_d, bndX_d, bndX_e, gI_sI, gI_sL, gL_sL, gL_sI, upd_at, updL_at, J_lit, J_add, J_mul, J_sub, J_lt, J_le, J_inj, J_ne, ne_J, m_lt, lt_m, m_le, le_m, J_cl, J_inB, if_true, if_false, ite_true, ite_false, reduceIte, isZ0, isZ1, J_and31, shrJ0, shlJ0, gI_sA, gL_sA, Nat.reduceEqDiff, Nat.reduceAdd, Nat.reduceMul, Nat.reduceLT, Nat.reduceLeDiff]; exact h22⟩)⟩
  · exact ⟨τ, by simp (decide := true) (disch := omega) only [letS_d, grd_t, bnd_d, bnd1_d, bndX_d, bndX_e, gI_sI, gI_sL, gL_sL, gL_sI, upd_at, updL_at, J_lit, J_add, J_mul, J_sub, J_lt, J_le, J_inj, J_ne, ne_J, m_lt, lt_m, m_le, le_m, J_cl, J_inB, if_true, if_false, ite_true, ite_false, reduceIte, isZ0, isZ1, J_and31, shrJ0, shlJ0, gI_sA, gL_sA, Nat.reduceEqDiff, Nat.reduceAdd, Nat.reduceMul, Nat.reduceLT, Nat.reduceLeDiff, decide_true, hd, h33], Fr.rf, fun _ _ => rfl, Or.inl ⟨h33, rfl⟩⟩
theorem Nx_oblige {i K : Nat} {τ : St} (hi : i < 40) (h : Nx K τ) : ∃ τ', fX1_oblige N τ (J i) = some τ' ∧ Fr [22, 23, 33] τ τ' ∧ (∀ j, ¬ j = i → gI τ' 33 j = gI τ 33 j) ∧ Nx K τ' := by
  obtain ⟨h1, k, k1, k2, k3⟩ := h
  obtain ⟨τ', e1, e2, e3, e4⟩ := cls_oblige (N := N) hi k2 k3
  refine ⟨τ', e1, e2, e3, ?_⟩
  rcases e4 with ⟨_, rfl⟩ | ⟨_, q1, _, q2, q3⟩ | ⟨_, q1, q2, q3⟩
  · exact ⟨h1, k, k1, k2, k3⟩
  · exact ⟨by rw [q3]; exact h1, k + 1, by omega, by omega, q2⟩
  · exact ⟨q2, 9, by omega, by omega, q3⟩
/-- nodes below stay -/
def Lo (b : Nat) (τ τ' : St) : Prop := ∀ i, i < b → gI τ' 30 i = gI τ 30 i ∧ gI τ' 31 i = gI τ 31 i ∧ gI τ' 32 i = gI τ 32 i ∧ gI τ' 33 i = gI τ 33 i ∧ gI τ' 34 i = gI τ 34 i ∧ gI τ' 35 i = gI τ 35 i ∧ gI τ' 36 i = gI τ 36 i ∧ gI τ' 37 i = gI τ 37 i ∧ gI τ' 38 i = gI τ 38 i
theorem Lo.rf {b : Nat} {τ : St} : Lo b τ τ := fun _ _ => ⟨rfl, rfl, rfl, rfl, rfl, rfl, rfl, rfl, rfl⟩
theorem Lo.tr {b : Nat} {x y z : St} (h : Lo b x y) (h2 : Lo b y z) : Lo b x z := fun i hi => by
  obtain ⟨a1, a2, a3, a4, a5, a6, a7, a8, a9⟩ := h i hi
  obtain ⟨b1, b2, b3, b4, b5, b6, b7, b8, b9⟩ := h2 i hi
  exact ⟨b1.trans a1, b2.trans a2, b3.trans a3, b4.trans a4, b5.trans a5, b6.trans a6, b7.trans a7, b8.trans a8, b9.trans a9⟩
theorem Lo.le {b e : Nat} {x y : St} (h : Lo e x y) (hb : b ≤ e) : Lo b x y := fun i hi => h i (by omega)
theorem Lo.of {b : Nat} {τ τ' : St} {S : List Nat} (f : Fr S τ τ') (d : ∀ k ∈ [30, 31, 32, 33, 34, 35, 36, 37, 38], k ∉ S) : Lo b τ τ' := fun i _ => by
  rw [f.gi (d 30 (by decide)), f.gi (d 31 (by decide)), f.gi (d 32 (by decide)), f.gi (d 33 (by decide)), f.gi (d 34 (by decide)), f.gi (d 35 (by decide)), f.gi (d 36 (by decide)), f.gi (d 37 (by decide)), f.gi (d 38 (by decide))]
  exact ⟨rfl, rfl, rfl, rfl, rfl, rfl, rfl, rfl, rfl⟩
theorem Lo.add {b c kd : Nat} {l r : Int32} {τ : St} (hc : b ≤ c) : Lo b τ (addS τ c kd l r) := fun i hi => by
  have f := addS_fr (c := c) (kd := kd) (l := l) (r := r) (τ := τ)
  obtain ⟨a1, a2, a3, a4⟩ := addS_ne (c := c) (kd := kd) (l := l) (r := r) (τ := τ) (i := i) (by omega)
  exact ⟨a1, a2, a3, a4, by rw [f.gi (by decide)], by rw [f.gi (by decide)], by rw [f.gi (by decide)], by rw [f.gi (by decide)], by rw [f.gi (by decide)]⟩
theorem Lo.ob {b i : Nat} {τ τ' : St} (f : Fr [22, 23, 33] τ τ') (h : ∀ j, ¬ j = i → gI τ' 33 j = gI τ 33 j) (hi : b ≤ i) : Lo b τ τ' := fun j hj => by
  rw [f.gi (k := 30) (by decide), f.gi (k := 31) (by decide), f.gi (k := 32) (by decide), f.gi (k := 34) (by decide), f.gi (k := 35) (by decide), f.gi (k := 36) (by decide), f.gi (k := 37) (by decide), f.gi (k := 38) (by decide)]
  exact ⟨rfl, rfl, rfl, h j (by omega), rfl, rfl, rfl, rfl, rfl⟩
theorem Lo.ag {b e K L : Nat} {τ τ' : St} (h : Lo e τ τ') (hk : Kp L τ τ') : Ag b e K L τ τ' := ⟨fun i _ h2 => by
  obtain ⟨a1, a2, a3, a4, a5, a6, a7, a8, a9⟩ := h i h2
  exact ⟨a1, a2, a3, a5, a6, a7, a8, a9⟩, fun i _ h2 => (h i (by omega)).2.2.2.1, fun o _ h2 => hk o h2⟩
/-- a property that fits -/
def Px (t : Term) (b K : Nat) (τ : St) : Prop := gI τ 23 0 = J 1 ∧ gI τ 22 0 = J (K + oC t) ∧ K + oC t ≤ 9 ∧ RC τ t b K ∧ gI τ 33 (b + nC t - 1) = tob t K false
/-- how a read of a property ends, fitting or not -/
def Pw (t : Term) (b K : Nat) (τ0 τ : St) : Prop := (gI τ0 23 0 = J 1 ∧ Px t b K τ ∧ Kp K τ0 τ) ∨ (Nx K τ ∧ (gI τ0 23 0 = J 1 → 9 < K + oC t))
def PO (ch : Nat → Nat) (ln p b K : Nat) (r : PR) (τ : St) (z : Option (Int32 × Int32 × St)) : Prop := match r with
  | (q, some t) => ∃ τ', z = some (J 0, J (b + nC t - 1), τ') ∧ Fr [21, 22, 23, 24, 25, 30, 31, 32, 33, 34, 35, 36, 37, 38, 43, 45, 46] τ τ' ∧ Rd ch ln q τ' ∧ gI τ' 21 0 = J (b + nC t) ∧ p + nC t ≤ q ∧ Lo b τ τ' ∧ Pw t b K τ τ'
  | (q, none) => ∃ τ', z = some (J 1, J 0, τ') ∧ Fr [21, 22, 23, 24, 25, 30, 31, 32, 33, 34, 35, 36, 37, 38, 43, 44, 45, 46] τ τ' ∧ gI τ' 44 0 = J q
theorem Pw.pre {t : Term} {b K : Nat} {τ00 τ0 τ : St} {S : List Nat} (h : Pw t b K τ0 τ) (f : Fr S τ00 τ0) (d : ∀ k ∈ [23, 24, 25], k ∉ S) : Pw t b K τ00 τ := by
  have e : gI τ0 23 0 = gI τ00 23 0 := by rw [f.gi (d 23 (by decide))]
  unfold Pw at h ⊢
  rw [e] at h
  rcases h with ⟨a, b, c⟩ | h
  · exact Or.inl ⟨a, b, (Kp.of f (fun k hk => d k (by simp at hk ⊢; omega))).tr c⟩
  · exact Or.inr h
theorem tob_own {t : Term} {K : Nat} {x y : Bool} (h : own t = true) : tob t K x = tob t K y := by
  unfold tob
  rw [if_pos h, if_pos h]
theorem tob_ne {t : Term} {K : Nat} (h : own t = true) (hK : K + oC t ≤ 9) : ¬ tob t K false = -J 1 := by
  unfold tob
  rw [if_pos h, J_ne (by omega)]
  exact id
theorem tob_no {t : Term} {K : Nat} (h : ¬ own t = true) : tob t K false = -J 1 := by
  unfold tob
  rw [if_neg h, if_neg (by decide)]
/-- the end of G -/
theorem fin_sum {t : Term} {b K c : Nat} {τ0 τ1 : St} (hc : c = b + nC t) (hc40 : c < 40) (h21 : gI τ1 21 0 = J c) (h : Pw t b K τ0 τ1) : ∃ τ3, (bnd (fX1_add N τ1 (J 71) (J (c - 1)) (-J 1)) fun r8 σ7 => bnd1 (fX1_oblige N σ7 r8) fun σ9 => some (J 0, r8, σ9)) = some (J 0, J c, τ3) ∧ Fr [21, 22, 23, 30, 31, 32, 33] τ1 τ3 ∧ gI τ3 21 0 = J (c + 1) ∧ Lo c τ1 τ3 ∧ Pw (.sum t) b K τ0 τ3 := by
  have np := nC_pos t
  have hadd := cls_add (N := N) (kd := 71) (l := J (c - 1)) (r := -J 1) h21 hc40 (by omega)
  obtain ⟨s1, s2, s3, s4, s5⟩ := addS_at (c := c) (kd := 71) (l := J (c - 1)) (r := -J 1) (τ := τ1)
  have f := addS_fr (c := c) (kd := 71) (l := J (c - 1)) (r := -J 1) (τ := τ1)
  have hlo := Lo.add (b := c) (c := c) (kd := 71) (l := J (c - 1)) (r := -J 1) (τ := τ1) (Nat.le_refl _)
  generalize addS τ1 c 71 (J (c - 1)) (-J 1) = τ2 at *
  have hoC : oC (.sum t) = oC t + 1 := rfl
  have hnC : nC (.sum t) = nC t + 1 := rfl
  rcases h with ⟨g1, ⟨g2, g3, g4, g5, g6⟩, g7⟩ | ⟨g1, g2⟩
  · obtain ⟨τ3, e1, e2, e3, e4⟩ := cls_oblige (N := N) hc40 g4 (τ := τ2) (by rw [f.gi (by decide)]; exact g3)
    have hlo3 := hlo.tr (Lo.ob e2 e3 (Nat.le_refl c))
    have hfr : Fr [21, 22, 23, 30, 31, 32, 33] τ1 τ3 := (f.mono (by decide)).tr (e2.mono (by decide))
    have hkp : ∀ L, Kp L τ1 τ3 := fun L => Kp.of hfr (by decide)
    refine ⟨τ3, by rw [hadd, bnd_d, e1, bnd1_d], hfr, by rw [e2.gi (by decide)]; exact s5, hlo3, ?_⟩
    rcases e4 with ⟨q1, _⟩ | ⟨q1, q2, q3, q4, q5⟩ | ⟨q1, q2, q3, q4⟩
    · exact absurd s4 q1
    · left
      refine ⟨g1, ⟨by rw [q5, f.gi (by decide)]; exact g2, by rw [hoC, ← Nat.add_assoc]; exact q4, by rw [hoC]; omega, ⟨RC_keep t b K ((hlo3.ag (b := b) (K := K) (hkp (K + oC t))).sub (Nat.le_refl _) (by omega) (Nat.le_refl _) (Nat.le_refl _)) g5, ?_, ?_, ?_⟩, ?_⟩, g7.tr (hkp K)⟩
      · rw [(hlo3 (b + nC t - 1) (by omega)).2.2.2.1]
        exact g6
      · rw [← hc, e2.gi (by decide)]
        exact s1
      · rw [← hc, e2.gi (by decide)]
        exact s2
      · rw [show b + nC (.sum t) - 1 = c from by rw [hnC]; omega, q3]
        unfold tob
        rw [if_pos (show own (.sum t) = true from rfl), hoC]
        congr 1
    · right
      exact ⟨⟨q3, 9, by omega, by omega, q4⟩, fun _ => by rw [hoC]; omega⟩
  · obtain ⟨τ3, e1, e2, e3, e4⟩ := Nx_oblige (N := N) (i := c) hc40 (g1.fr f (by decide))
    exact ⟨τ3, by rw [hadd, bnd_d, e1, bnd1_d], (f.mono (by decide)).tr (e2.mono (by decide)), by rw [e2.gi (by decide)]; exact s5, hlo.tr (Lo.ob e2 e3 (Nat.le_refl c)), Or.inr ⟨e4, fun h9 => by have := g2 h9; rw [hoC]; omega⟩⟩
/-- a part made an obligation -/
theorem fin_ob {t : Term} {b K : Nat} {τ0 τ1 : St} (hc40 : b + nC t ≤ 40) (h : Pw t b K τ0 τ1) : ∃ τ2, fX1_oblige N τ1 (J (b + nC t - 1)) = some τ2 ∧ Fr [22, 23, 33] τ1 τ2 ∧ Lo b τ1 τ2 ∧ ((gI τ0 23 0 = J 1 ∧ (gI τ2 23 0 = J 1 ∧ gI τ2 22 0 = J (K + (oC t + (if own t = true then 0 else 1))) ∧ K + (oC t + (if own t = true then 0 else 1)) ≤ 9 ∧ RC τ2 t b K ∧ gI τ2 33 (b + nC t - 1) = tob t K true) ∧ Kp K τ0 τ2) ∨ (Nx K τ2 ∧ (gI τ0 23 0 = J 1 → 9 < K + (oC t + (if own t = true then 0 else 1))))) := by
  have np := nC_pos t
  rcases h with ⟨g1, ⟨g2, g3, g4, g5, g6⟩, g7⟩ | ⟨g1, g2⟩
  · obtain ⟨τ2, e1, e2, e3, e4⟩ := cls_oblige (N := N) (i := b + nC t - 1) (by omega) g4 g3
    have hlo := Lo.ob e2 e3 (show b ≤ b + nC t - 1 by omega)
    have hkp : ∀ L, Kp L τ1 τ2 := fun L => Kp.of e2 (by decide)
    have hag : Ag b (b + nC t) K (K + oC t) τ1 τ2 := ⟨fun i _ _ => by
      rw [e2.gi (by decide), e2.gi (by decide), e2.gi (by decide), e2.gi (by decide), e2.gi (by decide), e2.gi (by decide), e2.gi (by decide), e2.gi (by decide)]
      exact ⟨rfl, rfl, rfl, rfl, rfl, rfl, rfl, rfl⟩, fun i _ h2 => e3 i (by omega), fun o _ _ => hkp (o + 1) o (by omega)⟩
    refine ⟨τ2, e1, e2, hlo, ?_⟩
    by_cases ho : own t = true
    · rw [if_pos ho]
      have hne := tob_ne (K := K) ho g4
      rcases e4 with ⟨q1, rfl⟩ | ⟨q1, _⟩ | ⟨q1, _⟩
      · exact Or.inl ⟨g1, ⟨g2, g3, g4, g5, by rw [tob_own ho (y := false)]; exact g6⟩, g7⟩
      · rw [g6] at q1
        exact absurd q1 hne
      · rw [g6] at q1
        exact absurd q1 hne
    · rw [if_neg ho]
      have hno := tob_no (K := K) ho
      rw [hno] at g6
      rcases e4 with ⟨q1, _⟩ | ⟨q1, q2, q3, q4, q5⟩ | ⟨q1, q2, q3, q4⟩
      · exact absurd g6 q1
      · left
        refine ⟨g1, ⟨by rw [q5]; exact g2, by rw [← Nat.add_assoc]; exact q4, by omega, RC_keep t b K hag g5, ?_⟩, g7.tr (hkp K)⟩
        rw [q3]
        unfold tob
        rw [if_neg ho, if_pos rfl]
      · right
        exact ⟨⟨q3, 9, by omega, by omega, q4⟩, fun _ => by omega⟩
  · obtain ⟨τ2, e1, e2, e3, e4⟩ := Nx_oblige (N := N) (i := b + nC t - 1) (by omega) g1
    refine ⟨τ2, e1, e2, Lo.ob e2 e3 (by omega), Or.inr ⟨e4, fun h9 => ?_⟩⟩
    have := g2 h9
    omega
/-- the end of X -/
theorem fin_old {t : Term} {b K c : Nat} {τ0 τ1 : St} (hc : c = b + nC t) (hc40 : c < 40) (h21 : gI τ1 21 0 = J c) (h : Pw t b K τ0 τ1) : ∃ τ3, (bnd1 (fX1_oblige N τ1 (J (c - 1))) fun σ7 => bnd (fX1_add N σ7 (J 88) (J (c - 1)) (-J 1)) fun r9 σ8 => some (J 0, r9, σ8)) = some (J 0, J c, τ3) ∧ Fr [21, 22, 23, 30, 31, 32, 33] τ1 τ3 ∧ gI τ3 21 0 = J (c + 1) ∧ Lo b τ1 τ3 ∧ Pw (.old t) b K τ0 τ3 := by
  have np := nC_pos t
  subst hc
  obtain ⟨τ2, e1, e2, e3, e4⟩ := fin_ob (N := N) (by omega) h
  have h21' : gI τ2 21 0 = J (b + nC t) := by rw [e2.gi (by decide)]; exact h21
  have hadd := cls_add (N := N) (kd := 88) (l := J (b + nC t - 1)) (r := -J 1) h21' hc40 (by omega)
  obtain ⟨s1, s2, s3, s4, s5⟩ := addS_at (c := b + nC t) (kd := 88) (l := J (b + nC t - 1)) (r := -J 1) (τ := τ2)
  have f := addS_fr (c := b + nC t) (kd := 88) (l := J (b + nC t - 1)) (r := -J 1) (τ := τ2)
  have hlo := Lo.add (b := b + nC t) (c := b + nC t) (kd := 88) (l := J (b + nC t - 1)) (r := -J 1) (τ := τ2) (Nat.le_refl _)
  generalize addS τ2 (b + nC t) 88 (J (b + nC t - 1)) (-J 1) = τ3 at *
  have hoC : oC (.old t) = oC t + (if own t = true then 0 else 1) := rfl
  have hnC : nC (.old t) = nC t + 1 := rfl
  have hkp : ∀ L, Kp L τ2 τ3 := fun L => Kp.of f (by decide)
  refine ⟨τ3, by rw [e1, bnd1_d, hadd, bnd_d], (e2.mono (by decide)).tr (f.mono (by decide)), s5, e3.tr (hlo.le (by omega)), ?_⟩
  rcases e4 with ⟨g1, ⟨g2, g3, g4, g5, g6⟩, g7⟩ | ⟨g1, g2⟩
  · left
    refine ⟨g1, ⟨by rw [f.gi (by decide)]; exact g2, by rw [hoC, f.gi (by decide)]; exact g3, by rw [hoC]; exact g4, ⟨RC_keep t b K ((hlo.ag (b := b) (K := K) (hkp (K + oC t))).sub (Nat.le_refl _) (by omega) (Nat.le_refl _) (Nat.le_refl _)) g5, ?_, s1, s2⟩, ?_⟩, g7.tr (hkp K)⟩
    · rw [(hlo (b + nC t - 1) (by omega)).2.2.2.1]
      exact g6
    · rw [show b + nC (.old t) - 1 = b + nC t from by rw [hnC]; omega, s4]
      rfl
  · exact Or.inr ⟨g1.fr f (by decide), fun h9 => by rw [hoC]; exact g2 h9⟩
end PRP
