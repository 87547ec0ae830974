/-! the reference collects its obligations: properties -/
/-- how many properties within one are obligations, and which -/
def prC : Term → Nat
  | .add p q => prC p + prC q
  | .sub p q => prC p + prC q
  | .mul p q => prC p + prC q + 1
  | .sum p => prC p + 1
  | .old p => prC p + (if own p = true then 0 else 1)
  | .div _ p => prC p
  | .rem _ p => prC p + (if own p = true then 0 else 1)
  | _ => 0
def kQ : Term → Nat → Nat → Nat
  | .add p q, x, i => if i < prC p then kQ p (x + 1) i else kQ q (x + 1 + nN p) (i - prC p)
  | .sub p q, x, i => if i < prC p then kQ p (x + 1) i else kQ q (x + 1 + nN p) (i - prC p)
  | .mul p q, x, i => if i < prC p then kQ p (x + 1) i else if i < prC p + prC q then kQ q (x + 1 + nN p) (i - prC p) else x
  | .sum p, x, i => if i < prC p then kQ p (x + 1) i else x
  | .old p, x, i => if i < prC p then kQ p (x + 1) i else x + 1
  | .div s p, x, i => kQ p (x + 2 + nN s) i
  | .rem s p, x, i => if i < prC p then kQ p (x + 2 + nN s) i else x + 2 + nN s
  | _, x, _ => x
theorem oC_eq : ∀ t, oC t = prC t + pC t := by
  intro t
  induction t using tind with
  | h t ih =>
    cases t with
    | add p q =>
      have h1 := ih p (by simp; omega)
      have h2 := ih q (by simp; omega)
      show oC p + oC q = prC p + prC q + (pC p + pC q)
      omega
    | sub p q =>
      have h1 := ih p (by simp; omega)
      have h2 := ih q (by simp; omega)
      show oC p + oC q = prC p + prC q + (pC p + pC q)
      omega
    | mul p q =>
      have h1 := ih p (by simp; omega)
      have h2 := ih q (by simp; omega)
      show oC p + oC q + 1 = prC p + prC q + 1 + (pC p + pC q)
      omega
    | sum p =>
      have h1 := ih p (by simp)
      show oC p + 1 = prC p + 1 + pC p
      omega
    | old p =>
      have h1 := ih p (by simp)
      show oC p + _ = prC p + _ + pC p
      omega
    | div s p =>
      have h1 := ih p (by simp; omega)
      show len s + oC p = prC p + (len s + pC p)
      omega
    | rem s p =>
      have h1 := ih p (by simp; omega)
      show len s + oC p + _ = prC p + _ + (len s + pC p)
      omega
    | _ => rfl
/-- they lie within, and the top is one just if it is its own -/
theorem kQ_own {t : Term} (h : own t = true) (x : Nat) : 1 ≤ prC t ∧ kQ t x (prC t - 1) = x := by
  cases t with
  | sum p =>
    have e : prC (.sum p) = prC p + 1 := rfl
    rw [e]
    refine ⟨by omega, ?_⟩
    show (if prC p + 1 - 1 < prC p then _ else _) = _
    rw [if_neg (by omega)]
  | mul p q =>
    have e : prC (.mul p q) = prC p + prC q + 1 := rfl
    rw [e]
    refine ⟨by omega, ?_⟩
    show (if prC p + prC q + 1 - 1 < prC p then _ else if prC p + prC q + 1 - 1 < prC p + prC q then _ else _) = _
    rw [if_neg (by omega), if_neg (by omega)]
  | _ => cases h
theorem kQ_in : ∀ t x i, ok t → sh t = 0 → i < prC t → x ≤ kQ t x i ∧ kQ t x i < x + nN t ∧ (kQ t x i = x → own t = true) := by
  intro t
  induction t using tind with
  | h t ih =>
    intro x i hok hsh hi
    cases t with
    | add p q =>
      have e : nN (.add p q) = 1 + nN p + nN q := rfl
      have hi : i < prC p + prC q := hi
      by_cases h1 : i < prC p
      · rw [show kQ (.add p q) x i = kQ p (x + 1) i from if_pos h1, e]
        have := ih p (by simp; omega) (x + 1) i hok.2.1 hok.1.1 h1
        exact ⟨by omega, by omega, fun h => by omega⟩
      · rw [show kQ (.add p q) x i = kQ q (x + 1 + nN p) (i - prC p) from if_neg h1, e]
        have := ih q (by simp; omega) (x + 1 + nN p) (i - prC p) hok.2.2 hok.1.2 (by omega)
        exact ⟨by omega, by omega, fun h => by omega⟩
    | sub p q =>
      have e : nN (.sub p q) = 1 + nN p + nN q := rfl
      have hi : i < prC p + prC q := hi
      by_cases h1 : i < prC p
      · rw [show kQ (.sub p q) x i = kQ p (x + 1) i from if_pos h1, e]
        have := ih p (by simp; omega) (x + 1) i hok.2.1 hok.1.1 h1
        exact ⟨by omega, by omega, fun h => by omega⟩
      · rw [show kQ (.sub p q) x i = kQ q (x + 1 + nN p) (i - prC p) from if_neg h1, e]
        have := ih q (by simp; omega) (x + 1 + nN p) (i - prC p) hok.2.2 hok.1.2 (by omega)
        exact ⟨by omega, by omega, fun h => by omega⟩
    | mul p q =>
      have e : nN (.mul p q) = 1 + nN p + nN q := rfl
      by_cases h1 : i < prC p
      · rw [show kQ (.mul p q) x i = kQ p (x + 1) i from if_pos h1, e]
        have := ih p (by simp; omega) (x + 1) i hok.2.1 hok.1.1 h1
        exact ⟨by omega, by omega, fun h => by omega⟩
      · by_cases h2 : i < prC p + prC q
        · rw [show kQ (.mul p q) x i = kQ q (x + 1 + nN p) (i - prC p) from (if_neg h1).trans (if_pos h2), e]
          have := ih q (by simp; omega) (x + 1 + nN p) (i - prC p) hok.2.2 hok.1.2 (by omega)
          exact ⟨by omega, by omega, fun h => by omega⟩
        · rw [show kQ (.mul p q) x i = x from (if_neg h1).trans (if_neg h2), e]
          exact ⟨Nat.le_refl _, by omega, fun _ => rfl⟩
    | sum p =>
      have e : nN (.sum p) = 1 + nN p := rfl
      by_cases h1 : i < prC p
      · rw [show kQ (.sum p) x i = kQ p (x + 1) i from if_pos h1, e]
        have := ih p (by simp) (x + 1) i hok.2 hok.1 h1
        exact ⟨by omega, by omega, fun h => by omega⟩
      · rw [show kQ (.sum p) x i = x from if_neg h1, e]
        exact ⟨Nat.le_refl _, by omega, fun _ => rfl⟩
    | old p =>
      have e : nN (.old p) = 1 + nN p := rfl
      have hp := ok_nN p hok.2
      by_cases h1 : i < prC p
      · rw [show kQ (.old p) x i = kQ p (x + 1) i from if_pos h1, e]
        have := ih p (by simp) (x + 1) i hok.2 hok.1 h1
        exact ⟨by omega, by omega, fun h => by omega⟩
      · rw [show kQ (.old p) x i = x + 1 from if_neg h1, e]
        exact ⟨by omega, by omega, fun h => by omega⟩
    | div s p =>
      have e : nN (.div s p) = 2 + nN s + nN p := rfl
      have := ih p (by simp; omega) (x + 2 + nN s) i hok.2.2 hok.1.2 hi
      rw [show kQ (.div s p) x i = kQ p (x + 2 + nN s) i from rfl, e]
      exact ⟨by omega, by omega, fun h => by omega⟩
    | rem s p =>
      have e : nN (.rem s p) = 2 + nN s + nN p := rfl
      have hp := ok_nN p hok.2.2
      by_cases h1 : i < prC p
      · rw [show kQ (.rem s p) x i = kQ p (x + 2 + nN s) i from if_pos h1, e]
        have := ih p (by simp; omega) (x + 2 + nN s) i hok.2.2 hok.1.2 h1
        exact ⟨by omega, by omega, fun h => by omega⟩
      · rw [show kQ (.rem s p) x i = x + 2 + nN s from if_neg h1, e]
        exact ⟨by omega, by omega, fun h => by omega⟩
    | _ => exact absurd hi (Nat.not_lt_zero _)
theorem kQ_inj : ∀ t x i j, ok t → sh t = 0 → i < prC t → j < prC t → kQ t x i = kQ t x j → i = j := by
  have pair : ∀ (p q : Term) x i j, ok p → ok q → sh p = 0 → sh q = 0 → (∀ x i j, i < prC p → j < prC p → kQ p x i = kQ p x j → i = j) → (∀ x i j, i < prC q → j < prC q → kQ q x i = kQ q x j → i = j) → i < prC p + prC q → j < prC p + prC q → (if i < prC p then kQ p (x + 1) i else kQ q (x + 1 + nN p) (i - prC p)) = (if j < prC p then kQ p (x + 1) j else kQ q (x + 1 + nN p) (j - prC p)) → i = j := by
    intro p q x i j o1 o2 s1 s2 ip iq hi hj h
    by_cases h1 : i < prC p
    · have a := kQ_in p (x + 1) i o1 s1 h1
      rw [if_pos h1] at h
      by_cases h2 : j < prC p
      · rw [if_pos h2] at h
        exact ip _ i j h1 h2 h
      · have b := kQ_in q (x + 1 + nN p) (j - prC p) o2 s2 (by omega)
        rw [if_neg h2] at h
        omega
    · have a := kQ_in q (x + 1 + nN p) (i - prC p) o2 s2 (by omega)
      rw [if_neg h1] at h
      by_cases h2 : j < prC p
      · have b := kQ_in p (x + 1) j o1 s1 h2
        rw [if_pos h2] at h
        omega
      · rw [if_neg h2] at h
        have := iq _ _ _ (by omega) (by omega) h
        omega
  intro t
  induction t using tind with
  | h t ih =>
    intro x i j hok hsh hi hj h
    cases t with
    | add p q => exact pair p q x i j hok.2.1 hok.2.2 hok.1.1 hok.1.2 (fun x i j => ih p (by simp; omega) x i j hok.2.1 hok.1.1) (fun x i j => ih q (by simp; omega) x i j hok.2.2 hok.1.2) hi hj h
    | sub p q => exact pair p q x i j hok.2.1 hok.2.2 hok.1.1 hok.1.2 (fun x i j => ih p (by simp; omega) x i j hok.2.1 hok.1.1) (fun x i j => ih q (by simp; omega) x i j hok.2.2 hok.1.2) hi hj h
    | mul p q =>
      have hi : i < prC p + prC q + 1 := hi
      have hj : j < prC p + prC q + 1 := hj
      have low : ∀ i, i < prC p + prC q → kQ (.mul p q) x i = (if i < prC p then kQ p (x + 1) i else kQ q (x + 1 + nN p) (i - prC p)) ∧ x < kQ (.mul p q) x i := fun i hi => by
        by_cases h1 : i < prC p
        · have a := kQ_in p (x + 1) i hok.2.1 hok.1.1 h1
          rw [show kQ (.mul p q) x i = kQ p (x + 1) i from if_pos h1, if_pos h1]
          exact ⟨rfl, by omega⟩
        · have a := kQ_in q (x + 1 + nN p) (i - prC p) hok.2.2 hok.1.2 (by omega)
          rw [show kQ (.mul p q) x i = kQ q (x + 1 + nN p) (i - prC p) from (if_neg h1).trans (if_pos hi), if_neg h1]
          exact ⟨rfl, by omega⟩
      have top : ∀ i, ¬ i < prC p + prC q → kQ (.mul p q) x i = x := fun i hi => (if_neg (by omega)).trans (if_neg hi)
      by_cases h1 : i < prC p + prC q
      · by_cases h2 : j < prC p + prC q
        · rw [(low i h1).1, (low j h2).1] at h
          exact pair p q x i j hok.2.1 hok.2.2 hok.1.1 hok.1.2 (fun x i j => ih p (by simp; omega) x i j hok.2.1 hok.1.1) (fun x i j => ih q (by simp; omega) x i j hok.2.2 hok.1.2) h1 h2 h
        · have := (low i h1).2
          rw [h, top j h2] at this
          omega
      · by_cases h2 : j < prC p + prC q
        · have := (low j h2).2
          rw [← h, top i h1] at this
          omega
        · omega
    | sum p =>
      have hi : i < prC p + 1 := hi
      have hj : j < prC p + 1 := hj
      have h : (if i < prC p then kQ p (x + 1) i else x) = (if j < prC p then kQ p (x + 1) j else x) := h
      by_cases h1 : i < prC p
      · have a := kQ_in p (x + 1) i hok.2 hok.1 h1
        rw [if_pos h1] at h
        by_cases h2 : j < prC p
        · rw [if_pos h2] at h
          exact ih p (by simp) _ i j hok.2 hok.1 h1 h2 h
        · rw [if_neg h2] at h
          omega
      · rw [if_neg h1] at h
        by_cases h2 : j < prC p
        · have a := kQ_in p (x + 1) j hok.2 hok.1 h2
          rw [if_pos h2] at h
          omega
        · omega
    | old p =>
      have hi : i < prC p + (if own p = true then 0 else 1) := hi
      have hj : j < prC p + (if own p = true then 0 else 1) := hj
      have h : (if i < prC p then kQ p (x + 1) i else x + 1) = (if j < prC p then kQ p (x + 1) j else x + 1) := h
      by_cases ho : own p = true
      · rw [if_pos ho] at hi hj
        rw [if_pos (by omega), if_pos (by omega)] at h
        exact ih p (by simp) _ i j hok.2 hok.1 (by omega) (by omega) h
      · rw [if_neg ho] at hi hj
        by_cases h1 : i < prC p
        · have a := kQ_in p (x + 1) i hok.2 hok.1 h1
          rw [if_pos h1] at h
          by_cases h2 : j < prC p
          · rw [if_pos h2] at h
            exact ih p (by simp) _ i j hok.2 hok.1 h1 h2 h
          · rw [if_neg h2] at h
            exact absurd (a.2.2 h) ho
        · rw [if_neg h1] at h
          by_cases h2 : j < prC p
          · have a := kQ_in p (x + 1) j hok.2 hok.1 h2
            rw [if_pos h2] at h
            exact absurd (a.2.2 h.symm) ho
          · omega
    | div s p => exact ih p (by simp; omega) _ i j hok.2.2 hok.1.2 hi hj h
    | rem s p =>
      have hi : i < prC p + (if own p = true then 0 else 1) := hi
      have hj : j < prC p + (if own p = true then 0 else 1) := hj
      have h : (if i < prC p then kQ p (x + 2 + nN s) i else x + 2 + nN s) = (if j < prC p then kQ p (x + 2 + nN s) j else x + 2 + nN s) := h
      by_cases ho : own p = true
      · rw [if_pos ho] at hi hj
        rw [if_pos (by omega), if_pos (by omega)] at h
        exact ih p (by simp; omega) _ i j hok.2.2 hok.1.2 (by omega) (by omega) h
      · rw [if_neg ho] at hi hj
        by_cases h1 : i < prC p
        · have a := kQ_in p (x + 2 + nN s) i hok.2.2 hok.1.2 h1
          rw [if_pos h1] at h
          by_cases h2 : j < prC p
          · rw [if_pos h2] at h
            exact ih p (by simp; omega) _ i j hok.2.2 hok.1.2 h1 h2 h
          · rw [if_neg h2] at h
            exact absurd (a.2.2 h) ho
        · rw [if_neg h1] at h
          by_cases h2 : j < prC p
          · have a := kQ_in p (x + 2 + nN s) j hok.2.2 hok.1.2 h2
            rw [if_pos h2] at h
            exact absurd (a.2.2 h.symm) ho
          · omega
    | _ => exact absurd hi (Nat.not_lt_zero _)
section DUT
variable {N n0 : Nat} {F : Nat → ND}
/-- which node makes which one an obligation -/
def Src (F : Nat → ND) (z y : Nat) : Prop := ((nK (F z) = J 5 ∨ nK (F z) = J 6) ∧ y = z) ∨ (nK (F z) = J 7 ∧ nO (F z) = J y) ∨ (nK (F z) = J 9 ∧ nT (F z) = J y)
theorem J_ne9 {a b : Nat} (ha : a < 100) (hb : b < 100) (h : ¬ a = b) : ¬ (J a : Int32) = J b := by
  rw [J_inj (by omega) (by omega)]
  exact h
theorem Src_no {z y v : Nat} (h : Src F z y) (hk : nK (F z) = J v) (hv : v < 100) (h5 : ¬ v = 5) (h6 : ¬ v = 6) (h7 : ¬ v = 7) (h9 : ¬ v = 9) : False := by
  unfold Src at h
  rw [hk] at h
  rcases h with ⟨h | h, _⟩ | ⟨h, _⟩ | ⟨h, _⟩
  · exact J_ne9 hv (by omega) h5 h
  · exact J_ne9 hv (by omega) h6 h
  · exact J_ne9 hv (by omega) h7 h
  · exact J_ne9 hv (by omega) h9 h
/-- a property's nodes make just its obligations such -/
theorem Src_iff : ∀ t x, ok t → sh t = 0 → RR F t x → x + nN t ≤ 150 → ∀ y, (∃ z, x ≤ z ∧ z < x + nN t ∧ Src F z y ∧ y < 150) ↔ ∃ i, i < prC t ∧ kQ t x i = y := by
  have noseq : ∀ (s : Term) x y z, ok s → (sh s = 1 ∨ sh s = 2) → RR F s x → x ≤ z → z < x + nN s → Src F z y → False := by
    intro s x y z hok hsh hR h1 h2 h
    obtain ⟨v, v1, v2, v3⟩ := seq_kinds s x hok (by omega) hR z h1 h2
    exact Src_no h v3 (by omega) (by omega) (by omega) (by omega) (by omega)
  have nobo : ∀ (b : Term) x y z, isBo b → RR F b x → x ≤ z → z < x + nN b → Src F z y → False := by
    intro b x y z hb hR h1 h2 h
    obtain ⟨v, v1, v3⟩ := bo_kinds b x hb hR z h1 h2
    exact Src_no h v3 (by omega) (by omega) (by omega) (by omega) (by omega)
  have pair : ∀ (p q : Term) x y, (∀ y, (∃ z, x + 1 ≤ z ∧ z < x + 1 + nN p ∧ Src F z y ∧ y < 150) ↔ ∃ i, i < prC p ∧ kQ p (x + 1) i = y) → (∀ y, (∃ z, x + 1 + nN p ≤ z ∧ z < x + 1 + nN p + nN q ∧ Src F z y ∧ y < 150) ↔ ∃ i, i < prC q ∧ kQ q (x + 1 + nN p) i = y) → ((∃ z, x + 1 ≤ z ∧ z < x + (1 + nN p + nN q) ∧ Src F z y ∧ y < 150) ↔ ∃ i, i < prC p + prC q ∧ (if i < prC p then kQ p (x + 1) i else kQ q (x + 1 + nN p) (i - prC p)) = y) := by
    intro p q x y ip iq
    constructor
    · rintro ⟨z, z1, z2, z3⟩
      by_cases hz : z < x + 1 + nN p
      · obtain ⟨i, i1, i2⟩ := (ip y).mp ⟨z, z1, hz, z3⟩
        exact ⟨i, by omega, by rw [if_pos i1]; exact i2⟩
      · obtain ⟨i, i1, i2⟩ := (iq y).mp ⟨z, by omega, by omega, z3⟩
        exact ⟨prC p + i, by omega, by rw [if_neg (by omega), show prC p + i - prC p = i from by omega]; exact i2⟩
    · rintro ⟨i, i1, i2⟩
      by_cases hi : i < prC p
      · rw [if_pos hi] at i2
        obtain ⟨z, z1, z2, z3⟩ := (ip y).mpr ⟨i, hi, i2⟩
        exact ⟨z, z1, by omega, z3⟩
      · rw [if_neg hi] at i2
        obtain ⟨z, z1, z2, z3⟩ := (iq y).mpr ⟨i - prC p, by omega, i2⟩
        exact ⟨z, by omega, by omega, z3⟩
  intro t
  induction t using tind with
  | h t ih =>
    intro x hok hsh hR hx y
    cases t with
    | index v =>
      refine ⟨fun ⟨z, z1, z2, z3, _⟩ => (nobo (.index v) x y z hok hR z1 z2 z3).elim, fun ⟨i, i1, _⟩ => absurd i1 (Nat.not_lt_zero _)⟩
    | length b =>
      refine ⟨fun ⟨z, z1, z2, z3, _⟩ => (nobo (.length b) x y z hok hR z1 z2 z3).elim, fun ⟨i, i1, _⟩ => absurd i1 (Nat.not_lt_zero _)⟩
    | add p q =>
      have e : nN (.add p q) = 1 + nN p + nN q := rfl
      have := pair p q x y (ih p (by simp; omega) _ hok.2.1 hok.1.1 hR.2.1 (by omega)) (ih q (by simp; omega) _ hok.2.2 hok.1.2 hR.2.2 (by omega))
      rw [e]
      refine Iff.trans ⟨fun ⟨z, z1, z2, z3⟩ => ⟨z, ?_, z2, z3⟩, fun ⟨z, z1, z2, z3⟩ => ⟨z, by omega, z2, z3⟩⟩ this
      by_cases hz : z = x
      · subst hz
        exact (Src_no z3.1 hR.1.1 (by omega) (by omega) (by omega) (by omega) (by omega)).elim
      · omega
    | sub p q =>
      have e : nN (.sub p q) = 1 + nN p + nN q := rfl
      have := pair p q x y (ih p (by simp; omega) _ hok.2.1 hok.1.1 hR.2.1 (by omega)) (ih q (by simp; omega) _ hok.2.2 hok.1.2 hR.2.2 (by omega))
      rw [e]
      refine Iff.trans ⟨fun ⟨z, z1, z2, z3⟩ => ⟨z, ?_, z2, z3⟩, fun ⟨z, z1, z2, z3⟩ => ⟨z, by omega, z2, z3⟩⟩ this
      by_cases hz : z = x
      · subst hz
        exact (Src_no z3.1 hR.1.1 (by omega) (by omega) (by omega) (by omega) (by omega)).elim
      · omega
    | mul p q =>
      have e : nN (.mul p q) = 1 + nN p + nN q := rfl
      have hp := pair p q x y (ih p (by simp; omega) _ hok.2.1 hok.1.1 hR.2.1 (by omega)) (ih q (by simp; omega) _ hok.2.2 hok.1.2 hR.2.2 (by omega))
      rw [e]
      have low : ∀ i, i < prC p + prC q → kQ (.mul p q) x i = (if i < prC p then kQ p (x + 1) i else kQ q (x + 1 + nN p) (i - prC p)) := fun i hi => by
        by_cases h1 : i < prC p
        · rw [show kQ (.mul p q) x i = kQ p (x + 1) i from if_pos h1, if_pos h1]
        · rw [show kQ (.mul p q) x i = kQ q (x + 1 + nN p) (i - prC p) from (if_neg h1).trans (if_pos hi), if_neg h1]
      constructor
      · rintro ⟨z, z1, z2, z3⟩
        by_cases hz : z = x
        · subst hz
          have hy : y = z := by
            rcases z3.1 with ⟨_, h⟩ | ⟨h, _⟩ | ⟨h, _⟩
            · exact h
            · rw [hR.1.1] at h
              exact (J_ne9 (by omega) (by omega) (by omega) h).elim
            · rw [hR.1.1] at h
              exact (J_ne9 (by omega) (by omega) (by omega) h).elim
          obtain ⟨a, b⟩ := kQ_own (t := .mul p q) rfl z
          exact ⟨prC (.mul p q) - 1, by omega, by rw [b, hy]⟩
        · obtain ⟨i, i1, i2⟩ := hp.mp ⟨z, by omega, z2, z3⟩
          exact ⟨i, by show i < prC p + prC q + 1; omega, by rw [low i i1]; exact i2⟩
      · rintro ⟨i, i1, i2⟩
        have i1 : i < prC p + prC q + 1 := i1
        by_cases hi : i < prC p + prC q
        · rw [low i hi] at i2
          obtain ⟨z, z1, z2, z3⟩ := hp.mpr ⟨i, hi, i2⟩
          exact ⟨z, by omega, z2, z3⟩
        · rw [show kQ (.mul p q) x i = x from (if_neg (by omega)).trans (if_neg hi)] at i2
          exact ⟨x, Nat.le_refl _, by omega, Or.inl ⟨Or.inl hR.1.1, i2.symm⟩, by omega⟩
    | sum p =>
      have e : nN (.sum p) = 1 + nN p := rfl
      have hp := ih p (by simp) (x + 1) hok.2 hok.1 hR.2 (by omega) y
      rw [e]
      constructor
      · rintro ⟨z, z1, z2, z3⟩
        by_cases hz : z = x
        · subst hz
          have hy : y = z := by
            rcases z3.1 with ⟨_, h⟩ | ⟨h, _⟩ | ⟨h, _⟩
            · exact h
            · rw [hR.1.1] at h
              exact (J_ne9 (by omega) (by omega) (by omega) h).elim
            · rw [hR.1.1] at h
              exact (J_ne9 (by omega) (by omega) (by omega) h).elim
          obtain ⟨a, b⟩ := kQ_own (t := .sum p) rfl z
          exact ⟨prC (.sum p) - 1, by omega, by rw [b, hy]⟩
        · obtain ⟨i, i1, i2⟩ := hp.mp ⟨z, by omega, by omega, z3⟩
          exact ⟨i, by show i < prC p + 1; omega, by rw [show kQ (.sum p) x i = kQ p (x + 1) i from if_pos i1]; exact i2⟩
      · rintro ⟨i, i1, i2⟩
        by_cases hi : i < prC p
        · rw [show kQ (.sum p) x i = kQ p (x + 1) i from if_pos hi] at i2
          obtain ⟨z, z1, z2, z3⟩ := hp.mpr ⟨i, hi, i2⟩
          exact ⟨z, by omega, by omega, z3⟩
        · rw [show kQ (.sum p) x i = x from if_neg hi] at i2
          exact ⟨x, Nat.le_refl _, by omega, Or.inl ⟨Or.inr hR.1.1, i2.symm⟩, by omega⟩
    | old p =>
      have e : nN (.old p) = 1 + nN p := rfl
      have hnp := ok_nN p hok.2
      have hp := ih p (by simp) (x + 1) hok.2 hok.1 hR.2 (by omega) y
      rw [e]
      have hx1 : ∃ i, i < prC (.old p) ∧ kQ (.old p) x i = x + 1 := by
        by_cases ho : own p = true
        · obtain ⟨a, b⟩ := kQ_own ho (x + 1)
          exact ⟨prC p - 1, by show _ < prC p + _; omega, by rw [show kQ (.old p) x (prC p - 1) = kQ p (x + 1) (prC p - 1) from if_pos (by omega)]; exact b⟩
        · exact ⟨prC p, by show _ < prC p + (if own p = true then 0 else 1); rw [if_neg ho]; omega, if_neg (by omega)⟩
      constructor
      · rintro ⟨z, z1, z2, z3⟩
        by_cases hz : z = x
        · subst hz
          have hy : y = z + 1 := by
            rcases z3.1 with ⟨h | h, _⟩ | ⟨_, h⟩ | ⟨h, _⟩
            · rw [hR.1.1] at h
              exact (J_ne9 (by omega) (by omega) (by omega) h).elim
            · rw [hR.1.1] at h
              exact (J_ne9 (by omega) (by omega) (by omega) h).elim
            · have h9 := z3.2
              rw [hR.1.2, J_inj (by omega) (by omega)] at h
              exact h.symm
            · rw [hR.1.1] at h
              exact (J_ne9 (by omega) (by omega) (by omega) h).elim
          rw [hy]
          exact hx1
        · obtain ⟨i, i1, i2⟩ := hp.mp ⟨z, by omega, by omega, z3⟩
          exact ⟨i, by show i < prC p + _; omega, by rw [show kQ (.old p) x i = kQ p (x + 1) i from if_pos i1]; exact i2⟩
      · rintro ⟨i, i1, i2⟩
        by_cases hi : i < prC p
        · rw [show kQ (.old p) x i = kQ p (x + 1) i from if_pos hi] at i2
          obtain ⟨z, z1, z2, z3⟩ := hp.mpr ⟨i, hi, i2⟩
          exact ⟨z, by omega, by omega, z3⟩
        · rw [show kQ (.old p) x i = x + 1 from if_neg hi] at i2
          exact ⟨x, Nat.le_refl _, by omega, Or.inr (Or.inl ⟨hR.1.1, by rw [hR.1.2, i2]⟩), by omega⟩
    | div s p =>
      have e : nN (.div s p) = 2 + nN s + nN p := rfl
      obtain ⟨⟨r1, r2, r3, r4, r5, r6⟩, r7, r8⟩ := hR
      have hp := ih p (by simp; omega) (x + 2 + nN s) hok.2.2 hok.1.2 r8 (by omega) y
      rw [e]
      refine Iff.trans ⟨fun ⟨z, z1, z2, z3⟩ => ⟨z, ?_, by omega, z3⟩, fun ⟨z, z1, z2, z3⟩ => ⟨z, by omega, by omega, z3⟩⟩ hp
      by_cases hz : z = x
      · subst hz
        exact (Src_no z3.1 r1 (by omega) (by omega) (by omega) (by omega) (by omega)).elim
      · by_cases hz1 : z = x + 1
        · subst hz1
          exact (Src_no z3.1 r4 (by omega) (by omega) (by omega) (by omega) (by omega)).elim
        · rcases Nat.lt_or_ge z (x + 2 + nN s) with h9 | h9
          · exact (noseq s (x + 2) y z hok.2.1 hok.1.1 r7 (by omega) h9 z3.1).elim
          · exact h9
    | rem s p =>
      have e : nN (.rem s p) = 2 + nN s + nN p := rfl
      obtain ⟨⟨r1, r2, r3, r4, r5, r6⟩, r7, r8⟩ := hR
      have hnp := ok_nN p hok.2.2
      have hp := ih p (by simp; omega) (x + 2 + nN s) hok.2.2 hok.1.2 r8 (by omega) y
      rw [e]
      have hx1 : ∃ i, i < prC (.rem s p) ∧ kQ (.rem s p) x i = x + 2 + nN s := by
        by_cases ho : own p = true
        · obtain ⟨a, b⟩ := kQ_own ho (x + 2 + nN s)
          exact ⟨prC p - 1, by show _ < prC p + _; omega, by rw [show kQ (.rem s p) x (prC p - 1) = kQ p (x + 2 + nN s) (prC p - 1) from if_pos (by omega)]; exact b⟩
        · exact ⟨prC p, by show _ < prC p + (if own p = true then 0 else 1); rw [if_neg ho]; omega, if_neg (by omega)⟩
      constructor
      · rintro ⟨z, z1, z2, z3⟩
        by_cases hz : z = x
        · subst hz
          have hy : y = z + 2 + nN s := by
            rcases z3.1 with ⟨h | h, _⟩ | ⟨h, _⟩ | ⟨_, h⟩
            · rw [r1] at h
              exact (J_ne9 (by omega) (by omega) (by omega) h).elim
            · rw [r1] at h
              exact (J_ne9 (by omega) (by omega) (by omega) h).elim
            · rw [r1] at h
              exact (J_ne9 (by omega) (by omega) (by omega) h).elim
            · have h9 := z3.2
              rw [r3, J_inj (by omega) (by omega)] at h
              exact h.symm
          rw [hy]
          exact hx1
        · have hz2 : x + 2 + nN s ≤ z := by
            by_cases hz1 : z = x + 1
            · subst hz1
              exact (Src_no z3.1 r4 (by omega) (by omega) (by omega) (by omega) (by omega)).elim
            · rcases Nat.lt_or_ge z (x + 2 + nN s) with h9 | h9
              · exact (noseq s (x + 2) y z hok.2.1 hok.1.1 r7 (by omega) h9 z3.1).elim
              · exact h9
          obtain ⟨i, i1, i2⟩ := hp.mp ⟨z, hz2, by omega, z3⟩
          exact ⟨i, by show i < prC p + _; omega, by rw [show kQ (.rem s p) x i = kQ p (x + 2 + nN s) i from if_pos i1]; exact i2⟩
      · rintro ⟨i, i1, i2⟩
        by_cases hi : i < prC p
        · rw [show kQ (.rem s p) x i = kQ p (x + 2 + nN s) i from if_pos hi] at i2
          obtain ⟨z, z1, z2, z3⟩ := hp.mpr ⟨i, hi, i2⟩
          exact ⟨z, by omega, by omega, z3⟩
        · rw [show kQ (.rem s p) x i = x + 2 + nN s from if_neg hi] at i2
          exact ⟨x, Nat.le_refl _, by omega, Or.inr (Or.inr ⟨r1, by rw [r3, i2]⟩), by omega⟩
    | elem a w => cases w <;> first | exact hok.elim | cases hsh
    | field b x y z => cases hsh
    | null => cases hsh
    | _ => exact hok.elim
end DUT
