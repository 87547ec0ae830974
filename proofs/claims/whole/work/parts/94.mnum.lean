/-! the numbers of both -/
/-- where a rule's places begin -/
def bz : Term → Nat → Nat → Nat → Nat
  | .add p q, x, K, P => if P < x + 1 + nN p then bz p (x + 1) K P else bz q (x + 1 + nN p) (K + pC p) P
  | .sub p q, x, K, P => if P < x + 1 + nN p then bz p (x + 1) K P else bz q (x + 1 + nN p) (K + pC p) P
  | .mul p q, x, K, P => if P < x + 1 + nN p then bz p (x + 1) K P else bz q (x + 1 + nN p) (K + pC p) P
  | .sum p, x, K, P => bz p (x + 1) K P
  | .old p, x, K, P => bz p (x + 1) K P
  | .div s p, x, K, P => if P ≤ x then K else bz p (x + 2 + nN s) (K + len s) P
  | .rem s p, x, K, P => if P ≤ x then K else bz p (x + 2 + nN s) (K + len s) P
  | _, _, _, _ => 0
/-- a number by its key -/
def nrk (du : Nat → Nat) (t : Term) (x K : Nat) (c : Key) : Nat := if c.2 = 0 then du c.1 else bz t x K c.1 + (c.2 - 1)
section NUM
variable {du : Nat → Nat}
theorem nrk_congr {t u : Term} {x y K L : Nat} {c : Key} (h : bz t x K c.1 = bz u y L c.1) : nrk du t x K c = nrk du u y L c := by
  unfold nrk
  rw [h]
theorem nrk_prop {t : Term} {x K y : Nat} : nrk du t x K (y, 0) = du y := if_pos rfl
theorem rn_key : ∀ t x K o, ok t → sh t = 0 → o < oC t → rn du t x K o = nrk du t x K (kC t x o) := by
  have pair : ∀ (t p q : Term) x K o, ok p → ok q → sh p = 0 → sh q = 0 → (∀ P, bz t x K P = if P < x + 1 + nN p then bz p (x + 1) K P else bz q (x + 1 + nN p) (K + pC p) P) → (∀ o, o < oC p → rn du p (x + 1) K o = nrk du p (x + 1) K (kC p (x + 1) o)) → (∀ o, o < oC q → rn du q (x + 1 + nN p) (K + pC p) o = nrk du q (x + 1 + nN p) (K + pC p) (kC q (x + 1 + nN p) o)) → o < oC p + oC q → (if o < oC p then rn du p (x + 1) K o else rn du q (x + 1 + nN p) (K + pC p) (o - oC p)) = nrk du t x K (if o < oC p then kC p (x + 1) o else kC q (x + 1 + nN p) (o - oC p)) := by
    intro t p q x K o o1 o2 s1 s2 hbz ip iq ho
    by_cases h1 : o < oC p
    · have hin := kC_in p (x + 1) o o1 s1 h1
      rw [if_pos h1, if_pos h1, ip o h1]
      exact nrk_congr (by rw [hbz, if_pos (by omega)])
    · have hin := kC_in q (x + 1 + nN p) (o - oC p) o2 s2 (by omega)
      rw [if_neg h1, if_neg h1, iq (o - oC p) (by omega)]
      exact nrk_congr (by rw [hbz, if_neg (by omega)])
  intro t
  induction t using tind with
  | h t ih =>
    intro x K o hok hsh ho
    cases t with
    | add p q => exact pair (.add p q) p q x K o hok.2.1 hok.2.2 hok.1.1 hok.1.2 (fun _ => rfl) (fun o ho => ih p (by simp; omega) _ _ o hok.2.1 hok.1.1 ho) (fun o ho => ih q (by simp; omega) _ _ o hok.2.2 hok.1.2 ho) ho
    | sub p q => exact pair (.sub p q) p q x K o hok.2.1 hok.2.2 hok.1.1 hok.1.2 (fun _ => rfl) (fun o ho => ih p (by simp; omega) _ _ o hok.2.1 hok.1.1 ho) (fun o ho => ih q (by simp; omega) _ _ o hok.2.2 hok.1.2 ho) ho
    | mul p q =>
      by_cases h2 : o < oC p + oC q
      · have := pair (.mul p q) p q x K o hok.2.1 hok.2.2 hok.1.1 hok.1.2 (fun _ => rfl) (fun o ho => ih p (by simp; omega) _ _ o hok.2.1 hok.1.1 ho) (fun o ho => ih q (by simp; omega) _ _ o hok.2.2 hok.1.2 ho) h2
        by_cases h1 : o < oC p
        · rw [if_pos h1, if_pos h1] at this
          rw [show kC (.mul p q) x o = kC p (x + 1) o from if_pos h1, show rn du (.mul p q) x K o = rn du p (x + 1) K o from if_pos h1]
          exact this
        · rw [if_neg h1, if_neg h1] at this
          rw [show kC (.mul p q) x o = kC q (x + 1 + nN p) (o - oC p) from (if_neg h1).trans (if_pos h2), show rn du (.mul p q) x K o = rn du q (x + 1 + nN p) (K + pC p) (o - oC p) from (if_neg h1).trans (if_pos h2)]
          exact this
      · rw [show kC (.mul p q) x o = (x, 0) from (if_neg (by omega)).trans (if_neg h2), show rn du (.mul p q) x K o = du x from (if_neg (by omega)).trans (if_neg h2), nrk_prop]
    | sum p =>
      by_cases h1 : o < oC p
      · rw [show kC (.sum p) x o = kC p (x + 1) o from if_pos h1, show rn du (.sum p) x K o = rn du p (x + 1) K o from if_pos h1, ih p (by simp) _ _ o hok.2 hok.1 h1]
        exact nrk_congr rfl
      · rw [show kC (.sum p) x o = (x, 0) from if_neg h1, show rn du (.sum p) x K o = du x from if_neg h1, nrk_prop]
    | old p =>
      by_cases h1 : o < oC p
      · rw [show kC (.old p) x o = kC p (x + 1) o from if_pos h1, show rn du (.old p) x K o = rn du p (x + 1) K o from if_pos h1, ih p (by simp) _ _ o hok.2 hok.1 h1]
        exact nrk_congr rfl
      · rw [show kC (.old p) x o = (x + 1, 0) from if_neg h1, show rn du (.old p) x K o = du (x + 1) from if_neg h1, nrk_prop]
    | div s p =>
      have ho : o < len s + oC p := ho
      by_cases h1 : o < len s
      · rw [show kC (.div s p) x o = (x, o + 1) from if_pos h1, show rn du (.div s p) x K o = K + o from if_pos h1]
        show K + o = (if o + 1 = 0 then _ else (if x ≤ x then K else _) + (o + 1 - 1))
        rw [if_neg (Nat.succ_ne_zero o), if_pos (Nat.le_refl x)]
        rfl
      · have hin := kC_in p (x + 2 + nN s) (o - len s) hok.2.2 hok.1.2 (by omega)
        rw [show kC (.div s p) x o = kC p (x + 2 + nN s) (o - len s) from if_neg h1, show rn du (.div s p) x K o = rn du p (x + 2 + nN s) (K + len s) (o - len s) from if_neg h1, ih p (by simp; omega) _ _ (o - len s) hok.2.2 hok.1.2 (by omega)]
        exact nrk_congr (if_neg (by omega)).symm
    | rem s p =>
      by_cases h1 : o < len s
      · rw [show kC (.rem s p) x o = (x, o + 1) from if_pos h1, show rn du (.rem s p) x K o = K + o from if_pos h1]
        show K + o = (if o + 1 = 0 then _ else (if x ≤ x then K else _) + (o + 1 - 1))
        rw [if_neg (Nat.succ_ne_zero o), if_pos (Nat.le_refl x)]
        rfl
      · by_cases h2 : o < len s + oC p
        · have hin := kC_in p (x + 2 + nN s) (o - len s) hok.2.2 hok.1.2 (by omega)
          rw [show kC (.rem s p) x o = kC p (x + 2 + nN s) (o - len s) from (if_neg h1).trans (if_pos h2), show rn du (.rem s p) x K o = rn du p (x + 2 + nN s) (K + len s) (o - len s) from (if_neg h1).trans (if_pos h2), ih p (by simp; omega) _ _ (o - len s) hok.2.2 hok.1.2 (by omega)]
          exact nrk_congr (if_neg (by omega)).symm
        · rw [show kC (.rem s p) x o = (x + 2 + nN s, 0) from (if_neg h1).trans (if_neg h2), show rn du (.rem s p) x K o = du (x + 2 + nN s) from (if_neg h1).trans (if_neg h2), nrk_prop]
    | elem a w => exact absurd ho (Nat.not_lt_zero _)
    | _ => exact absurd ho (Nat.not_lt_zero _)
/-- every place has its number -/
theorem rn_surj : ∀ t x K q, ok t → K ≤ q → q < K + pC t → ∃ o, o < oC t ∧ rn du t x K o = q := by
  have pair : ∀ (p r : Term) x K q, (∀ x K q, K ≤ q → q < K + pC p → ∃ o, o < oC p ∧ rn du p x K o = q) → (∀ x K q, K ≤ q → q < K + pC r → ∃ o, o < oC r ∧ rn du r x K o = q) → K ≤ q → q < K + (pC p + pC r) → ∃ o, o < oC p + oC r ∧ (if o < oC p then rn du p (x + 1) K o else rn du r (x + 1 + nN p) (K + pC p) (o - oC p)) = q := by
    intro p r x K q ip ir h1 h2
    by_cases h3 : q < K + pC p
    · obtain ⟨o, o1, o2⟩ := ip (x + 1) K q h1 h3
      exact ⟨o, by omega, by rw [if_pos o1]; exact o2⟩
    · obtain ⟨o, o1, o2⟩ := ir (x + 1 + nN p) (K + pC p) q (by omega) (by omega)
      exact ⟨oC p + o, by omega, by rw [if_neg (by omega), show oC p + o - oC p = o from by omega]; exact o2⟩
  intro t
  induction t using tind with
  | h t ih =>
    intro x K q hok h1 h2
    cases t with
    | add p r => exact pair p r x K q (fun x K q => ih p (by simp; omega) x K q hok.2.1) (fun x K q => ih r (by simp; omega) x K q hok.2.2) h1 h2
    | sub p r => exact pair p r x K q (fun x K q => ih p (by simp; omega) x K q hok.2.1) (fun x K q => ih r (by simp; omega) x K q hok.2.2) h1 h2
    | mul p r =>
      obtain ⟨o, o1, o2⟩ := pair p r x K q (fun x K q => ih p (by simp; omega) x K q hok.2.1) (fun x K q => ih r (by simp; omega) x K q hok.2.2) h1 h2
      refine ⟨o, by show o < oC p + oC r + 1; omega, ?_⟩
      rw [← o2]
      by_cases h3 : o < oC p
      · rw [if_pos h3]
        exact if_pos h3
      · rw [if_neg h3]
        exact (if_neg h3).trans (if_pos o1)
    | sum p =>
      obtain ⟨o, o1, o2⟩ := ih p (by simp) (x + 1) K q hok.2 h1 h2
      exact ⟨o, by show o < oC p + 1; omega, (if_pos o1).trans o2⟩
    | old p =>
      obtain ⟨o, o1, o2⟩ := ih p (by simp) (x + 1) K q hok.2 h1 h2
      exact ⟨o, by show o < oC p + _; omega, (if_pos o1).trans o2⟩
    | div s p =>
      have h2 : q < K + (len s + pC p) := h2
      by_cases h3 : q < K + len s
      · exact ⟨q - K, by show q - K < len s + oC p; omega, (if_pos (by omega)).trans (by omega)⟩
      · obtain ⟨o, o1, o2⟩ := ih p (by simp; omega) (x + 2 + nN s) (K + len s) q hok.2.2 (by omega) (by omega)
        exact ⟨len s + o, by show len s + o < len s + oC p; omega, (if_neg (by omega)).trans (by rw [show len s + o - len s = o from by omega]; exact o2)⟩
    | rem s p =>
      have h2 : q < K + (len s + pC p) := h2
      by_cases h3 : q < K + len s
      · exact ⟨q - K, by show q - K < len s + oC p + _; omega, (if_pos (by omega)).trans (by omega)⟩
      · obtain ⟨o, o1, o2⟩ := ih p (by simp; omega) (x + 2 + nN s) (K + len s) q hok.2.2 (by omega) (by omega)
        exact ⟨len s + o, by show len s + o < len s + oC p + _; omega, (if_neg (by omega)).trans ((if_pos (by omega)).trans (by rw [show len s + o - len s = o from by omega]; exact o2))⟩
    | elem a w =>
      have : pC (.elem a w) = 0 := rfl
      omega
    | _ => exact absurd h2 (by show ¬ q < K + 0; omega)
/-- property keys, both ways -/
theorem kQ_kC : ∀ t x i, ok t → i < prC t → ∃ o, o < oC t ∧ kC t x o = (kQ t x i, 0) := by
  have pair : ∀ (p r : Term) x i, (∀ x i, i < prC p → ∃ o, o < oC p ∧ kC p x o = (kQ p x i, 0)) → (∀ x i, i < prC r → ∃ o, o < oC r ∧ kC r x o = (kQ r x i, 0)) → i < prC p + prC r → ∃ o, o < oC p + oC r ∧ (if o < oC p then kC p (x + 1) o else kC r (x + 1 + nN p) (o - oC p)) = ((if i < prC p then kQ p (x + 1) i else kQ r (x + 1 + nN p) (i - prC p)), 0) := by
    intro p r x i ip ir hi
    by_cases h1 : i < prC p
    · obtain ⟨o, o1, o2⟩ := ip (x + 1) i h1
      exact ⟨o, by omega, by rw [if_pos o1, if_pos h1]; exact o2⟩
    · obtain ⟨o, o1, o2⟩ := ir (x + 1 + nN p) (i - prC p) (by omega)
      exact ⟨oC p + o, by omega, by rw [if_neg (by omega), if_neg h1, show oC p + o - oC p = o from by omega]; exact o2⟩
  intro t
  induction t using tind with
  | h t ih =>
    intro x i hok hi
    cases t with
    | add p r => exact pair p r x i (fun x i => ih p (by simp; omega) x i hok.2.1) (fun x i => ih r (by simp; omega) x i hok.2.2) hi
    | sub p r => exact pair p r x i (fun x i => ih p (by simp; omega) x i hok.2.1) (fun x i => ih r (by simp; omega) x i hok.2.2) hi
    | mul p r =>
      have hi : i < prC p + prC r + 1 := hi
      have e : oC (.mul p r) = oC p + oC r + 1 := rfl
      by_cases h2 : i < prC p + prC r
      · obtain ⟨o, o1, o2⟩ := pair p r x i (fun x i => ih p (by simp; omega) x i hok.2.1) (fun x i => ih r (by simp; omega) x i hok.2.2) h2
        refine ⟨o, by omega, ?_⟩
        have e1 : kC (.mul p r) x o = (if o < oC p then kC p (x + 1) o else kC r (x + 1 + nN p) (o - oC p)) := by
          by_cases h3 : o < oC p
          · rw [if_pos h3]; exact if_pos h3
          · rw [if_neg h3]; exact (if_neg h3).trans (if_pos o1)
        have e2 : kQ (.mul p r) x i = (if i < prC p then kQ p (x + 1) i else kQ r (x + 1 + nN p) (i - prC p)) := by
          by_cases h3 : i < prC p
          · rw [if_pos h3]; exact if_pos h3
          · rw [if_neg h3]; exact (if_neg h3).trans (if_pos h2)
        rw [e1, e2]
        exact o2
      · refine ⟨oC p + oC r, by omega, ?_⟩
        rw [show kQ (.mul p r) x i = x from (if_neg (by omega)).trans (if_neg h2)]
        exact (if_neg (by omega)).trans (if_neg (by omega))
    | sum p =>
      have e : oC (.sum p) = oC p + 1 := rfl
      by_cases h1 : i < prC p
      · obtain ⟨o, o1, o2⟩ := ih p (by simp) (x + 1) i hok.2 h1
        exact ⟨o, by omega, by rw [show kC (.sum p) x o = kC p (x + 1) o from if_pos o1, show kQ (.sum p) x i = kQ p (x + 1) i from if_pos h1]; exact o2⟩
      · exact ⟨oC p, by omega, by rw [show kC (.sum p) x (oC p) = (x, 0) from if_neg (by omega), show kQ (.sum p) x i = x from if_neg h1]⟩
    | old p =>
      have e : oC (.old p) = oC p + (if own p = true then 0 else 1) := rfl
      have hi : i < prC p + (if own p = true then 0 else 1) := hi
      by_cases h1 : i < prC p
      · obtain ⟨o, o1, o2⟩ := ih p (by simp) (x + 1) i hok.2 h1
        exact ⟨o, by omega, by rw [show kC (.old p) x o = kC p (x + 1) o from if_pos o1, show kQ (.old p) x i = kQ p (x + 1) i from if_pos h1]; exact o2⟩
      · exact ⟨oC p, by omega, by rw [show kC (.old p) x (oC p) = (x + 1, 0) from if_neg (by omega), show kQ (.old p) x i = x + 1 from if_neg h1]⟩
    | div s p =>
      have e : oC (.div s p) = len s + oC p := rfl
      obtain ⟨o, o1, o2⟩ := ih p (by simp; omega) (x + 2 + nN s) i hok.2.2 hi
      exact ⟨len s + o, by omega, by rw [show kC (.div s p) x (len s + o) = kC p (x + 2 + nN s) (len s + o - len s) from if_neg (by omega), show len s + o - len s = o from by omega]; exact o2⟩
    | rem s p =>
      have e : oC (.rem s p) = len s + oC p + (if own p = true then 0 else 1) := rfl
      have hi : i < prC p + (if own p = true then 0 else 1) := hi
      by_cases h1 : i < prC p
      · obtain ⟨o, o1, o2⟩ := ih p (by simp; omega) (x + 2 + nN s) i hok.2.2 h1
        exact ⟨len s + o, by omega, by rw [show kC (.rem s p) x (len s + o) = kC p (x + 2 + nN s) (len s + o - len s) from (if_neg (by omega)).trans (if_pos (by omega)), show len s + o - len s = o from by omega, show kQ (.rem s p) x i = kQ p (x + 2 + nN s) i from if_pos h1]; exact o2⟩
      · exact ⟨len s + oC p, by omega, by rw [show kC (.rem s p) x (len s + oC p) = (x + 2 + nN s, 0) from (if_neg (by omega)).trans (if_neg (by omega)), show kQ (.rem s p) x i = x + 2 + nN s from if_neg h1]⟩
    | elem a w => exact absurd hi (Nat.not_lt_zero _)
    | _ => exact absurd hi (Nat.not_lt_zero _)
theorem kC_kQ : ∀ t x o, ok t → o < oC t → (kC t x o).2 = 0 → ∃ i, i < prC t ∧ kQ t x i = (kC t x o).1 := by
  have pair : ∀ (p r : Term) x o, (∀ x o, o < oC p → (kC p x o).2 = 0 → ∃ i, i < prC p ∧ kQ p x i = (kC p x o).1) → (∀ x o, o < oC r → (kC r x o).2 = 0 → ∃ i, i < prC r ∧ kQ r x i = (kC r x o).1) → o < oC p + oC r → (if o < oC p then kC p (x + 1) o else kC r (x + 1 + nN p) (o - oC p) : Key).2 = 0 → ∃ i, i < prC p + prC r ∧ (if i < prC p then kQ p (x + 1) i else kQ r (x + 1 + nN p) (i - prC p)) = (if o < oC p then kC p (x + 1) o else kC r (x + 1 + nN p) (o - oC p) : Key).1 := by
    intro p r x o ip ir ho hz
    by_cases h1 : o < oC p
    · rw [if_pos h1] at hz ⊢
      obtain ⟨i, i1, i2⟩ := ip (x + 1) o h1 hz
      exact ⟨i, by omega, by rw [if_pos i1]; exact i2⟩
    · rw [if_neg h1] at hz ⊢
      obtain ⟨i, i1, i2⟩ := ir (x + 1 + nN p) (o - oC p) (by omega) hz
      exact ⟨prC p + i, by omega, by rw [if_neg (by omega), show prC p + i - prC p = i from by omega]; exact i2⟩
  intro t
  induction t using tind with
  | h t ih =>
    intro x o hok ho hz
    cases t with
    | add p r => exact pair p r x o (fun x o => ih p (by simp; omega) x o hok.2.1) (fun x o => ih r (by simp; omega) x o hok.2.2) ho hz
    | sub p r => exact pair p r x o (fun x o => ih p (by simp; omega) x o hok.2.1) (fun x o => ih r (by simp; omega) x o hok.2.2) ho hz
    | mul p r =>
      have e : prC (.mul p r) = prC p + prC r + 1 := rfl
      by_cases h2 : o < oC p + oC r
      · have e1 : kC (.mul p r) x o = (if o < oC p then kC p (x + 1) o else kC r (x + 1 + nN p) (o - oC p)) := by
          by_cases h3 : o < oC p
          · rw [if_pos h3]; exact if_pos h3
          · rw [if_neg h3]; exact (if_neg h3).trans (if_pos h2)
        rw [e1] at hz ⊢
        obtain ⟨i, i1, i2⟩ := pair p r x o (fun x o => ih p (by simp; omega) x o hok.2.1) (fun x o => ih r (by simp; omega) x o hok.2.2) h2 hz
        refine ⟨i, by omega, ?_⟩
        rw [← i2]
        by_cases h3 : i < prC p
        · rw [if_pos h3]; exact if_pos h3
        · rw [if_neg h3]; exact (if_neg h3).trans (if_pos i1)
      · rw [show kC (.mul p r) x o = (x, 0) from (if_neg (by omega)).trans (if_neg h2)]
        obtain ⟨a, b⟩ := kQ_own (t := .mul p r) rfl x
        exact ⟨prC (.mul p r) - 1, by omega, b⟩
    | sum p =>
      have e : prC (.sum p) = prC p + 1 := rfl
      by_cases h1 : o < oC p
      · rw [show kC (.sum p) x o = kC p (x + 1) o from if_pos h1] at hz ⊢
        obtain ⟨i, i1, i2⟩ := ih p (by simp) (x + 1) o hok.2 h1 hz
        exact ⟨i, by omega, (if_pos i1).trans i2⟩
      · rw [show kC (.sum p) x o = (x, 0) from if_neg h1]
        obtain ⟨a, b⟩ := kQ_own (t := .sum p) rfl x
        exact ⟨prC (.sum p) - 1, by omega, b⟩
    | old p =>
      have e : prC (.old p) = prC p + (if own p = true then 0 else 1) := rfl
      have ho : o < oC p + (if own p = true then 0 else 1) := ho
      by_cases h1 : o < oC p
      · rw [show kC (.old p) x o = kC p (x + 1) o from if_pos h1] at hz ⊢
        obtain ⟨i, i1, i2⟩ := ih p (by simp) (x + 1) o hok.2 h1 hz
        exact ⟨i, by omega, (if_pos i1).trans i2⟩
      · rw [show kC (.old p) x o = (x + 1, 0) from if_neg h1]
        exact ⟨prC p, by omega, if_neg (by omega)⟩
    | div s p =>
      have ho : o < len s + oC p := ho
      by_cases h1 : o < len s
      · rw [show kC (.div s p) x o = (x, o + 1) from if_pos h1] at hz
        exact absurd hz (Nat.succ_ne_zero o)
      · rw [show kC (.div s p) x o = kC p (x + 2 + nN s) (o - len s) from if_neg h1] at hz ⊢
        exact ih p (by simp; omega) (x + 2 + nN s) (o - len s) hok.2.2 (by omega) hz
    | rem s p =>
      have e : prC (.rem s p) = prC p + (if own p = true then 0 else 1) := rfl
      have ho : o < len s + oC p + (if own p = true then 0 else 1) := ho
      by_cases h1 : o < len s
      · rw [show kC (.rem s p) x o = (x, o + 1) from if_pos h1] at hz
        exact absurd hz (Nat.succ_ne_zero o)
      · by_cases h2 : o < len s + oC p
        · rw [show kC (.rem s p) x o = kC p (x + 2 + nN s) (o - len s) from (if_neg h1).trans (if_pos h2)] at hz ⊢
          obtain ⟨i, i1, i2⟩ := ih p (by simp; omega) (x + 2 + nN s) (o - len s) hok.2.2 (by omega) hz
          exact ⟨i, by omega, (if_pos i1).trans i2⟩
        · rw [show kC (.rem s p) x o = (x + 2 + nN s, 0) from (if_neg h1).trans (if_neg h2)]
          exact ⟨prC p, by omega, if_neg (by omega)⟩
    | elem a w => exact absurd ho (Nat.not_lt_zero _)
    | _ => exact absurd ho (Nat.not_lt_zero _)
/-- no node within a sequence is an obligation -/
theorem kQ_noseq : ∀ t x z, ok t → sh t = 0 → SeqPos t x z → x < z ∧ z < x + nN t ∧ ∀ i, i < prC t → ¬ kQ t x i = z := by
  have pair : ∀ (p r : Term) x z, ok p → ok r → sh p = 0 → sh r = 0 → (∀ x z, SeqPos p x z → x < z ∧ z < x + nN p ∧ ∀ i, i < prC p → ¬ kQ p x i = z) → (∀ x z, SeqPos r x z → x < z ∧ z < x + nN r ∧ ∀ i, i < prC r → ¬ kQ r x i = z) → SeqPos p (x + 1) z ∨ SeqPos r (x + 1 + nN p) z → x < z ∧ z < x + (1 + nN p + nN r) ∧ ∀ i, i < prC p + prC r → ¬ (if i < prC p then kQ p (x + 1) i else kQ r (x + 1 + nN p) (i - prC p)) = z := by
    intro p r x z o1 o2 s1 s2 ip ir h
    rcases h with h | h
    · obtain ⟨a, b, c⟩ := ip (x + 1) z h
      refine ⟨by omega, by omega, fun i hi => ?_⟩
      by_cases h1 : i < prC p
      · rw [if_pos h1]; exact c i h1
      · have := kQ_in r (x + 1 + nN p) (i - prC p) o2 s2 (by omega)
        rw [if_neg h1]
        omega
    · obtain ⟨a, b, c⟩ := ir (x + 1 + nN p) z h
      refine ⟨by omega, by omega, fun i hi => ?_⟩
      by_cases h1 : i < prC p
      · have := kQ_in p (x + 1) i o1 s1 h1
        rw [if_pos h1]
        omega
      · rw [if_neg h1]; exact c _ (by omega)
  intro t
  induction t using tind with
  | h t ih =>
    intro x z hok hsh h
    cases t with
    | add p r => exact pair p r x z hok.2.1 hok.2.2 hok.1.1 hok.1.2 (fun x z => ih p (by simp; omega) x z hok.2.1 hok.1.1) (fun x z => ih r (by simp; omega) x z hok.2.2 hok.1.2) h
    | sub p r => exact pair p r x z hok.2.1 hok.2.2 hok.1.1 hok.1.2 (fun x z => ih p (by simp; omega) x z hok.2.1 hok.1.1) (fun x z => ih r (by simp; omega) x z hok.2.2 hok.1.2) h
    | mul p r =>
      obtain ⟨a, b, c⟩ := pair p r x z hok.2.1 hok.2.2 hok.1.1 hok.1.2 (fun x z => ih p (by simp; omega) x z hok.2.1 hok.1.1) (fun x z => ih r (by simp; omega) x z hok.2.2 hok.1.2) h
      refine ⟨a, b, fun i hi => ?_⟩
      by_cases h2 : i < prC p + prC r
      · have e2 : kQ (.mul p r) x i = (if i < prC p then kQ p (x + 1) i else kQ r (x + 1 + nN p) (i - prC p)) := by
          by_cases h3 : i < prC p
          · rw [if_pos h3]; exact if_pos h3
          · rw [if_neg h3]; exact (if_neg h3).trans (if_pos h2)
        rw [e2]
        exact c i h2
      · rw [show kQ (.mul p r) x i = x from (if_neg (by omega)).trans (if_neg h2)]
        omega
    | sum p =>
      have e : nN (.sum p) = 1 + nN p := rfl
      obtain ⟨a, b, c⟩ := ih p (by simp) (x + 1) z hok.2 hok.1 h
      refine ⟨by omega, by omega, fun i hi => ?_⟩
      by_cases h1 : i < prC p
      · rw [show kQ (.sum p) x i = kQ p (x + 1) i from if_pos h1]; exact c i h1
      · rw [show kQ (.sum p) x i = x from if_neg h1]; omega
    | old p =>
      have e : nN (.old p) = 1 + nN p := rfl
      obtain ⟨a, b, c⟩ := ih p (by simp) (x + 1) z hok.2 hok.1 h
      refine ⟨by omega, by omega, fun i hi => ?_⟩
      by_cases h1 : i < prC p
      · rw [show kQ (.old p) x i = kQ p (x + 1) i from if_pos h1]; exact c i h1
      · rw [show kQ (.old p) x i = x + 1 from if_neg h1]; omega
    | div s p =>
      have e : nN (.div s p) = 2 + nN s + nN p := rfl
      have np := ok_nN p hok.2.2
      rcases h with h | h
      · refine ⟨by omega, by omega, fun i hi => ?_⟩
        have := kQ_in p (x + 2 + nN s) i hok.2.2 hok.1.2 hi
        show ¬ kQ p (x + 2 + nN s) i = z
        omega
      · obtain ⟨a, b, c⟩ := ih p (by simp; omega) (x + 2 + nN s) z hok.2.2 hok.1.2 h
        exact ⟨by omega, by omega, c⟩
    | rem s p =>
      have e : nN (.rem s p) = 2 + nN s + nN p := rfl
      have np := ok_nN p hok.2.2
      rcases h with h | h
      · refine ⟨by omega, by omega, fun i hi => ?_⟩
        by_cases h1 : i < prC p
        · have := kQ_in p (x + 2 + nN s) i hok.2.2 hok.1.2 h1
          rw [show kQ (.rem s p) x i = kQ p (x + 2 + nN s) i from if_pos h1]
          omega
        · rw [show kQ (.rem s p) x i = x + 2 + nN s from if_neg h1]
          omega
      · obtain ⟨a, b, c⟩ := ih p (by simp; omega) (x + 2 + nN s) z hok.2.2 hok.1.2 h
        refine ⟨by omega, by omega, fun i hi => ?_⟩
        by_cases h1 : i < prC p
        · rw [show kQ (.rem s p) x i = kQ p (x + 2 + nN s) i from if_pos h1]; exact c i h1
        · rw [show kQ (.rem s p) x i = x + 2 + nN s from if_neg h1]; omega
    | elem a w => cases w <;> first | exact hok.elim | cases hsh
    | field b x y z => cases hsh
    | null => cases hsh
    | _ => exact h.elim
end NUM
