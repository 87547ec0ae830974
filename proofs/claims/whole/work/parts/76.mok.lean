/-! what a read tree looks like -/
def isBo : Term → Prop
  | .index v => v < 9
  | .length b => isBo b
  | .add a b => isBo a ∧ isBo b
  | .sub a b => isBo a ∧ isBo b
  | _ => False
/-- the shape of a piece: 1 a term, 2 terms, 3 a group, 4 a boolean, 5 an empty group, 0 a property -/
def sh : Term → Nat
  | .elem _ (.index _) => 1
  | .elem _ (.length _) => 2
  | .elem _ (.old _) => 3
  | .field _ _ _ _ => 4
  | .null => 5
  | _ => 0
def cOK (c : Nat) : Prop := c = 16 ∨ (1 ≤ c / 16 ∧ c / 16 ≤ c % 16 ∧ c % 16 ≤ 9)
def ok : Term → Prop
  | .index v => v < 9
  | .length b => isBo b
  | .add p q => (sh p = 0 ∧ sh q = 0) ∧ ok p ∧ ok q
  | .sub p q => (sh p = 0 ∧ sh q = 0) ∧ ok p ∧ ok q
  | .mul p q => (sh p = 0 ∧ sh q = 0) ∧ ok p ∧ ok q
  | .sum p => sh p = 0 ∧ ok p
  | .old p => sh p = 0 ∧ ok p
  | .div s p => ((sh s = 1 ∨ sh s = 2) ∧ sh p = 0) ∧ ok s ∧ ok p
  | .rem s p => ((sh s = 1 ∨ sh s = 2) ∧ sh p = 0) ∧ ok s ∧ ok p
  | .field b x y z => isBo b ∧ x = "" ∧ y = "" ∧ z = ""
  | .elem u (.index c) => ((sh u = 3 ∨ sh u = 4) ∧ cOK c) ∧ ok u
  | .elem s (.length t) => ((sh s = 1 ∨ sh s = 2) ∧ sh t = 1) ∧ ok s ∧ ok t
  | .elem g (.old s) => ((sh g = 3 ∨ sh g = 5) ∧ (sh s = 1 ∨ sh s = 2)) ∧ ok g ∧ ok s
  | .null => True
  | _ => False
/-- how high the reference's stacks get -/
def ht : Term → Nat
  | .field _ _ _ _ => 1
  | .elem u (.index _) => 1 + ht u
  | .elem s (.length t) => max (ht s) (ht t)
  | .elem g (.old s) => max (ht g) (2 + ht s)
  | .null => 1
  | .add p q => max (ht p) (ht q)
  | .sub p q => max (ht p) (ht q)
  | .mul p q => max (ht p) (ht q)
  | .sum p => ht p
  | .old p => ht p
  | .div s p => max (ht s) (ht p)
  | .rem s p => max (ht s) (ht p)
  | _ => 0
theorem isBo_sh {b : Term} (h : isBo b) : sh b = 0 := by
  cases b <;> first | rfl | exact h.elim
theorem isBo_ht : ∀ b, isBo b → ht b = 0 := by
  intro b
  induction b using tind with
  | h b ih =>
    intro h
    unfold isBo at h
    split at h
    · rfl
    · rfl
    · rename_i p q
      show max (ht p) (ht q) = 0
      rw [ih p (by simp; omega) h.1, ih q (by simp; omega) h.2]
      rfl
    · rename_i p q
      show max (ht p) (ht q) = 0
      rw [ih p (by simp; omega) h.1, ih q (by simp; omega) h.2]
      rfl
    · exact h.elim
theorem litv_lt {c v : Nat} (hv : litv c = some v) : v < 9 := by
  unfold litv at hv
  split at hv
  · cases hv; omega
  · split at hv
    · cases hv; omega
    · split at hv
      · cases hv; omega
      · split at hv
        · cases hv; omega
        · split at hv
          · cases hv; omega
          · cases hv
section OKP
variable {ch : Nat → Nat}
theorem bP_bo : ∀ f p q t, bP ch f p = (q, some t) → isBo t := by
  intro f
  induction f with
  | zero => intro p q t h; cases h
  | succ f ih =>
    intro p q t h
    unfold bP at h
    by_cases c1 : ch p = 33
    · rw [if_pos c1] at h
      obtain ⟨a, b, h1, h2⟩ := pbind_some h
      cases h2
      exact (show isBo b from ih _ _ _ h1)
    · rw [if_neg c1] at h
      by_cases c2 : ch p = 40
      · rw [if_pos c2] at h
        obtain ⟨a, b, h1, h2⟩ := pbind_some h
        split at h2
        · obtain ⟨a', b', h3, h4⟩ := pbind_some h2
          split at h4
          · cases h4
            split
            · exact ⟨ih _ _ _ h1, ih _ _ _ h3⟩
            · exact ⟨ih _ _ _ h1, ih _ _ _ h3⟩
          · cases h4
        · cases h2
      · rw [if_neg c2] at h
        split at h
        · rename_i hv
          cases h
          exact litv_lt hv
        · cases h
theorem gLp_ok {sq : Nat → PR} {H : Nat} (hs : ∀ p q s, sq p = (q, some s) → ok s ∧ (sh s = 1 ∨ sh s = 2) ∧ ht s ≤ H) : ∀ n q g y g', gLp ch sq n q g = (y, some g') → ok g → sh g = 3 → ht g ≤ 2 + H → ok g' ∧ sh g' = 3 ∧ ht g' ≤ 2 + H := by
  intro n
  induction n with
  | zero => intro q g y g' h; cases h
  | succ n ih =>
    intro q g y g' h h1 h2 h3
    unfold gLp at h
    split at h
    · obtain ⟨a, s, k1, k2⟩ := pbind_some h
      obtain ⟨o1, o2, o3⟩ := hs _ _ _ k1
      exact ih _ _ _ _ k2 ⟨⟨Or.inl h2, o2⟩, h1, o1⟩ rfl (by show max (ht g) (2 + ht s) ≤ 2 + H; omega)
    · split at h
      · cases h
        exact ⟨h1, h2, h3⟩
      · cases h
theorem xP_ok {q y : Nat} {u w : Term} (h : xP ch q u = (y, some w)) : ∃ c, w = .elem u (.index c) ∧ cOK c := by
  unfold xP at h
  split at h
  · cases h
    exact ⟨16, rfl, Or.inl rfl⟩
  · split at h
    · split at h
      · split at h
        · split at h
          · cases h
            refine ⟨_, rfl, Or.inr ?_⟩
            omega
          · cases h
        · rename_i hd _
          cases h
          refine ⟨_, rfl, Or.inr ?_⟩
          have key : ∀ m, m < 10 → 1 ≤ m → (1 ≤ 17 * m / 16 ∧ 17 * m / 16 ≤ 17 * m % 16 ∧ 17 * m % 16 ≤ 9) := by decide
          exact key _ (by omega) (by omega)
      · cases h
    · cases h
      refine ⟨17, rfl, Or.inr ?_⟩
      omega
theorem tP_ok {f : Nat} (hs : ∀ p q s, sP ch f p = (q, some s) → ok s ∧ (sh s = 1 ∨ sh s = 2) ∧ ht s ≤ 3 * f) : ∀ p q t, tP ch (bP ch f) (sP ch f) p = (q, some t) → ok t ∧ sh t = 1 ∧ ht t ≤ 3 * (f + 1) := by
  intro p q t h
  unfold tP at h
  obtain ⟨a, u, h1, h2⟩ := pbind_some h
  obtain ⟨c, rfl, hc⟩ := xP_ok h2
  unfold uP at h1
  split at h1
  · obtain ⟨b, s, h3, h4⟩ := pbind_some h1
    obtain ⟨o1, o2, o3⟩ := hs _ _ _ h3
    obtain ⟨k1, k2, k3⟩ := gLp_ok hs 41 _ _ _ _ h4 ⟨⟨Or.inr rfl, o2⟩, trivial, o1⟩ rfl (by show max (ht .null) (2 + ht s) ≤ 2 + 3 * f; show max 1 (2 + ht s) ≤ _; omega)
    exact ⟨⟨⟨Or.inl k2, hc⟩, k1⟩, rfl, by show 1 + ht u ≤ _; omega⟩
  · obtain ⟨b, s, h3, h4⟩ := pbind_some h1
    cases h4
    exact ⟨⟨⟨Or.inr rfl, hc⟩, bP_bo _ _ _ _ h3, rfl, rfl, rfl⟩, rfl, by show 1 + 1 ≤ 3 * (f + 1); omega⟩
theorem sLp_ok {tq : Nat → PR} {H : Nat} (hs : ∀ p q t, tq p = (q, some t) → ok t ∧ sh t = 1 ∧ ht t ≤ H) : ∀ n q s y s', sLp ch tq n q s = (y, some s') → ok s → (sh s = 1 ∨ sh s = 2) → ht s ≤ H → ok s' ∧ (sh s' = 1 ∨ sh s' = 2) ∧ ht s' ≤ H := by
  intro n
  induction n with
  | zero => intro q g y g' h; cases h
  | succ n ih =>
    intro q s y s' h h1 h2 h3
    unfold sLp at h
    split at h
    · obtain ⟨a, t, k1, k2⟩ := pbind_some h
      obtain ⟨o1, o2, o3⟩ := hs _ _ _ k1
      exact ih _ _ _ _ k2 ⟨⟨h2, o2⟩, h1, o1⟩ (Or.inr rfl) (by show max (ht s) (ht t) ≤ H; omega)
    · cases h
      exact ⟨h1, h2, h3⟩
theorem sP_ok : ∀ f p q s, sP ch f p = (q, some s) → ok s ∧ (sh s = 1 ∨ sh s = 2) ∧ ht s ≤ 3 * f := by
  intro f
  induction f with
  | zero => intro p q s h; cases h
  | succ f ih =>
    intro p q s h
    unfold sP at h
    obtain ⟨a, t, k1, k2⟩ := pbind_some h
    obtain ⟨o1, o2, o3⟩ := tP_ok ih _ _ _ k1
    exact sLp_ok (tP_ok ih) 41 _ _ _ _ k2 o1 (Or.inl o2) o3
theorem pP_ok : ∀ f p q t, pP ch f p = (q, some t) → ok t ∧ sh t = 0 ∧ ht t ≤ 3 * f := by
  intro f
  induction f with
  | zero => intro p q s h; cases h
  | succ f ih =>
    intro p q t h
    unfold pP at h
    split at h
    · obtain ⟨a, b, h1, h2⟩ := pbind_some h
      cases h2
      obtain ⟨o1, o2, o3⟩ := ih _ _ _ h1
      exact ⟨⟨o2, o1⟩, rfl, by show ht b ≤ _; omega⟩
    · split at h
      · obtain ⟨a, b, h1, h2⟩ := pbind_some h
        cases h2
        obtain ⟨o1, o2, o3⟩ := ih _ _ _ h1
        exact ⟨⟨o2, o1⟩, rfl, by show ht b ≤ _; omega⟩
      · split at h
        · obtain ⟨a, s, h1, h2⟩ := pbind_some h
          obtain ⟨o1, o2, o3⟩ := sP_ok _ _ _ _ h1
          split at h2
          · split at h2
            · obtain ⟨a', b', h3, h4⟩ := pbind_some h2
              obtain ⟨k1, k2, k3⟩ := ih _ _ _ h3
              cases h4
              split
              · exact ⟨⟨⟨o2, k2⟩, o1, k1⟩, rfl, by show max (ht s) (ht b') ≤ _; omega⟩
              · exact ⟨⟨⟨o2, k2⟩, o1, k1⟩, rfl, by show max (ht s) (ht b') ≤ _; omega⟩
            · cases h2
          · cases h2
        · split at h
          · obtain ⟨a, b, h1, h2⟩ := pbind_some h
            obtain ⟨o1, o2, o3⟩ := ih _ _ _ h1
            split at h2
            · obtain ⟨a', b', h3, h4⟩ := pbind_some h2
              obtain ⟨k1, k2, k3⟩ := ih _ _ _ h3
              split at h4
              · cases h4
                split
                · exact ⟨⟨⟨o2, k2⟩, o1, k1⟩, rfl, by show max (ht b) (ht b') ≤ _; omega⟩
                · split
                  · exact ⟨⟨⟨o2, k2⟩, o1, k1⟩, rfl, by show max (ht b) (ht b') ≤ _; omega⟩
                  · exact ⟨⟨⟨o2, k2⟩, o1, k1⟩, rfl, by show max (ht b) (ht b') ≤ _; omega⟩
              · cases h4
            · cases h2
          · rename_i c4
            have hb := bP_bo _ _ _ _ h
            rcases bP_kind h c4 with ⟨v, rfl⟩ | ⟨x, rfl⟩
            · exact ⟨hb, rfl, by show 0 ≤ _; omega⟩
            · exact ⟨hb, rfl, by show 0 ≤ _; omega⟩
end OKP
