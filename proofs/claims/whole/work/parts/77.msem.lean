/-! what a property asks, as mathematics -/
abbrev Key := Nat × Nat
/-- the key of an obligation, by the class's number: (node, 0) of a property, (rule, j + 1) of a place -/
def kC : Term → Nat → Nat → Key
  | .add p q, x, o => if o < oC p then kC p (x + 1) o else kC q (x + 1 + nN p) (o - oC p)
  | .sub p q, x, o => if o < oC p then kC p (x + 1) o else kC q (x + 1 + nN p) (o - oC p)
  | .mul p q, x, o => if o < oC p then kC p (x + 1) o else if o < oC p + oC q then kC q (x + 1 + nN p) (o - oC p) else (x, 0)
  | .sum p, x, o => if o < oC p then kC p (x + 1) o else (x, 0)
  | .old p, x, o => if o < oC p then kC p (x + 1) o else (x + 1, 0)
  | .div s p, x, o => if o < len s then (x, o + 1) else kC p (x + 2 + nN s) (o - len s)
  | .rem s p, x, o => if o < len s then (x, o + 1) else if o < len s + oC p then kC p (x + 2 + nN s) (o - len s) else (x + 2 + nN s, 0)
  | _, x, _ => (x, 0)
/-- what a place asks -/
def qs (V : Nat → Nat → Bool) (l : Nat) (s : Term) (x : Nat) (thn : Bool) (j : Nat) : Bool := !bs (pl s j) l || ((List.range (len s)).all (fun i => !fo s j i || V x (i + 1)) && (!la s j || thn))
def rul (V : Nat → Nat → Bool) (l : Nat) (s : Term) (x : Nat) (thn : Bool) : Bool := (List.range (len s)).all (fun j => !fi s j || qs V l s x thn j)
/-- what a property asks -/
def sem (V : Nat → Nat → Bool) (l : Nat) : Term → Nat → Bool
  | .index v, _ => bs (.index v) l
  | .length b, _ => !bs b l
  | .add p q, x => sem V l p (x + 1) && sem V l q (x + 1 + nN p)
  | .sub p q, x => sem V l p (x + 1) || sem V l q (x + 1 + nN p)
  | .mul p q, x => sem V l q (x + 1 + nN p) || (sem V l p (x + 1) && V x 0)
  | .sum p, x => sem V l p (x + 1) && V x 0
  | .old _, x => V (x + 1) 0
  | .div s p, x => rul V l s x (sem V l p (x + 2 + nN s))
  | .rem s _, x => rul V l s x (V (x + 2 + nN s) 0)
  | _, _ => false
/-- what the obligation of a key asks -/
def ev (V : Nat → Nat → Bool) (l : Nat) : Term → Nat → Key → Bool
  | .add p q, x, k => if k.1 ≤ x then sem V l (.add p q) x else if k.1 < x + 1 + nN p then ev V l p (x + 1) k else ev V l q (x + 1 + nN p) k
  | .sub p q, x, k => if k.1 ≤ x then sem V l (.sub p q) x else if k.1 < x + 1 + nN p then ev V l p (x + 1) k else ev V l q (x + 1 + nN p) k
  | .mul p q, x, k => if k.1 ≤ x then sem V l (.mul p q) x else if k.1 < x + 1 + nN p then ev V l p (x + 1) k else ev V l q (x + 1 + nN p) k
  | .sum p, x, k => if k.1 ≤ x then sem V l (.sum p) x else ev V l p (x + 1) k
  | .old p, x, k => if k.1 ≤ x then sem V l (.old p) x else ev V l p (x + 1) k
  | .div s p, x, k => if k.1 ≤ x then (if k.2 = 0 then sem V l (.div s p) x else qs V l s x (sem V l p (x + 2 + nN s)) (k.2 - 1)) else ev V l p (x + 2 + nN s) k
  | .rem s p, x, k => if k.1 ≤ x then (if k.2 = 0 then sem V l (.rem s p) x else qs V l s x (V (x + 2 + nN s) 0) (k.2 - 1)) else ev V l p (x + 2 + nN s) k
  | t, x, _ => sem V l t x
theorem ev_top (V : Nat → Nat → Bool) (l : Nat) (t : Term) (x : Nat) : ev V l t x (x, 0) = sem V l t x := by
  cases t <;> first | rfl | exact if_pos (Nat.le_refl x) | exact (if_pos (Nat.le_refl x)).trans (if_pos rfl)
/-- all of a range -/
theorem all_iff {n : Nat} {f : Nat → Bool} : (List.range n).all f = true ↔ ∀ j, j < n → f j = true := by
  rw [List.all_eq_true]
  exact ⟨fun h j hj => h j (List.mem_range.mpr hj), fun h j hj => h j (List.mem_range.mp hj)⟩
theorem all_congr {n : Nat} {f g : Nat → Bool} (h : ∀ j, j < n → f j = g j) : (List.range n).all f = (List.range n).all g := by
  refine bool_iff ?_
  rw [all_iff, all_iff]
  exact ⟨fun h1 j hj => by rw [← h j hj]; exact h1 j hj, fun h1 j hj => by rw [h j hj]; exact h1 j hj⟩
theorem qs_congr {V V' : Nat → Nat → Bool} {l : Nat} {s : Term} {x : Nat} {a : Bool} (h : ∀ i, i < len s → V x (i + 1) = V' x (i + 1)) (j : Nat) : qs V l s x a j = qs V' l s x a j := by
  unfold qs
  rw [all_congr (g := fun i => !fo s j i || V' x (i + 1)) (fun i hi => by rw [h i hi])]
theorem rul_congr {V V' : Nat → Nat → Bool} {l : Nat} {s : Term} {x : Nat} {a : Bool} (h : ∀ i, i < len s → V x (i + 1) = V' x (i + 1)) : rul V l s x a = rul V' l s x a := by
  unfold rul
  refine all_congr (fun j _ => ?_)
  rw [qs_congr h]
/-- the key of a property that is its own obligation -/
theorem kC_own {t : Term} (h : own t = true) (x : Nat) : 1 ≤ oC t ∧ kC t x (oC t - 1) = (x, 0) := by
  cases t with
  | sum p =>
    have e : oC (.sum p) = oC p + 1 := rfl
    rw [e]
    refine ⟨by omega, ?_⟩
    show (if oC p + 1 - 1 < oC p then _ else _) = _
    rw [if_neg (by omega)]
  | mul p q =>
    have e : oC (.mul p q) = oC p + oC q + 1 := rfl
    rw [e]
    refine ⟨by omega, ?_⟩
    show (if oC p + oC q + 1 - 1 < oC p then _ else if oC p + oC q + 1 - 1 < oC p + oC q then _ else _) = _
    rw [if_neg (by omega), if_neg (by omega)]
  | _ => cases h
/-- two valuations are alike on a property's obligations -/
def VA (V V' : Nat → Nat → Bool) (t : Term) (x : Nat) : Prop := ∀ o, o < oC t → V (kC t x o).1 (kC t x o).2 = V' (kC t x o).1 (kC t x o).2
section VAS
variable {V V' : Nat → Nat → Bool} {l : Nat}
theorem VA.pairl {p q : Term} {x : Nat} {f : Term → Term → Term} (hf : f = .add ∨ f = .sub ∨ f = .mul) (h : VA V V' (f p q) x) : VA V V' p (x + 1) := fun o ho => by
  rcases hf with rfl | rfl | rfl
  · have := h o (by show o < oC p + oC q; omega)
    rw [show kC (.add p q) x o = kC p (x + 1) o from if_pos ho] at this
    exact this
  · have := h o (by show o < oC p + oC q; omega)
    rw [show kC (.sub p q) x o = kC p (x + 1) o from if_pos ho] at this
    exact this
  · have := h o (by show o < oC p + oC q + 1; omega)
    rw [show kC (.mul p q) x o = kC p (x + 1) o from if_pos ho] at this
    exact this
theorem VA.pairr {p q : Term} {x : Nat} {f : Term → Term → Term} (hf : f = .add ∨ f = .sub ∨ f = .mul) (h : VA V V' (f p q) x) : VA V V' q (x + 1 + nN p) := fun o ho => by
  have e : oC p + o - oC p = o := by omega
  rcases hf with rfl | rfl | rfl
  · have := h (oC p + o) (by show oC p + o < oC p + oC q; omega)
    rw [show kC (.add p q) x (oC p + o) = kC q (x + 1 + nN p) (oC p + o - oC p) from if_neg (by omega), e] at this
    exact this
  · have := h (oC p + o) (by show oC p + o < oC p + oC q; omega)
    rw [show kC (.sub p q) x (oC p + o) = kC q (x + 1 + nN p) (oC p + o - oC p) from if_neg (by omega), e] at this
    exact this
  · have := h (oC p + o) (by show oC p + o < oC p + oC q + 1; omega)
    rw [show kC (.mul p q) x (oC p + o) = kC q (x + 1 + nN p) (oC p + o - oC p) from (if_neg (by omega)).trans (if_pos (by omega)), e] at this
    exact this
theorem VA.selfW {p q : Term} {x : Nat} (h : VA V V' (.mul p q) x) : V x 0 = V' x 0 := by
  obtain ⟨a, b⟩ := kC_own (t := .mul p q) rfl x
  have := h (oC (.mul p q) - 1) (by omega)
  rw [b] at this
  exact this
theorem VA.selfG {p : Term} {x : Nat} (h : VA V V' (.sum p) x) : V x 0 = V' x 0 := by
  obtain ⟨a, b⟩ := kC_own (t := .sum p) rfl x
  have := h (oC (.sum p) - 1) (by omega)
  rw [b] at this
  exact this
theorem VA.sum {p : Term} {x : Nat} (h : VA V V' (.sum p) x) : VA V V' p (x + 1) := fun o ho => by
  have := h o (by show o < oC p + 1; omega)
  rw [show kC (.sum p) x o = kC p (x + 1) o from if_pos ho] at this
  exact this
theorem VA.old {p : Term} {x : Nat} (h : VA V V' (.old p) x) : VA V V' p (x + 1) := fun o ho => by
  have := h o (by show o < oC p + _; omega)
  rw [show kC (.old p) x o = kC p (x + 1) o from if_pos ho] at this
  exact this
theorem VA.nxt {p : Term} {x : Nat} (h : VA V V' (.old p) x) : V (x + 1) 0 = V' (x + 1) 0 := by
  by_cases ho : own p = true
  · obtain ⟨a, b⟩ := kC_own ho (x + 1)
    have := h.old (oC p - 1) (by omega)
    rw [b] at this
    exact this
  · have := h (oC p) (by show oC p < oC p + (if own p = true then 0 else 1); rw [if_neg ho]; omega)
    rw [show kC (.old p) x (oC p) = (x + 1, 0) from if_neg (by omega)] at this
    exact this
theorem VA.divp {s p : Term} {x : Nat} (h : VA V V' (.div s p) x) : VA V V' p (x + 2 + nN s) := fun o ho => by
  have := h (len s + o) (by show len s + o < len s + oC p; omega)
  rw [show kC (.div s p) x (len s + o) = kC p (x + 2 + nN s) (len s + o - len s) from if_neg (by omega), show len s + o - len s = o from by omega] at this
  exact this
theorem VA.divs {s p : Term} {x : Nat} (h : VA V V' (.div s p) x) : ∀ i, i < len s → V x (i + 1) = V' x (i + 1) := fun i hi => by
  have := h i (by show i < len s + oC p; omega)
  rw [show kC (.div s p) x i = (x, i + 1) from if_pos hi] at this
  exact this
theorem VA.remp {s p : Term} {x : Nat} (h : VA V V' (.rem s p) x) : VA V V' p (x + 2 + nN s) := fun o ho => by
  have := h (len s + o) (by show len s + o < len s + oC p + _; omega)
  rw [show kC (.rem s p) x (len s + o) = kC p (x + 2 + nN s) (len s + o - len s) from (if_neg (by omega)).trans (if_pos (by omega)), show len s + o - len s = o from by omega] at this
  exact this
theorem VA.rems {s p : Term} {x : Nat} (h : VA V V' (.rem s p) x) : ∀ i, i < len s → V x (i + 1) = V' x (i + 1) := fun i hi => by
  have := h i (by show i < len s + oC p + _; omega)
  rw [show kC (.rem s p) x i = (x, i + 1) from if_pos hi] at this
  exact this
theorem VA.remn {s p : Term} {x : Nat} (h : VA V V' (.rem s p) x) : V (x + 2 + nN s) 0 = V' (x + 2 + nN s) 0 := by
  by_cases ho : own p = true
  · obtain ⟨a, b⟩ := kC_own ho (x + 2 + nN s)
    have := h.remp (oC p - 1) (by omega)
    rw [b] at this
    exact this
  · have := h (len s + oC p) (by show len s + oC p < len s + oC p + (if own p = true then 0 else 1); rw [if_neg ho]; omega)
    rw [show kC (.rem s p) x (len s + oC p) = (x + 2 + nN s, 0) from (if_neg (by omega)).trans (if_neg (by omega))] at this
    exact this
theorem sem_congr : ∀ t x, VA V V' t x → sem V l t x = sem V' l t x := by
  intro t
  induction t using tind with
  | h t ih =>
    intro x h
    unfold sem
    split
    · rfl
    · rfl
    · rename_i p q
      rw [ih p (by simp; omega) _ (h.pairl (f := .add) (Or.inl rfl)), ih q (by simp; omega) _ (h.pairr (f := .add) (Or.inl rfl))]
    · rename_i p q
      rw [ih p (by simp; omega) _ (h.pairl (f := .sub) (Or.inr (Or.inl rfl))), ih q (by simp; omega) _ (h.pairr (f := .sub) (Or.inr (Or.inl rfl)))]
    · rename_i p q
      rw [ih p (by simp; omega) _ (h.pairl (f := .mul) (Or.inr (Or.inr rfl))), ih q (by simp; omega) _ (h.pairr (f := .mul) (Or.inr (Or.inr rfl))), h.selfW]
    · rename_i p
      rw [ih p (by simp) _ h.sum, h.selfG]
    · exact h.nxt
    · rename_i s p
      rw [ih p (by simp; omega) _ h.divp]
      exact rul_congr h.divs
    · rename_i s p
      rw [h.remn]
      exact rul_congr h.rems
    · rfl
theorem ev_congr : ∀ t x k, VA V V' t x → ev V l t x k = ev V' l t x k := by
  intro t
  induction t using tind with
  | h t ih =>
    intro x k h
    have hs := sem_congr (l := l) t x h
    unfold ev
    split
    · rename_i p q
      rw [hs, ih p (by simp; omega) _ k (h.pairl (f := .add) (Or.inl rfl)), ih q (by simp; omega) _ k (h.pairr (f := .add) (Or.inl rfl))]
    · rename_i p q
      rw [hs, ih p (by simp; omega) _ k (h.pairl (f := .sub) (Or.inr (Or.inl rfl))), ih q (by simp; omega) _ k (h.pairr (f := .sub) (Or.inr (Or.inl rfl)))]
    · rename_i p q
      rw [hs, ih p (by simp; omega) _ k (h.pairl (f := .mul) (Or.inr (Or.inr rfl))), ih q (by simp; omega) _ k (h.pairr (f := .mul) (Or.inr (Or.inr rfl)))]
    · rename_i p
      rw [hs, ih p (by simp) _ k h.sum]
    · rename_i p
      rw [hs, ih p (by simp) _ k h.old]
    · rename_i s p
      rw [hs, ih p (by simp; omega) _ k h.divp, sem_congr (l := l) p _ h.divp, qs_congr h.divs]
    · rename_i s p
      rw [hs, ih p (by simp; omega) _ k h.remp, h.remn, qs_congr h.rems]
    · exact hs
/-- more obligations, more that is enough -/
theorem qs_mono {s : Term} {x : Nat} {a a' : Bool} (hV : ∀ i j, V i j = true → V' i j = true) (ha : a = true → a' = true) (j : Nat) (h : qs V l s x a j = true) : qs V' l s x a' j = true := by
  unfold qs at h ⊢
  rw [Bool.or_eq_true, Bool.and_eq_true, all_iff] at h ⊢
  rcases h with h | ⟨h1, h2⟩
  · exact Or.inl h
  · refine Or.inr ⟨fun i hi => ?_, ?_⟩
    · have := h1 i hi
      rw [Bool.or_eq_true] at this ⊢
      rcases this with h | h
      · exact Or.inl h
      · exact Or.inr (hV _ _ h)
    · rw [Bool.or_eq_true] at h2 ⊢
      rcases h2 with h | h
      · exact Or.inl h
      · exact Or.inr (ha h)
theorem rul_mono {s : Term} {x : Nat} {a a' : Bool} (hV : ∀ i j, V i j = true → V' i j = true) (ha : a = true → a' = true) (h : rul V l s x a = true) : rul V' l s x a' = true := by
  unfold rul at h ⊢
  rw [all_iff] at h ⊢
  intro j hj
  have := h j hj
  rw [Bool.or_eq_true] at this ⊢
  rcases this with h | h
  · exact Or.inl h
  · exact Or.inr (qs_mono hV ha j h)
theorem sem_mono (hV : ∀ i j, V i j = true → V' i j = true) : ∀ t x, sem V l t x = true → sem V' l t x = true := by
  intro t
  induction t using tind with
  | h t ih =>
    intro x h
    unfold sem at h ⊢
    split at h
    · exact h
    · exact h
    · rename_i p q
      rw [Bool.and_eq_true] at h ⊢
      exact ⟨ih p (by simp; omega) _ h.1, ih q (by simp; omega) _ h.2⟩
    · rename_i p q
      rw [Bool.or_eq_true] at h ⊢
      rcases h with h | h
      · exact Or.inl (ih p (by simp; omega) _ h)
      · exact Or.inr (ih q (by simp; omega) _ h)
    · rename_i p q
      rw [Bool.or_eq_true, Bool.and_eq_true] at h ⊢
      rcases h with h | ⟨h1, h2⟩
      · exact Or.inl (ih q (by simp; omega) _ h)
      · exact Or.inr ⟨ih p (by simp; omega) _ h1, hV _ _ h2⟩
    · rename_i p
      rw [Bool.and_eq_true] at h ⊢
      exact ⟨ih p (by simp) _ h.1, hV _ _ h.2⟩
    · exact hV _ _ h
    · rename_i s p
      exact rul_mono hV (ih p (by simp; omega) _) h
    · exact rul_mono hV (hV _ _) h
    · exact h
theorem ev_mono (hV : ∀ i j, V i j = true → V' i j = true) : ∀ t x k, ev V l t x k = true → ev V' l t x k = true := by
  intro t
  induction t using tind with
  | h t ih =>
    intro x k h
    have hs := sem_mono (l := l) hV t x
    unfold ev at h ⊢
    split at h
    · rename_i p q
      split at h
      · rw [if_pos (by assumption)]; exact hs h
      · rw [if_neg (by assumption)]
        split at h
        · rw [if_pos (by assumption)]; exact ih p (by simp; omega) _ k h
        · rw [if_neg (by assumption)]; exact ih q (by simp; omega) _ k h
    · rename_i p q
      split at h
      · rw [if_pos (by assumption)]; exact hs h
      · rw [if_neg (by assumption)]
        split at h
        · rw [if_pos (by assumption)]; exact ih p (by simp; omega) _ k h
        · rw [if_neg (by assumption)]; exact ih q (by simp; omega) _ k h
    · rename_i p q
      split at h
      · rw [if_pos (by assumption)]; exact hs h
      · rw [if_neg (by assumption)]
        split at h
        · rw [if_pos (by assumption)]; exact ih p (by simp; omega) _ k h
        · rw [if_neg (by assumption)]; exact ih q (by simp; omega) _ k h
    · rename_i p
      split at h
      · rw [if_pos (by assumption)]; exact hs h
      · rw [if_neg (by assumption)]; exact ih p (by simp) _ k h
    · rename_i p
      split at h
      · rw [if_pos (by assumption)]; exact hs h
      · rw [if_neg (by assumption)]; exact ih p (by simp) _ k h
    · rename_i s p
      split at h
      · rw [if_pos (by assumption)]
        split at h
        · rw [if_pos (by assumption)]; exact hs h
        · rw [if_neg (by assumption)]; exact qs_mono hV (sem_mono hV p _) _ h
      · rw [if_neg (by assumption)]; exact ih p (by simp; omega) _ k h
    · rename_i s p
      split at h
      · rw [if_pos (by assumption)]
        split at h
        · rw [if_pos (by assumption)]; exact hs h
        · rw [if_neg (by assumption)]; exact qs_mono hV (hV _ _) _ h
      · rw [if_neg (by assumption)]; exact ih p (by simp; omega) _ k h
    · exact hs h
end VAS
/-- keys lie within -/
theorem ok_nN : ∀ t, ok t → 1 ≤ nN t := by
  have hb : ∀ b, isBo b → 1 ≤ nN b := by
    intro b h
    cases b <;> first | exact h.elim | (simp only [nN]; omega)
  intro t
  induction t using tind with
  | h t ih =>
    intro h
    unfold ok at h
    split at h
    all_goals first
      | (exact h.elim)
      | (rename_i b _ _ _; exact hb b h.1)
      | (rename_i s t; have := ih s (by simp; omega) h.2.1; simp only [nN]; omega)
      | (simp only [nN]; omega)
theorem kC_in : ∀ t x o, ok t → sh t = 0 → o < oC t → x ≤ (kC t x o).1 ∧ (kC t x o).1 < x + nN t ∧ ((kC t x o).1 = x → (kC t x o).2 = 0 → own t = true) := by
  intro t
  induction t using tind with
  | h t ih =>
    intro x o hok hsh ho
    unfold ok at hok
    split at hok
    · exact absurd ho (Nat.not_lt_zero _)
    · exact absurd ho (Nat.not_lt_zero _)
    · rename_i p q
      have e : nN (.add p q) = 1 + nN p + nN q := rfl
      have ho : o < oC p + oC q := ho
      show x ≤ (if o < oC p then _ else _ : Key).1 ∧ _ ∧ _
      by_cases h1 : o < oC p
      · rw [show kC (.add p q) x o = kC p (x + 1) o from if_pos h1, if_pos h1]
        have := ih p (by simp; omega) (x + 1) o hok.2.1 hok.1.1 h1
        rw [e]
        exact ⟨by omega, by omega, fun h => by omega⟩
      · rw [show kC (.add p q) x o = kC q (x + 1 + nN p) (o - oC p) from if_neg h1, if_neg h1]
        have := ih q (by simp; omega) (x + 1 + nN p) (o - oC p) hok.2.2 hok.1.2 (by omega)
        rw [e]
        exact ⟨by omega, by omega, fun h => by omega⟩
    · rename_i p q
      have e : nN (.sub p q) = 1 + nN p + nN q := rfl
      have ho : o < oC p + oC q := ho
      by_cases h1 : o < oC p
      · rw [show kC (.sub p q) x o = kC p (x + 1) o from if_pos h1]
        have := ih p (by simp; omega) (x + 1) o hok.2.1 hok.1.1 h1
        rw [e]
        exact ⟨by omega, by omega, fun h => by omega⟩
      · rw [show kC (.sub p q) x o = kC q (x + 1 + nN p) (o - oC p) from if_neg h1]
        have := ih q (by simp; omega) (x + 1 + nN p) (o - oC p) hok.2.2 hok.1.2 (by omega)
        rw [e]
        exact ⟨by omega, by omega, fun h => by omega⟩
    · rename_i p q
      have e : nN (.mul p q) = 1 + nN p + nN q := rfl
      have ho : o < oC p + oC q + 1 := ho
      by_cases h1 : o < oC p
      · rw [show kC (.mul p q) x o = kC p (x + 1) o from if_pos h1]
        have := ih p (by simp; omega) (x + 1) o hok.2.1 hok.1.1 h1
        rw [e]
        exact ⟨by omega, by omega, fun h => by omega⟩
      · by_cases h2 : o < oC p + oC q
        · rw [show kC (.mul p q) x o = kC q (x + 1 + nN p) (o - oC p) from (if_neg h1).trans (if_pos h2)]
          have := ih q (by simp; omega) (x + 1 + nN p) (o - oC p) hok.2.2 hok.1.2 (by omega)
          rw [e]
          exact ⟨by omega, by omega, fun h => by omega⟩
        · rw [show kC (.mul p q) x o = (x, 0) from (if_neg h1).trans (if_neg h2), e]
          exact ⟨Nat.le_refl _, by show x < _; omega, fun _ _ => rfl⟩
    · rename_i p
      have e : nN (.sum p) = 1 + nN p := rfl
      have ho : o < oC p + 1 := ho
      by_cases h1 : o < oC p
      · rw [show kC (.sum p) x o = kC p (x + 1) o from if_pos h1]
        have := ih p (by simp) (x + 1) o hok.2 hok.1 h1
        rw [e]
        exact ⟨by omega, by omega, fun h => by omega⟩
      · rw [show kC (.sum p) x o = (x, 0) from if_neg h1, e]
        exact ⟨Nat.le_refl _, by show x < _; omega, fun _ _ => rfl⟩
    · rename_i p
      have e : nN (.old p) = 1 + nN p := rfl
      have hp := ok_nN p hok.2
      by_cases h1 : o < oC p
      · rw [show kC (.old p) x o = kC p (x + 1) o from if_pos h1]
        have := ih p (by simp) (x + 1) o hok.2 hok.1 h1
        rw [e]
        exact ⟨by omega, by omega, fun h => by omega⟩
      · rw [show kC (.old p) x o = (x + 1, 0) from if_neg h1, e]
        exact ⟨by show x ≤ x + 1; omega, by show x + 1 < _; omega, fun h => by have h : x + 1 = x := h; omega⟩
    · rename_i s p
      have e : nN (.div s p) = 2 + nN s + nN p := rfl
      have ho : o < len s + oC p := ho
      by_cases h1 : o < len s
      · rw [show kC (.div s p) x o = (x, o + 1) from if_pos h1, e]
        exact ⟨Nat.le_refl _, by show x < _; omega, fun _ h => by have h : o + 1 = 0 := h; omega⟩
      · rw [show kC (.div s p) x o = kC p (x + 2 + nN s) (o - len s) from if_neg h1]
        have := ih p (by simp; omega) (x + 2 + nN s) (o - len s) hok.2.2 hok.1.2 (by omega)
        rw [e]
        exact ⟨by omega, by omega, fun h => by omega⟩
    · rename_i s p
      have e : nN (.rem s p) = 2 + nN s + nN p := rfl
      have hp := ok_nN p hok.2.2
      by_cases h1 : o < len s
      · rw [show kC (.rem s p) x o = (x, o + 1) from if_pos h1, e]
        exact ⟨Nat.le_refl _, by show x < _; omega, fun _ h => by have h : o + 1 = 0 := h; omega⟩
      · by_cases h2 : o < len s + oC p
        · rw [show kC (.rem s p) x o = kC p (x + 2 + nN s) (o - len s) from (if_neg h1).trans (if_pos h2)]
          have := ih p (by simp; omega) (x + 2 + nN s) (o - len s) hok.2.2 hok.1.2 (by omega)
          rw [e]
          exact ⟨by omega, by omega, fun h => by omega⟩
        · rw [show kC (.rem s p) x o = (x + 2 + nN s, 0) from (if_neg h1).trans (if_neg h2), e]
          exact ⟨by show x ≤ x + 2 + nN s; omega, by show x + 2 + nN s < _; omega, fun h => by have h : x + 2 + nN s = x := h; omega⟩
    all_goals first | exact hok.elim | (cases hsh)
