/-! the reference's reader: booleans -/
section RBO
variable {N ln : Nat} {ch : Nat → Nat}
/-- what a read of a tree comes to -/
def RO (N : Nat) (ch : Nat → Nat) (ln p x : Nat) (par : Option Nat) (L : List IT) (m : Nat) (r : PR) (σ : St) : Prop := match r with
  | (q, some t) => ∃ c σ', Go N c σ σ' ∧ c + 3 + 4 * p ≤ 4 * q ∧ RQ ch ln q (x + nN t) L σ' ∧ RR (nd σ') t x ∧ (∀ i, i < x → nd σ' i = hangF (nd σ) par x i) ∧ nN t + m * p ≤ m * q ∧ lastn t x = x
  | (q, none) => ∃ c, Bd N c q σ ∧ c + 4 * p ≤ 4 * q + 2
/-- the parts of a pair -/
theorem ref_pair {p x dep w m : Nat} {par : Option Nat} {L : List IT} {σ : St} {sp : Nat → PR} {r : PR} (hm : 1 ≤ m) (hw : w = 1 ∨ w = 2) (hdep : dep ≤ 12) (h : RQ ch ln p x ((J w, pI par, J dep) :: L) σ) (hx : x ≤ 3 * p + 3) (hL : L.length ≤ 4 * dep) (hp : HO (nd σ) par) (hpx : ∀ k, par = some k → k < x) (hc : ch p = 40) (hs : ∀ p x par L σ, RQ ch ln p x ((J w, pI par, J (dep + 1)) :: L) σ → x ≤ 3 * p + 3 → L.length ≤ 4 * (dep + 1) → HO (nd σ) par → (∀ k, par = some k → k < x) → RO N ch ln p x par L m (sp p) σ) (hm3 : m ≤ 3) (hr : match sp (p + 1) with
    | (q, none) => r = (q, none)
    | (q, some a) => (¬ (ch q = 38 ∨ ch q = 124 ∨ (ch q = 87 ∧ w = 1)) → r = (q, none)) ∧ ((ch q = 38 ∨ ch q = 124 ∨ (ch q = 87 ∧ w = 1)) → match sp (q + 1) with
      | (y, none) => r = (y, none)
      | (y, some b) => (ch y = 41 → r = (y + 1, some (if ch q = 38 then .add a b else if ch q = 124 then .sub a b else .mul a b))) ∧ (¬ ch y = 41 → r = (y, none)))) : RO N ch ln p x par L m r σ := by
  have hpl := h.lt (i := p) (by omega)
  have hln := h.pl
  obtain ⟨σ1, a1, a2, a3, a4⟩ := ref_paren (N := N) h (by omega) hw hdep (by omega) hp hpx hc
  have hs1 := hs (p + 1) (x + 1) (some x) _ σ1 a2 (by omega) (by simp only [List.length_cons]; omega) (fun k hk => by cases hk; exact ⟨by omega, Or.inl (by rw [a3]; rfl)⟩) (fun k hk => by cases hk; omega)
  generalize sp (p + 1) = r1 at hs1 hr
  obtain ⟨q, a⟩ := r1
  cases a with
  | none =>
    have hr : r = (q, none) := hr
    subst hr
    obtain ⟨c, b1, b2⟩ := hs1
    exact ⟨1 + c, Bd.pre a1 b1, by omega⟩
  | some a =>
    obtain ⟨hr1, hr2⟩ := hr
    obtain ⟨c1, σ2, b1, b2, b3, b4, b5, b6, b7⟩ := hs1
    have hq := b3.pl
    have h2x : nd σ2 x = (J 3, J (x + 1), -J 1, -J 1, -J 1, J 1) := by
      rw [b5 x (by omega), hangF_at0 (by rw [a3]; rfl), a3]
      rfl
    have h2i : ∀ i, i < x → nd σ2 i = hangF (nd σ) par x i := fun i hi => by rw [b5 i (by omega), hangF_ne (by omega)]; exact a4 i hi
    have pa := RR_pos _ _ b4
    have hq3 : q ≤ 3 * q := by omega
    have hnb : nN a + 3 * (p + 1) ≤ 3 * q := by
      have hpq : p + 1 ≤ q := by omega
      obtain ⟨e, he⟩ : ∃ e, q = p + 1 + e := ⟨q - (p + 1), by omega⟩
      rw [he] at b6 ⊢
      rw [Nat.mul_add m (p + 1) e] at b6
      have : m * e ≤ 3 * e := Nat.mul_le_mul_right _ hm3
      omega
    obtain ⟨lk1, lk2⟩ := ref_link (N := N) (w := if w = 1 then 4 else 5) b3 (by simp only [List.length_cons]; omega) (show x < 160 by omega) (by
      rcases hw with rfl | rfl
      · exact Or.inl rfl
      · exact Or.inr rfl)
    have hcond : (ch q = 38 ∨ ch q = 124 ∨ (ch q = 87 ∧ (if w = 1 then 4 else 5) = 4)) ↔ (ch q = 38 ∨ ch q = 124 ∨ (ch q = 87 ∧ w = 1)) := by
      rcases hw with rfl | rfl
      · simp
      · simp
    by_cases hk : ch q = 38 ∨ ch q = 124 ∨ (ch q = 87 ∧ w = 1)
    · obtain ⟨σ3, d1, d2, d3⟩ := lk1 (hcond.mpr hk)
      have hql := b3.lt (i := q) (by omega)
      have h3x : nd σ3 x = (J (if ch q = 38 then 3 else if ch q = 124 then 4 else 5), J (x + 1), -J 1, -J 1, -J 1, J 1) := by
        rw [d3 x, if_pos rfl, h2x]
        rfl
      have h3i : ∀ i, ¬ i = x → nd σ3 i = nd σ2 i := fun i hi => by rw [d3 i, if_neg hi]
      have hs2 := hs (q + 1) (x + 1 + nN a) (some x) _ σ3 d2 (by omega) (by simp only [List.length_cons]; omega) (fun k hk => by cases hk; exact ⟨by omega, Or.inr ⟨x + 1, by omega, by rw [h3x]; rfl⟩⟩) (fun k hk => by cases hk; omega)
      have hr2 := hr2 hk
      generalize sp (q + 1) = r2 at hs2 hr2
      obtain ⟨y, b⟩ := r2
      cases b with
      | none =>
        have hr2 : r = (y, none) := hr2
        subst hr2
        obtain ⟨c, e1, e2⟩ := hs2
        exact ⟨1 + (c1 + (1 + c)), Bd.pre a1 (Bd.pre b1 (Bd.pre d1 e1)), by omega⟩
      | some b =>
        obtain ⟨hr3, hr4⟩ := hr2
        obtain ⟨c2, σ4, e1, e2, e3, e4, e5, e6, e7⟩ := hs2
        obtain ⟨g1, g2⟩ := ref_sign (N := N) e3 (by omega) (by omega) (by omega)
        by_cases h41 : ch y = 41
        · obtain ⟨σ5, k1, k2, k3⟩ := g1 h41
          have hyl := e3.lt (i := y) (by omega)
          have hr3 := hr3 h41
          subst hr3
          have hnN : nN (if ch q = 38 then Term.add a b else if ch q = 124 then .sub a b else .mul a b) = 1 + nN a + nN b := by
            split
            · rfl
            · split <;> rfl
          have hlast : lastn (if ch q = 38 then Term.add a b else if ch q = 124 then .sub a b else .mul a b) x = x := by
            split
            · rfl
            · split <;> rfl
          have h4x : nd σ4 x = (J (if ch q = 38 then 3 else if ch q = 124 then 4 else 5), J (x + 1), J (x + 1 + nN a), -J 1, -J 1, J 1) := by
            rw [e5 x (by omega), hangF_at1 (by rw [h3x]; show ¬ J (x + 1) = -J 1; rw [J_ne (by omega)]; exact id), h3x]
            rfl
          have h4i : ∀ i, i < x + 1 + nN a → ¬ i = x → nd σ4 i = nd σ2 i := fun i hi hx => by rw [e5 i hi, hangF_ne hx, h3i i hx]
          have hRa : RR (nd σ4) a (x + 1) := RR_keep (z := x) a (x + 1) (by omega) (fun i i1 i2 => by rw [h4i i i2 (by omega)]; exact ⟨agB.rf, fun _ => rfl⟩) b4
          refine ⟨1 + (c1 + (1 + (c2 + 1))), σ5, a1.tr (b1.tr (d1.tr (e1.tr k1))), by omega, ?_, ?_, fun i hi => ?_, ?_, hlast⟩
          · rw [hnN, show x + (1 + nN a + nN b) = x + 1 + nN a + nN b from by omega]
            exact k2
          · rw [k3]
            by_cases h38 : ch q = 38
            · rw [if_pos h38]
              rw [if_pos h38] at h4x
              exact ⟨by rw [h4x]; exact ⟨rfl, rfl, rfl⟩, hRa, e4⟩
            · rw [if_neg h38]
              rw [if_neg h38] at h4x
              by_cases h124 : ch q = 124
              · rw [if_pos h124]
                rw [if_pos h124] at h4x
                exact ⟨by rw [h4x]; exact ⟨rfl, rfl, rfl⟩, hRa, e4⟩
              · rw [if_neg h124]
                rw [if_neg h124] at h4x
                exact ⟨by rw [h4x]; exact ⟨rfl, rfl, rfl⟩, hRa, e4⟩
          · rw [k3, h4i i (by omega) (by omega)]
            exact h2i i hi
          · rw [hnN]
            have q1 : m * (p + 1) = m * p + m := Nat.mul_succ m p
            have q2 : m * (q + 1) = m * q + m := Nat.mul_succ m q
            have q3 : m * (y + 1) = m * y + m := Nat.mul_succ m y
            omega
        · have hr4 := hr4 h41
          subst hr4
          exact ⟨1 + (c1 + (1 + (c2 + 2))), Bd.pre a1 (Bd.pre b1 (Bd.pre d1 (Bd.pre e1 (g2 h41)))), by omega⟩
    · have hr1 := hr1 hk
      subst hr1
      exact ⟨1 + (c1 + 2), Bd.pre a1 (Bd.pre b1 (lk2 (fun h9 => hk (hcond.mp h9)))), by omega⟩
/-- ! G X and what stands behind them -/
theorem ref_un {p x dep w w2 c kd m : Nat} {par : Option Nat} {L : List IT} {σ : St} {r1 r : PR} {f : Term → Term} (hm : 1 ≤ m) (hw : w = 1 ∨ w = 2) (hdep : dep ≤ 12) (h : RQ ch ln p x ((J w, pI par, J dep) :: L) σ) (hx : x ≤ 3 * p + 3) (hL : L.length ≤ 4 * dep) (hp : HO (nd σ) par) (hpx : ∀ k, par = some k → k < x) (hc : ch p = c) (hcs : (c = 33 ∧ kd = 2 ∧ w2 = 2) ∨ (w = 1 ∧ w2 = 1 ∧ ((c = 71 ∧ kd = 6) ∨ (c = 88 ∧ kd = 7)))) (hs : ∀ σ, RQ ch ln (p + 1) (x + 1) ((J w2, pI (some x), J (dep + 1)) :: L) σ → HO (nd σ) (some x) → RO N ch ln (p + 1) (x + 1) (some x) L m r1 σ) (hf : ∀ t, nN (f t) = 1 + nN t ∧ lastn (f t) x = x ∧ ∀ F, RR F (f t) x ↔ (nK (F x) = J kd ∧ nO (F x) = J (x + 1)) ∧ RR F t (x + 1)) (hr : r = pbind r1 (fun q t => (q, some (f t)))) : RO N ch ln p x par L m r σ := by
  subst hr
  have hpl := h.lt (i := p) (by omega)
  have hln := h.pl
  obtain ⟨σ1, a1, a2, a3, a4⟩ := ref_one (N := N) (c := c) (kd := kd) (w2 := w2) h (by omega) hw hdep (by omega) hp hpx hc hcs
  have hs1 := hs σ1 a2 (fun k hk => by cases hk; exact ⟨by omega, Or.inl (by rw [a3]; rfl)⟩)
  obtain ⟨q, a⟩ := r1
  cases a with
  | none =>
    obtain ⟨c, b1, b2⟩ := hs1
    exact ⟨1 + c, Bd.pre a1 b1, by omega⟩
  | some a =>
    obtain ⟨c1, σ2, b1, b2, b3, b4, b5, b6, b7⟩ := hs1
    obtain ⟨f1, f2, f3⟩ := hf a
    refine ⟨1 + c1, σ2, a1.tr b1, by omega, ?_, ?_, fun i hi => ?_, ?_, f2⟩
    · rw [f1, ← Nat.add_assoc]
      exact b3
    · rw [f3, b5 x (by omega), hangF_at0 (by rw [a3]; rfl), a3]
      exact ⟨⟨rfl, rfl⟩, b4⟩
    · rw [b5 i (by omega), hangF_ne (by omega)]
      exact a4 i hi
    · rw [f1]
      have q1 : m * (p + 1) = m * p + m := Nat.mul_succ m p
      omega
/-- a letter -/
theorem ref_letter {p x dep w v m : Nat} {par : Option Nat} {L : List IT} {σ : St} (hm : 1 ≤ m) (hw : w = 1 ∨ w = 2) (hdep : dep ≤ 12) (h : RQ ch ln p x ((J w, pI par, J dep) :: L) σ) (hx : x ≤ 3 * p + 3) (hL : L.length ≤ 4 * dep) (hp : HO (nd σ) par) (hpx : ∀ k, par = some k → k < x) (hv : litv (ch p) = some v) : RO N ch ln p x par L m (p + 1, some (.index v)) σ := by
  have hln := h.pl
  obtain ⟨σ1, a1, a2, a3, a4⟩ := ref_lit1 (N := N) h (by omega) hw hdep (by omega) hp hpx hv
  refine ⟨1, σ1, a1, by omega, a2, ?_, a4, ?_, rfl⟩
  · show nK (nd σ1 x) = J 1 ∧ nL (nd σ1 x) = J v
    rw [a3]
    exact ⟨rfl, rfl⟩
  · have q1 : m * (p + 1) = m * p + m := Nat.mul_succ m p
    show 1 + m * p ≤ m * (p + 1)
    omega
theorem ref_bool : ∀ f p dep x par L σ, dep + f = 13 → RQ ch ln p x ((J 2, pI par, J dep) :: L) σ → x ≤ 3 * p + 3 → L.length ≤ 4 * dep → HO (nd σ) par → (∀ k, par = some k → k < x) → RO N ch ln p x par L 1 (bP ch f p) σ := by
  intro f
  induction f with
  | zero =>
    intro p dep x par L σ hd h hx hL hp hpx
    exact ⟨2, ref_bad_sp h (by omega) (Or.inr rfl) (by omega) (Or.inl (by omega)), by omega⟩
  | succ f ih =>
    intro p dep x par L σ hd h hx hL hp hpx
    unfold bP
    by_cases h33 : ch p = 33
    · rw [if_pos h33]
      refine ref_un (f := .length) (by omega) (Or.inr rfl) (by omega) h hx hL hp hpx h33 (Or.inl ⟨rfl, rfl, rfl⟩) (fun σ1 h1 h2 => ih (p + 1) (dep + 1) (x + 1) (some x) L σ1 (by omega) h1 (by omega) (by omega) h2 (fun k hk => by cases hk; omega)) (fun t => ⟨rfl, rfl, fun F => Iff.rfl⟩) rfl
    · rw [if_neg h33]
      by_cases h40 : ch p = 40
      · rw [if_pos h40]
        refine ref_pair (sp := bP ch f) (by omega) (Or.inr rfl) (by omega) h hx hL hp hpx h40 (fun p x par L σ h1 h2 h3 h4 h5 => ih p (dep + 1) x par L σ (by omega) h1 h2 h3 h4 h5) (by omega) ?_
        generalize bP ch f (p + 1) = r1
        obtain ⟨q, a⟩ := r1
        cases a with
        | none => rfl
        | some a =>
          refine ⟨fun hk => ?_, fun hk => ?_⟩
          · exact if_neg (fun h9 => hk (by omega))
          · have hk2 : ch q = 38 ∨ ch q = 124 := by omega
            have e : (if ch q = 38 ∨ ch q = 124 then pbind (bP ch f (q + 1)) (fun r b => if ch r = 41 then (r + 1, some (if ch q = 38 then Term.add a b else .sub a b)) else (r, none)) else (q, none)) = pbind (bP ch f (q + 1)) (fun r b => if ch r = 41 then (r + 1, some (if ch q = 38 then Term.add a b else .sub a b)) else (r, none)) := if_pos hk2
            have hsub : (if ch q = 38 then Term.add else if ch q = 124 then .sub else .mul) = (if ch q = 38 then Term.add else .sub) := by
              rcases hk2 with h | h <;> rw [h] <;> rfl
            show match bP ch f (q + 1) with
              | (y, none) => (if ch q = 38 ∨ ch q = 124 then pbind (bP ch f (q + 1)) (fun r b => if ch r = 41 then (r + 1, some (if ch q = 38 then Term.add a b else .sub a b)) else (r, none)) else (q, none)) = (y, none)
              | (y, some b) => (ch y = 41 → (if ch q = 38 ∨ ch q = 124 then pbind (bP ch f (q + 1)) (fun r b => if ch r = 41 then (r + 1, some (if ch q = 38 then Term.add a b else .sub a b)) else (r, none)) else (q, none)) = (y + 1, some (if ch q = 38 then .add a b else if ch q = 124 then .sub a b else .mul a b))) ∧ (¬ ch y = 41 → (if ch q = 38 ∨ ch q = 124 then pbind (bP ch f (q + 1)) (fun r b => if ch r = 41 then (r + 1, some (if ch q = 38 then Term.add a b else .sub a b)) else (r, none)) else (q, none)) = (y, none))
            rw [e]
            generalize bP ch f (q + 1) = r2
            obtain ⟨y, b⟩ := r2
            cases b with
            | none => rfl
            | some b =>
              refine ⟨fun h41 => ?_, fun h41 => if_neg h41⟩
              refine (if_pos h41).trans ?_
              rcases hk2 with h | h <;> rw [h] <;> rfl
      · rw [if_neg h40]
        cases hv : litv (ch p) with
        | none => exact ⟨2, ref_bad_sp h (by omega) (Or.inr rfl) (by omega) (Or.inr ⟨hv, h33, h40, Or.inl rfl⟩), by omega⟩
        | some v => exact ref_letter (by omega) (Or.inr rfl) (by omega) h hx hL hp hpx hv
end RBO
