/-! the reference's reader: terms and sequences, put together -/
section SEQ2
variable {N ln : Nat} {ch : Nat → Nat}
/-- what a read of a term comes to -/
def RTm (N : Nat) (ch : Nat → Nat) (ln p x sq dep : Nat) (o : Option Nat) (L : List IT) (r : PR) (σ : St) : Prop := match r with
  | (q, some t) => ∃ c σ', Go N c σ σ' ∧ c + 1 + 4 * p ≤ 4 * q ∧ RQ ch ln q (x + nN t) ((J 9, J sq, J dep) :: L) σ' ∧ RR (nd σ') t x ∧ nB (nd σ' x) = -J 1 ∧ lastn t x = x ∧ (∀ i, i < x → nd σ' i = lnkF (nd σ) sq o x i) ∧ nN t + 3 * p ≤ 3 * q
  | (q, none) => ∃ c, Bd N c q σ ∧ c + 4 * p ≤ 4 * q + 3
/-- what a read of a sequence comes to -/
def RSq (N : Nat) (ch : Nat → Nat) (ln p sq : Nat) (L : List IT) (r : PR) (σ : St) : Prop := match r with
  | (q, some s) => ∃ c σ', Go N c σ σ' ∧ c + 4 * p ≤ 4 * q ∧ RQ ch ln q (sq + 1 + nN s) L σ' ∧ RR (nd σ') s (sq + 1) ∧ nB (nd σ' (lastn s (sq + 1))) = -J 1 ∧ (∀ i, i < sq → nd σ' i = nd σ i) ∧ nd σ' sq = (nK (nd σ sq), J (sq + 1), nT (nd σ sq), nB (nd σ sq), nL (nd σ sq), nM (nd σ sq)) ∧ nN s + 3 * p ≤ 3 * q
  | (q, none) => ∃ c, Bd N c q σ ∧ c + 4 * p ≤ 4 * q + 3
/-- how a sequence is read, one level deeper -/
def HS (N ln : Nat) (ch : Nat → Nat) (f dep : Nat) : Prop := ∀ p sq L σ, RQ ch ln p (sq + 1) ((J 7, J sq, J dep) :: L) σ → sq + 1 ≤ 3 * p + 2 → L.length ≤ 4 * dep → nO (nd σ sq) = -J 1 → RSq N ch ln p sq L (sP ch f p) σ
/-- a group's sequences: how it stands before a / or ] -/
def GrI (N : Nat) (ch : Nat → Nat) (ln : Nat) (q gx dep : Nat) (L : List IT) (g : Term) (σ : St) : Prop := RQ ch ln q (gx + nN g) ((J 10, J gx, J dep) :: L) σ ∧ RR (nd σ) g gx ∧ nB (nd σ (lastn g gx)) = -J 1 ∧ gx + nN g ≤ 3 * q + 2 ∧ gx < lastn g gx ∧ nO (nd σ gx) = J (gx + 1) ∧ (∃ m, m ≤ q ∧ Pth (nd σ) (gx + nN g) (gx + 1) m (lastn g gx)) ∧ ∃ g1 s1, g = .elem g1 (.old s1)
theorem ref_alts (hN : 200 ≤ N) {f dep gx : Nat} {L : List IT} (hdep : dep ≤ 12) (hL : L.length ≤ 4 * dep + 2) (hs : HS N ln ch f (dep + 1)) : ∀ n q g σ, ln < n + q → GrI N ch ln q gx dep L g σ → match gLp ch (sP ch f) n q g with
    | (y, some g') => ∃ c σ', Go N c σ σ' ∧ c + 4 * q ≤ 4 * y ∧ RQ ch ln y (gx + nN g') L σ' ∧ RR (nd σ') g' gx ∧ nB (nd σ' (lastn g' gx)) = -J 1 ∧ (∀ i, i < gx → nd σ' i = nd σ i) ∧ nN g' + 3 * q ≤ 3 * y + nN g ∧ ∃ g1 s1, g' = .elem g1 (.old s1)
    | (y, none) => ∃ c, Bd N c y σ ∧ c + 4 * q ≤ 4 * y + 3 := by
  intro n
  induction n with
  | zero =>
    intro q g σ hn hG
    have := hG.1.pl
    omega
  | succ n ih =>
    intro q g σ hn hG
    obtain ⟨h1, h2, h3, h4, h5, h6, ⟨m, m1, m2⟩, hsh⟩ := hG
    have hq := h1.pl
    have hpg := RR_pos g gx h2
    obtain ⟨s1, s2, s3⟩ := ref_slash (N := N) hN (o := some (lastn g gx)) h1 (by omega) (by omega) (by omega) ⟨gx + 1, m, h6, by omega, by omega, by omega, m2, h3⟩
    unfold gLp
    by_cases h47 : ch q = 47
    · rw [if_pos h47]
      obtain ⟨σ1, a1, a2, a3, a4⟩ := s1 h47
      have hql := h1.lt (i := q) (by omega)
      have hs1 := hs (q + 1) (gx + nN g) _ σ1 a2 (by omega) (by simp only [List.length_cons]; omega) (by rw [a3]; rfl)
      generalize sP ch f (q + 1) = r at hs1 ⊢
      obtain ⟨y, s⟩ := r
      cases s with
      | none =>
        obtain ⟨c, b1, b2⟩ := hs1
        exact ⟨1 + c, Bd.pre a1 b1, by omega⟩
      | some s =>
        obtain ⟨c, σ2, b1, b2, b3, b4, b5, b6, b7, b8⟩ := hs1
        have hps := RR_pos s _ b4
        have hnN : nN (.elem g (.old s)) = nN g + 1 + nN s := rfl
        have hla : lastn (.elem g (.old s)) gx = gx + nN g := rfl
        have h2i : ∀ i, i < gx + nN g → nd σ2 i = lnkF (nd σ) gx (some (lastn g gx)) (gx + nN g) i := fun i hi => by rw [b6 i hi]; exact a4 i hi
        have h2l : nd σ2 (lastn g gx) = (nK (nd σ (lastn g gx)), nO (nd σ (lastn g gx)), nT (nd σ (lastn g gx)), J (gx + nN g), nL (nd σ (lastn g gx)), nM (nd σ (lastn g gx))) := by
          rw [h2i _ (by omega)]
          exact if_pos rfl
        have h2n : ∀ i, i < gx + nN g → ¬ i = lastn g gx → nd σ2 i = nd σ i := fun i hi hne => by
          rw [h2i i hi]
          exact if_neg hne
        have hGr : GrI N ch ln y gx dep L (.elem g (.old s)) σ2 := by
          refine ⟨by rw [hnN, show gx + (nN g + 1 + nN s) = gx + nN g + 1 + nN s from by omega]; exact b3, ⟨⟨by rw [b7, a3]; rfl, by rw [b7]; rfl, b5, fun hg => ?_, fun _ => by rw [h2l]; rfl⟩, RR_keep (z := lastn g gx) g gx (Or.inl rfl) (fun i i1 i2 => ?_) h2, b4⟩, by rw [hla, b7, a3]; rfl, by rw [hnN]; omega, by rw [hla]; omega, by rw [h2n gx (by omega) (by omega)]; exact h6, ⟨m + 1, by omega, ?_⟩, g, s, rfl⟩
          · subst hg
            rw [h2n gx (by omega) (by omega)]
            exact h6
          · by_cases hi : i = lastn g gx
            · subst hi
              rw [h2l]
              exact ⟨⟨rfl, rfl, rfl, rfl, rfl⟩, fun h9 => absurd rfl h9⟩
            · rw [h2n i i2 hi]
              exact ⟨agB.rf, fun _ => rfl⟩
          · rw [hla, hnN]
            refine ⟨lastn g gx, m2.keep (by omega) (by omega) (fun i i1 i2 => ?_), by omega, by omega, by rw [h2l]; rfl⟩
            rw [h2n i i1 (fun h9 => by subst h9; exact i2 h3)]
        have hih := ih y (.elem g (.old s)) σ2 (by omega) hGr
        show match gLp ch (sP ch f) n y (.elem g (.old s)) with | (y, some g') => _ | (y, none) => _
        generalize gLp ch (sP ch f) n y (.elem g (.old s)) = r2 at hih ⊢
        obtain ⟨z, g'⟩ := r2
        cases g' with
        | none =>
          obtain ⟨c2, d1, d2⟩ := hih
          exact ⟨1 + (c + c2), Bd.pre a1 (Bd.pre b1 d1), by omega⟩
        | some g' =>
          obtain ⟨c2, σ3, d1, d2, d3, d4, d5, d6, d7, d8⟩ := hih
          refine ⟨1 + (c + c2), σ3, a1.tr (b1.tr d1), by omega, d3, d4, d5, fun i hi => ?_, by rw [hnN] at d7; omega, d8⟩
          rw [d6 i hi, h2n i (by omega) (by omega)]
    · rw [if_neg h47]
      by_cases h93 : ch q = 93
      · rw [if_pos h93]
        obtain ⟨σ1, a1, a2, a3⟩ := s2 h93
        refine ⟨1, σ1, a1, by omega, a2, by rw [a3]; exact h2, by rw [a3]; exact h3, fun i _ => by rw [a3], by omega, ?_⟩
        exact hsh
      · rw [if_neg h93]
        exact ⟨2, s3 h47 h93, by omega⟩
theorem ref_term (hN : 200 ≤ N) {f dep p x sq : Nat} {o : Option Nat} {L : List IT} {σ : St} (hdep : dep + 1 + f = 13) (hs : HS N ln ch f (dep + 1)) (h : RQ ch ln p x ((J 7, J sq, J dep) :: L) σ) (hx : x ≤ 3 * p + 2) (hL : L.length ≤ 4 * dep) (hsq : sq < x) (ho : LkO (nd σ) sq x o) : RTm N ch ln p x sq dep o L (tP ch (bP ch f) (sP ch f) p) σ := by
  have hp := h.pl
  obtain ⟨_, hpc⟩ := ref_piece (N := N) hN h (by omega) (by omega) (by omega) hsq ho
  obtain ⟨p1, p2⟩ := hpc (by omega)
  -- from a unit to a term
  have fin : ∀ (c1 : Nat) (q : Nat) (u : Term) (σ2 : St), Go N c1 σ σ2 → c1 + 2 + 4 * p ≤ 4 * q → RQ ch ln q (x + 1 + nN u) ((J 8, J x, J 0) :: (J 9, J sq, J dep) :: L) σ2 → nd σ2 x = (J 11, J (x + 1), -J 1, -J 1, J 1, J 1) → RR (nd σ2) u (x + 1) → (∀ g s, u = .elem g (.old s) → nB (nd σ2 (lastn u (x + 1))) = -J 1) → (∀ i, i < x → nd σ2 i = lnkF (nd σ) sq o x i) → 1 + nN u + 3 * p ≤ 3 * q → RTm N ch ln p x sq dep o L (xP ch q u) σ := by
    intro c1 q u σ2 g1 g2 g3 g4 g5 g6 g7 g8
    have ht := ref_times (N := N) (u := u) g3 (by simp only [List.length_cons]; omega) (by omega) (by rw [g4]; rfl) (by rw [g4]; rfl)
    generalize xP ch q u = r at ht ⊢
    obtain ⟨y, w⟩ := r
    cases w with
    | none => exact ⟨c1 + 2, Bd.pre g1 ht.1, by have := ht.2; omega⟩
    | some w =>
      obtain ⟨c, σ3, rfl, k1, k2, k3, k4⟩ := ht
      have hnN : nN (.elem u (.index c)) = 1 + nN u := rfl
      have hpu := RR_pos u _ g5
      have h3x : nd σ3 x = (J 11, J (x + 1), -J 1, -J 1, J (c / 16), J (c % 16)) := by
        rw [k3 x, if_pos rfl, g4]
        rfl
      have h3i : ∀ i, ¬ i = x → nd σ3 i = nd σ2 i := fun i hi => by rw [k3 i, if_neg hi]
      refine ⟨c1 + 1, σ3, g1.tr k1, by omega, by rw [hnN, ← Nat.add_assoc]; exact k2, ⟨by rw [h3x]; exact ⟨rfl, rfl, rfl, rfl, fun g s hg => by rw [h3i _ (by omega)]; exact g6 g s hg⟩, RR_keep (z := x) u (x + 1) (by omega) (fun i i1 i2 => by rw [h3i i (by omega)]; exact ⟨agB.rf, fun _ => rfl⟩) g5⟩, by rw [h3x]; rfl, rfl, fun i hi => by rw [h3i i (by omega)]; exact g7 i hi, by rw [hnN]; omega⟩
  unfold tP uP
  by_cases h91 : ch p = 91
  · rw [if_pos h91]
    obtain ⟨σ1, a1, a2, a3, a4, a5, a6⟩ := p2 h91
    have hpl := h.lt (i := p) (by omega)
    have hs1 := hs (p + 1) (x + 2) _ σ1 a2 (by omega) (by simp only [List.length_cons]; omega) (by rw [a5]; rfl)
    generalize sP ch f (p + 1) = r at hs1 ⊢
    obtain ⟨q, s⟩ := r
    cases s with
    | none =>
      obtain ⟨c, b1, b2⟩ := hs1
      exact ⟨1 + c, Bd.pre a1 b1, by omega⟩
    | some s =>
      obtain ⟨c, σ2, b1, b2, b3, b4, b5, b6, b7, b8⟩ := hs1
      have hnN : nN (.elem .null (.old s)) = 1 + 1 + nN s := rfl
      have hla : lastn (.elem .null (.old s)) (x + 1) = x + 2 := rfl
      have hGr : GrI N ch ln q (x + 1) dep ((J 8, J x, J 0) :: (J 9, J sq, J dep) :: L) (.elem .null (.old s)) σ2 := by
        refine ⟨by rw [hnN, show x + 1 + (1 + 1 + nN s) = x + 2 + 1 + nN s from by omega]; exact b3, ⟨⟨?_, ?_, b5, fun _ => ?_, fun h9 => absurd rfl h9⟩, ?_, b4⟩, ?_, by rw [hnN]; omega, by rw [hla]; omega, ?_, ⟨0, by omega, by rw [hla]; rfl⟩, .null, s, rfl⟩
        · show nK (nd σ2 (x + 2)) = J 10
          rw [b7, a5]
          rfl
        · show nO (nd σ2 (x + 2)) = J (x + 3)
          rw [b7]
          rfl
        · rw [b6 _ (by omega), a4]
          rfl
        · show nK (nd σ2 (x + 1)) = J 12
          rw [b6 _ (by omega), a4]
          rfl
        · rw [hla, b7, a5]
          rfl
        · rw [b6 _ (by omega), a4]
          rfl
      have hq := b3.pl
      have hal := ref_alts (N := N) hN (gx := x + 1) (dep := dep) (f := f) (L := (J 8, J x, J 0) :: (J 9, J sq, J dep) :: L) (by omega) (by simp only [List.length_cons]; omega) hs 41 q (.elem .null (.old s)) σ2 (by omega) hGr
      show RTm N ch ln p x sq dep o L (pbind (gLp ch (sP ch f) 41 q (.elem .null (.old s))) (xP ch)) σ
      generalize gLp ch (sP ch f) 41 q (.elem .null (.old s)) = r2 at hal ⊢
      obtain ⟨y, g'⟩ := r2
      cases g' with
      | none =>
        obtain ⟨c2, d1, d2⟩ := hal
        exact ⟨1 + (c + c2), Bd.pre a1 (Bd.pre b1 d1), by omega⟩
      | some g' =>
        obtain ⟨c2, σ3, d1, d2, d3, d4, d5, d6, d7, d8⟩ := hal
        refine fin (1 + (c + c2)) y g' σ3 (a1.tr (b1.tr d1)) (by omega) d3 ?_ d4 (fun _ _ _ => d5) (fun i hi => ?_) (by rw [hnN] at d7; omega)
        · rw [d6 x (by omega), b6 x (by omega)]
          exact a3
        · rw [d6 i (by omega), b6 i (by omega)]
          exact a6 i hi
  · rw [if_neg h91]
    obtain ⟨σ1, a1, a2, a3, a4⟩ := p1 h91
    have hb := ref_bool (N := N) (ch := ch) (ln := ln) f p (dep + 1) (x + 1) (some x) _ σ1 (by omega) a2 (by omega) (by simp only [List.length_cons]; omega) (fun k hk => by cases hk; exact ⟨by omega, Or.inl (by rw [a3]; rfl)⟩) (fun k hk => by cases hk; omega)
    generalize bP ch f p = r at hb ⊢
    obtain ⟨q, b⟩ := r
    cases b with
    | none =>
      obtain ⟨c, b1, b2⟩ := hb
      exact ⟨1 + c, Bd.pre a1 b1, by omega⟩
    | some b =>
      obtain ⟨c, σ2, b1, b2, b3, b4, b5, b6, b7⟩ := hb
      have hpb := RR_pos b _ b4
      refine fin (1 + c) q (.field b "" "" "") σ2 (a1.tr b1) (by omega) b3 ?_ ⟨b7, b4⟩ (fun g s h9 => by cases h9) (fun i hi => ?_) (by show 1 + nN b + 3 * p ≤ 3 * q; omega)
      · rw [b5 x (by omega), hangF_at0 (by rw [a3]; rfl), a3]
        rfl
      · rw [b5 i (by omega), hangF_ne (by omega)]
        exact a4 i hi
theorem ref_terms (hN : 200 ≤ N) {f dep sq : Nat} {L : List IT} (hdep : dep + 1 + f = 13) (hs : HS N ln ch f (dep + 1)) (hL : L.length ≤ 4 * dep) : ∀ n q s σ, ln < n + q → RQ ch ln q (sq + 1 + nN s) ((J 9, J sq, J dep) :: L) σ → RR (nd σ) s (sq + 1) → nB (nd σ (lastn s (sq + 1))) = -J 1 → sq + 1 + nN s ≤ 3 * q + 2 → nO (nd σ sq) = J (sq + 1) → (∃ m, m ≤ q ∧ Pth (nd σ) (sq + 1 + nN s) (sq + 1) m (lastn s (sq + 1))) → match sLp ch (tP ch (bP ch f) (sP ch f)) n q s with
    | (y, some s') => ∃ c σ', Go N c σ σ' ∧ c + 4 * q ≤ 4 * y + 1 ∧ RQ ch ln y (sq + 1 + nN s') L σ' ∧ RR (nd σ') s' (sq + 1) ∧ nB (nd σ' (lastn s' (sq + 1))) = -J 1 ∧ (∀ i, i < sq + 1 → nd σ' i = nd σ i) ∧ nN s' + 3 * q ≤ 3 * y + nN s
    | (y, none) => ∃ c, Bd N c y σ ∧ c + 4 * q ≤ 4 * y + 3 := by
  intro n
  induction n with
  | zero =>
    intro q s σ hn h
    have := h.pl
    omega
  | succ n ih =>
    intro q s σ hn h h2 h3 h4 h6 hm
    obtain ⟨m, m1, m2⟩ := hm
    have hq := h.pl
    have hpg := RR_pos s _ h2
    obtain ⟨s1, s2⟩ := ref_comma (N := N) h (by omega)
    unfold sLp
    by_cases h44 : ch q = 44
    · rw [if_pos h44]
      obtain ⟨σ1, a1, a2, a3⟩ := s1 h44
      have hql := h.lt (i := q) (by omega)
      have ht := ref_term (N := N) (o := some (lastn s (sq + 1))) hN hdep hs a2 (by omega) hL (by omega) (by rw [a3]; exact ⟨sq + 1, m, h6, by omega, by omega, by omega, m2, h3⟩)
      generalize tP ch (bP ch f) (sP ch f) (q + 1) = r at ht ⊢
      obtain ⟨y, t⟩ := r
      cases t with
      | none =>
        obtain ⟨c, b1, b2⟩ := ht
        exact ⟨1 + c, Bd.pre a1 b1, by omega⟩
      | some t =>
        obtain ⟨c, σ2, b1, b2, b3, b4, b5, b6, b7, b8⟩ := ht
        rw [a3] at b7
        have hpt := RR_pos t _ b4
        have hnN : nN (.elem s (.length t)) = nN s + nN t := rfl
        have hla : lastn (.elem s (.length t)) (sq + 1) = sq + 1 + nN s := rfl
        have h2l : nd σ2 (lastn s (sq + 1)) = (nK (nd σ (lastn s (sq + 1))), nO (nd σ (lastn s (sq + 1))), nT (nd σ (lastn s (sq + 1))), J (sq + 1 + nN s), nL (nd σ (lastn s (sq + 1))), nM (nd σ (lastn s (sq + 1)))) := by
          rw [b7 _ (by omega)]
          exact if_pos rfl
        have h2n : ∀ i, i < sq + 1 + nN s → ¬ i = lastn s (sq + 1) → nd σ2 i = nd σ i := fun i hi hne => by
          rw [b7 i hi]
          exact if_neg hne
        have hih := ih y (.elem s (.length t)) σ2 (by omega) (by rw [hnN, ← Nat.add_assoc]; exact b3) ⟨⟨b6, by rw [h2l]; rfl⟩, RR_keep (z := lastn s (sq + 1)) s (sq + 1) (Or.inl rfl) (fun i i1 i2 => by
            by_cases hi : i = lastn s (sq + 1)
            · subst hi
              rw [h2l]
              exact ⟨⟨rfl, rfl, rfl, rfl, rfl⟩, fun h9 => absurd rfl h9⟩
            · rw [h2n i i2 hi]
              exact ⟨agB.rf, fun _ => rfl⟩) h2, b4⟩ (by rw [hla]; exact b5) (by rw [hnN]; omega) (by rw [h2n sq (by omega) (by omega)]; exact h6) ⟨m + 1, by omega, by
            rw [hla, hnN]
            refine ⟨lastn s (sq + 1), m2.keep (by omega) (by omega) (fun i i1 i2 => ?_), by omega, by omega, by rw [h2l]; rfl⟩
            rw [h2n i i1 (fun h9 => by subst h9; exact i2 h3)]⟩
        show match sLp ch (tP ch (bP ch f) (sP ch f)) n y (.elem s (.length t)) with | (y, some s') => _ | (y, none) => _
        generalize sLp ch (tP ch (bP ch f) (sP ch f)) n y (.elem s (.length t)) = r2 at hih ⊢
        obtain ⟨z, s'⟩ := r2
        cases s' with
        | none =>
          obtain ⟨c2, d1, d2⟩ := hih
          exact ⟨1 + (c + c2), Bd.pre a1 (Bd.pre b1 d1), by omega⟩
        | some s' =>
          obtain ⟨c2, σ3, d1, d2, d3, d4, d5, d6, d7⟩ := hih
          refine ⟨1 + (c + c2), σ3, a1.tr (b1.tr d1), by omega, d3, d4, d5, fun i hi => ?_, by rw [hnN] at d7; omega⟩
          rw [d6 i hi, h2n i (by omega) (by omega)]
    · rw [if_neg h44]
      obtain ⟨σ1, a1, a2, a3⟩ := s2 h44
      exact ⟨1, σ1, a1, by omega, a2, by rw [a3]; exact h2, by rw [a3]; exact h3, fun i _ => by rw [a3], by omega⟩
theorem ref_seq (hN : 200 ≤ N) : ∀ f dep, dep + f = 13 → HS N ln ch f dep := by
  intro f
  induction f with
  | zero =>
    intro dep hd p sq L σ h hx hL ho
    have hp := h.pl
    obtain ⟨p1, _⟩ := ref_piece (N := N) hN (o := none) h (by omega) (by omega) (by omega) (by omega) ho
    exact ⟨2, p1 (by omega), by omega⟩
  | succ f ih =>
    intro dep hd p sq L σ h hx hL ho
    have hs : HS N ln ch f (dep + 1) := ih (dep + 1) (by omega)
    have ht := ref_term (N := N) (o := none) hN (by omega) hs h hx hL (by omega) ho
    unfold sP
    generalize tP ch (bP ch f) (sP ch f) p = r at ht ⊢
    obtain ⟨q, t⟩ := r
    cases t with
    | none =>
      obtain ⟨c, b1, b2⟩ := ht
      exact ⟨c, b1, b2⟩
    | some t =>
      obtain ⟨c, σ2, b1, b2, b3, b4, b5, b6, b7, b8⟩ := ht
      have hq := b3.pl
      have h2s : nd σ2 sq = (nK (nd σ sq), J (sq + 1), nT (nd σ sq), nB (nd σ sq), nL (nd σ sq), nM (nd σ sq)) := by
        rw [b7 sq (by omega)]
        exact if_pos rfl
      have h2n : ∀ i, i < sq → nd σ2 i = nd σ i := fun i hi => by
        rw [b7 i (by omega)]
        exact if_neg (by omega)
      have htm := ref_terms (N := N) (f := f) (dep := dep) (sq := sq) (L := L) hN (by omega) hs hL 41 q t σ2 (by omega) b3 b4 (by rw [b6]; exact b5) (by omega) (by rw [h2s]; rfl) ⟨0, by omega, by rw [b6]; rfl⟩
      show RSq N ch ln p sq L (sLp ch (tP ch (bP ch f) (sP ch f)) 41 q t) σ
      generalize sLp ch (tP ch (bP ch f) (sP ch f)) 41 q t = r2 at htm ⊢
      obtain ⟨y, s⟩ := r2
      cases s with
      | none =>
        obtain ⟨c2, d1, d2⟩ := htm
        exact ⟨c + c2, Bd.pre b1 d1, by omega⟩
      | some s =>
        obtain ⟨c2, σ3, d1, d2, d3, d4, d5, d6, d7⟩ := htm
        exact ⟨c + c2, σ3, b1.tr d1, by omega, d3, d4, d5, fun i hi => by rw [d6 i (by omega), h2n i hi], by rw [d6 sq (by omega)]; exact h2s, by omega⟩
end SEQ2
