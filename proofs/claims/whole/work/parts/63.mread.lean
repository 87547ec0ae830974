/-! the class's reader: units, terms, sequences -/
section PS
variable {ch : Nat → Nat}
theorem pbind_some {r : PR} {f : Nat → Term → PR} {q : Nat} {t : Term} (h : pbind r f = (q, some t)) : ∃ p u, r = (p, some u) ∧ f p u = (q, some t) := by
  obtain ⟨p, u⟩ := r
  cases u with
  | none => cases h
  | some u => exact ⟨p, u, rfl, h⟩
theorem bP_pos : ∀ f p q t, bP ch f p = (q, some t) → p < q := by
  intro f
  induction f with
  | zero => intro p q t h; cases h
  | succ f ih =>
    intro p q t h
    unfold bP at h
    split at h
    · obtain ⟨a, b, h1, h2⟩ := pbind_some h
      have := ih _ _ _ h1
      cases h2
      omega
    · split at h
      · obtain ⟨a, b, h1, h2⟩ := pbind_some h
        have i1 := ih _ _ _ h1
        split at h2
        · obtain ⟨a', b', h3, h4⟩ := pbind_some h2
          have i2 := ih _ _ _ h3
          split at h4
          · cases h4
            omega
          · cases h4
        · cases h2
      · split at h
        · cases h
          omega
        · cases h
theorem gL_pos {sq : Nat → PR} (hs : ∀ p q t, sq p = (q, some t) → p < q) : ∀ n p g q t, gLp ch sq n p g = (q, some t) → p < q := by
  intro n
  induction n with
  | zero => intro p g q t h; cases h
  | succ n ih =>
    intro p g q t h
    unfold gLp at h
    split at h
    · obtain ⟨a, b, h1, h2⟩ := pbind_some h
      have := hs _ _ _ h1
      have := ih _ _ _ _ h2
      omega
    · split at h
      · cases h
        omega
      · cases h
theorem xP_pos {p q : Nat} {u t : Term} (h : xP ch p u = (q, some t)) : p ≤ q := by
  unfold xP at h
  split at h
  · cases h
    omega
  · split at h
    · split at h
      · split at h
        · split at h
          · cases h
            omega
          · cases h
        · cases h
          omega
      · cases h
    · cases h
      omega
theorem uP_pos {bq sq : Nat → PR} (hb : ∀ p q t, bq p = (q, some t) → p < q) (hs : ∀ p q t, sq p = (q, some t) → p < q) {p q : Nat} {t : Term} (h : uP ch bq sq p = (q, some t)) : p < q := by
  unfold uP at h
  split at h
  · obtain ⟨a, b, h1, h2⟩ := pbind_some h
    have := hs _ _ _ h1
    have := gL_pos hs _ _ _ _ _ h2
    omega
  · obtain ⟨a, b, h1, h2⟩ := pbind_some h
    have := hb _ _ _ h1
    cases h2
    omega
theorem tP_pos {bq sq : Nat → PR} (hb : ∀ p q t, bq p = (q, some t) → p < q) (hs : ∀ p q t, sq p = (q, some t) → p < q) {p q : Nat} {t : Term} (h : tP ch bq sq p = (q, some t)) : p < q := by
  obtain ⟨a, b, h1, h2⟩ := pbind_some h
  have := uP_pos hb hs h1
  have := xP_pos h2
  omega
theorem sL_pos {tq : Nat → PR} (ht : ∀ p q t, tq p = (q, some t) → p < q) : ∀ n p s q t, sLp ch tq n p s = (q, some t) → p ≤ q := by
  intro n
  induction n with
  | zero => intro p s q t h; cases h
  | succ n ih =>
    intro p s q t h
    unfold sLp at h
    split at h
    · obtain ⟨a, b, h1, h2⟩ := pbind_some h
      have := ht _ _ _ h1
      have := ih _ _ _ _ h2
      omega
    · cases h
      omega
theorem sP_pos : ∀ f p q t, sP ch f p = (q, some t) → p < q := by
  intro f
  induction f with
  | zero => intro p q t h; cases h
  | succ f ih =>
    intro p q t h
    unfold sP at h
    obtain ⟨a, b, h1, h2⟩ := pbind_some h
    have := tP_pos (bP_pos f) ih h1
    have := sL_pos (fun p q t => tP_pos (bP_pos f) ih) _ _ _ _ _ h2
    omega
end PS
section RD2
variable {N ln : Nat} {ch : Nat → Nat}
theorem Pv.pre {K : Nat} {s : Term} {τ0 τ τ' : St} {S : List Nat} (h : Pv K s τ τ') (f : Fr S τ0 τ) (d : ∀ k ∈ [23, 24, 25], k ∉ S) : Pv K s τ0 τ' := by
  obtain ⟨h1, h2⟩ := h
  refine ⟨h1, ?_⟩
  have e : gI τ 23 0 = gI τ0 23 0 := by rw [f.gi (d 23 (by decide))]
  rw [e] at h2
  rcases h2 with ⟨a, b, c⟩ | h2
  · exact Or.inl ⟨a, b, (Kp.of f (fun k hk => d k (by simp at hk ⊢; omega))).tr c⟩
  · exact Or.inr h2
theorem Sx.fr {K : Nat} {s : Term} {τ τ' : St} {S : List Nat} (h : Sx K s τ) (f : Fr S τ τ') (d : ∀ k ∈ [22, 23, 24, 25, 45, 46], k ∉ S) : Sx K s τ' := by
  unfold Sx Plc
  rw [f.gi (d 22 (by decide)), f.gi (d 23 (by decide)), f.gi (d 24 (by decide)), f.gi (d 25 (by decide)), f.gi (d 45 (by decide)), f.gi (d 46 (by decide))]
  exact h
theorem Nx.fr {K : Nat} {τ τ' : St} {S : List Nat} (h : Nx K τ) (f : Fr S τ τ') (d : ∀ k ∈ [22, 23], k ∉ S) : Nx K τ' := by
  unfold Nx
  rw [f.gi (d 22 (by decide)), f.gi (d 23 (by decide))]
  exact h
theorem Nx.le {K L : Nat} {τ : St} (h : Nx L τ) (hl : K ≤ L) : Nx K τ := by
  obtain ⟨h1, k, k1, k2, k3⟩ := h
  exact ⟨h1, k, by omega, k2, k3⟩
theorem St0.fr {K : Nat} {τ τ' : St} {S : List Nat} (h : St0 K τ) (f : Fr S τ τ') (d : ∀ k ∈ [22, 23], k ∉ S) : St0 K τ' := by
  unfold St0
  rw [f.gi (d 22 (by decide)), f.gi (d 23 (by decide))]
  exact h
/-- digits -/
theorem dig_lt {c m : Nat} (hc : c < 128) (hm : m < 10) : (J c - J 48 < J m) = (c < 48 + m) := by
  have h : ∀ c < 128, ∀ m < 10, decide (J c - J 48 < J m) = decide (c < 48 + m) := by decide +kernel
  exact propext (decide_eq_decide.mp (h c hc m hm))
theorem dig_gt {c : Nat} (hc : c < 128) : (J 9 < J c - J 48) = (57 < c) := by
  have h : ∀ c < 128, decide (J 9 < J c - J 48) = decide (57 < c) := by decide +kernel
  exact propext (decide_eq_decide.mp (h c hc))
theorem cls_digit {p m : Nat} {τ : St} (h : Rd ch ln p τ) (hm : m < 10) : (¬ (48 + m ≤ ch p ∧ ch p ≤ 57) → fX6_readDigit N τ (J m) = some (J 1, J 0, sI τ 44 0 (J p))) ∧ ((48 + m ≤ ch p ∧ ch p ≤ 57) → fX6_readDigit N τ (J m) = some (J 0, J (ch p - 48), sI τ 43 0 (J (p + 1))) ∧ Rd ch ln (p + 1) (sI τ 43 0 (J (p + 1)))) := by
  have hc := h.ch_lt p
  have h1 := dig_lt hc hm
  have h2 := dig_gt hc
  have hreq := cls_req0 (N := N) h.1
  unfold fX6_readDigit
  rw [cls_peek h, bnd_d]
  constructor
  · intro hno
    by_cases hl : ch p < 48 + m
    · have h1' := h1.mpr hl
      rw [letS_d]
      rw [show (48 : Int32) = J 48 from rfl, if_pos h1']
      unfold fX6_readDigit_24 fX6_readDigit_25
      rw [show (0 : Int32) = J 0 from rfl, hreq, bndX_1]
    · have hg : 57 < ch p := by omega
      have h1' : ¬ (J (ch p) - J 48 < J m) := fun h => hl (h1.mp h)
      rw [letS_d]
      rw [show (48 : Int32) = J 48 from rfl, if_neg h1', show (9 : Int32) = J 9 from rfl, if_pos (h2.mpr hg)]
      unfold fX6_readDigit_24 fX6_readDigit_25
      rw [show (0 : Int32) = J 0 from rfl, hreq, bndX_1]
  · intro hyes
    have hl : ¬ ch p < 48 + m := by omega
    have hg : ¬ 57 < ch p := by omega
    have h1' : ¬ (J (ch p) - J 48 < J m) := fun h => hl (h1.mp h)
    have h2' : ¬ (J 9 < J (ch p) - J 48) := fun h => hg (h2.mp h)
    have hlt := h.lt (i := p) (by omega)
    refine ⟨?_, h.go (by omega)⟩
    have h43 := h.1
    rw [letS_d]
    rw [show (48 : Int32) = J 48 from rfl, if_neg h1', show (9 : Int32) = J 9 from rfl, if_neg h2', J_sub (by omega)]
    unfold fX6_readDigit_25
    rw [show (1 : Int32) = J 1 from rfl, cls_req1, bndX_d, letS_d, h43, J_add]
    rfl
/-- a piece once -/
theorem Sx_once {K : Nat} {u : Term} {τ : St} (hu : 1 ≤ len u) (h : Sx K u τ) : Sx K (.elem u (.index 17)) τ := by
  obtain ⟨h1, h2, h3, h4, h5, h6⟩ := h
  have hl : len (.elem u (.index 17)) = len u := by
    show len u * cps 17 = len u
    have : cps 17 = 1 := rfl
    rw [this, Nat.mul_one]
  refine ⟨h1, by rw [hl]; exact h2, by rw [hl]; exact h3, fun j hj => ?_, h5.congr (fun t _ => ?_), h6.congr (fun t _ => ?_)⟩
  · rw [hl] at hj
    obtain ⟨a, b⟩ := h4 j hj
    refine ⟨?_, b.congr (fun t _ => ?_)⟩
    · rw [a]
      show J (bm (pl u j)) = J (bm (pl u (j % len u)))
      rw [Nat.mod_eq_of_lt hj]
    · show fo u j t = (decide (j < len u * cps 17) && decide (t < len u * cps 17) && ((decide (j / len u = t / len u) && (fo u (j % len u) (t % len u) || (decide (17 % 16 = 0) && la u (j % len u) && fi u (t % len u)))) || (decide (t / len u = j / len u + 1) && la u (j % len u) && fi u (t % len u))))
      have e : cps 17 = 1 := rfl
      rw [e, Nat.mul_one, Nat.mod_eq_of_lt hj, Nat.div_eq_of_lt hj, decide_eq_true hj]
      by_cases ht : t < len u
      · rw [Nat.mod_eq_of_lt ht, Nat.div_eq_of_lt ht, decide_eq_true ht]
        simp
      · rw [decide_eq_false ht]
        cases hx : fo u j t
        · simp
        · have := (fo_lt u _ _ hx).2
          omega
  · show fi u t = (decide (t < len u) && fi u t)
    by_cases ht : t < len u
    · rw [decide_eq_true ht]
      rfl
    · rw [nf (fi_lt u) (by omega), Bool.and_false]
  · show la u t = (decide (t < len u * cps 17) && decide (17 / 16 ≤ t / len u + 1) && la u (t % len u))
    have e : cps 17 = 1 := rfl
    rw [e, Nat.mul_one]
    by_cases ht : t < len u
    · rw [decide_eq_true ht, Nat.mod_eq_of_lt ht, Nat.div_eq_of_lt ht]
      simp
    · rw [nf (la_lt u) (by omega), decide_eq_false ht]
      rfl
/-- a piece once or more -/
theorem cls_plus (hN : 100 ≤ N) {K : Nat} {u : Term} {τ : St} (hu : 1 ≤ len u) (h : Sx K u τ) : ∃ τ', fX1_link N τ (gI τ 46 0) (gI τ 45 0) = some τ' ∧ Fr [25] τ τ' ∧ Sx K (.elem u (.index 16)) τ' ∧ Kp K τ τ' := by
  obtain ⟨h1, h2, h3, h4, h5, h6⟩ := h
  obtain ⟨τ', l1, l2, l3, l4⟩ := cls_link (N := N) hN h3 (gI τ 46 0) (gI τ 45 0) h2
  have hc : cps 16 = 1 := rfl
  have hl : len (.elem u (.index 16)) = len u := by
    show len u * cps 16 = len u
    rw [hc, Nat.mul_one]
  refine ⟨τ', l1, l2, ⟨by rw [l2.gi (by decide)]; exact h1, by rw [hl, l2.gi (by decide)]; exact h2, by rw [hl]; exact h3, fun j hj => ?_, ?_, ?_⟩, fun o ho => ⟨by rw [l2.gi (by decide)], ?_⟩⟩
  · rw [hl] at hj
    obtain ⟨a, b⟩ := h4 j hj
    refine ⟨?_, ?_⟩
    · rw [l2.gi (by decide), a]
      show J (bm (pl u j)) = J (bm (pl u (j % len u)))
      rw [Nat.mod_eq_of_lt hj]
    · rw [l4 (K + j) (by omega), h6.at (by omega)]
      have goal : ∀ t, fo (.elem u (.index 16)) j t = (fo u j t || (la u j && fi u t)) := fun t => by
        show (decide (j < len u * cps 16) && decide (t < len u * cps 16) && ((decide (j / len u = t / len u) && (fo u (j % len u) (t % len u) || (decide (16 % 16 = 0) && la u (j % len u) && fi u (t % len u)))) || (decide (t / len u = j / len u + 1) && la u (j % len u) && fi u (t % len u)))) = _
        rw [hc, Nat.mul_one, Nat.mod_eq_of_lt hj, Nat.div_eq_of_lt hj, decide_eq_true hj]
        by_cases ht : t < len u
        · rw [Nat.mod_eq_of_lt ht, Nat.div_eq_of_lt ht, decide_eq_true ht]
          simp
        · rw [decide_eq_false ht, nf (fi_lt u) (show len u ≤ t by omega)]
          cases hx : fo u j t
          · simp
          · have := (fo_lt u _ _ hx).2
            omega
      cases hla : la u j
      · rw [if_neg (by decide)]
        exact b.congr (fun t _ => by rw [goal, hla]; simp)
      · rw [if_pos rfl]
        exact (b.or h5).congr (fun t _ => by rw [goal, hla]; simp)
  · rw [l2.gi (by decide)]
    refine h5.congr (fun t _ => ?_)
    show fi u t = (decide (t < len u) && fi u t)
    by_cases ht : t < len u
    · rw [decide_eq_true ht]
      rfl
    · rw [nf (fi_lt u) (by omega), Bool.and_false]
  · rw [l2.gi (by decide)]
    refine h6.congr (fun t _ => ?_)
    show la u t = (decide (t < len u * cps 16) && decide (16 / 16 ≤ t / len u + 1) && la u (t % len u))
    rw [hc, Nat.mul_one]
    by_cases ht : t < len u
    · rw [decide_eq_true ht, Nat.mod_eq_of_lt ht, Nat.div_eq_of_lt ht]
      simp
    · rw [nf (la_lt u) (by omega), decide_eq_false ht]
      rfl
  · rw [l4 o (by omega), h6.below ho (by omega), if_neg (by decide)]
/-- a group, one sequence more -/
def Gx (K : Nat) (g : Term) (x2 x3 : Int32) (τ0 τ : St) : Prop := 1 ≤ len g ∧ ((gI τ0 23 0 = J 1 ∧ (gI τ 23 0 = J 1 ∧ gI τ 22 0 = J (K + len g) ∧ K + len g ≤ 9 ∧ Plc K g τ ∧ Mk x2 K (fi g) ∧ Mk x3 K (la g)) ∧ Kp K τ0 τ) ∨ (Nx K τ ∧ (gI τ0 23 0 = J 1 → 9 < K + len g)))
theorem Plc_alt {K : Nat} {g s : Term} {τ τ' : St} (hg : Plc K g τ) (hk : Kp (K + len g) τ τ') (hs : Plc (K + len g) s τ') (hb : K + len g + len s ≤ 9) : Plc K (.elem g (.old s)) τ' := by
  intro j hj
  have hl : len (.elem g (.old s)) = len g + len s := rfl
  rw [hl] at hj
  by_cases hjg : j < len g
  · obtain ⟨a, b⟩ := hg j hjg
    obtain ⟨c, d⟩ := hk (K + j) (by omega)
    refine ⟨?_, ?_⟩
    · rw [c, a]
      show _ = J (bm (if j < len g then pl g j else pl s (j - len g)))
      rw [if_pos hjg]
    · rw [d]
      refine b.congr (fun t _ => ?_)
      show fo g j t = (if j < len g then decide (t < len g) && fo g j t else decide (len g ≤ t) && fo s (j - len g) (t - len g))
      rw [if_pos hjg]
      by_cases ht : t < len g
      · rw [decide_eq_true ht]
        rfl
      · cases hx : fo g j t
        · simp
        · have := (fo_lt g _ _ hx).2
          omega
  · obtain ⟨a, b⟩ := hs (j - len g) (by omega)
    rw [show K + len g + (j - len g) = K + j from by omega] at a b
    refine ⟨?_, ?_⟩
    · rw [a]
      show _ = J (bm (if j < len g then pl g j else pl s (j - len g)))
      rw [if_neg hjg]
    · refine b.base.congr (fun t _ => ?_)
      show _ = (if j < len g then decide (t < len g) && fo g j t else decide (len g ≤ t) && fo s (j - len g) (t - len g))
      rw [if_neg hjg]
theorem cls_alts (hN : 100 ≤ N) {f dep d K : Nat} {τ0 : St} (hs : ∀ p (τ : St) k, Rd ch ln p τ → St0 k τ → SO ch ln k (sP ch f p) τ (fX6_rec N d 5 τ (J (dep + 1)))) : ∀ n q i n' g x2 x3 (τ : St), ln < n + q → ln < n' + q → i < q → Rd ch ln q τ → Gx K g x2 x3 τ0 τ → Fr [22, 23, 24, 25, 43, 45, 46] τ0 τ → SO ch ln K (gLp ch (sP ch f) n q g) τ0 (fX6_readUnit_62 N (fX6_rec N d) n' τ (J dep) x2 x3 (J i)) := by
  intro n
  induction n with
  | zero =>
    intro q i n' g x2 x3 τ h1 h2 h3 hR hG hF
    have := hR.2.2.2.2.2
    omega
  | succ n ih =>
    intro q i n' g x2 x3 τ h1 h2 h3 hR hG hF
    have hql := hR.2.2.2.2.2
    have hln := hR.2.2.1
    obtain ⟨n', rfl⟩ : ∃ k, n' = k + 1 := ⟨n' - 1, by omega⟩
    have hcq := hR.ch_lt q
    have h42 := hR.2.1
    rw [show fX6_readUnit_62 N (fX6_rec N d) (n' + 1) τ (J dep) x2 x3 (J i) = _ from by unfold fX6_readUnit_62; rfl]
    have hend : ¬ ch q = 47 → ∀ (Z : Option (Int32 × Int32 × St)), Z = fX6_readUnit_113 N (fX6_rec N d) τ x2 x3 → SO ch ln K (gLp ch (sP ch f) (n + 1) q g) τ0 Z := fun h47 Z hZ => by
      subst hZ
      unfold gLp
      rw [if_neg h47]
      unfold fX6_readUnit_113
      by_cases h93 : ch q = 93
      · rw [if_pos h93]
        obtain ⟨m1, m2⟩ := cls_pass_ok (N := N) hR h93 (by omega)
        have hf1 : Fr [43, 45, 46] τ (sI (sI (sI τ 43 0 (J (q + 1))) 45 0 x2) 46 0 x3) := ((Fr.i (by decide)).tr (Fr.i (by decide))).tr (Fr.i (by decide))
        refine ⟨sI (sI (sI τ 43 0 (J (q + 1))) 45 0 x2) 46 0 x3, ?_, hF.tr (hf1.mono (by decide)), m2.fr (S := [45, 46]) ((Fr.i (by decide)).tr (Fr.i (by decide))) (by decide), hG.1, ?_⟩
        · rw [show (93 : Int32) = J 93 from rfl, m1, bndX_d]
          rfl
        · rcases hG.2 with ⟨g1, ⟨g2, g3, g4, g5, g6, g7⟩, g8⟩ | ⟨g1, g2⟩
          · left
            refine ⟨g1, ⟨by simp (decide := true) (disch := omega) only [letS_d, grd_t, bnd_d, bnd1_d, bndX_d, bndX_e, gI_sI, gI_sL, gL_sL, gL_sI, upd_at, updL_at, J_lit, J_add, J_mul, J_sub, J_lt, J_le, J_inj, J_ne, ne_J, m_lt, lt_m, m_le, le_m, J_cl, J_inB, if_true, if_false, ite_true, ite_false, reduceIte, isZ0, isZ1, J_and31, shrJ0, shlJ0, gI_sA, gL_sA, Nat.reduceEqDiff, Nat.reduceAdd, Nat.reduceMul, Nat.reduceLT, Nat.reduceLeDiff]; exact g2, by simp (decide := true) (disch := omega) only [letS_d, grd_t, bnd_d, bnd1_d, bndX_d, bndX_e, gI_sI, gI_sL, gL_sL, gL_sI, upd_at, updL_at, J_lit, J_add, J_mul, J_sub, J_lt, J_le, J_inj, J_ne, ne_J, m_lt, lt_m, m_le, le_m, J_cl, J_inB, if_true, if_false, ite_true, ite_false, reduceIte, isZ0, isZ1, J_and31, shrJ0, shlJ0, gI_sA, gL_sA, Nat.reduceEqDiff, Nat.reduceAdd, Nat.reduceMul, Nat.reduceLT, Nat.reduceLeDiff]; exact g3, g4, fun j hj => ?_, ?_, ?_⟩, g8.tr (Kp.of hf1 (by decide))⟩
            · obtain ⟨a, b⟩ := g5 j hj
              exact ⟨by simp (decide := true) (disch := omega) only [letS_d, grd_t, bnd_d, bnd1_d, bndX_d, bndX_e, gI_sI, gI_sL, gL_sL, gL_sI, upd_at, updL_at, J_lit, J_add, J_mul, J_sub, J_lt, J_le, J_inj, J_ne, ne_J, m_lt, lt_m, m_le, le_m, J_cl, J_inB, if_true, if_false, ite_true, ite_false, reduceIte, isZ0, isZ1, J_and31, shrJ0, shlJ0, gI_sA, gL_sA, Nat.reduceEqDiff, Nat.reduceAdd, Nat.reduceMul, Nat.reduceLT, Nat.reduceLeDiff]; exact a, by
                have e : gI (sI (sI (sI τ 43 0 (J (q + 1))) 45 0 x2) 46 0 x3) 25 (K + j) = gI τ 25 (K + j) := by simp (decide := true) (disch := omega) only [letS_d, grd_t, bnd_d, bnd1_d, bndX_d, bndX_e, gI_sI, gI_sL, gL_sL, gL_sI, upd_at, updL_at, J_lit, J_add, J_mul, J_sub, J_lt, J_le, J_inj, J_ne, ne_J, m_lt, lt_m, m_le, le_m, J_cl, J_inB, if_true, if_false, ite_true, ite_false, reduceIte, isZ0, isZ1, J_and31, shrJ0, shlJ0, gI_sA, gL_sA, Nat.reduceEqDiff, Nat.reduceAdd, Nat.reduceMul, Nat.reduceLT, Nat.reduceLeDiff]
                rw [e]
                exact b⟩
            · have e : gI (sI (sI (sI τ 43 0 (J (q + 1))) 45 0 x2) 46 0 x3) 45 0 = x2 := by simp (decide := true) (disch := omega) only [letS_d, grd_t, bnd_d, bnd1_d, bndX_d, bndX_e, gI_sI, gI_sL, gL_sL, gL_sI, upd_at, updL_at, J_lit, J_add, J_mul, J_sub, J_lt, J_le, J_inj, J_ne, ne_J, m_lt, lt_m, m_le, le_m, J_cl, J_inB, if_true, if_false, ite_true, ite_false, reduceIte, isZ0, isZ1, J_and31, shrJ0, shlJ0, gI_sA, gL_sA, Nat.reduceEqDiff, Nat.reduceAdd, Nat.reduceMul, Nat.reduceLT, Nat.reduceLeDiff]
              rw [e]
              exact g6
            · have e : gI (sI (sI (sI τ 43 0 (J (q + 1))) 45 0 x2) 46 0 x3) 46 0 = x3 := by simp (decide := true) (disch := omega) only [letS_d, grd_t, bnd_d, bnd1_d, bndX_d, bndX_e, gI_sI, gI_sL, gL_sL, gL_sI, upd_at, updL_at, J_lit, J_add, J_mul, J_sub, J_lt, J_le, J_inj, J_ne, ne_J, m_lt, lt_m, m_le, le_m, J_cl, J_inB, if_true, if_false, ite_true, ite_false, reduceIte, isZ0, isZ1, J_and31, shrJ0, shlJ0, gI_sA, gL_sA, Nat.reduceEqDiff, Nat.reduceAdd, Nat.reduceMul, Nat.reduceLT, Nat.reduceLeDiff]
              rw [e]
              exact g7
          · exact Or.inr ⟨g1.fr hf1 (by decide), g2⟩
      · rw [if_neg h93]
        have m1 := cls_pass_no (N := N) hR h93 (by omega)
        exact ⟨sI τ 44 0 (J q), by rw [show (93 : Int32) = J 93 from rfl, m1, bndX_1], (hF.mono (by decide)).tr (Fr.i (by decide)), by simp (decide := true) (disch := omega) only [letS_d, grd_t, bnd_d, bnd1_d, bndX_d, bndX_e, gI_sI, gI_sL, gL_sL, gL_sI, upd_at, updL_at, J_lit, J_add, J_mul, J_sub, J_lt, J_le, J_inj, J_ne, ne_J, m_lt, lt_m, m_le, le_m, J_cl, J_inB, if_true, if_false, ite_true, ite_false, reduceIte, isZ0, isZ1, J_and31, shrJ0, shlJ0, gI_sA, gL_sA, Nat.reduceEqDiff, Nat.reduceAdd, Nat.reduceMul, Nat.reduceLT, Nat.reduceLeDiff]⟩
    by_cases h47 : ch q = 47
    · have hqlt := hR.lt (i := q) (by omega)
      have hni : ¬ ln ≤ i := by omega
      obtain ⟨m1, m2⟩ := cls_pass_ok (N := N) hR h47 (by omega)
      have hf1 : Fr [43] τ (sI τ 43 0 (J (q + 1))) := Fr.i (by decide)
      -- how many places there are now
      obtain ⟨k, hk1, hk2, hk3⟩ : ∃ k, K ≤ k ∧ St0 k τ ∧ (gI τ 23 0 = J 1 → k = K + len g) := by
        rcases hG.2 with ⟨g1, ⟨g2, g3, g4, g5, g6, g7⟩, g8⟩ | ⟨⟨g1, k, g2, g3, g4⟩, g5⟩
        · exact ⟨K + len g, by omega, ⟨g4, g3, Or.inl g2⟩, fun _ => rfl⟩
        · exact ⟨k, g2, ⟨g3, g4, Or.inr g1⟩, fun h => absurd (h.symm.trans g1) J10⟩
      have hso := hs (q + 1) (sI τ 43 0 (J (q + 1))) k m2 (hk2.fr hf1 (by decide))
      have hz : (if (gI τ 42 0) ≤ J i then fX6_readUnit_113 N (fX6_rec N d) τ x2 x3 else bnd (fX6_peek N τ) fun r21 σ20 => if r21 = (47 : Int32) then bndX (fX6_pass N σ20 (47 : Int32)) fun r25 σ23 => bndX (fX6_rec N d 5 σ23 (J dep + (1 : Int32))) fun r28 σ26 => letS (x2 ||| (gI σ26 45 0)) fun u29 => letS (x3 ||| (gI σ26 46 0)) fun u30 => letS (J i + (1 : Int32)) fun u31 => fX6_readUnit_62 N (fX6_rec N d) n' σ26 (J dep) u29 u30 u31 else fX6_readUnit_113 N (fX6_rec N d) σ20 x2 x3) = bndX (fX6_rec N d 5 (sI τ 43 0 (J (q + 1))) (J (dep + 1))) fun r28 σ26 => fX6_readUnit_62 N (fX6_rec N d) n' σ26 (J dep) (x2 ||| (gI σ26 45 0)) (x3 ||| (gI σ26 46 0)) (J (i + 1)) := by
        have hpk := cls_peek (N := N) hR
        rw [h47] at hpk
        simp (decide := true) (disch := omega) only [letS_d, grd_t, bnd_d, bnd1_d, bndX_d, bndX_e, gI_sI, gI_sL, gL_sL, gL_sI, upd_at, updL_at, J_lit, J_add, J_mul, J_sub, J_lt, J_le, J_inj, J_ne, ne_J, m_lt, lt_m, m_le, le_m, J_cl, J_inB, if_true, if_false, ite_true, ite_false, reduceIte, isZ0, isZ1, J_and31, shrJ0, shlJ0, gI_sA, gL_sA, Nat.reduceEqDiff, Nat.reduceAdd, Nat.reduceMul, Nat.reduceLT, Nat.reduceLeDiff, h42, hni, hpk, m1]
      rw [hz]
      unfold gLp
      rw [if_pos h47]
      have hpos := sP_pos (ch := ch) f (q + 1)
      generalize sP ch f (q + 1) = r at hso hpos ⊢
      obtain ⟨r, s⟩ := r
      cases s with
      | none =>
        obtain ⟨τ', z1, z2, z3⟩ := hso
        exact ⟨τ', by rw [z1, bndX_1], ((hF.mono (by decide)).tr (Fr.i (by decide))).tr z2, z3⟩
      | some s =>
        obtain ⟨τ', z1, z2, z3, z4⟩ := hso
        have hr := hpos r s rfl
        rw [z1, bndX_d]
        refine ih r (i + 1) n' (.elem g (.old s)) _ _ τ' (by omega) (by omega) (by omega) z3 ⟨by show 1 ≤ len g + len s; have := hG.1; omega, ?_⟩ ((hF.tr (Fr.i (by decide))).tr z2)
        have z4' := z4.pre hf1 (by decide)
        have hlen : len (.elem g (.old s)) = len g + len s := rfl
        rcases z4'.2 with ⟨w1, w2, w3⟩ | ⟨w1, w2⟩
        · have hk := hk3 w1
          rcases hG.2 with ⟨g1, ⟨g2, g3, g4, g5, g6, g7⟩, g8⟩ | ⟨⟨g1, _⟩, _⟩
          · left
            subst hk
            obtain ⟨v1, v2, v3, v4, v5, v6⟩ := w2
            refine ⟨g1, ⟨v1, by rw [hlen, ← Nat.add_assoc]; exact v2, by rw [hlen]; omega, Plc_alt g5 w3 v4 v3, (g6.or v5.base).congr (fun t _ => ?_), (g7.or v6.base).congr (fun t _ => ?_)⟩, g8.tr (w3.le (by omega))⟩
            · show _ = (if t < len g then fi g t else fi s (t - len g))
              by_cases ht : t < len g
              · rw [if_pos ht, decide_eq_false (show ¬ len g ≤ t by omega)]
                simp
              · rw [if_neg ht, nf (fi_lt g) (show len g ≤ t by omega), decide_eq_true (show len g ≤ t by omega)]
                simp
            · show _ = (if t < len g then la g t else la s (t - len g))
              by_cases ht : t < len g
              · rw [if_pos ht, decide_eq_false (show ¬ len g ≤ t by omega)]
                simp
              · rw [if_neg ht, nf (la_lt g) (show len g ≤ t by omega), decide_eq_true (show len g ≤ t by omega)]
                simp
          · exact absurd (w1.symm.trans g1) J10
        · right
          refine ⟨w1.le hk1, fun h0 => ?_⟩
          rw [hlen]
          rcases hG.2 with ⟨g1, ⟨g2, g3, g4, g5, g6, g7⟩, g8⟩ | ⟨_, g2⟩
          · have := w2 g2
            have := hk3 g2
            omega
          · have := g2 h0
            omega
    · refine hend h47 _ ?_
      have hpk := cls_peek (N := N) hR
      by_cases hni : ln ≤ i
      · simp (decide := true) (disch := omega) only [letS_d, grd_t, bnd_d, bnd1_d, bndX_d, bndX_e, gI_sI, gI_sL, gL_sL, gL_sI, upd_at, updL_at, J_lit, J_add, J_mul, J_sub, J_lt, J_le, J_inj, J_ne, ne_J, m_lt, lt_m, m_le, le_m, J_cl, J_inB, if_true, if_false, ite_true, ite_false, reduceIte, isZ0, isZ1, J_and31, shrJ0, shlJ0, gI_sA, gL_sA, Nat.reduceEqDiff, Nat.reduceAdd, Nat.reduceMul, Nat.reduceLT, Nat.reduceLeDiff, h42, hni]
      · simp (decide := true) (disch := omega) only [letS_d, grd_t, bnd_d, bnd1_d, bndX_d, bndX_e, gI_sI, gI_sL, gL_sL, gL_sI, upd_at, updL_at, J_lit, J_add, J_mul, J_sub, J_lt, J_le, J_inj, J_ne, ne_J, m_lt, lt_m, m_le, le_m, J_cl, J_inB, if_true, if_false, ite_true, ite_false, reduceIte, isZ0, isZ1, J_and31, shrJ0, shlJ0, gI_sA, gL_sA, Nat.reduceEqDiff, Nat.reduceAdd, Nat.reduceMul, Nat.reduceLT, Nat.reduceLeDiff, h42, hni, hpk, h47]
end RD2
