/-! failing, whole; groups as mathematics -/
section FB
variable {N c : Nat} {ld : Nat → Nat → Nat} {base : Nat → Bool}
theorem cls_base {τ0 σ : St} (hb : ∀ τ', Fr [73] τ0 τ' → ∀ i, i < c → fX3_isNever N τ' (J i) = some (zb (base i), τ')) : ∀ f i n (τ : St), i + f = c → f < n → Fr [73] τ0 τ → Ls c ld τ σ → ∃ τ', fX4_markFailing_2 N n τ (J i) = fX4_markFailing_37 N N τ' (J 1) (J 0) ∧ Fr [73] τ0 τ' ∧ (∀ j, j < i → gI τ' 73 j = gI τ 73 j) ∧ ∀ j, i ≤ j → j < c → gI τ' 73 j = zb (base j) := by
  intro f
  induction f with
  | zero =>
    intro i n τ hi hn hf hL
    obtain ⟨n, rfl⟩ : ∃ k, n = k + 1 := ⟨n - 1, by omega⟩
    obtain ⟨h1, h2, h3, h4, h5⟩ := id hL
    unfold fX4_markFailing_2
    have : c ≤ i := by omega
    exact ⟨τ, by simp (decide := true) (disch := omega) only [letS_d, grd_t, bnd_d, bnd1_d, bndX_d, bndX_e, gI_sI, gI_sL, gL_sL, gL_sI, upd_at, updL_at, J_lit, J_add, J_mul, J_sub, J_lt, J_le, J_inj, J_ne, ne_J, m_lt, lt_m, m_le, le_m, J_cl, J_inB, if_true, if_false, ite_true, ite_false, reduceIte, isZ0, isZ1, J_and31, shrJ0, shlJ0, gI_sA, gL_sA, Nat.reduceEqDiff, Nat.reduceAdd, Nat.reduceMul, Nat.reduceLT, Nat.reduceLeDiff, h3, this], hf, fun _ _ => rfl, fun j a b => by omega⟩
  | succ f ih =>
    intro i n τ hi hn hf hL
    obtain ⟨n, rfl⟩ : ∃ k, n = k + 1 := ⟨n - 1, by omega⟩
    obtain ⟨h1, h2, h3, h4, h5⟩ := id hL
    unfold fX4_markFailing_2
    have hci : ¬ c ≤ i := by omega
    have hz := hb τ hf i (by omega)
    obtain ⟨τ', e1, e2, e3, e4⟩ := ih (i + 1) n (sI τ 73 i (zb (base i))) (by omega) (by omega) (hf.tr (Fr.i (by decide))) (hL.fr (S := [73]) (S' := []) (Fr.i (by decide)) Fr.rf (by decide) (by decide))
    refine ⟨τ', ?_, e2, fun j hj => ?_, fun j h1 h2 => ?_⟩
    · simp (decide := true) (disch := omega) only [letS_d, grd_t, bnd_d, bnd1_d, bndX_d, bndX_e, gI_sI, gI_sL, gL_sL, gL_sI, upd_at, updL_at, J_lit, J_add, J_mul, J_sub, J_lt, J_le, J_inj, J_ne, ne_J, m_lt, lt_m, m_le, le_m, J_cl, J_inB, if_true, if_false, ite_true, ite_false, reduceIte, isZ0, isZ1, J_and31, shrJ0, shlJ0, gI_sA, gL_sA, Nat.reduceEqDiff, Nat.reduceAdd, Nat.reduceMul, Nat.reduceLT, Nat.reduceLeDiff, h3, hci, hz, nar_zb]
      exact e1
    · rw [e3 j (by omega)]
      have : ¬ j = i := by omega
      simp (decide := true) (disch := omega) only [letS_d, grd_t, bnd_d, bnd1_d, bndX_d, bndX_e, gI_sI, gI_sL, gL_sL, gL_sI, upd_at, updL_at, J_lit, J_add, J_mul, J_sub, J_lt, J_le, J_inj, J_ne, ne_J, m_lt, lt_m, m_le, le_m, J_cl, J_inB, if_true, if_false, ite_true, ite_false, reduceIte, isZ0, isZ1, J_and31, shrJ0, shlJ0, gI_sA, gL_sA, Nat.reduceEqDiff, Nat.reduceAdd, Nat.reduceMul, Nat.reduceLT, Nat.reduceLeDiff, this]
    · by_cases hji : j = i
      · subst hji
        rw [e3 j (by omega)]
        simp (decide := true) (disch := omega) only [letS_d, grd_t, bnd_d, bnd1_d, bndX_d, bndX_e, gI_sI, gI_sL, gL_sL, gL_sI, upd_at, updL_at, J_lit, J_add, J_mul, J_sub, J_lt, J_le, J_inj, J_ne, ne_J, m_lt, lt_m, m_le, le_m, J_cl, J_inB, if_true, if_false, ite_true, ite_false, reduceIte, isZ0, isZ1, J_and31, shrJ0, shlJ0, gI_sA, gL_sA, Nat.reduceEqDiff, Nat.reduceAdd, Nat.reduceMul, Nat.reduceLT, Nat.reduceLeDiff]
      · exact e4 j (by omega) h2
theorem ref_base {τ σ0 : St} {k : Nat} (hk : k ≤ 9) (hkσ : gI σ0 17 0 = J k) (hb : ∀ σ', Fr [37] σ0 σ' → ∀ i, i < c → fX9_marked N σ' (J i) (J (2 ^ k - 1)) = some (zb (!base i), σ')) : ∀ f i n (σ : St), i + f = c → f < n → Fr [37] σ0 σ → Ls c ld τ σ → ∃ σ', fX9_fail_2 N n σ (J i) = fX9_fail_47 N N σ' (J 1) (J 0) ∧ Fr [37] σ0 σ' ∧ (∀ j, j < i → gI σ' 37 j = gI σ 37 j) ∧ ∀ j, i ≤ j → j < c → gI σ' 37 j = zb (base j) := by
  intro f
  induction f with
  | zero =>
    intro i n σ hi hn hf hL
    obtain ⟨n, rfl⟩ : ∃ k, n = k + 1 := ⟨n - 1, by omega⟩
    obtain ⟨h1, h2, h3, h4, h5⟩ := id hL
    unfold fX9_fail_2
    have : c ≤ i := by omega
    exact ⟨σ, by simp (decide := true) (disch := omega) only [letS_d, grd_t, bnd_d, bnd1_d, bndX_d, bndX_e, gI_sI, gI_sL, gL_sL, gL_sI, upd_at, updL_at, J_lit, J_add, J_mul, J_sub, J_lt, J_le, J_inj, J_ne, ne_J, m_lt, lt_m, m_le, le_m, J_cl, J_inB, if_true, if_false, ite_true, ite_false, reduceIte, isZ0, isZ1, J_and31, shrJ0, shlJ0, gI_sA, gL_sA, Nat.reduceEqDiff, Nat.reduceAdd, Nat.reduceMul, Nat.reduceLT, Nat.reduceLeDiff, h4, this], hf, fun _ _ => rfl, fun j a b => by omega⟩
  | succ f ih =>
    intro i n σ hi hn hf hL
    obtain ⟨n, rfl⟩ : ∃ k, n = k + 1 := ⟨n - 1, by omega⟩
    obtain ⟨h1, h2, h3, h4, h5⟩ := id hL
    unfold fX9_fail_2
    have hci : ¬ c ≤ i := by omega
    have hz := hb σ hf i (by omega)
    have hk17 : gI σ 17 0 = J k := by rw [hf.gi (by decide)]; exact hkσ
    have hpw : J 1 <<< J k = J (2 ^ k) := pow_J (by omega)
    have h2k : 1 ≤ 2 ^ k := Nat.pow_pos (by omega)
    obtain ⟨σ', e1, e2, e3, e4⟩ := ih (i + 1) n (sI σ 37 i (zb (base i))) (by omega) (by omega) (hf.tr (Fr.i (by decide))) (hL.fr (S := []) (S' := [37]) Fr.rf (Fr.i (by decide)) (by decide) (by decide))
    refine ⟨σ', ?_, e2, fun j hj => ?_, fun j h1 h2 => ?_⟩
    · cases hbi : base i
      · rw [hbi] at hz e1
        rw [zb_f] at e1
        simp (decide := true) (disch := omega) only [letS_d, grd_t, bnd_d, bnd1_d, bndX_d, bndX_e, gI_sI, gI_sL, gL_sL, gL_sI, upd_at, updL_at, J_lit, J_add, J_mul, J_sub, J_lt, J_le, J_inj, J_ne, ne_J, m_lt, lt_m, m_le, le_m, J_cl, J_inB, if_true, if_false, ite_true, ite_false, reduceIte, isZ0, isZ1, J_and31, shrJ0, shlJ0, gI_sA, gL_sA, Nat.reduceEqDiff, Nat.reduceAdd, Nat.reduceMul, Nat.reduceLT, Nat.reduceLeDiff, h4, hci, hk17, hpw, hz, Bool.not_false, zb_t, fX9_fail_36, nar_z0]
        exact e1
      · rw [hbi] at hz e1
        rw [zb_t] at e1
        simp (decide := true) (disch := omega) only [letS_d, grd_t, bnd_d, bnd1_d, bndX_d, bndX_e, gI_sI, gI_sL, gL_sL, gL_sI, upd_at, updL_at, J_lit, J_add, J_mul, J_sub, J_lt, J_le, J_inj, J_ne, ne_J, m_lt, lt_m, m_le, le_m, J_cl, J_inB, if_true, if_false, ite_true, ite_false, reduceIte, isZ0, isZ1, J_and31, shrJ0, shlJ0, gI_sA, gL_sA, Nat.reduceEqDiff, Nat.reduceAdd, Nat.reduceMul, Nat.reduceLT, Nat.reduceLeDiff, h4, hci, hk17, hpw, hz, Bool.not_true, zb_f, fX9_fail_36, nar_z1]
        exact e1
    · rw [e3 j (by omega)]
      have : ¬ j = i := by omega
      simp (decide := true) (disch := omega) only [letS_d, grd_t, bnd_d, bnd1_d, bndX_d, bndX_e, gI_sI, gI_sL, gL_sL, gL_sI, upd_at, updL_at, J_lit, J_add, J_mul, J_sub, J_lt, J_le, J_inj, J_ne, ne_J, m_lt, lt_m, m_le, le_m, J_cl, J_inB, if_true, if_false, ite_true, ite_false, reduceIte, isZ0, isZ1, J_and31, shrJ0, shlJ0, gI_sA, gL_sA, Nat.reduceEqDiff, Nat.reduceAdd, Nat.reduceMul, Nat.reduceLT, Nat.reduceLeDiff, this]
    · by_cases hji : j = i
      · subst hji
        rw [e3 j (by omega)]
        simp (decide := true) (disch := omega) only [letS_d, grd_t, bnd_d, bnd1_d, bndX_d, bndX_e, gI_sI, gI_sL, gL_sL, gL_sI, upd_at, updL_at, J_lit, J_add, J_mul, J_sub, J_lt, J_le, J_inj, J_ne, ne_J, m_lt, lt_m, m_le, le_m, J_cl, J_inB, if_true, if_false, ite_true, ite_false, reduceIte, isZ0, isZ1, J_and31, shrJ0, shlJ0, gI_sA, gL_sA, Nat.reduceEqDiff, Nat.reduceAdd, Nat.reduceMul, Nat.reduceLT, Nat.reduceLeDiff]
      · exact e4 j (by omega) h2
/-- failing, on both sides -/
theorem both_fail (hN : 100 ≤ N) {τ σ : St} {k : Nat} (hk : k ≤ 9) (hkσ : gI σ 17 0 = J k) (hL : Ls c ld τ σ) (hbC : ∀ τ', Fr [73] τ τ' → ∀ i, i < c → fX3_isNever N τ' (J i) = some (zb (base i), τ')) (hbR : ∀ σ', Fr [37] σ σ' → ∀ i, i < c → fX9_marked N σ' (J i) (J (2 ^ k - 1)) = some (zb (!base i), σ')) (hcl : ∀ i l, i < c → l < 8 → base i = true → base (ld i l) = true) : ∃ F τ' σ', fX4_markFailing N τ = some τ' ∧ fX9_fail N σ = some σ' ∧ Fr [73] τ τ' ∧ Fr [37] σ σ' ∧ (∀ i, i < c → gI τ' 73 i = zb (F i) ∧ gI σ' 37 i = zb (F i)) ∧ (∀ i, i < c → al ld F i = true → F i = true) ∧ (∀ i, i < c → F i = true → al ld F i = true) := by
  have hc := hL.2.1
  obtain ⟨τ1, a1, a2, a3, a4⟩ := cls_base (N := N) (ld := ld) (σ := σ) hbC c 0 N τ (by omega) (by omega) Fr.rf hL
  obtain ⟨σ1, b1, b2, b3, b4⟩ := ref_base (N := N) (ld := ld) (τ := τ) hk hkσ hbR c 0 N σ (by omega) (by omega) Fr.rf hL
  have hcl0 : ∀ j, (fun i => decide (i < c) && base i) j = true → al ld (fun i => decide (i < c) && base i) j = true := by
    intro j hj
    rw [Bool.and_eq_true, decide_eq_true_eq] at hj
    rw [al_iff]
    intro l hl
    have h5 := hL.2.2.2.2 j l hj.1 hl
    show (decide (ld j l < c) && base (ld j l)) = true
    rw [decide_eq_true h5.1, hcl j l hj.1 hl hj.2]
    rfl
  generalize hfl : (fun i => decide (i < c) && base i) = fl at hcl0
  have hflb : ∀ i, i < c → fl i = base i := fun i hi => by
    rw [← hfl]
    show (decide (i < c) && base i) = base i
    rw [decide_eq_true hi]
    rfl
  have hL1 : Ls c ld τ1 σ1 := hL.fr a2 b2 (by decide) (by decide)
  obtain ⟨τ', c1, c2, c3⟩ := cls_rounds (N := N) hN (σ := σ1) 40 0 N τ1 fl (by omega) (by omega) hL1 (fun i hi => by rw [a4 i (by omega) hi, hflb i hi])
  obtain ⟨σ', d1, d2, d3⟩ := ref_rounds (N := N) hN (τ := τ1) 41 0 N σ1 fl (by omega) (by omega) hL1 (fun i hi => by rw [b4 i (by omega) hi, hflb i hi])
  have hst : mo ld c 0 (Rr ld c 40 fl) = false := Rr_stable 40 fl (by omega)
  have h41 : Rr ld c 41 fl = Rr ld c 40 fl := by rw [Rr_succ, rd_same c 0 _ hst]
  refine ⟨Rr ld c 40 fl, τ', σ', ?_, ?_, a2.tr c2, b2.tr d2, fun i hi => ⟨c3 i hi, by rw [← h41]; exact d3 i hi⟩, fun i hi ha => mo_no c 0 _ hst i (by omega) (by omega) ha, fun i hi ha => Rr_cl 40 fl hcl0 i ha⟩
  · unfold fX4_markFailing
    simp (decide := true) (disch := omega) only [letS_d, grd_t, bnd_d, bnd1_d, bndX_d, bndX_e, gI_sI, gI_sL, gL_sL, gL_sI, upd_at, updL_at, J_lit, J_add, J_mul, J_sub, J_lt, J_le, J_inj, J_ne, ne_J, m_lt, lt_m, m_le, le_m, J_cl, J_inB, if_true, if_false, ite_true, ite_false, reduceIte, isZ0, isZ1, J_and31, shrJ0, shlJ0, gI_sA, gL_sA, Nat.reduceEqDiff, Nat.reduceAdd, Nat.reduceMul, Nat.reduceLT, Nat.reduceLeDiff]
    exact a1.trans c1
  · unfold fX9_fail
    simp (decide := true) (disch := omega) only [letS_d, grd_t, bnd_d, bnd1_d, bndX_d, bndX_e, gI_sI, gI_sL, gL_sL, gL_sI, upd_at, updL_at, J_lit, J_add, J_mul, J_sub, J_lt, J_le, J_inj, J_ne, ne_J, m_lt, lt_m, m_le, le_m, J_cl, J_inB, if_true, if_false, ite_true, ite_false, reduceIte, isZ0, isZ1, J_and31, shrJ0, shlJ0, gI_sA, gL_sA, Nat.reduceEqDiff, Nat.reduceAdd, Nat.reduceMul, Nat.reduceLT, Nat.reduceLeDiff]
    exact b1.trans d1
end FB
section GRP
variable {c : Nat} {ld : Nat → Nat → Nat}
/-- nothing tells two conditions apart, by the groups so far -/
def lk (ld : Nat → Nat → Nat) (g : Nat → Nat) (i j : Nat) : Prop := g i = g j ∧ ∀ l, l < 8 → g (ld i l) = g (ld j l)
def lkb (ld : Nat → Nat → Nat) (g : Nat → Nat) (i j : Nat) : Bool := decide (g i = g j) && (List.range 8).all (fun l => decide (g (ld i l) = g (ld j l)))
theorem lkb_iff {g : Nat → Nat} {i j : Nat} : lkb ld g i j = true ↔ lk ld g i j := by
  unfold lkb lk
  rw [Bool.and_eq_true, decide_eq_true_eq, List.all_eq_true]
  refine and_congr Iff.rfl ⟨fun h l hl => of_decide_eq_true (h l (List.mem_range.mpr hl)), fun h l hl => decide_eq_true (h l (List.mem_range.mp hl))⟩
theorem lk.rf {g : Nat → Nat} {i : Nat} : lk ld g i i := ⟨rfl, fun _ _ => rfl⟩
theorem lk.sy {g : Nat → Nat} {i j : Nat} (h : lk ld g i j) : lk ld g j i := ⟨h.1.symm, fun l hl => (h.2 l hl).symm⟩
theorem lk.tr {g : Nat → Nat} {i j k : Nat} (h : lk ld g i j) (h2 : lk ld g j k) : lk ld g i k := ⟨h.1.trans h2.1, fun l hl => (h.2 l hl).trans (h2.2 l hl)⟩
/-- the first one like it, from j on -/
def ff (ld : Nat → Nat → Nat) (g : Nat → Nat) : Nat → Nat → Nat → Nat
  | 0, _, i => i
  | f + 1, j, i => if lkb ld g j i = true then j else ff ld g f (j + 1) i
def rf (ld : Nat → Nat → Nat) (g : Nat → Nat) (i : Nat) : Nat := ff ld g i 0 i
theorem ff_spec (g : Nat → Nat) (i : Nat) : ∀ f j, j + f = i → j ≤ ff ld g f j i ∧ ff ld g f j i ≤ i ∧ lk ld g (ff ld g f j i) i ∧ ∀ k, j ≤ k → k < ff ld g f j i → ¬ lk ld g k i := by
  intro f
  induction f with
  | zero =>
    intro j hj
    unfold ff
    exact ⟨by omega, by omega, lk.rf, fun k h1 h2 => by omega⟩
  | succ f ih =>
    intro j hj
    unfold ff
    by_cases h : lkb ld g j i = true
    · rw [if_pos h]
      exact ⟨by omega, by omega, lkb_iff.mp h, fun k h1 h2 => by omega⟩
    · rw [if_neg h]
      obtain ⟨h1, h2, h3, h4⟩ := ih (j + 1) (by omega)
      refine ⟨by omega, h2, h3, fun k k1 k2 => ?_⟩
      by_cases hkj : k = j
      · subst hkj
        exact fun h9 => h (lkb_iff.mpr h9)
      · exact h4 k (by omega) k2
theorem rf_le (g : Nat → Nat) (i : Nat) : rf ld g i ≤ i := (ff_spec g i i 0 (by omega)).2.1
theorem rf_lk (g : Nat → Nat) (i : Nat) : lk ld g (rf ld g i) i := (ff_spec g i i 0 (by omega)).2.2.1
theorem rf_min {g : Nat → Nat} {i k : Nat} (h : lk ld g k i) : rf ld g i ≤ k := by
  rcases Nat.lt_or_ge k (rf ld g i) with h1 | h1
  · exact absurd h ((ff_spec g i i 0 (by omega)).2.2.2 k (by omega) h1)
  · exact h1
theorem rf_iff {g : Nat → Nat} {i j : Nat} : rf ld g i = rf ld g j ↔ lk ld g i j := by
  constructor
  · intro h
    have h1 := rf_lk (ld := ld) g i
    have h2 := rf_lk (ld := ld) g j
    rw [h] at h1
    exact h1.sy.tr h2
  · intro h
    exact Nat.le_antisymm (rf_min ((rf_lk g j).tr h.sy)) (rf_min ((rf_lk g i).tr h))
theorem rf_rf (g : Nat → Nat) (i : Nat) : rf ld g (rf ld g i) = rf ld g i := rf_iff.mpr (rf_lk g i)
/-- only what stands below c matters -/
theorem lk_congr {g h : Nat → Nat} (hld : ∀ i l, i < c → l < 8 → ld i l < c) (hg : ∀ i, i < c → g i = h i) {i j : Nat} (hi : i < c) (hj : j < c) : lk ld g i j ↔ lk ld h i j := by
  unfold lk
  rw [hg i hi, hg j hj]
  refine and_congr Iff.rfl ⟨fun hx l hl => ?_, fun hx l hl => ?_⟩
  · rw [← hg _ (hld i l hi hl), ← hg _ (hld j l hj hl)]
    exact hx l hl
  · rw [hg _ (hld i l hi hl), hg _ (hld j l hj hl)]
    exact hx l hl
theorem rf_congr {g h : Nat → Nat} (hld : ∀ i l, i < c → l < 8 → ld i l < c) (hg : ∀ i, i < c → g i = h i) {i : Nat} (hi : i < c) : rf ld g i = rf ld h i := by
  have h1 := rf_le (ld := ld) g i
  have h2 := rf_le (ld := ld) h i
  exact Nat.le_antisymm (rf_min ((lk_congr hld hg (by omega) hi).mpr (rf_lk h i))) (rf_min ((lk_congr hld hg (by omega) hi).mp (rf_lk g i)))
/-- the groups after some rounds -/
def gk (ld : Nat → Nat → Nat) (F : Nat → Bool) : Nat → Nat → Nat
  | 0, i => if F i = true then 1 else 0
  | k + 1, i => rf ld (gk ld F k) i
def isR (g : Nat → Nat) (i : Nat) : Bool := decide (g i = i)
/-- as many groups as before: the same ones -/
theorem gk_still {F : Nat → Bool} {k : Nat} (hk : 1 ≤ k) (hn : cnt c (isR (gk ld F (k + 1))) ≤ cnt c (isR (gk ld F k))) : ∀ i, i < c → gk ld F (k + 1) i = gk ld F k i := by
  obtain ⟨m, rfl⟩ : ∃ m, k = m + 1 := ⟨k - 1, by omega⟩
  have hsub : ∀ i, isR (gk ld F (m + 1)) i = true → isR (gk ld F (m + 2)) i = true := by
    intro i hi
    have hi' : gk ld F (m + 1) i = i := of_decide_eq_true hi
    refine decide_eq_true ?_
    have h1 := rf_lk (ld := ld) (gk ld F (m + 1)) i
    have h2 := rf_le (ld := ld) (gk ld F (m + 1)) i
    have h3 : gk ld F (m + 1) (rf ld (gk ld F (m + 1)) i) ≤ rf ld (gk ld F (m + 1)) i := rf_le (gk ld F m) _
    have h4 := h1.1
    show rf ld (gk ld F (m + 1)) i = i
    omega
  have hcnt : ∀ n, (∀ i, i < n → isR (gk ld F (m + 1)) i = true → isR (gk ld F (m + 2)) i = true) → cnt n (isR (gk ld F (m + 1))) ≤ cnt n (isR (gk ld F (m + 2))) ∧ (cnt n (isR (gk ld F (m + 2))) ≤ cnt n (isR (gk ld F (m + 1))) → ∀ i, i < n → isR (gk ld F (m + 2)) i = true → isR (gk ld F (m + 1)) i = true) := by
    intro n
    induction n with
    | zero => intro _; exact ⟨Nat.le_refl _, fun _ i hi => by omega⟩
    | succ n ih =>
      intro h
      obtain ⟨i1, i2⟩ := ih (fun i hi => h i (by omega))
      have hn' := h n (by omega)
      unfold cnt
      cases ha : isR (gk ld F (m + 1)) n
      · cases hb : isR (gk ld F (m + 2)) n
        · refine ⟨by simpa using i1, fun hx i hi hr => ?_⟩
          by_cases hin : i = n
          · subst hin
            rw [hb] at hr
            cases hr
          · exact i2 (by simpa using hx) i (by omega) hr
        · refine ⟨by simp; omega, fun hx i hi hr => ?_⟩
          simp at hx
          omega
      · have hb := hn' ha
        rw [hb]
        refine ⟨by simp; omega, fun hx i hi hr => ?_⟩
        by_cases hin : i = n
        · subst hin
          exact ha
        · exact i2 (by simp at hx; omega) i (by omega) hr
  intro i hi
  have h1 := rf_lk (ld := ld) (gk ld F (m + 1)) i
  have h2 := rf_le (ld := ld) (gk ld F (m + 1)) i
  have h3 : isR (gk ld F (m + 2)) (rf ld (gk ld F (m + 1)) i) = true := decide_eq_true (rf_rf _ _)
  have h4 := (hcnt c (fun i _ => hsub i)).2 hn _ (by omega) h3
  have h5 : gk ld F (m + 1) (rf ld (gk ld F (m + 1)) i) = rf ld (gk ld F (m + 1)) i := of_decide_eq_true h4
  show rf ld (gk ld F (m + 1)) i = gk ld F (m + 1) i
  rw [← h5]
  exact h1.1
theorem gk_stay {F : Nat → Bool} (hld : ∀ i l, i < c → l < 8 → ld i l < c) {k : Nat} (h : ∀ i, i < c → gk ld F (k + 1) i = gk ld F k i) : ∀ m, k ≤ m → ∀ i, i < c → gk ld F m i = gk ld F k i := by
  intro m
  induction m with
  | zero =>
    intro hk i hi
    obtain rfl : k = 0 := by omega
    rfl
  | succ m ih =>
    intro hk i hi
    by_cases hkm : k = m + 1
    · rw [hkm]
    · rw [← h i hi]
      exact rf_congr hld (ih (by omega)) hi
theorem gk_sep {F : Nat → Bool} (hF : ∀ i, i < c → F i = true → al ld F i = true) (hld : ∀ i l, i < c → l < 8 → ld i l < c) : ∀ k i j, i < c → j < c → (F i = true → F j = true → gk ld F k i = gk ld F k j) ∧ (F i = true → F j = false → gk ld F k i ≠ gk ld F k j) := by
  intro k
  induction k with
  | zero =>
    intro i j hi hj
    refine ⟨fun h1 h2 => ?_, fun h1 h2 => ?_⟩
    · show (if F i = true then 1 else 0) = (if F j = true then 1 else 0)
      rw [if_pos h1, if_pos h2]
    · show (if F i = true then 1 else 0) ≠ (if F j = true then 1 else 0)
      rw [if_pos h1, if_neg (by rw [h2]; decide)]
      decide
  | succ k ih =>
    intro i j hi hj
    refine ⟨fun h1 h2 => ?_, fun h1 h2 h3 => ?_⟩
    · refine rf_iff.mpr ⟨(ih i j hi hj).1 h1 h2, fun l hl => ?_⟩
      exact (ih _ _ (hld i l hi hl) (hld j l hj hl)).1 (al_iff.mp (hF i hi h1) l hl) (al_iff.mp (hF j hj h2) l hl)
    · exact (ih i j hi hj).2 h1 h2 (rf_iff.mp h3).1
end GRP
