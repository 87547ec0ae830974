/-! the class's groups -/
section CG
variable {N c : Nat} {ld : Nat → Nat → Nat} {F : Nat → Bool}
theorem cnt_pos {f : Nat → Bool} (h : f 0 = true) : ∀ n, 1 ≤ n → 1 ≤ cnt n f := by
  intro n
  induction n with
  | zero => intro h; omega
  | succ n ih =>
    intro _
    unfold cnt
    by_cases hn : n = 0
    · subst hn
      rw [if_pos h]
      omega
    · have := ih (by omega)
      omega
theorem cls_like19 {τ σ : St} {g : Nat → Nat} (hL : Ls c ld τ σ) (hg : ∀ i, i < c → gI τ 74 i = J (g i) ∧ g i < 100) {a b : Nat} (ha : a < c) (hb : b < c) (hab : g a = g b) : ∀ f l n, l + f = 8 → f < n → (∀ k, k < l → g (ld a k) = g (ld b k)) → fX4_isLike_19 N n τ (J a) (J b) (J l) = some (zb (lkb ld g a b), τ) := by
  obtain ⟨h1, h2, h3, h4, h5⟩ := hL
  intro f
  induction f with
  | zero =>
    intro l n hl hn hk
    obtain ⟨n, rfl⟩ : ∃ k, n = k + 1 := ⟨n - 1, by omega⟩
    obtain rfl : l = 8 := by omega
    have : lkb ld g a b = true := lkb_iff.mpr ⟨hab, hk⟩
    unfold fX4_isLike_19
    simp (decide := true) (disch := omega) only [letS_d, grd_t, bnd_d, bnd1_d, bndX_d, bndX_e, gI_sI, gI_sL, gL_sL, gL_sI, upd_at, updL_at, J_lit, J_add, J_mul, J_sub, J_lt, J_le, J_inj, J_ne, ne_J, m_lt, lt_m, m_le, le_m, J_cl, J_inB, if_true, if_false, ite_true, ite_false, reduceIte, isZ0, isZ1, J_and31, shrJ0, shlJ0, gI_sA, gL_sA, Nat.reduceEqDiff, Nat.reduceAdd, Nat.reduceMul, Nat.reduceLT, Nat.reduceLeDiff, Nat.le_refl, this, zb_t]
  | succ f ih =>
    intro l n hl hn hk
    obtain ⟨n, rfl⟩ : ∃ k, n = k + 1 := ⟨n - 1, by omega⟩
    obtain ⟨a1, a2, a3⟩ := h5 a l ha (by omega)
    obtain ⟨b1, b2, b3⟩ := h5 b l hb (by omega)
    obtain ⟨ga1, ga2⟩ := hg _ a1
    obtain ⟨gb1, gb2⟩ := hg _ b1
    unfold fX4_isLike_19 fX3_lead
    have h8 : ¬ 8 ≤ l := by omega
    have e8 : a * 8 = 8 * a := Nat.mul_comm _ _
    have e9 : b * 8 = 8 * b := Nat.mul_comm _ _
    by_cases hz : g (ld a l) = g (ld b l)
    · have := ih (l + 1) n (by omega) (by omega) (fun k hk1 => by
        by_cases hkl : k = l
        · subst hkl; exact hz
        · exact hk k (by omega))
      simp (decide := true) (disch := omega) only [letS_d, grd_t, bnd_d, bnd1_d, bndX_d, bndX_e, gI_sI, gI_sL, gL_sL, gL_sI, upd_at, updL_at, J_lit, J_add, J_mul, J_sub, J_lt, J_le, J_inj, J_ne, ne_J, m_lt, lt_m, m_le, le_m, J_cl, J_inB, if_true, if_false, ite_true, ite_false, reduceIte, isZ0, isZ1, J_and31, shrJ0, shlJ0, gI_sA, gL_sA, Nat.reduceEqDiff, Nat.reduceAdd, Nat.reduceMul, Nat.reduceLT, Nat.reduceLeDiff, h8, e8, e9, a2, b2, ga1, gb1, hz]
      exact this
    · have : lkb ld g a b = false := by
        cases hx : lkb ld g a b
        · rfl
        · exact absurd ((lkb_iff.mp hx).2 l (by omega)) hz
      simp (decide := true) (disch := omega) only [letS_d, grd_t, bnd_d, bnd1_d, bndX_d, bndX_e, gI_sI, gI_sL, gL_sL, gL_sI, upd_at, updL_at, J_lit, J_add, J_mul, J_sub, J_lt, J_le, J_inj, J_ne, ne_J, m_lt, lt_m, m_le, le_m, J_cl, J_inB, if_true, if_false, ite_true, ite_false, reduceIte, isZ0, isZ1, J_and31, shrJ0, shlJ0, gI_sA, gL_sA, Nat.reduceEqDiff, Nat.reduceAdd, Nat.reduceMul, Nat.reduceLT, Nat.reduceLeDiff, h8, e8, e9, a2, b2, ga1, gb1, hz, this, zb_f]
theorem cls_like (hN : 100 ≤ N) {τ σ : St} {g : Nat → Nat} (hL : Ls c ld τ σ) (hg : ∀ i, i < c → gI τ 74 i = J (g i) ∧ g i < 100) {a b : Nat} (ha : a < c) (hb : b < c) : fX4_isLike N τ (J a) (J b) = some (zb (lkb ld g a b), τ) := by
  obtain ⟨ga1, ga2⟩ := hg a ha
  obtain ⟨gb1, gb2⟩ := hg b hb
  have hc := hL.2.1
  unfold fX4_isLike
  by_cases hab : g a = g b
  · have := cls_like19 (N := N) hL hg ha hb hab 8 0 N (by omega) (by omega) (fun k hk => by omega)
    simp (decide := true) (disch := omega) only [letS_d, grd_t, bnd_d, bnd1_d, bndX_d, bndX_e, gI_sI, gI_sL, gL_sL, gL_sI, upd_at, updL_at, J_lit, J_add, J_mul, J_sub, J_lt, J_le, J_inj, J_ne, ne_J, m_lt, lt_m, m_le, le_m, J_cl, J_inB, if_true, if_false, ite_true, ite_false, reduceIte, isZ0, isZ1, J_and31, shrJ0, shlJ0, gI_sA, gL_sA, Nat.reduceEqDiff, Nat.reduceAdd, Nat.reduceMul, Nat.reduceLT, Nat.reduceLeDiff, ga1, gb1, hab]
    exact this
  · have : lkb ld g a b = false := by
      cases hx : lkb ld g a b
      · rfl
      · exact absurd (lkb_iff.mp hx).1 hab
    simp (decide := true) (disch := omega) only [letS_d, grd_t, bnd_d, bnd1_d, bndX_d, bndX_e, gI_sI, gI_sL, gL_sL, gL_sI, upd_at, updL_at, J_lit, J_add, J_mul, J_sub, J_lt, J_le, J_inj, J_ne, ne_J, m_lt, lt_m, m_le, le_m, J_cl, J_inB, if_true, if_false, ite_true, ite_false, reduceIte, isZ0, isZ1, J_and31, shrJ0, shlJ0, gI_sA, gL_sA, Nat.reduceEqDiff, Nat.reduceAdd, Nat.reduceMul, Nat.reduceLT, Nat.reduceLeDiff, ga1, gb1, hab, this, zb_f]
theorem cls_first2 (hN : 100 ≤ N) {τ σ : St} {g : Nat → Nat} (hL : Ls c ld τ σ) (hg : ∀ i, i < c → gI τ 74 i = J (g i) ∧ g i < 100) {i : Nat} (hi : i < c) (hfin : ∀ j, j < i → gI τ 75 j = J (rf ld g j)) : ∀ f j n, j + f = i → f < n → (∀ k, k < j → ¬ lk ld g k i) → fX4_firstLike_2 N n τ (J i) (J j) = some (J (rf ld g i), τ) := by
  have hc := hL.2.1
  intro f
  induction f with
  | zero =>
    intro j n hj hn hk
    obtain ⟨n, rfl⟩ : ∃ k, n = k + 1 := ⟨n - 1, by omega⟩
    obtain rfl : j = i := by omega
    have : rf ld g j = j := by
      rcases Nat.lt_or_ge (rf ld g j) j with h | h
      · exact absurd (rf_lk g j) (hk _ h)
      · have := rf_le (ld := ld) g j
        omega
    unfold fX4_firstLike_2
    simp (decide := true) (disch := omega) only [letS_d, grd_t, bnd_d, bnd1_d, bndX_d, bndX_e, gI_sI, gI_sL, gL_sL, gL_sI, upd_at, updL_at, J_lit, J_add, J_mul, J_sub, J_lt, J_le, J_inj, J_ne, ne_J, m_lt, lt_m, m_le, le_m, J_cl, J_inB, if_true, if_false, ite_true, ite_false, reduceIte, isZ0, isZ1, J_and31, shrJ0, shlJ0, gI_sA, gL_sA, Nat.reduceEqDiff, Nat.reduceAdd, Nat.reduceMul, Nat.reduceLT, Nat.reduceLeDiff, Nat.le_refl, this]
  | succ f ih =>
    intro j n hj hn hk
    obtain ⟨n, rfl⟩ : ∃ k, n = k + 1 := ⟨n - 1, by omega⟩
    unfold fX4_firstLike_2
    have hij : ¬ i ≤ j := by omega
    have hfj := hfin j (by omega)
    have hle := rf_le (ld := ld) g j
    have hlk := cls_like (N := N) hN hL hg (show j < c by omega) hi
    have hnext : (¬ lk ld g j i) → fX4_firstLike_28 N (fX4_firstLike_2 N n) τ (J i) (J j) = some (J (rf ld g i), τ) := fun hx => by
      unfold fX4_firstLike_28
      simp (decide := true) (disch := omega) only [letS_d, grd_t, bnd_d, bnd1_d, bndX_d, bndX_e, gI_sI, gI_sL, gL_sL, gL_sI, upd_at, updL_at, J_lit, J_add, J_mul, J_sub, J_lt, J_le, J_inj, J_ne, ne_J, m_lt, lt_m, m_le, le_m, J_cl, J_inB, if_true, if_false, ite_true, ite_false, reduceIte, isZ0, isZ1, J_and31, shrJ0, shlJ0, gI_sA, gL_sA, Nat.reduceEqDiff, Nat.reduceAdd, Nat.reduceMul, Nat.reduceLT, Nat.reduceLeDiff]
      exact ih (j + 1) n (by omega) (by omega) (fun k hk1 => by
        by_cases hkj : k = j
        · subst hkj; exact hx
        · exact hk k (by omega))
    by_cases hr : rf ld g j = j
    · cases hx : lkb ld g j i
      · rw [hx, zb_f] at hlk
        have := hnext (fun h9 => by rw [lkb_iff.mpr h9] at hx; cases hx)
        simp (decide := true) (disch := omega) only [letS_d, grd_t, bnd_d, bnd1_d, bndX_d, bndX_e, gI_sI, gI_sL, gL_sL, gL_sI, upd_at, updL_at, J_lit, J_add, J_mul, J_sub, J_lt, J_le, J_inj, J_ne, ne_J, m_lt, lt_m, m_le, le_m, J_cl, J_inB, if_true, if_false, ite_true, ite_false, reduceIte, isZ0, isZ1, J_and31, shrJ0, shlJ0, gI_sA, gL_sA, Nat.reduceEqDiff, Nat.reduceAdd, Nat.reduceMul, Nat.reduceLT, Nat.reduceLeDiff, hij, hfj, hr, hlk]
        exact this
      · rw [hx, zb_t] at hlk
        have : rf ld g i = j := by
          have h1 := rf_min (lkb_iff.mp hx)
          rcases Nat.lt_or_ge (rf ld g i) j with h | h
          · exact absurd (rf_lk g i) (hk _ h)
          · omega
        simp (decide := true) (disch := omega) only [letS_d, grd_t, bnd_d, bnd1_d, bndX_d, bndX_e, gI_sI, gI_sL, gL_sL, gL_sI, upd_at, updL_at, J_lit, J_add, J_mul, J_sub, J_lt, J_le, J_inj, J_ne, ne_J, m_lt, lt_m, m_le, le_m, J_cl, J_inB, if_true, if_false, ite_true, ite_false, reduceIte, isZ0, isZ1, J_and31, shrJ0, shlJ0, gI_sA, gL_sA, Nat.reduceEqDiff, Nat.reduceAdd, Nat.reduceMul, Nat.reduceLT, Nat.reduceLeDiff, hij, hfj, hr, hlk, this]
    · have := hnext (fun h9 => hk (rf ld g j) (by omega) ((rf_lk g j).tr h9))
      simp (decide := true) (disch := omega) only [letS_d, grd_t, bnd_d, bnd1_d, bndX_d, bndX_e, gI_sI, gI_sL, gL_sL, gL_sI, upd_at, updL_at, J_lit, J_add, J_mul, J_sub, J_lt, J_le, J_inj, J_ne, ne_J, m_lt, lt_m, m_le, le_m, J_cl, J_inB, if_true, if_false, ite_true, ite_false, reduceIte, isZ0, isZ1, J_and31, shrJ0, shlJ0, gI_sA, gL_sA, Nat.reduceEqDiff, Nat.reduceAdd, Nat.reduceMul, Nat.reduceLT, Nat.reduceLeDiff, hij, hfj, hr]
      exact this
theorem cls_refine (hN : 100 ≤ N) {σ : St} {g : Nat → Nat} : ∀ f i n (τ : St), i + f = c → f < n → Ls c ld τ σ → (∀ i, i < c → gI τ 74 i = J (g i) ∧ g i < 100) → (∀ j, j < i → gI τ 75 j = J (rf ld g j)) → ∃ τ', fX4_refineGroups_4 N n τ (J (cnt i (isR (rf ld g)))) (J i) = some (J (cnt c (isR (rf ld g))), τ') ∧ Fr [74, 75] τ τ' ∧ ∀ j, j < c → gI τ' 74 j = J (rf ld g j) := by
  intro f
  induction f with
  | zero =>
    intro i n τ hi hn hL hg hfin
    obtain ⟨n, rfl⟩ : ∃ k, n = k + 1 := ⟨n - 1, by omega⟩
    obtain ⟨h1, h2, h3, h4, h5⟩ := id hL
    obtain rfl : i = c := by omega
    unfold fX4_refineGroups_4
    have hcp := cpOK_J (a := i) (b := 0) (x := 40) (y := 40) (by omega) (by omega) (by omega) (by omega)
    refine ⟨sA τ 74 (va_cpy (gI τ 75) (gI τ 74) 0 0 i), ?_, Fr.a (by decide), fun j hj => ?_⟩
    · simp (decide := true) (disch := omega) only [letS_d, grd_t, bnd_d, bnd1_d, bndX_d, bndX_e, gI_sI, gI_sL, gL_sL, gL_sI, upd_at, updL_at, J_lit, J_add, J_mul, J_sub, J_lt, J_le, J_inj, J_ne, ne_J, m_lt, lt_m, m_le, le_m, J_cl, J_inB, if_true, if_false, ite_true, ite_false, reduceIte, isZ0, isZ1, J_and31, shrJ0, shlJ0, gI_sA, gL_sA, Nat.reduceEqDiff, Nat.reduceAdd, Nat.reduceMul, Nat.reduceLT, Nat.reduceLeDiff, h3, Nat.le_refl, hcp]
    · simp (decide := true) (disch := omega) only [letS_d, grd_t, bnd_d, bnd1_d, bndX_d, bndX_e, gI_sI, gI_sL, gL_sL, gL_sI, upd_at, updL_at, J_lit, J_add, J_mul, J_sub, J_lt, J_le, J_inj, J_ne, ne_J, m_lt, lt_m, m_le, le_m, J_cl, J_inB, if_true, if_false, ite_true, ite_false, reduceIte, isZ0, isZ1, J_and31, shrJ0, shlJ0, gI_sA, gL_sA, Nat.reduceEqDiff, Nat.reduceAdd, Nat.reduceMul, Nat.reduceLT, Nat.reduceLeDiff]
      unfold va_cpy
      rw [if_pos (by omega), show 0 + (j - 0) = j from by omega]
      exact hfin j hj
  | succ f ih =>
    intro i n τ hi hn hL hg hfin
    obtain ⟨n, rfl⟩ : ∃ k, n = k + 1 := ⟨n - 1, by omega⟩
    obtain ⟨h1, h2, h3, h4, h5⟩ := id hL
    have hci : ¬ c ≤ i := by omega
    have hle := rf_le (ld := ld) g i
    have hcl := cnt_le (isR (rf ld g)) i
    have hff := cls_first2 (N := N) hN hL hg (show i < c by omega) hfin i 0 N (by omega) (by omega) (fun k hk => by omega)
    obtain ⟨τ', e1, e2, e3⟩ := ih (i + 1) n (sI τ 75 i (J (rf ld g i))) (by omega) (by omega) (hL.fr (S := [75]) (S' := []) (Fr.i (by decide)) Fr.rf (by decide) (by decide)) (fun j hj => by simp (decide := true) (disch := omega) only [letS_d, grd_t, bnd_d, bnd1_d, bndX_d, bndX_e, gI_sI, gI_sL, gL_sL, gL_sI, upd_at, updL_at, J_lit, J_add, J_mul, J_sub, J_lt, J_le, J_inj, J_ne, ne_J, m_lt, lt_m, m_le, le_m, J_cl, J_inB, if_true, if_false, ite_true, ite_false, reduceIte, isZ0, isZ1, J_and31, shrJ0, shlJ0, gI_sA, gL_sA, Nat.reduceEqDiff, Nat.reduceAdd, Nat.reduceMul, Nat.reduceLT, Nat.reduceLeDiff]; exact hg j hj) (fun j hj => by
      by_cases hji : j = i
      · subst hji
        simp (decide := true) (disch := omega) only [letS_d, grd_t, bnd_d, bnd1_d, bndX_d, bndX_e, gI_sI, gI_sL, gL_sL, gL_sI, upd_at, updL_at, J_lit, J_add, J_mul, J_sub, J_lt, J_le, J_inj, J_ne, ne_J, m_lt, lt_m, m_le, le_m, J_cl, J_inB, if_true, if_false, ite_true, ite_false, reduceIte, isZ0, isZ1, J_and31, shrJ0, shlJ0, gI_sA, gL_sA, Nat.reduceEqDiff, Nat.reduceAdd, Nat.reduceMul, Nat.reduceLT, Nat.reduceLeDiff]
      · simp (decide := true) (disch := omega) only [letS_d, grd_t, bnd_d, bnd1_d, bndX_d, bndX_e, gI_sI, gI_sL, gL_sL, gL_sI, upd_at, updL_at, J_lit, J_add, J_mul, J_sub, J_lt, J_le, J_inj, J_ne, ne_J, m_lt, lt_m, m_le, le_m, J_cl, J_inB, if_true, if_false, ite_true, ite_false, reduceIte, isZ0, isZ1, J_and31, shrJ0, shlJ0, gI_sA, gL_sA, Nat.reduceEqDiff, Nat.reduceAdd, Nat.reduceMul, Nat.reduceLT, Nat.reduceLeDiff, hji]
        exact hfin j (by omega))
    refine ⟨τ', ?_, (Fr.i (by decide)).tr e2, e3⟩
    have hstep : cnt (i + 1) (isR (rf ld g)) = cnt i (isR (rf ld g)) + (if isR (rf ld g) i = true then 1 else 0) := rfl
    rw [hstep] at e1
    rw [show fX4_refineGroups_4 N (n + 1) τ (J (cnt i (isR (rf ld g)))) (J i) = _ from by unfold fX4_refineGroups_4; rfl]
    by_cases hr : rf ld g i = i
    · have hR : isR (rf ld g) i = true := decide_eq_true hr
      rw [if_pos hR] at e1
      rw [hr] at hff e1
      simp (decide := true) (disch := omega) only [letS_d, grd_t, bnd_d, bnd1_d, bndX_d, bndX_e, gI_sI, gI_sL, gL_sL, gL_sI, upd_at, updL_at, J_lit, J_add, J_mul, J_sub, J_lt, J_le, J_inj, J_ne, ne_J, m_lt, lt_m, m_le, le_m, J_cl, J_inB, if_true, if_false, ite_true, ite_false, reduceIte, isZ0, isZ1, J_and31, shrJ0, shlJ0, gI_sA, gL_sA, Nat.reduceEqDiff, Nat.reduceAdd, Nat.reduceMul, Nat.reduceLT, Nat.reduceLeDiff, h3, hci, fX4_firstLike, hff, fX4_refineGroups_39]
      exact e1
    · have hR : ¬ isR (rf ld g) i = true := fun h => hr (of_decide_eq_true h)
      rw [if_neg hR, Nat.add_zero] at e1
      simp (decide := true) (disch := omega) only [letS_d, grd_t, bnd_d, bnd1_d, bndX_d, bndX_e, gI_sI, gI_sL, gL_sL, gL_sI, upd_at, updL_at, J_lit, J_add, J_mul, J_sub, J_lt, J_le, J_inj, J_ne, ne_J, m_lt, lt_m, m_le, le_m, J_cl, J_inB, if_true, if_false, ite_true, ite_false, reduceIte, isZ0, isZ1, J_and31, shrJ0, shlJ0, gI_sA, gL_sA, Nat.reduceEqDiff, Nat.reduceAdd, Nat.reduceMul, Nat.reduceLT, Nat.reduceLeDiff, h3, hci, fX4_firstLike, hff, hr, fX4_refineGroups_39]
      exact e1
def nb (ld : Nat → Nat → Nat) (F : Nat → Bool) (c r : Nat) : Nat := if r = 0 then 0 else cnt c (isR (gk ld F r))
theorem gk_lt (k : Nat) {i : Nat} (hi : i < 40) : gk ld F k i < 100 := by
  cases k with
  | zero =>
    show (if F i = true then 1 else 0) < 100
    split <;> omega
  | succ k =>
    have := rf_le (ld := ld) (gk ld F k) i
    show rf ld (gk ld F k) i < 100
    omega
theorem cls_groups (hN : 100 ≤ N) {σ : St} : ∀ f r n (τ : St), r + f = 41 → f < n → Ls c ld τ σ → (∀ i, i < c → gI τ 74 i = J (gk ld F r i)) → r ≤ nb ld F c r → ∃ τ', fX4_groupConditions_45 N n τ (J (nb ld F c r)) (J 1) (J r) = some τ' ∧ Fr [74, 75] τ τ' ∧ ∀ i, i < c → gI τ' 74 i = J (gk ld F 40 i) := by
  intro f
  induction f with
  | zero =>
    intro r n τ hr hn hL hg hb
    obtain rfl : r = 41 := by omega
    have h1 := cnt_le (isR (gk ld F 41)) c
    have h2 : nb ld F c 41 = cnt c (isR (gk ld F 41)) := rfl
    have h3 := hL.2.1
    omega
  | succ f ih =>
    intro r n τ hr hn hL hg hb
    obtain ⟨n, rfl⟩ : ∃ k, n = k + 1 := ⟨n - 1, by omega⟩
    obtain ⟨h1, h2, h3, h4, h5⟩ := id hL
    have hld : ∀ i l, i < c → l < 8 → ld i l < c := fun i l hi hl => (h5 i l hi hl).1
    obtain ⟨τ1, a1, a2, a3⟩ := cls_refine (N := N) (ld := ld) hN (σ := σ) (g := gk ld F r) c 0 N τ (by omega) (by omega) hL (fun i hi => ⟨hg i hi, gk_lt r (by omega)⟩) (fun j hj => by omega)
    have hn1 : nb ld F c (r + 1) = cnt c (isR (rf ld (gk ld F r))) := rfl
    rw [← hn1] at a1
    have hz : cnt 0 (isR (rf ld (gk ld F r))) = 0 := rfl
    rw [hz] at a1
    have hb1 : nb ld F c (r + 1) ≤ c := by rw [hn1]; exact cnt_le _ _
    have hb0 : nb ld F c r ≤ c := by
      unfold nb
      split
      · omega
      · exact cnt_le _ _
    have hr40 : ¬ 40 < r := by omega
    rw [show fX4_groupConditions_45 N (n + 1) τ (J (nb ld F c r)) (J 1) (J r) = _ from by unfold fX4_groupConditions_45; rfl]
    by_cases hle : nb ld F c (r + 1) ≤ nb ld F c r
    · have hr1 : 1 ≤ r := by
        rcases Nat.eq_zero_or_pos r with h0 | h0
        · subst h0
          have hp : 1 ≤ cnt c (isR (rf ld (gk ld F 0))) := cnt_pos (decide_eq_true (by have := rf_le (ld := ld) (gk ld F 0) 0; omega)) c h1
          have : nb ld F c 0 = 0 := rfl
          omega
        · exact h0
      have hstill := gk_still (c := c) (ld := ld) (F := F) hr1 (by
        have : nb ld F c r = cnt c (isR (gk ld F r)) := by unfold nb; rw [if_neg (by omega)]
        rw [← this]
        exact hle)
      have hstay := gk_stay hld hstill
      refine ⟨τ1, ?_, a2, fun i hi => ?_⟩
      · simp (decide := true) (disch := omega) only [letS_d, grd_t, bnd_d, bnd1_d, bndX_d, bndX_e, gI_sI, gI_sL, gL_sL, gL_sI, upd_at, updL_at, J_lit, J_add, J_mul, J_sub, J_lt, J_le, J_inj, J_ne, ne_J, m_lt, lt_m, m_le, le_m, J_cl, J_inB, if_true, if_false, ite_true, ite_false, reduceIte, isZ0, isZ1, J_and31, shrJ0, shlJ0, gI_sA, gL_sA, Nat.reduceEqDiff, Nat.reduceAdd, Nat.reduceMul, Nat.reduceLT, Nat.reduceLeDiff, hr40, fX4_refineGroups, a1, hle, fX4_groupConditions_74]
        obtain ⟨n, rfl⟩ : ∃ k, n = k + 1 := ⟨n - 1, by omega⟩
        unfold fX4_groupConditions_45
        by_cases h40 : 40 < r + 1
        · simp (decide := true) (disch := omega) only [letS_d, grd_t, bnd_d, bnd1_d, bndX_d, bndX_e, gI_sI, gI_sL, gL_sL, gL_sI, upd_at, updL_at, J_lit, J_add, J_mul, J_sub, J_lt, J_le, J_inj, J_ne, ne_J, m_lt, lt_m, m_le, le_m, J_cl, J_inB, if_true, if_false, ite_true, ite_false, reduceIte, isZ0, isZ1, J_and31, shrJ0, shlJ0, gI_sA, gL_sA, Nat.reduceEqDiff, Nat.reduceAdd, Nat.reduceMul, Nat.reduceLT, Nat.reduceLeDiff, h40]
        · simp (decide := true) (disch := omega) only [letS_d, grd_t, bnd_d, bnd1_d, bndX_d, bndX_e, gI_sI, gI_sL, gL_sL, gL_sI, upd_at, updL_at, J_lit, J_add, J_mul, J_sub, J_lt, J_le, J_inj, J_ne, ne_J, m_lt, lt_m, m_le, le_m, J_cl, J_inB, if_true, if_false, ite_true, ite_false, reduceIte, isZ0, isZ1, J_and31, shrJ0, shlJ0, gI_sA, gL_sA, Nat.reduceEqDiff, Nat.reduceAdd, Nat.reduceMul, Nat.reduceLT, Nat.reduceLeDiff, h40]
      · rw [a3 i hi, hstay 40 (by omega) i hi]
        exact congrArg J (hstill i hi)
    · obtain ⟨τ', e1, e2, e3⟩ := ih (r + 1) n τ1 (by omega) (by omega) (hL.fr (S' := []) a2 Fr.rf (by decide) (by decide)) a3 (by omega)
      refine ⟨τ', ?_, a2.tr e2, e3⟩
      simp (decide := true) (disch := omega) only [letS_d, grd_t, bnd_d, bnd1_d, bndX_d, bndX_e, gI_sI, gI_sL, gL_sL, gL_sI, upd_at, updL_at, J_lit, J_add, J_mul, J_sub, J_lt, J_le, J_inj, J_ne, ne_J, m_lt, lt_m, m_le, le_m, J_cl, J_inB, if_true, if_false, ite_true, ite_false, reduceIte, isZ0, isZ1, J_and31, shrJ0, shlJ0, gI_sA, gL_sA, Nat.reduceEqDiff, Nat.reduceAdd, Nat.reduceMul, Nat.reduceLT, Nat.reduceLeDiff, hr40, fX4_refineGroups, a1, hle, fX4_groupConditions_74]
      exact e1
theorem cls_ginit {σ : St} : ∀ f i n (τ : St), i + f = c → f < n → Ls c ld τ σ → (∀ i, i < c → gI τ 73 i = zb (F i)) → ∃ τ', fX4_groupConditions_2 N n τ (J i) = fX4_groupConditions_45 N N τ' (J 0) (J 1) (J 0) ∧ Fr [74] τ τ' ∧ (∀ j, j < i → gI τ' 74 j = gI τ 74 j) ∧ ∀ j, i ≤ j → j < c → gI τ' 74 j = J (gk ld F 0 j) := by
  intro f
  induction f with
  | zero =>
    intro i n τ hi hn hL hF
    obtain ⟨n, rfl⟩ : ∃ k, n = k + 1 := ⟨n - 1, by omega⟩
    obtain ⟨h1, h2, h3, h4, h5⟩ := id hL
    unfold fX4_groupConditions_2
    have : c ≤ i := by omega
    exact ⟨τ, by simp (decide := true) (disch := omega) only [letS_d, grd_t, bnd_d, bnd1_d, bndX_d, bndX_e, gI_sI, gI_sL, gL_sL, gL_sI, upd_at, updL_at, J_lit, J_add, J_mul, J_sub, J_lt, J_le, J_inj, J_ne, ne_J, m_lt, lt_m, m_le, le_m, J_cl, J_inB, if_true, if_false, ite_true, ite_false, reduceIte, isZ0, isZ1, J_and31, shrJ0, shlJ0, gI_sA, gL_sA, Nat.reduceEqDiff, Nat.reduceAdd, Nat.reduceMul, Nat.reduceLT, Nat.reduceLeDiff, h3, this], Fr.rf, fun _ _ => rfl, fun j a b => by omega⟩
  | succ f ih =>
    intro i n τ hi hn hL hF
    obtain ⟨n, rfl⟩ : ∃ k, n = k + 1 := ⟨n - 1, by omega⟩
    obtain ⟨h1, h2, h3, h4, h5⟩ := id hL
    have hci : ¬ c ≤ i := by omega
    have hz := hF i (by omega)
    obtain ⟨τ', e1, e2, e3, e4⟩ := ih (i + 1) n (sI τ 74 i (J (gk ld F 0 i))) (by omega) (by omega) (hL.fr (S := [74]) (S' := []) (Fr.i (by decide)) Fr.rf (by decide) (by decide)) (fun j hj => by simp (decide := true) (disch := omega) only [letS_d, grd_t, bnd_d, bnd1_d, bndX_d, bndX_e, gI_sI, gI_sL, gL_sL, gL_sI, upd_at, updL_at, J_lit, J_add, J_mul, J_sub, J_lt, J_le, J_inj, J_ne, ne_J, m_lt, lt_m, m_le, le_m, J_cl, J_inB, if_true, if_false, ite_true, ite_false, reduceIte, isZ0, isZ1, J_and31, shrJ0, shlJ0, gI_sA, gL_sA, Nat.reduceEqDiff, Nat.reduceAdd, Nat.reduceMul, Nat.reduceLT, Nat.reduceLeDiff]; exact hF j hj)
    have hg0 : gk ld F 0 i = if F i = true then 1 else 0 := rfl
    refine ⟨τ', ?_, (Fr.i (by decide)).tr e2, fun j hj => ?_, fun j h1 h2 => ?_⟩
    · rw [show fX4_groupConditions_2 N (n + 1) τ (J i) = _ from by unfold fX4_groupConditions_2; rfl]
      rw [hg0] at e1
      cases hfi : F i
      · rw [hfi] at hz e1
        rw [zb_f] at hz
        rw [if_neg (by decide)] at e1
        simp (decide := true) (disch := omega) only [letS_d, grd_t, bnd_d, bnd1_d, bndX_d, bndX_e, gI_sI, gI_sL, gL_sL, gL_sI, upd_at, updL_at, J_lit, J_add, J_mul, J_sub, J_lt, J_le, J_inj, J_ne, ne_J, m_lt, lt_m, m_le, le_m, J_cl, J_inB, if_true, if_false, ite_true, ite_false, reduceIte, isZ0, isZ1, J_and31, shrJ0, shlJ0, gI_sA, gL_sA, Nat.reduceEqDiff, Nat.reduceAdd, Nat.reduceMul, Nat.reduceLT, Nat.reduceLeDiff, h3, hci, hz, fX4_groupConditions_32]
        exact e1
      · rw [hfi] at hz e1
        rw [zb_t] at hz
        rw [if_pos rfl] at e1
        simp (decide := true) (disch := omega) only [letS_d, grd_t, bnd_d, bnd1_d, bndX_d, bndX_e, gI_sI, gI_sL, gL_sL, gL_sI, upd_at, updL_at, J_lit, J_add, J_mul, J_sub, J_lt, J_le, J_inj, J_ne, ne_J, m_lt, lt_m, m_le, le_m, J_cl, J_inB, if_true, if_false, ite_true, ite_false, reduceIte, isZ0, isZ1, J_and31, shrJ0, shlJ0, gI_sA, gL_sA, Nat.reduceEqDiff, Nat.reduceAdd, Nat.reduceMul, Nat.reduceLT, Nat.reduceLeDiff, h3, hci, hz, fX4_groupConditions_32]
        exact e1
    · rw [e3 j (by omega)]
      have : ¬ j = i := by omega
      simp (decide := true) (disch := omega) only [letS_d, grd_t, bnd_d, bnd1_d, bndX_d, bndX_e, gI_sI, gI_sL, gL_sL, gL_sI, upd_at, updL_at, J_lit, J_add, J_mul, J_sub, J_lt, J_le, J_inj, J_ne, ne_J, m_lt, lt_m, m_le, le_m, J_cl, J_inB, if_true, if_false, ite_true, ite_false, reduceIte, isZ0, isZ1, J_and31, shrJ0, shlJ0, gI_sA, gL_sA, Nat.reduceEqDiff, Nat.reduceAdd, Nat.reduceMul, Nat.reduceLT, Nat.reduceLeDiff, this]
    · by_cases hji : j = i
      · subst hji
        rw [e3 j (by omega)]
        simp (decide := true) (disch := omega) only [letS_d, grd_t, bnd_d, bnd1_d, bndX_d, bndX_e, gI_sI, gI_sL, gL_sL, gL_sI, upd_at, updL_at, J_lit, J_add, J_mul, J_sub, J_lt, J_le, J_inj, J_ne, ne_J, m_lt, lt_m, m_le, le_m, J_cl, J_inB, if_true, if_false, ite_true, ite_false, reduceIte, isZ0, isZ1, J_and31, shrJ0, shlJ0, gI_sA, gL_sA, Nat.reduceEqDiff, Nat.reduceAdd, Nat.reduceMul, Nat.reduceLT, Nat.reduceLeDiff]
      · exact e4 j (by omega) h2
theorem cls_group (hN : 100 ≤ N) {τ σ : St} (hL : Ls c ld τ σ) (hF : ∀ i, i < c → gI τ 73 i = zb (F i)) : ∃ τ', fX4_groupConditions N τ = some τ' ∧ Fr [74, 75] τ τ' ∧ ∀ i, i < c → gI τ' 74 i = J (gk ld F 40 i) := by
  have hc := hL.2.1
  obtain ⟨τ1, a1, a2, a3, a4⟩ := cls_ginit (N := N) (ld := ld) (F := F) (σ := σ) c 0 N τ (by omega) (by omega) hL hF
  obtain ⟨τ', b1, b2, b3⟩ := cls_groups (N := N) (F := F) hN (σ := σ) 41 0 N τ1 (by omega) (by omega) (hL.fr (S' := []) a2 Fr.rf (by decide) (by decide)) (fun i hi => a4 i (by omega) hi) (by omega)
  refine ⟨τ', ?_, (a2.mono (by decide)).tr b2, b3⟩
  unfold fX4_groupConditions
  simp (decide := true) (disch := omega) only [letS_d, grd_t, bnd_d, bnd1_d, bndX_d, bndX_e, gI_sI, gI_sL, gL_sL, gL_sI, upd_at, updL_at, J_lit, J_add, J_mul, J_sub, J_lt, J_le, J_inj, J_ne, ne_J, m_lt, lt_m, m_le, le_m, J_cl, J_inB, if_true, if_false, ite_true, ite_false, reduceIte, isZ0, isZ1, J_and31, shrJ0, shlJ0, gI_sA, gL_sA, Nat.reduceEqDiff, Nat.reduceAdd, Nat.reduceMul, Nat.reduceLT, Nat.reduceLeDiff]
  exact a1.trans b1
end CG
