/-! the class's conditions: least sets, and what becomes of them by a letter -/
section CC
variable {N Q : Nat}
/-- the bit of a set in a row of the class's tables -/
def TC (τ : St) (r s : Nat) : Bool := bl (gL τ 61 (8 * r + s / 64)) (s % 64)
theorem TC_at (τ : St) (r : Nat) {w j : Nat} (hj : j < 64) : TC τ r (64 * w + j) = bl (gL τ 61 (8 * r + w)) j := by
  unfold TC
  rw [show (64 * w + j) / 64 = w from by omega, show (64 * w + j) % 64 = j from by omega]
/-- enough, and no part of it is -/
def Lst (P : Nat) (D : Nat → Bool) (s : Nat) : Prop := D s = true ∧ ∀ p, p < P → s.testBit p = true → D (s - 2 ^ p) = false
theorem low6 {i j : Nat} (hi : i < 6) (hj : j < 64) : (decide (2 ^ i ≤ j) && !(j - 2 ^ i).testBit i) = j.testBit i := by
  have : ∀ i < 6, ∀ j < 64, (decide (2 ^ i ≤ j) && !(j - 2 ^ i).testBit i) = j.testBit i := by decide +kernel
  exact this i hi j hj
theorem pow6 {i : Nat} (hi : i < 6) : 2 ^ i < 64 := Nat.lt_of_lt_of_le (Nat.pow_lt_pow_right (by omega) hi) (by decide)
theorem cls_more6 {τ : St} {r w : Nat} (x3 : Int64) : ∀ f i n (x5 : Int64), i + f = 6 → f < n → ∃ x5', fX3_leastIn_15 N n τ (J (8 * r)) (J w) x3 x5 (J i) = fX3_leastIn_53 N N τ (J (8 * r)) (J w) x3 x5' (J 1) ∧ ∀ j, j < 64 → (bl x5' j = true ↔ (bl x5 j = true ∨ ∃ p, i ≤ p ∧ p < 6 ∧ j.testBit p = true ∧ bl x3 (j - 2 ^ p) = true)) := by
  intro f
  induction f with
  | zero =>
    intro i n x5 hi hn
    obtain ⟨n, rfl⟩ : ∃ k, n = k + 1 := ⟨n - 1, by omega⟩
    obtain rfl : i = 6 := by omega
    refine ⟨x5, ?_, fun j hj => ⟨fun h => Or.inl h, fun h => ?_⟩⟩
    · unfold fX3_leastIn_15
      simp (decide := true) (disch := omega) only [letS_d, grd_t, bnd_d, bnd1_d, bndX_d, bndX_e, gI_sI, gI_sL, gL_sL, gL_sI, upd_at, updL_at, J_lit, J_add, J_mul, J_sub, J_lt, J_le, J_inj, J_ne, ne_J, m_lt, lt_m, m_le, le_m, J_cl, J_inB, if_true, if_false, ite_true, ite_false, reduceIte, isZ0, isZ1, J_and31, shrJ0, shlJ0, gI_sA, gL_sA, Nat.reduceEqDiff, Nat.reduceAdd, Nat.reduceMul, Nat.reduceLT, Nat.reduceLeDiff, Nat.le_refl]
    · rcases h with h | ⟨p, p1, p2, p3, p4⟩
      · exact h
      · omega
  | succ f ih =>
    intro i n x5 hi hn
    obtain ⟨n, rfl⟩ : ∃ k, n = k + 1 := ⟨n - 1, by omega⟩
    have h6 : ¬ 6 ≤ i := by omega
    have hp := pow6 (show i < 6 by omega)
    have hpw : J 1 <<< J i = J (2 ^ i) := pow_J (by omega)
    obtain ⟨x5', e1, e2⟩ := ih (i + 1) n (x5 ||| ((x3 &&& ((cWITH i) ^^^ (-1 : Int64))) <<< ((J (2 ^ i)).toInt64 &&& 63))) (by omega) (by omega)
    refine ⟨x5', ?_, fun j hj => ?_⟩
    · rw [← e1]
      rw [show fX3_leastIn_15 N (n + 1) τ (J (8 * r)) (J w) x3 x5 (J i) = _ from by unfold fX3_leastIn_15; rfl]
      simp (decide := true) (disch := omega) only [letS_d, grd_t, bnd_d, bnd1_d, bndX_d, bndX_e, gI_sI, gI_sL, gL_sL, gL_sI, upd_at, updL_at, J_lit, J_add, J_mul, J_sub, J_lt, J_le, J_inj, J_ne, ne_J, m_lt, lt_m, m_le, le_m, J_cl, J_inB, if_true, if_false, ite_true, ite_false, reduceIte, isZ0, isZ1, J_and31, shrJ0, shlJ0, gI_sA, gL_sA, Nat.reduceEqDiff, Nat.reduceAdd, Nat.reduceMul, Nat.reduceLT, Nat.reduceLeDiff, h6, hpw]
    · rw [e2 j hj, bl_or, bl_shl _ hp hj, bl_and]
      have key : (decide (2 ^ i ≤ j) && (bl x3 (j - 2 ^ i) && bl (cWITH i ^^^ (-1)) (j - 2 ^ i))) = (j.testBit i && bl x3 (j - 2 ^ i)) := by
        have hsub : j - 2 ^ i ≤ j := Nat.sub_le _ _
        rw [bl_not _ (show j - 2 ^ i < 64 by omega), bl_with (by omega) (show j - 2 ^ i < 64 by omega), ← low6 (show i < 6 by omega) hj]
        cases decide (2 ^ i ≤ j) <;> cases bl x3 (j - 2 ^ i) <;> cases (j - 2 ^ i).testBit i <;> rfl
      rw [key, Bool.or_eq_true, Bool.and_eq_true]
      constructor
      · rintro ((h | h) | ⟨p, p1, p2, p3, p4⟩)
        · exact Or.inl h
        · exact Or.inr ⟨i, by omega, by omega, h.1, h.2⟩
        · exact Or.inr ⟨p, by omega, p2, p3, p4⟩
      · rintro (h | ⟨p, p1, p2, p3, p4⟩)
        · exact Or.inl (Or.inl h)
        · by_cases hpi : p = i
          · subst hpi
            exact Or.inl (Or.inr ⟨p3, p4⟩)
          · exact Or.inr ⟨p, by omega, p2, p3, p4⟩
theorem w_and {w q : Nat} (hw : w < 8) (hq : q < 3) : (J w &&& J (2 ^ q) = J 0) = (w.testBit q = false) := by
  have h : ∀ w < 8, ∀ q < 3, decide (J w &&& J (2 ^ q) = J 0) = decide (w.testBit q = false) := by decide +kernel
  exact propext (decide_eq_decide.mp (h w hw q hq))
theorem w_sub {w q : Nat} (hw : w < 8) (h : w.testBit q = true) : 2 ^ q ≤ w := by
  rcases Nat.lt_or_ge w (2 ^ q) with h1 | h1
  · rw [Nat.testBit_lt_two_pow h1] at h
    cases h
  · exact h1
theorem shl_one {q : Nat} (hq : q < 4) : J (2 ^ q) <<< J 1 = J (2 ^ (q + 1)) := by
  have : ∀ q < 4, J (2 ^ q) <<< J 1 = J (2 ^ (q + 1)) := by decide +kernel
  exact this q hq
theorem cls_moreW {τ : St} {r w : Nat} (hr : r ≤ 40) (hQ : Q ≤ 3) (hw : w < 2 ^ Q) (h65 : gI τ 65 0 = J (2 ^ Q)) (x3 : Int64) : ∀ f q n (x5 : Int64), q + f = Q → f < n → ∃ x5', fX3_leastIn_53 N n τ (J (8 * r)) (J w) x3 x5 (J (2 ^ q)) = some (x3 &&& (x5' ^^^ (-1 : Int64)), τ) ∧ ∀ j, j < 64 → (bl x5' j = true ↔ (bl x5 j = true ∨ ∃ p, q ≤ p ∧ p < Q ∧ w.testBit p = true ∧ bl (gL τ 61 (8 * r + (w - 2 ^ p))) j = true)) := by
  have hQ8 : 2 ^ Q ≤ 8 := Nat.le_trans (Nat.pow_le_pow_right (n := 2) (by omega) hQ) (by decide)
  intro f
  induction f with
  | zero =>
    intro q n x5 hq hn
    obtain ⟨n, rfl⟩ : ∃ k, n = k + 1 := ⟨n - 1, by omega⟩
    obtain rfl : q = Q := by omega
    refine ⟨x5, ?_, fun j hj => ⟨fun h => Or.inl h, fun h => ?_⟩⟩
    · unfold fX3_leastIn_53
      simp (decide := true) (disch := omega) only [letS_d, grd_t, bnd_d, bnd1_d, bndX_d, bndX_e, gI_sI, gI_sL, gL_sL, gL_sI, upd_at, updL_at, J_lit, J_add, J_mul, J_sub, J_lt, J_le, J_inj, J_ne, ne_J, m_lt, lt_m, m_le, le_m, J_cl, J_inB, if_true, if_false, ite_true, ite_false, reduceIte, isZ0, isZ1, J_and31, shrJ0, shlJ0, gI_sA, gL_sA, Nat.reduceEqDiff, Nat.reduceAdd, Nat.reduceMul, Nat.reduceLT, Nat.reduceLeDiff, h65, Nat.le_refl]
    · rcases h with h | ⟨p, p1, p2, p3, p4⟩
      · exact h
      · omega
  | succ f ih =>
    intro q n x5 hq hn
    obtain ⟨n, rfl⟩ : ∃ k, n = k + 1 := ⟨n - 1, by omega⟩
    have hlt : 2 ^ q < 2 ^ Q := Nat.pow_lt_pow_right (by omega) (by omega)
    have hn1 : ¬ 2 ^ Q ≤ 2 ^ q := by omega
    have hsh := shl_one (q := q) (by omega)
    have hwa := w_and (w := w) (q := q) (by omega) (by omega)
    rw [show fX3_leastIn_53 N (n + 1) τ (J (8 * r)) (J w) x3 x5 (J (2 ^ q)) = _ from by unfold fX3_leastIn_53; rfl]
    cases hb : w.testBit q
    · obtain ⟨x5', e1, e2⟩ := ih (q + 1) n x5 (by omega) (by omega)
      refine ⟨x5', ?_, fun j hj => ?_⟩
      · rw [← e1]
        simp (decide := true) (disch := omega) only [letS_d, grd_t, bnd_d, bnd1_d, bndX_d, bndX_e, gI_sI, gI_sL, gL_sL, gL_sI, upd_at, updL_at, J_lit, J_add, J_mul, J_sub, J_lt, J_le, J_inj, J_ne, ne_J, m_lt, lt_m, m_le, le_m, J_cl, J_inB, if_true, if_false, ite_true, ite_false, reduceIte, isZ0, isZ1, J_and31, shrJ0, shlJ0, gI_sA, gL_sA, Nat.reduceEqDiff, Nat.reduceAdd, Nat.reduceMul, Nat.reduceLT, Nat.reduceLeDiff, h65, hn1, hwa, hb, fX3_leastIn_85, hsh]
      · rw [e2 j hj]
        constructor
        · rintro (h | ⟨p, p1, p2, p3, p4⟩)
          · exact Or.inl h
          · exact Or.inr ⟨p, by omega, p2, p3, p4⟩
        · rintro (h | ⟨p, p1, p2, p3, p4⟩)
          · exact Or.inl h
          · by_cases hpq : p = q
            · subst hpq
              rw [hb] at p3
              cases p3
            · exact Or.inr ⟨p, by omega, p2, p3, p4⟩
    · have hle := w_sub (show w < 8 by omega) hb
      have hs2 : w - 2 ^ q ≤ w := Nat.sub_le _ _
      have hx : 8 * r + w - 2 ^ q = 8 * r + (w - 2 ^ q) := by omega
      obtain ⟨x5', e1, e2⟩ := ih (q + 1) n (x5 ||| gL τ 61 (8 * r + (w - 2 ^ q))) (by omega) (by omega)
      refine ⟨x5', ?_, fun j hj => ?_⟩
      · rw [← e1]
        simp (decide := true) (disch := omega) only [letS_d, grd_t, bnd_d, bnd1_d, bndX_d, bndX_e, gI_sI, gI_sL, gL_sL, gL_sI, upd_at, updL_at, J_lit, J_add, J_mul, J_sub, J_lt, J_le, J_inj, J_ne, ne_J, m_lt, lt_m, m_le, le_m, J_cl, J_inB, if_true, if_false, ite_true, ite_false, reduceIte, isZ0, isZ1, J_and31, shrJ0, shlJ0, gI_sA, gL_sA, Nat.reduceEqDiff, Nat.reduceAdd, Nat.reduceMul, Nat.reduceLT, Nat.reduceLeDiff, h65, hn1, hwa, hb, fX3_leastIn_85, hsh, hx]
      · rw [e2 j hj, bl_or, Bool.or_eq_true]
        constructor
        · rintro ((h | h) | ⟨p, p1, p2, p3, p4⟩)
          · exact Or.inl h
          · exact Or.inr ⟨q, by omega, by omega, hb, h⟩
          · exact Or.inr ⟨p, by omega, p2, p3, p4⟩
        · rintro (h | ⟨p, p1, p2, p3, p4⟩)
          · exact Or.inl (Or.inl h)
          · by_cases hpq : p = q
            · subst hpq
              exact Or.inl (Or.inr p4)
            · exact Or.inr ⟨p, by omega, p2, p3, p4⟩
theorem cls_least (hN : 100 ≤ N) {τ : St} {r w : Nat} {D : Nat → Bool} (hr : r ≤ 40) (hQ : Q ≤ 3) (hw : w < 2 ^ Q) (h65 : gI τ 65 0 = J (2 ^ Q)) (hD : ∀ s, s < 64 * 2 ^ Q → TC τ r s = D s) : ∃ L, fX3_leastIn N τ (J (8 * r)) (J w) = some (L, τ) ∧ ∀ j, j < 64 → (bl L j = true ↔ Lst (6 + Q) D (64 * w + j)) := by
  have hQ8 : 2 ^ Q ≤ 8 := Nat.le_trans (Nat.pow_le_pow_right (n := 2) (by omega) hQ) (by decide)
  obtain ⟨x5, a1, a2⟩ := cls_more6 (N := N) (τ := τ) (r := r) (w := w) (gL τ 61 (8 * r + w)) 6 0 N 0 (by omega) (by omega)
  obtain ⟨x6, b1, b2⟩ := cls_moreW (N := N) (τ := τ) hr hQ hw h65 (gL τ 61 (8 * r + w)) Q 0 N x5 (by omega) (by omega)
  refine ⟨gL τ 61 (8 * r + w) &&& (x6 ^^^ (-1 : Int64)), ?_, fun j hj => ?_⟩
  · unfold fX3_leastIn
    simp (decide := true) (disch := omega) only [letS_d, grd_t, bnd_d, bnd1_d, bndX_d, bndX_e, gI_sI, gI_sL, gL_sL, gL_sI, upd_at, updL_at, J_lit, J_add, J_mul, J_sub, J_lt, J_le, J_inj, J_ne, ne_J, m_lt, lt_m, m_le, le_m, J_cl, J_inB, if_true, if_false, ite_true, ite_false, reduceIte, isZ0, isZ1, J_and31, shrJ0, shlJ0, gI_sA, gL_sA, Nat.reduceEqDiff, Nat.reduceAdd, Nat.reduceMul, Nat.reduceLT, Nat.reduceLeDiff]
    exact a1.trans b1
  · have hat : ∀ w' j', w' < 2 ^ Q → j' < 64 → bl (gL τ 61 (8 * r + w')) j' = D (64 * w' + j') := fun w' j' h1 h2 => by
      rw [← hD _ (by omega), TC_at τ r h2]
    rw [bl_and, bl_not _ hj, Bool.and_eq_true, Bool.not_eq_true', hat w j hw hj]
    unfold Lst
    refine and_congr Iff.rfl ⟨fun h p hp hs => ?_, fun h => ?_⟩
    · cases hx : D (64 * w + j - 2 ^ p)
      · rfl
      · exfalso
        rw [tb64 hj] at hs
        have : bl x6 j = true := by
          rw [b2 j hj]
          by_cases hp6 : p < 6
          · rw [if_pos hp6] at hs
            left
            rw [a2 j hj]
            right
            have hle : 2 ^ p ≤ j := by
              have := low6 hp6 hj
              rw [hs, Bool.and_eq_true, decide_eq_true_eq] at this
              exact this.1
            refine ⟨p, by omega, hp6, hs, ?_⟩
            have hsub : j - 2 ^ p ≤ j := Nat.sub_le _ _
            rw [hat w _ hw (by omega), show 64 * w + (j - 2 ^ p) = 64 * w + j - 2 ^ p from by omega]
            exact hx
          · rw [if_neg hp6] at hs
            right
            have hle := w_sub (show w < 8 by omega) hs
            refine ⟨p - 6, by omega, by omega, hs, ?_⟩
            have hpp : 2 ^ p = 64 * 2 ^ (p - 6) := by
              rw [show p = 6 + (p - 6) from by omega, Nat.pow_add]
              rw [show 6 + (p - 6) - 6 = p - 6 from by omega]
            rw [hat _ _ (by omega) hj, show 64 * (w - 2 ^ (p - 6)) + j = 64 * w + j - 2 ^ p from by omega]
            exact hx
        rw [this] at h
        cases h
    · cases hx : bl x6 j
      · rfl
      · exfalso
        rw [b2 j hj] at hx
        rcases hx with hx | ⟨p, p1, p2, p3, p4⟩
        · rw [a2 j hj] at hx
          rcases hx with hx | ⟨p, p1, p2, p3, p4⟩
          · rw [bl0] at hx
            cases hx
          · have hle : 2 ^ p ≤ j := by
              have := low6 p2 hj
              rw [p3, Bool.and_eq_true, decide_eq_true_eq] at this
              exact this.1
            have := h p (by omega) (by rw [tb64 hj, if_pos p2]; exact p3)
            have hsub : j - 2 ^ p ≤ j := Nat.sub_le _ _
            rw [hat w _ hw (by omega), show 64 * w + (j - 2 ^ p) = 64 * w + j - 2 ^ p from by omega, this] at p4
            cases p4
        · have hle := w_sub (show w < 8 by omega) p3
          have hpp : 2 ^ (6 + p) = 64 * 2 ^ p := by rw [Nat.pow_add]
          have := h (6 + p) (by omega) (by rw [tb64 hj, if_neg (by omega), show 6 + p - 6 = p from by omega]; exact p3)
          rw [hat _ _ (by omega) hj, show 64 * (w - 2 ^ p) + j = 64 * w + j - 2 ^ (6 + p) from by omega, this] at p4
          cases p4
theorem J_set {w j : Nat} (hw : w < 8) (hj : j < 64) : (J w <<< J 6) ||| J j = J (64 * w + j) := by
  have : ∀ w < 8, ∀ j < 64, (J w <<< J 6) ||| J j = J (64 * w + j) := by decide +kernel
  exact this w hw j hj
theorem cls_bits {w : Nat} (hw : w < 8) (L : Int64) (x1 : Int32) (k7 : St → Int32 → Int32 → Option St) : ∀ f j n m (τ : St), j + f = 64 → f < n → gI τ 64 0 = J m → m ≤ 64 * w + j → ∃ m' τ', fX3_findLeastSets_28 N k7 n τ x1 (J w) L (J j) = k7 τ' x1 (J (w + 1)) ∧ Fr [63, 64] τ τ' ∧ gI τ' 64 0 = J m' ∧ m ≤ m' ∧ m' ≤ 64 * (w + 1) ∧ (∀ i, i < m → gI τ' 63 i = gI τ 63 i) ∧ (∀ i, m ≤ i → i < m' → ∃ j', j ≤ j' ∧ j' < 64 ∧ bl L j' = true ∧ gI τ' 63 i = J (64 * w + j')) ∧ (∀ j', j ≤ j' → j' < 64 → bl L j' = true → ∃ i, i < m' ∧ gI τ' 63 i = J (64 * w + j')) := by
  intro f
  induction f with
  | zero =>
    intro j n m τ hj hn h64 hm
    obtain ⟨n, rfl⟩ : ∃ k, n = k + 1 := ⟨n - 1, by omega⟩
    obtain rfl : j = 64 := by omega
    refine ⟨m, τ, ?_, Fr.rf, h64, by omega, by omega, fun _ _ => rfl, fun i h1 h2 => by omega, fun j' h1 h2 => by omega⟩
    unfold fX3_findLeastSets_28
    simp (decide := true) (disch := omega) only [letS_d, grd_t, bnd_d, bnd1_d, bndX_d, bndX_e, gI_sI, gI_sL, gL_sL, gL_sI, upd_at, updL_at, J_lit, J_add, J_mul, J_sub, J_lt, J_le, J_inj, J_ne, ne_J, m_lt, lt_m, m_le, le_m, J_cl, J_inB, if_true, if_false, ite_true, ite_false, reduceIte, isZ0, isZ1, J_and31, shrJ0, shlJ0, gI_sA, gL_sA, Nat.reduceEqDiff, Nat.reduceAdd, Nat.reduceMul, Nat.reduceLT, Nat.reduceLeDiff, Nat.le_refl, fX3_findLeastSets_87]
  | succ f ih =>
    intro j n m τ hj hn h64 hm
    obtain ⟨n, rfl⟩ : ∃ k, n = k + 1 := ⟨n - 1, by omega⟩
    have h1 : ¬ 64 ≤ j := by omega
    rw [show fX3_findLeastSets_28 N k7 (n + 1) τ x1 (J w) L (J j) = _ from by unfold fX3_findLeastSets_28; rfl]
    have hz := u_zero L (show j < 64 by omega)
    have ho := u_one L (show j < 64 by omega)
    by_cases hall : ∀ i, j ≤ i → i < 64 → bl L i = false
    · refine ⟨m, τ, ?_, Fr.rf, h64, by omega, by omega, fun _ _ => rfl, fun i h1 h2 => by omega, fun j' h1 h2 h3 => ?_⟩
      · have hz' := hz.mpr hall
        simp (decide := true) (disch := omega) only [letS_d, grd_t, bnd_d, bnd1_d, bndX_d, bndX_e, gI_sI, gI_sL, gL_sL, gL_sI, upd_at, updL_at, J_lit, J_add, J_mul, J_sub, J_lt, J_le, J_inj, J_ne, ne_J, m_lt, lt_m, m_le, le_m, J_cl, J_inB, if_true, if_false, ite_true, ite_false, reduceIte, isZ0, isZ1, J_and31, shrJ0, shlJ0, gI_sA, gL_sA, Nat.reduceEqDiff, Nat.reduceAdd, Nat.reduceMul, Nat.reduceLT, Nat.reduceLeDiff, h1, lgc_eq, hz', fX3_findLeastSets_87]
      · rw [hall j' h1 h2] at h3
        cases h3
    · have hz' : ¬ ((L.toUInt64 >>> ((J j).toInt64.toUInt64 &&& Int64.toUInt64 63)).toInt64 = 0) := fun h => hall (hz.mp h)
      cases hb : bl L j
      · obtain ⟨m', τ', e1, e2, e3, e4, e5, e6, e7, e8⟩ := ih (j + 1) n m τ (by omega) (by omega) h64 (by omega)
        refine ⟨m', τ', ?_, e2, e3, e4, e5, e6, fun i h1 h2 => ?_, fun j' h1 h2 h3 => ?_⟩
        · have ho' := ho.mpr hb
          simp (decide := true) (disch := omega) only [letS_d, grd_t, bnd_d, bnd1_d, bndX_d, bndX_e, gI_sI, gI_sL, gL_sL, gL_sI, upd_at, updL_at, J_lit, J_add, J_mul, J_sub, J_lt, J_le, J_inj, J_ne, ne_J, m_lt, lt_m, m_le, le_m, J_cl, J_inB, if_true, if_false, ite_true, ite_false, reduceIte, isZ0, isZ1, J_and31, shrJ0, shlJ0, gI_sA, gL_sA, Nat.reduceEqDiff, Nat.reduceAdd, Nat.reduceMul, Nat.reduceLT, Nat.reduceLeDiff, h1, lgc_eq, hz', ho', fX3_findLeastSets_81]
          exact e1
        · obtain ⟨j', a1, a2, a3, a4⟩ := e7 i h1 h2
          exact ⟨j', by omega, a2, a3, a4⟩
        · by_cases hjj : j' = j
          · subst hjj
            rw [hb] at h3
            cases h3
          · exact e8 j' (by omega) h2 h3
      · have ho' : ¬ (((L.toUInt64 >>> ((J j).toInt64.toUInt64 &&& Int64.toUInt64 63)).toInt64) &&& 1 = 0) := fun h => by
          rw [ho, hb] at h
          cases h
        obtain ⟨m', τ', e1, e2, e3, e4, e5, e6, e7, e8⟩ := ih (j + 1) n (m + 1) (sI (sI τ 63 m (J (64 * w + j))) 64 0 (J (m + 1))) (by omega) (by omega) (by simp (decide := true) (disch := omega) only [letS_d, grd_t, bnd_d, bnd1_d, bndX_d, bndX_e, gI_sI, gI_sL, gL_sL, gL_sI, upd_at, updL_at, J_lit, J_add, J_mul, J_sub, J_lt, J_le, J_inj, J_ne, ne_J, m_lt, lt_m, m_le, le_m, J_cl, J_inB, if_true, if_false, ite_true, ite_false, reduceIte, isZ0, isZ1, J_and31, shrJ0, shlJ0, gI_sA, gL_sA, Nat.reduceEqDiff, Nat.reduceAdd, Nat.reduceMul, Nat.reduceLT, Nat.reduceLeDiff]) (by omega)
        refine ⟨m', τ', ?_, ((Fr.i (by decide)).tr (Fr.i (by decide))).tr e2, e3, by omega, e5, fun i hi => ?_, fun i h1 h2 => ?_, fun j' h1 h2 h3 => ?_⟩
        · have hset := J_set hw (show j < 64 by omega)
          simp (decide := true) (disch := omega) only [letS_d, grd_t, bnd_d, bnd1_d, bndX_d, bndX_e, gI_sI, gI_sL, gL_sL, gL_sI, upd_at, updL_at, J_lit, J_add, J_mul, J_sub, J_lt, J_le, J_inj, J_ne, ne_J, m_lt, lt_m, m_le, le_m, J_cl, J_inB, if_true, if_false, ite_true, ite_false, reduceIte, isZ0, isZ1, J_and31, shrJ0, shlJ0, gI_sA, gL_sA, Nat.reduceEqDiff, Nat.reduceAdd, Nat.reduceMul, Nat.reduceLT, Nat.reduceLeDiff, h1, lgc_eq, hz', ho', h64, hset, fX3_findLeastSets_81]
          exact e1
        · rw [e6 i (by omega)]
          have : ¬ i = m := by omega
          simp (decide := true) (disch := omega) only [letS_d, grd_t, bnd_d, bnd1_d, bndX_d, bndX_e, gI_sI, gI_sL, gL_sL, gL_sI, upd_at, updL_at, J_lit, J_add, J_mul, J_sub, J_lt, J_le, J_inj, J_ne, ne_J, m_lt, lt_m, m_le, le_m, J_cl, J_inB, if_true, if_false, ite_true, ite_false, reduceIte, isZ0, isZ1, J_and31, shrJ0, shlJ0, gI_sA, gL_sA, Nat.reduceEqDiff, Nat.reduceAdd, Nat.reduceMul, Nat.reduceLT, Nat.reduceLeDiff, this]
        · by_cases him : i = m
          · subst him
            refine ⟨j, by omega, by omega, hb, ?_⟩
            rw [e6 i (by omega)]
            simp (decide := true) (disch := omega) only [letS_d, grd_t, bnd_d, bnd1_d, bndX_d, bndX_e, gI_sI, gI_sL, gL_sL, gL_sI, upd_at, updL_at, J_lit, J_add, J_mul, J_sub, J_lt, J_le, J_inj, J_ne, ne_J, m_lt, lt_m, m_le, le_m, J_cl, J_inB, if_true, if_false, ite_true, ite_false, reduceIte, isZ0, isZ1, J_and31, shrJ0, shlJ0, gI_sA, gL_sA, Nat.reduceEqDiff, Nat.reduceAdd, Nat.reduceMul, Nat.reduceLT, Nat.reduceLeDiff]
          · obtain ⟨j', a1, a2, a3, a4⟩ := e7 i (by omega) h2
            exact ⟨j', by omega, a2, a3, a4⟩
        · by_cases hjj : j' = j
          · subst hjj
            refine ⟨m, by omega, ?_⟩
            rw [e6 m (by omega)]
            simp (decide := true) (disch := omega) only [letS_d, grd_t, bnd_d, bnd1_d, bndX_d, bndX_e, gI_sI, gI_sL, gL_sL, gL_sI, upd_at, updL_at, J_lit, J_add, J_mul, J_sub, J_lt, J_le, J_inj, J_ne, ne_J, m_lt, lt_m, m_le, le_m, J_cl, J_inB, if_true, if_false, ite_true, ite_false, reduceIte, isZ0, isZ1, J_and31, shrJ0, shlJ0, gI_sA, gL_sA, Nat.reduceEqDiff, Nat.reduceAdd, Nat.reduceMul, Nat.reduceLT, Nat.reduceLeDiff]
          · exact e8 j' (by omega) h2 h3
theorem cls_sets (hN : 100 ≤ N) {r : Nat} {D : Nat → Bool} (hr : r ≤ 40) (hQ : Q ≤ 3) : ∀ f w n m (τ : St), w + f = 2 ^ Q → f < n → gI τ 65 0 = J (2 ^ Q) → (∀ s, s < 64 * 2 ^ Q → TC τ r s = D s) → gI τ 64 0 = J m → m ≤ 64 * w → ∃ m' τ', fX3_findLeastSets_7 N n τ (J r) (J w) = some τ' ∧ Fr [63, 64] τ τ' ∧ gI τ' 64 0 = J m' ∧ m ≤ m' ∧ m' ≤ 512 ∧ (∀ i, i < m → gI τ' 63 i = gI τ 63 i) ∧ (∀ i, m ≤ i → i < m' → ∃ u, u < 64 * 2 ^ Q ∧ Lst (6 + Q) D u ∧ gI τ' 63 i = J u) ∧ (∀ u, 64 * w ≤ u → u < 64 * 2 ^ Q → Lst (6 + Q) D u → ∃ i, i < m' ∧ gI τ' 63 i = J u) := by
  have hQ8 : 2 ^ Q ≤ 8 := Nat.le_trans (Nat.pow_le_pow_right (n := 2) (by omega) hQ) (by decide)
  intro f
  induction f with
  | zero =>
    intro w n m τ hw hn h65 hD h64 hm
    obtain ⟨n, rfl⟩ : ∃ k, n = k + 1 := ⟨n - 1, by omega⟩
    obtain rfl : w = 2 ^ Q := by omega
    refine ⟨m, τ, ?_, Fr.rf, h64, by omega, by omega, fun _ _ => rfl, fun i h1 h2 => by omega, fun u h1 h2 => by omega⟩
    unfold fX3_findLeastSets_7
    simp (decide := true) (disch := omega) only [letS_d, grd_t, bnd_d, bnd1_d, bndX_d, bndX_e, gI_sI, gI_sL, gL_sL, gL_sI, upd_at, updL_at, J_lit, J_add, J_mul, J_sub, J_lt, J_le, J_inj, J_ne, ne_J, m_lt, lt_m, m_le, le_m, J_cl, J_inB, if_true, if_false, ite_true, ite_false, reduceIte, isZ0, isZ1, J_and31, shrJ0, shlJ0, gI_sA, gL_sA, Nat.reduceEqDiff, Nat.reduceAdd, Nat.reduceMul, Nat.reduceLT, Nat.reduceLeDiff, h65, Nat.le_refl]
  | succ f ih =>
    intro w n m τ hw hn h65 hD h64 hm
    obtain ⟨n, rfl⟩ : ∃ k, n = k + 1 := ⟨n - 1, by omega⟩
    have h1 : ¬ 2 ^ Q ≤ w := by omega
    obtain ⟨L, l1, l2⟩ := cls_least (N := N) hN (τ := τ) (r := r) (w := w) hr hQ (by omega) h65 hD
    obtain ⟨m1, τ1, a1, a2, a3, a4, a5, a6, a7, a8⟩ := cls_bits (N := N) (show w < 8 by omega) L (J r) (fX3_findLeastSets_7 N n) 64 0 N m τ (by omega) (by omega) h64 (by omega)
    obtain ⟨m2, τ2, b1, b2, b3, b4, b5, b6, b7, b8⟩ := ih (w + 1) n m1 τ1 (by omega) (by omega) (by rw [a2.gi (by decide)]; exact h65) (fun s hs => by
      unfold TC
      rw [a2.gl (by decide)]
      exact hD s hs) a3 a5
    refine ⟨m2, τ2, ?_, a2.tr b2, b3, by omega, b5, fun i hi => ?_, fun i h1 h2 => ?_, fun u h1 h2 h3 => ?_⟩
    · rw [show fX3_findLeastSets_7 N (n + 1) τ (J r) (J w) = _ from by unfold fX3_findLeastSets_7; rfl]
      have e8 : r * 8 = 8 * r := Nat.mul_comm _ _
      simp (decide := true) (disch := omega) only [letS_d, grd_t, bnd_d, bnd1_d, bndX_d, bndX_e, gI_sI, gI_sL, gL_sL, gL_sI, upd_at, updL_at, J_lit, J_add, J_mul, J_sub, J_lt, J_le, J_inj, J_ne, ne_J, m_lt, lt_m, m_le, le_m, J_cl, J_inB, if_true, if_false, ite_true, ite_false, reduceIte, isZ0, isZ1, J_and31, shrJ0, shlJ0, gI_sA, gL_sA, Nat.reduceEqDiff, Nat.reduceAdd, Nat.reduceMul, Nat.reduceLT, Nat.reduceLeDiff, h65, h1, e8, l1]
      exact a1.trans b1
    · rw [b6 i (by omega), a6 i hi]
    · by_cases him : i < m1
      · obtain ⟨j, j1, j2, j3, j4⟩ := a7 i h1 him
        refine ⟨64 * w + j, by omega, (l2 j j2).mp j3, ?_⟩
        rw [b6 i him]
        exact j4
      · exact b7 i (by omega) h2
    · by_cases huw : u < 64 * (w + 1)
      · obtain ⟨j, rfl⟩ : ∃ j, u = 64 * w + j := ⟨u - 64 * w, by omega⟩
        obtain ⟨i, i1, i2⟩ := a8 j (by omega) (by omega) ((l2 j (by omega)).mpr h3)
        exact ⟨i, by omega, by rw [b6 i i1]; exact i2⟩
      · exact b8 u (by omega) h2 h3
end CC
