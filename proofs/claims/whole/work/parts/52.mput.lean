/-! the class's next condition -/
section CP
variable {N Q k : Nat} {A : Nat → Nat → Nat → Bool}
/-- what each obligation asks, as the class holds it -/
def Ak (k Q : Nat) (A : Nat → Nat → Nat → Bool) (τ : St) : Prop := gI τ 53 0 = J k ∧ ∀ l o w j, l < 8 → o < k → w < 2 ^ Q → j < 64 → bl (gL τ 51 ((l * 9 + o) * 8 + w)) j = A l o (64 * w + j)
theorem Ak.fr {τ τ' : St} {S : List Nat} (h : Ak k Q A τ) (f : Fr S τ τ') (d : ∀ k ∈ [51, 53], k ∉ S) : Ak k Q A τ' := by
  unfold Ak
  rw [f.gi (d 53 (by decide)), f.gl (d 51 (by decide))]
  exact h
/-- the least sets, as the class holds them -/
def Lss (Q : Nat) (D : Nat → Bool) (m : Nat) (τ : St) : Prop := gI τ 64 0 = J m ∧ m ≤ 512 ∧ (∀ i, i < m → ∃ u, u < 64 * 2 ^ Q ∧ Lst (6 + Q) D u ∧ gI τ 63 i = J u) ∧ ∀ u, u < 64 * 2 ^ Q → Lst (6 + Q) D u → ∃ i, i < m ∧ gI τ 63 i = J u
theorem Lss.fr {D : Nat → Bool} {m : Nat} {τ τ' : St} {S : List Nat} (h : Lss Q D m τ) (f : Fr S τ τ') (d : ∀ k ∈ [63, 64], k ∉ S) : Lss Q D m τ' := by
  unfold Lss
  rw [f.gi (d 63 (by decide)), f.gi (d 64 (by decide))]
  exact h
theorem cls_askAll {τ : St} (hk : k ≤ 9) (hQ : Q ≤ 3) (hA : Ak k Q A τ) {u l w : Nat} (hu : u < 512) (hl : l < 8) (hw : w < 2 ^ Q) : ∀ f o n (x4 : Int64), o + f = k → f < n → ∃ x, fX0_askedByAll_8 N n τ (J u) (J l) (J w) x4 (J o) = some (x, τ) ∧ ∀ j, j < 64 → (bl x j = true ↔ (bl x4 j = true ∧ ∀ o', o ≤ o' → o' < k → u.testBit o' = true → A l o' (64 * w + j) = true)) := by
  obtain ⟨a1, a2⟩ := id hA
  have hQ8 : 2 ^ Q ≤ 8 := Nat.le_trans (Nat.pow_le_pow_right (n := 2) (by omega) hQ) (by decide)
  intro f
  induction f with
  | zero =>
    intro o n x4 ho hn
    obtain ⟨n, rfl⟩ : ∃ k, n = k + 1 := ⟨n - 1, by omega⟩
    obtain rfl : o = k := by omega
    refine ⟨x4, ?_, fun j hj => ⟨fun h => ⟨h, fun o' h1 h2 => by omega⟩, fun h => h.1⟩⟩
    unfold fX0_askedByAll_8
    simp (decide := true) (disch := omega) only [letS_d, grd_t, bnd_d, bnd1_d, bndX_d, bndX_e, gI_sI, gI_sL, gL_sL, gL_sI, upd_at, updL_at, J_lit, J_add, J_mul, J_sub, J_lt, J_le, J_inj, J_ne, ne_J, m_lt, lt_m, m_le, le_m, J_cl, J_inB, if_true, if_false, ite_true, ite_false, reduceIte, isZ0, isZ1, J_and31, shrJ0, shlJ0, gI_sA, gL_sA, Nat.reduceEqDiff, Nat.reduceAdd, Nat.reduceMul, Nat.reduceLT, Nat.reduceLeDiff, a1, Nat.le_refl, fX0_askedByAll_57]
  | succ f ih =>
    intro o n x4 ho hn
    obtain ⟨n, rfl⟩ : ∃ k, n = k + 1 := ⟨n - 1, by omega⟩
    have h1 : ¬ k ≤ o := by omega
    rw [show fX0_askedByAll_8 N (n + 1) τ (J u) (J l) (J w) x4 (J o) = _ from by unfold fX0_askedByAll_8; rfl]
    by_cases hz : x4 = 0
    · subst hz
      refine ⟨0, ?_, fun j hj => ?_⟩
      · simp (decide := true) (disch := omega) only [letS_d, grd_t, bnd_d, bnd1_d, bndX_d, bndX_e, gI_sI, gI_sL, gL_sL, gL_sI, upd_at, updL_at, J_lit, J_add, J_mul, J_sub, J_lt, J_le, J_inj, J_ne, ne_J, m_lt, lt_m, m_le, le_m, J_cl, J_inB, if_true, if_false, ite_true, ite_false, reduceIte, isZ0, isZ1, J_and31, shrJ0, shlJ0, gI_sA, gL_sA, Nat.reduceEqDiff, Nat.reduceAdd, Nat.reduceMul, Nat.reduceLT, Nat.reduceLeDiff, a1, h1, lgc_eq, fX0_askedByAll_57]
      · rw [bl0]
        exact ⟨fun h => (by cases h), fun h => h.1⟩
    · have hhas := has8 (N := N) (τ := τ) (x := J u) (o := o) (by omega)
      rw [J_bits o (by omega)] at hhas
      cases hb : u.testBit o
      · rw [hb, zb_f] at hhas
        obtain ⟨x, e1, e2⟩ := ih (o + 1) n x4 (by omega) (by omega)
        refine ⟨x, ?_, fun j hj => ?_⟩
        · simp (decide := true) (disch := omega) only [letS_d, grd_t, bnd_d, bnd1_d, bndX_d, bndX_e, gI_sI, gI_sL, gL_sL, gL_sI, upd_at, updL_at, J_lit, J_add, J_mul, J_sub, J_lt, J_le, J_inj, J_ne, ne_J, m_lt, lt_m, m_le, le_m, J_cl, J_inB, if_true, if_false, ite_true, ite_false, reduceIte, isZ0, isZ1, J_and31, shrJ0, shlJ0, gI_sA, gL_sA, Nat.reduceEqDiff, Nat.reduceAdd, Nat.reduceMul, Nat.reduceLT, Nat.reduceLeDiff, a1, h1, lgc_eq, hz, hhas, fX0_askedByAll_51]
          exact e1
        · rw [e2 j hj]
          refine and_congr Iff.rfl ⟨fun h o' q1 q2 q3 => ?_, fun h o' q1 q2 q3 => h o' (by omega) q2 q3⟩
          by_cases hoo : o' = o
          · subst hoo
            rw [hb] at q3
            cases q3
          · exact h o' (by omega) q2 q3
      · rw [hb, zb_t] at hhas
        obtain ⟨x, e1, e2⟩ := ih (o + 1) n (x4 &&& gL τ 51 ((l * 9 + o) * 8 + w)) (by omega) (by omega)
        refine ⟨x, ?_, fun j hj => ?_⟩
        · simp (decide := true) (disch := omega) only [letS_d, grd_t, bnd_d, bnd1_d, bndX_d, bndX_e, gI_sI, gI_sL, gL_sL, gL_sI, upd_at, updL_at, J_lit, J_add, J_mul, J_sub, J_lt, J_le, J_inj, J_ne, ne_J, m_lt, lt_m, m_le, le_m, J_cl, J_inB, if_true, if_false, ite_true, ite_false, reduceIte, isZ0, isZ1, J_and31, shrJ0, shlJ0, gI_sA, gL_sA, Nat.reduceEqDiff, Nat.reduceAdd, Nat.reduceMul, Nat.reduceLT, Nat.reduceLeDiff, a1, h1, lgc_eq, hz, hhas, fX0_row, fX0_askedByAll_51]
          exact e1
        · rw [e2 j hj, bl_and, Bool.and_eq_true, a2 l o w j hl (by omega) hw hj]
          constructor
          · rintro ⟨⟨p1, p2⟩, p3⟩
            refine ⟨p1, fun o' q1 q2 q3 => ?_⟩
            by_cases hoo : o' = o
            · subst hoo
              exact p2
            · exact p3 o' (by omega) q2 q3
          · rintro ⟨p1, p2⟩
            exact ⟨⟨p1, p2 o (by omega) (by omega) hb⟩, fun o' q1 q2 q3 => p2 o' (by omega) q2 q3⟩
theorem cls_put1 (hN : 100 ≤ N) {τ : St} {D : Nat → Bool} {m l w row : Nat} (hk : k ≤ 9) (hQ : Q ≤ 3) (hA : Ak k Q A τ) (hm : gI τ 64 0 = J m) (hm2 : m ≤ 512) (hl : l < 8) (hw : w < 2 ^ Q) (hrow : row + 8 ≤ 328) (k10 : St → Int32 → Int32 → Int32 → Option St) (hset : ∀ i, i < m → ∃ u, u < 64 * 2 ^ Q ∧ Lst (6 + Q) D u ∧ gI τ 63 i = J u) : ∀ f i n (x4 : Int64), i + f = m → f < n → ∃ x, fX3_putIn_24 N k10 n τ (J l) (J row) (J w) x4 (J i) = k10 (sL τ 61 (row + w) x) (J l) (J row) (J (w + 1)) ∧ ∀ j, j < 64 → (bl x j = true ↔ (bl x4 j = true ∨ ∃ i' u, i ≤ i' ∧ i' < m ∧ gI τ 63 i' = J u ∧ u < 512 ∧ ∀ o, o < k → u.testBit o = true → A l o (64 * w + j) = true)) := by
  have hQ8 : 2 ^ Q ≤ 8 := Nat.le_trans (Nat.pow_le_pow_right (n := 2) (by omega) hQ) (by decide)
  intro f
  induction f with
  | zero =>
    intro i n x4 hi hn
    obtain ⟨n, rfl⟩ : ∃ k, n = k + 1 := ⟨n - 1, by omega⟩
    obtain rfl : i = m := by omega
    refine ⟨x4, ?_, fun j hj => ⟨fun h => Or.inl h, ?_⟩⟩
    · unfold fX3_putIn_24
      simp (decide := true) (disch := omega) only [letS_d, grd_t, bnd_d, bnd1_d, bndX_d, bndX_e, gI_sI, gI_sL, gL_sL, gL_sI, upd_at, updL_at, J_lit, J_add, J_mul, J_sub, J_lt, J_le, J_inj, J_ne, ne_J, m_lt, lt_m, m_le, le_m, J_cl, J_inB, if_true, if_false, ite_true, ite_false, reduceIte, isZ0, isZ1, J_and31, shrJ0, shlJ0, gI_sA, gL_sA, Nat.reduceEqDiff, Nat.reduceAdd, Nat.reduceMul, Nat.reduceLT, Nat.reduceLeDiff, hm, Nat.le_refl, fX3_putIn_69]
    · rintro (h | ⟨i', u, h1, h2, _⟩)
      · exact h
      · omega
  | succ f ih =>
    intro i n x4 hi hn
    obtain ⟨n, rfl⟩ : ∃ k, n = k + 1 := ⟨n - 1, by omega⟩
    have h1 : ¬ m ≤ i := by omega
    rw [show fX3_putIn_24 N k10 (n + 1) τ (J l) (J row) (J w) x4 (J i) = _ from by unfold fX3_putIn_24; rfl]
    by_cases hz : x4 = -1
    · subst hz
      refine ⟨-1, ?_, fun j hj => ?_⟩
      · simp (decide := true) (disch := omega) only [letS_d, grd_t, bnd_d, bnd1_d, bndX_d, bndX_e, gI_sI, gI_sL, gL_sL, gL_sI, upd_at, updL_at, J_lit, J_add, J_mul, J_sub, J_lt, J_le, J_inj, J_ne, ne_J, m_lt, lt_m, m_le, le_m, J_cl, J_inB, if_true, if_false, ite_true, ite_false, reduceIte, isZ0, isZ1, J_and31, shrJ0, shlJ0, gI_sA, gL_sA, Nat.reduceEqDiff, Nat.reduceAdd, Nat.reduceMul, Nat.reduceLT, Nat.reduceLeDiff, hm, h1, lgc_eq, fX3_putIn_69]
      · rw [bl_m1 hj]
        exact ⟨fun _ => Or.inl rfl, fun _ => rfl⟩
    · obtain ⟨u, u1, u2, u3⟩ := hset i (by omega)
      obtain ⟨y, y1, y2⟩ := cls_askAll (N := N) hk hQ hA (show u < 512 by omega) hl hw k 0 N (-1) (by omega) (by omega)
      obtain ⟨x, e1, e2⟩ := ih (i + 1) n (x4 ||| y) (by omega) (by omega)
      refine ⟨x, ?_, fun j hj => ?_⟩
      · simp (decide := true) (disch := omega) only [letS_d, grd_t, bnd_d, bnd1_d, bndX_d, bndX_e, gI_sI, gI_sL, gL_sL, gL_sI, upd_at, updL_at, J_lit, J_add, J_mul, J_sub, J_lt, J_le, J_inj, J_ne, ne_J, m_lt, lt_m, m_le, le_m, J_cl, J_inB, if_true, if_false, ite_true, ite_false, reduceIte, isZ0, isZ1, J_and31, shrJ0, shlJ0, gI_sA, gL_sA, Nat.reduceEqDiff, Nat.reduceAdd, Nat.reduceMul, Nat.reduceLT, Nat.reduceLeDiff, hm, h1, lgc_eq, hz, u3, fX0_askedByAll, y1]
        exact e1
      · rw [e2 j hj, bl_or, Bool.or_eq_true, y2 j hj]
        constructor
        · rintro ((h | h) | ⟨i', u', p1, p2, p3, p4, p5⟩)
          · exact Or.inl h
          · exact Or.inr ⟨i, u, by omega, by omega, u3, by omega, fun o ho hb => h.2 o (by omega) ho hb⟩
          · exact Or.inr ⟨i', u', by omega, p2, p3, p4, p5⟩
        · rintro (h | ⟨i', u', p1, p2, p3, p4, p5⟩)
          · exact Or.inl (Or.inl h)
          · by_cases hii : i' = i
            · subst hii
              rw [u3, J_inj (by omega) (by omega)] at p3
              subst p3
              exact Or.inl (Or.inr ⟨bl_m1 hj, fun o _ ho hb => p5 o ho hb⟩)
            · exact Or.inr ⟨i', u', by omega, p2, p3, p4, p5⟩
theorem cls_put2 (hN : 1000 ≤ N) {D : Nat → Bool} {m l row : Nat} (hk : k ≤ 9) (hQ : Q ≤ 3) (hl : l < 8) (hrow : row + 8 ≤ 328) : ∀ f w n (τ : St), w + f = 2 ^ Q → f < n → gI τ 65 0 = J (2 ^ Q) → Ak k Q A τ → Lss Q D m τ → ∃ τ', fX3_putIn_10 N n τ (J l) (J row) (J w) = some τ' ∧ Fr [61] τ τ' ∧ (∀ i, i < row + w → gL τ' 61 i = gL τ 61 i) ∧ ∀ w' j, w ≤ w' → w' < 2 ^ Q → j < 64 → (bl (gL τ' 61 (row + w')) j = true ↔ ∃ u, u < 64 * 2 ^ Q ∧ Lst (6 + Q) D u ∧ ∀ o, o < k → u.testBit o = true → A l o (64 * w' + j) = true) := by
  have hQ8 : 2 ^ Q ≤ 8 := Nat.le_trans (Nat.pow_le_pow_right (n := 2) (by omega) hQ) (by decide)
  intro f
  induction f with
  | zero =>
    intro w n τ hw hn h65 hA hL
    obtain ⟨n, rfl⟩ : ∃ k, n = k + 1 := ⟨n - 1, by omega⟩
    obtain rfl : w = 2 ^ Q := by omega
    refine ⟨τ, ?_, Fr.rf, fun _ _ => rfl, fun w' j h1 h2 => by omega⟩
    unfold fX3_putIn_10
    simp (decide := true) (disch := omega) only [letS_d, grd_t, bnd_d, bnd1_d, bndX_d, bndX_e, gI_sI, gI_sL, gL_sL, gL_sI, upd_at, updL_at, J_lit, J_add, J_mul, J_sub, J_lt, J_le, J_inj, J_ne, ne_J, m_lt, lt_m, m_le, le_m, J_cl, J_inB, if_true, if_false, ite_true, ite_false, reduceIte, isZ0, isZ1, J_and31, shrJ0, shlJ0, gI_sA, gL_sA, Nat.reduceEqDiff, Nat.reduceAdd, Nat.reduceMul, Nat.reduceLT, Nat.reduceLeDiff, h65, Nat.le_refl]
  | succ f ih =>
    intro w n τ hw hn h65 hA hL
    obtain ⟨n, rfl⟩ : ∃ k, n = k + 1 := ⟨n - 1, by omega⟩
    have h1 : ¬ 2 ^ Q ≤ w := by omega
    obtain ⟨l1, l2, l3, l4⟩ := id hL
    obtain ⟨x, a1, a2⟩ := cls_put1 (N := N) (by omega) hk hQ hA l1 l2 hl (show w < 2 ^ Q by omega) hrow (fX3_putIn_10 N n) l3 m 0 N 0 (by omega) (by omega)
    have hf : Fr [61] τ (sL τ 61 (row + w) x) := Fr.l (by decide)
    obtain ⟨τ', b1, b2, b3, b4⟩ := ih (w + 1) n (sL τ 61 (row + w) x) (by omega) (by omega) (by simp (decide := true) (disch := omega) only [letS_d, grd_t, bnd_d, bnd1_d, bndX_d, bndX_e, gI_sI, gI_sL, gL_sL, gL_sI, upd_at, updL_at, J_lit, J_add, J_mul, J_sub, J_lt, J_le, J_inj, J_ne, ne_J, m_lt, lt_m, m_le, le_m, J_cl, J_inB, if_true, if_false, ite_true, ite_false, reduceIte, isZ0, isZ1, J_and31, shrJ0, shlJ0, gI_sA, gL_sA, Nat.reduceEqDiff, Nat.reduceAdd, Nat.reduceMul, Nat.reduceLT, Nat.reduceLeDiff]; exact h65) (hA.fr hf (by decide)) (hL.fr hf (by decide))
    refine ⟨τ', ?_, hf.tr b2, fun i hi => ?_, fun w' j h1 h2 h3 => ?_⟩
    · rw [show fX3_putIn_10 N (n + 1) τ (J l) (J row) (J w) = _ from by unfold fX3_putIn_10; rfl]
      simp (decide := true) (disch := omega) only [letS_d, grd_t, bnd_d, bnd1_d, bndX_d, bndX_e, gI_sI, gI_sL, gL_sL, gL_sI, upd_at, updL_at, J_lit, J_add, J_mul, J_sub, J_lt, J_le, J_inj, J_ne, ne_J, m_lt, lt_m, m_le, le_m, J_cl, J_inB, if_true, if_false, ite_true, ite_false, reduceIte, isZ0, isZ1, J_and31, shrJ0, shlJ0, gI_sA, gL_sA, Nat.reduceEqDiff, Nat.reduceAdd, Nat.reduceMul, Nat.reduceLT, Nat.reduceLeDiff, h65, h1]
      exact a1.trans b1
    · rw [b3 i (by omega)]
      have : ¬ i = row + w := by omega
      simp (decide := true) (disch := omega) only [letS_d, grd_t, bnd_d, bnd1_d, bndX_d, bndX_e, gI_sI, gI_sL, gL_sL, gL_sI, upd_at, updL_at, J_lit, J_add, J_mul, J_sub, J_lt, J_le, J_inj, J_ne, ne_J, m_lt, lt_m, m_le, le_m, J_cl, J_inB, if_true, if_false, ite_true, ite_false, reduceIte, isZ0, isZ1, J_and31, shrJ0, shlJ0, gI_sA, gL_sA, Nat.reduceEqDiff, Nat.reduceAdd, Nat.reduceMul, Nat.reduceLT, Nat.reduceLeDiff, this]
    · by_cases hww : w' = w
      · subst hww
        rw [b3 _ (by omega)]
        have e : gL (sL τ 61 (row + w') x) 61 (row + w') = x := by simp (decide := true) (disch := omega) only [letS_d, grd_t, bnd_d, bnd1_d, bndX_d, bndX_e, gI_sI, gI_sL, gL_sL, gL_sI, upd_at, updL_at, J_lit, J_add, J_mul, J_sub, J_lt, J_le, J_inj, J_ne, ne_J, m_lt, lt_m, m_le, le_m, J_cl, J_inB, if_true, if_false, ite_true, ite_false, reduceIte, isZ0, isZ1, J_and31, shrJ0, shlJ0, gI_sA, gL_sA, Nat.reduceEqDiff, Nat.reduceAdd, Nat.reduceMul, Nat.reduceLT, Nat.reduceLeDiff]
        rw [e, a2 j h3, bl0]
        constructor
        · rintro (h | ⟨i', u, p1, p2, p3, p4, p5⟩)
          · cases h
          · obtain ⟨u', q1, q2, q3⟩ := l3 i' p2
            rw [q3, J_inj (by omega) (by omega)] at p3
            subst p3
            exact ⟨u', q1, q2, p5⟩
        · rintro ⟨u, q1, q2, q3⟩
          obtain ⟨i, i1, i2⟩ := l4 u q1 q2
          exact Or.inr ⟨i, u, by omega, i1, i2, by omega, q3⟩
      · exact b4 w' j (by omega) h2 h3
/-- two rows say the same -/
def sameC (Q : Nat) (τ : St) (a b : Nat) : Bool := (List.range (2 ^ Q)).all (fun w => decide (gL τ 61 (8 * a + w) = gL τ 61 (8 * b + w)))
theorem sameC_iff {τ : St} {a b : Nat} : sameC Q τ a b = true ↔ ∀ s, s < 64 * 2 ^ Q → TC τ a s = TC τ b s := by
  unfold sameC
  rw [List.all_eq_true]
  constructor
  · intro h s hs
    have := of_decide_eq_true (h (s / 64) (List.mem_range.mpr (by omega)))
    unfold TC
    rw [this]
  · intro h w hw
    rw [List.mem_range] at hw
    refine decide_eq_true (bl_ext fun j hj => ?_)
    have := h (64 * w + j) (by omega)
    rw [TC_at τ a hj, TC_at τ b hj] at this
    exact this
theorem cls_isSame {τ : St} {a b : Nat} (hQ : Q ≤ 3) (h65 : gI τ 65 0 = J (2 ^ Q)) (ha : a ≤ 40) (hb : b ≤ 40) : ∀ f w n, w + f = 2 ^ Q → f < n → (∀ w', w' < w → gL τ 61 (8 * a + w') = gL τ 61 (8 * b + w')) → fX3_isSame_2 N n τ (J a) (J b) (J w) = some (zb (sameC Q τ a b), τ) := by
  have hQ8 : 2 ^ Q ≤ 8 := Nat.le_trans (Nat.pow_le_pow_right (n := 2) (by omega) hQ) (by decide)
  intro f
  induction f with
  | zero =>
    intro w n hw hn hk
    obtain ⟨n, rfl⟩ : ∃ k, n = k + 1 := ⟨n - 1, by omega⟩
    obtain rfl : w = 2 ^ Q := by omega
    have : sameC Q τ a b = true := by
      unfold sameC
      rw [List.all_eq_true]
      exact fun w hw => decide_eq_true (hk w (List.mem_range.mp hw))
    unfold fX3_isSame_2
    simp (decide := true) (disch := omega) only [letS_d, grd_t, bnd_d, bnd1_d, bndX_d, bndX_e, gI_sI, gI_sL, gL_sL, gL_sI, upd_at, updL_at, J_lit, J_add, J_mul, J_sub, J_lt, J_le, J_inj, J_ne, ne_J, m_lt, lt_m, m_le, le_m, J_cl, J_inB, if_true, if_false, ite_true, ite_false, reduceIte, isZ0, isZ1, J_and31, shrJ0, shlJ0, gI_sA, gL_sA, Nat.reduceEqDiff, Nat.reduceAdd, Nat.reduceMul, Nat.reduceLT, Nat.reduceLeDiff, h65, Nat.le_refl, this, zb_t]
  | succ f ih =>
    intro w n hw hn hk
    obtain ⟨n, rfl⟩ : ∃ k, n = k + 1 := ⟨n - 1, by omega⟩
    have h1 : ¬ 2 ^ Q ≤ w := by omega
    have e1 : a * 8 = 8 * a := Nat.mul_comm _ _
    have e2 : b * 8 = 8 * b := Nat.mul_comm _ _
    unfold fX3_isSame_2
    by_cases hz : gL τ 61 (8 * a + w) = gL τ 61 (8 * b + w)
    · have := ih (w + 1) n (by omega) (by omega) (fun w' hw' => by
        by_cases hww : w' = w
        · subst hww; exact hz
        · exact hk w' (by omega))
      simp (decide := true) (disch := omega) only [letS_d, grd_t, bnd_d, bnd1_d, bndX_d, bndX_e, gI_sI, gI_sL, gL_sL, gL_sI, upd_at, updL_at, J_lit, J_add, J_mul, J_sub, J_lt, J_le, J_inj, J_ne, ne_J, m_lt, lt_m, m_le, le_m, J_cl, J_inB, if_true, if_false, ite_true, ite_false, reduceIte, isZ0, isZ1, J_and31, shrJ0, shlJ0, gI_sA, gL_sA, Nat.reduceEqDiff, Nat.reduceAdd, Nat.reduceMul, Nat.reduceLT, Nat.reduceLeDiff, h65, h1, e1, e2, lgc_eq, hz]
      exact this
    · have : sameC Q τ a b = false := by
        cases hx : sameC Q τ a b
        · rfl
        · unfold sameC at hx
          rw [List.all_eq_true] at hx
          exact absurd (of_decide_eq_true (hx w (List.mem_range.mpr (by omega)))) hz
      simp (decide := true) (disch := omega) only [letS_d, grd_t, bnd_d, bnd1_d, bndX_d, bndX_e, gI_sI, gI_sL, gL_sL, gL_sI, upd_at, updL_at, J_lit, J_add, J_mul, J_sub, J_lt, J_le, J_inj, J_ne, ne_J, m_lt, lt_m, m_le, le_m, J_cl, J_inB, if_true, if_false, ite_true, ite_false, reduceIte, isZ0, isZ1, J_and31, shrJ0, shlJ0, gI_sA, gL_sA, Nat.reduceEqDiff, Nat.reduceAdd, Nat.reduceMul, Nat.reduceLT, Nat.reduceLeDiff, h65, h1, e1, e2, lgc_eq, hz, this, zb_f]
theorem cls_never {τ : St} {a : Nat} (hQ : Q ≤ 3) (h65 : gI τ 65 0 = J (2 ^ Q)) (ha : a ≤ 40) {v : Bool} (hv : v = true ↔ ∀ s, s < 64 * 2 ^ Q → TC τ a s = false) : ∀ f w n, w + f = 2 ^ Q → f < n → (∀ w', w' < w → gL τ 61 (8 * a + w') = 0) → fX3_isNever_2 N n τ (J a) (J w) = some (zb v, τ) := by
  have hQ8 : 2 ^ Q ≤ 8 := Nat.le_trans (Nat.pow_le_pow_right (n := 2) (by omega) hQ) (by decide)
  intro f
  induction f with
  | zero =>
    intro w n hw hn hk
    obtain ⟨n, rfl⟩ : ∃ k, n = k + 1 := ⟨n - 1, by omega⟩
    obtain rfl : w = 2 ^ Q := by omega
    have : v = true := hv.mpr (fun s hs => by
      unfold TC
      rw [hk _ (by omega), bl0])
    unfold fX3_isNever_2
    simp (decide := true) (disch := omega) only [letS_d, grd_t, bnd_d, bnd1_d, bndX_d, bndX_e, gI_sI, gI_sL, gL_sL, gL_sI, upd_at, updL_at, J_lit, J_add, J_mul, J_sub, J_lt, J_le, J_inj, J_ne, ne_J, m_lt, lt_m, m_le, le_m, J_cl, J_inB, if_true, if_false, ite_true, ite_false, reduceIte, isZ0, isZ1, J_and31, shrJ0, shlJ0, gI_sA, gL_sA, Nat.reduceEqDiff, Nat.reduceAdd, Nat.reduceMul, Nat.reduceLT, Nat.reduceLeDiff, h65, Nat.le_refl, this, zb_t]
  | succ f ih =>
    intro w n hw hn hk
    obtain ⟨n, rfl⟩ : ∃ k, n = k + 1 := ⟨n - 1, by omega⟩
    have h1 : ¬ 2 ^ Q ≤ w := by omega
    have e1 : a * 8 = 8 * a := Nat.mul_comm _ _
    unfold fX3_isNever_2
    by_cases hz : gL τ 61 (8 * a + w) = 0
    · have := ih (w + 1) n (by omega) (by omega) (fun w' hw' => by
        by_cases hww : w' = w
        · subst hww; exact hz
        · exact hk w' (by omega))
      simp (decide := true) (disch := omega) only [letS_d, grd_t, bnd_d, bnd1_d, bndX_d, bndX_e, gI_sI, gI_sL, gL_sL, gL_sI, upd_at, updL_at, J_lit, J_add, J_mul, J_sub, J_lt, J_le, J_inj, J_ne, ne_J, m_lt, lt_m, m_le, le_m, J_cl, J_inB, if_true, if_false, ite_true, ite_false, reduceIte, isZ0, isZ1, J_and31, shrJ0, shlJ0, gI_sA, gL_sA, Nat.reduceEqDiff, Nat.reduceAdd, Nat.reduceMul, Nat.reduceLT, Nat.reduceLeDiff, h65, h1, e1, lgc_eq, hz]
      exact this
    · have : v = false := by
        cases hx : v
        · rfl
        · exact absurd (bl_ext fun j hj => by
            have := hv.mp hx (64 * w + j) (by omega)
            rw [TC_at τ a hj] at this
            rw [this, bl0]) hz
      simp (decide := true) (disch := omega) only [letS_d, grd_t, bnd_d, bnd1_d, bndX_d, bndX_e, gI_sI, gI_sL, gL_sL, gL_sI, upd_at, updL_at, J_lit, J_add, J_mul, J_sub, J_lt, J_le, J_inj, J_ne, ne_J, m_lt, lt_m, m_le, le_m, J_cl, J_inB, if_true, if_false, ite_true, ite_false, reduceIte, isZ0, isZ1, J_and31, shrJ0, shlJ0, gI_sA, gL_sA, Nat.reduceEqDiff, Nat.reduceAdd, Nat.reduceMul, Nat.reduceLT, Nat.reduceLeDiff, h65, h1, e1, lgc_eq, hz, this, zb_f]
/-- the first of which something holds -/
def fst1 (p : Nat → Bool) : Nat → Nat → Nat
  | 0, i => i
  | f + 1, i => if p i = true then i else fst1 p f (i + 1)
theorem fst1_spec (p : Nat → Bool) : ∀ f i, i ≤ fst1 p f i ∧ fst1 p f i ≤ i + f ∧ (fst1 p f i < i + f → p (fst1 p f i) = true) ∧ ∀ j, i ≤ j → j < fst1 p f i → p j = false := by
  intro f
  induction f with
  | zero => intro i; exact ⟨Nat.le_refl _, Nat.le_refl _, fun h => by unfold fst1 at h; omega, fun j h1 h2 => by unfold fst1 at h2; omega⟩
  | succ f ih =>
    intro i
    unfold fst1
    by_cases h : p i = true
    · rw [if_pos h]
      exact ⟨by omega, by omega, fun _ => h, fun j h1 h2 => by omega⟩
    · rw [if_neg h]
      obtain ⟨h1, h2, h3, h4⟩ := ih (i + 1)
      refine ⟨by omega, by omega, fun h9 => h3 (by omega), fun j j1 j2 => ?_⟩
      by_cases hji : j = i
      · subst hji
        cases hx : p j
        · rfl
        · exact absurd hx h
      · exact h4 j (by omega) j2
theorem fst1_congr {p q : Nat → Bool} : ∀ f i, (∀ j, i ≤ j → j < i + f → p j = q j) → fst1 p f i = fst1 q f i := by
  intro f
  induction f with
  | zero => intro i _; rfl
  | succ f ih =>
    intro i h
    unfold fst1
    rw [h i (by omega) (by omega), ih (i + 1) (fun j h1 h2 => h j (by omega) (by omega))]
theorem cls_find (hN : 100 ≤ N) {τ : St} {c : Nat} (hQ : Q ≤ 3) (h65 : gI τ 65 0 = J (2 ^ Q)) (h66 : gI τ 66 0 = J c) (hc : c ≤ 40) : ∀ f i n, i + f = c → f < n → fX3_find_2 N n τ (J i) = some (J (fst1 (fun a => sameC Q τ a c) f i), τ) := by
  have hQ8 : 2 ^ Q ≤ 8 := Nat.le_trans (Nat.pow_le_pow_right (n := 2) (by omega) hQ) (by decide)
  intro f
  induction f with
  | zero =>
    intro i n hi hn
    obtain ⟨n, rfl⟩ : ∃ k, n = k + 1 := ⟨n - 1, by omega⟩
    obtain rfl : i = c := by omega
    unfold fX3_find_2 fst1
    simp (decide := true) (disch := omega) only [letS_d, grd_t, bnd_d, bnd1_d, bndX_d, bndX_e, gI_sI, gI_sL, gL_sL, gL_sI, upd_at, updL_at, J_lit, J_add, J_mul, J_sub, J_lt, J_le, J_inj, J_ne, ne_J, m_lt, lt_m, m_le, le_m, J_cl, J_inB, if_true, if_false, ite_true, ite_false, reduceIte, isZ0, isZ1, J_and31, shrJ0, shlJ0, gI_sA, gL_sA, Nat.reduceEqDiff, Nat.reduceAdd, Nat.reduceMul, Nat.reduceLT, Nat.reduceLeDiff, h66, Nat.le_refl]
  | succ f ih =>
    intro i n hi hn
    obtain ⟨n, rfl⟩ : ∃ k, n = k + 1 := ⟨n - 1, by omega⟩
    have h1 : ¬ c ≤ i := by omega
    have hs := cls_isSame (N := N) (τ := τ) (a := i) (b := c) hQ h65 (by omega) hc (2 ^ Q) 0 N (by omega) (by omega) (fun w' h => by omega)
    have := ih (i + 1) n (by omega) (by omega)
    unfold fX3_find_2 fst1
    cases hx : sameC Q τ i c
    · rw [hx, zb_f] at hs
      simp (decide := true) (disch := omega) only [letS_d, grd_t, bnd_d, bnd1_d, bndX_d, bndX_e, gI_sI, gI_sL, gL_sL, gL_sI, upd_at, updL_at, J_lit, J_add, J_mul, J_sub, J_lt, J_le, J_inj, J_ne, ne_J, m_lt, lt_m, m_le, le_m, J_cl, J_inB, if_true, if_false, ite_true, ite_false, reduceIte, isZ0, isZ1, J_and31, shrJ0, shlJ0, gI_sA, gL_sA, Nat.reduceEqDiff, Nat.reduceAdd, Nat.reduceMul, Nat.reduceLT, Nat.reduceLeDiff, h66, h1, fX3_isSame, hs, Bool.false_eq_true]
      exact this
    · rw [hx, zb_t] at hs
      simp (decide := true) (disch := omega) only [letS_d, grd_t, bnd_d, bnd1_d, bndX_d, bndX_e, gI_sI, gI_sL, gL_sL, gL_sI, upd_at, updL_at, J_lit, J_add, J_mul, J_sub, J_lt, J_le, J_inj, J_ne, ne_J, m_lt, lt_m, m_le, le_m, J_cl, J_inB, if_true, if_false, ite_true, ite_false, reduceIte, isZ0, isZ1, J_and31, shrJ0, shlJ0, gI_sA, gL_sA, Nat.reduceEqDiff, Nat.reduceAdd, Nat.reduceMul, Nat.reduceLT, Nat.reduceLeDiff, h66, h1, fX3_isSame, hs]
end CP
