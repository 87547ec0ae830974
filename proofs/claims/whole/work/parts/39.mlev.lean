/-! the gates, level by level -/
section LEV
variable {N b : Nat}
theorem J_div2 {a : Nat} (h : a < 4096) : J a / J 2 = J (a / 2) := by
  have h1 : ∀ x < 64, ∀ y < 64, J (64 * x + y) / J 2 = J ((64 * x + y) / 2) := by decide +kernel
  have h2 := h1 (a / 64) (by omega) (a % 64) (by omega)
  rw [show 64 * (a / 64) + a % 64 = a from by omega] at h2
  exact h2
theorem nz2 : nz (J 2) = true := rfl
theorem Pr_two {pc : Nat} {τ σ : St} (h : Pr 2 0 pc τ σ) : pc ≤ 2 := by
  obtain ⟨h1, h2, h3, h4⟩ := h
  by_cases hp : pc ≤ 2
  · exact hp
  · exfalso
    obtain ⟨i, j, p1, p2, p3⟩ := php 2 pc (fun j => if gI τ 84 j = J 1 then 0 else 1) (by omega) (fun i hi => by
      show (if gI τ 84 i = J 1 then 0 else 1) < 2
      split <;> omega)
    refine h4 i j p1 p2 ?_
    obtain ⟨u, v, u1, u2, u3, u4, u5, u6⟩ := h3 i (by omega)
    obtain ⟨u', v', u1', u2', u3', u4', u5', u6'⟩ := h3 j (by omega)
    have p3' : (if gI τ 84 i = J 1 then 0 else 1) = (if gI τ 84 j = J 1 then 0 else 1) := p3
    rw [u6, u6'] at p3' ⊢
    rw [J_inj (by omega) (by omega)]
    have c : (u = 0 ∧ v = 1) ∨ (u = 1 ∧ v = 0) := by omega
    have c' : (u' = 0 ∧ v' = 1) ∨ (u' = 1 ∧ v' = 0) := by omega
    have hne : ¬ J 7168 = J 1 := by decide
    rcases c with ⟨rfl, rfl⟩ | ⟨rfl, rfl⟩ <;> rcases c' with ⟨rfl, rfl⟩ | ⟨rfl, rfl⟩ <;> first | rfl | (simp [hne] at p3')
/-- how far a level has come -/
def Lv (b i V q pc m : Nat) (τ σ : St) : Prop := Pr V q pc τ σ ∧ (∀ o x, o ≤ b → x < 2 ^ i → 2 ^ i * o + x < m → ∃ v, v < q + 2 + pc ∧ gI τ 83 (2 ^ i * o + x) = J v ∧ gI σ 46 (512 * o + x) = J v) ∧ (∀ o x, o ≤ b → x < 2 ^ i → m ≤ 2 ^ i * o + x → (∃ v, v < V ∧ gI τ 83 (2 * (2 ^ i * o + x)) = J v ∧ gI σ 46 (512 * o + 2 * x) = J v) ∧ (∃ v, v < V ∧ gI τ 83 (2 * (2 ^ i * o + x) + 1) = J v ∧ gI σ 46 (512 * o + 2 * x + 1) = J v))
theorem both_one (hN : 2000 ≤ N) {i V q pc o x U : Nat} {τ σ : St} (hb : b ≤ 6) (hi : 2 ^ i ≤ 256) (hV : V ≤ 7000) (hVq : V ≤ q + 2) (hq : q + pc < 1800) (hpc : pc < 1792) (ho : o ≤ b) (hx : x < 2 ^ i) (hU : 2 ^ i * o + x < U) (hU2 : U ≤ 1792) (h : Lv b i V q pc (2 ^ i * o + x) τ σ) (k17 : St → Int32 → Int32 → Int32 → Int32 → Option (Int32 × St)) (k96 : St → Int32 → Option St) (k108 : St → Int32 → Int32 → Int32 → Option St) (x1 x4 : Int32) (n n' : Nat) : ∃ pc' τ' σ', fX2_countGates_35 N k17 (n + 1) τ x1 (J U) (J q) x4 (J (2 ^ i * o + x)) = fX2_countGates_35 N k17 n τ' x1 (J U) (J q) x4 (J (2 ^ i * o + x + 1)) ∧ fX9_count_120 N k96 k108 (n' + 1) σ (J i) (J q) (J o) (J x) = fX9_count_120 N k96 k108 n' σ' (J i) (J q) (J o) (J (x + 1)) ∧ Fr [83, 84, 85] τ τ' ∧ Fr [42, 46, 47, 48] σ σ' ∧ pc ≤ pc' ∧ pc' ≤ pc + 1 ∧ Lv b i V q pc' (2 ^ i * o + x + 1) τ' σ' := by
  obtain ⟨h1, h2, h3⟩ := h
  obtain ⟨⟨a, a1, a2, a3⟩, ⟨c, c1, c2, c3⟩⟩ := h3 o x ho hx (Nat.le_refl _)
  obtain ⟨r, pc', τ1, σ1, j1, j2, j3, j4, j5, j6, j7, j8⟩ := both_join (N := N) hN hV hVq hq hpc h1 a1 c1
  have hi31 : i < 31 := by
    rcases Nat.lt_or_ge i 31 with h | h
    · exact h
    · have := Nat.pow_le_pow_right (n := 2) (by omega) h
      omega
  have hcod : J 1 <<< J i = J (2 ^ i) := pow_J hi31
  generalize hm : 2 ^ i * o + x = m at *
  have hn1 : ¬ U ≤ m := by omega
  have hn2 : ¬ 2 ^ i ≤ x := by omega
  have hi32 : i < 32 := by omega
  refine ⟨pc', sI τ1 83 m (J r), sI σ1 46 (512 * o + x) (J r), ?_, ?_, (j3.mono (by decide)).tr (Fr.i (by decide)), (j4.mono (by decide)).tr (Fr.i (by decide)), j5, j6, ?_, ?_, ?_⟩
  · rw [show fX2_countGates_35 N k17 (n + 1) τ x1 (J U) (J q) x4 (J m) = _ from by unfold fX2_countGates_35; rfl]
    simp (decide := true) (disch := omega) only [letS_d, grd_t, bnd_d, bnd1_d, bndX_d, bndX_e, gI_sI, gI_sL, gL_sL, gL_sI, upd_at, updL_at, J_lit, J_add, J_mul, J_sub, J_lt, J_le, J_inj, J_ne, ne_J, m_lt, lt_m, m_le, le_m, J_cl, J_inB, if_true, if_false, ite_true, ite_false, reduceIte, isZ0, isZ1, J_and31, shrJ0, shlJ0, gI_sA, gL_sA, Nat.reduceEqDiff, Nat.reduceAdd, Nat.reduceMul, Nat.reduceLT, Nat.reduceLeDiff, hn1, a2, c2, j1]
  · rw [show fX9_count_120 N k96 k108 (n' + 1) σ (J i) (J q) (J o) (J x) = _ from by unfold fX9_count_120; rfl]
    simp (decide := true) (disch := omega) only [letS_d, grd_t, bnd_d, bnd1_d, bndX_d, bndX_e, gI_sI, gI_sL, gL_sL, gL_sI, upd_at, updL_at, J_lit, J_add, J_mul, J_sub, J_lt, J_le, J_inj, J_ne, ne_J, m_lt, lt_m, m_le, le_m, J_cl, J_inB, if_true, if_false, ite_true, ite_false, reduceIte, isZ0, isZ1, J_and31, shrJ0, shlJ0, gI_sA, gL_sA, Nat.reduceEqDiff, Nat.reduceAdd, Nat.reduceMul, Nat.reduceLT, Nat.reduceLeDiff, hcod, hn2, a3, c3, j2]
  · exact j8.fr (S := [83]) (S' := [46]) (Fr.i (by decide)) (Fr.i (by decide)) (by decide) (by decide)
  · intro o' x' ho' hx' hlt
    by_cases he : 2 ^ i * o' + x' = m
    · have hoo : o' = o ∧ x' = x := by
        rw [← hm] at he
        rcases Nat.lt_trichotomy o' o with hl | rfl | hl
        · have := Nat.mul_le_mul_left (2 ^ i) (show o' + 1 ≤ o by omega)
          rw [Nat.mul_succ] at this
          omega
        · exact ⟨rfl, by omega⟩
        · have := Nat.mul_le_mul_left (2 ^ i) (show o + 1 ≤ o' by omega)
          rw [Nat.mul_succ] at this
          omega
      obtain ⟨rfl, rfl⟩ := hoo
      exact ⟨r, j7, by simp (decide := true) (disch := omega) only [letS_d, grd_t, bnd_d, bnd1_d, bndX_d, bndX_e, gI_sI, gI_sL, gL_sL, gL_sI, upd_at, updL_at, J_lit, J_add, J_mul, J_sub, J_lt, J_le, J_inj, J_ne, ne_J, m_lt, lt_m, m_le, le_m, J_cl, J_inB, if_true, if_false, ite_true, ite_false, reduceIte, isZ0, isZ1, J_and31, shrJ0, shlJ0, gI_sA, gL_sA, Nat.reduceEqDiff, Nat.reduceAdd, Nat.reduceMul, Nat.reduceLT, Nat.reduceLeDiff, he], by simp (decide := true) (disch := omega) only [letS_d, grd_t, bnd_d, bnd1_d, bndX_d, bndX_e, gI_sI, gI_sL, gL_sL, gL_sI, upd_at, updL_at, J_lit, J_add, J_mul, J_sub, J_lt, J_le, J_inj, J_ne, ne_J, m_lt, lt_m, m_le, le_m, J_cl, J_inB, if_true, if_false, ite_true, ite_false, reduceIte, isZ0, isZ1, J_and31, shrJ0, shlJ0, gI_sA, gL_sA, Nat.reduceEqDiff, Nat.reduceAdd, Nat.reduceMul, Nat.reduceLT, Nat.reduceLeDiff]⟩
    · obtain ⟨v, v1, v2, v3⟩ := h2 o' x' ho' hx' (by omega)
      have hne2 : ¬ 512 * o' + x' = 512 * o + x := by
        intro h9
        have : o' = o := by omega
        subst this
        omega
      refine ⟨v, by omega, ?_, ?_⟩
      · simp (decide := true) (disch := omega) only [letS_d, grd_t, bnd_d, bnd1_d, bndX_d, bndX_e, gI_sI, gI_sL, gL_sL, gL_sI, upd_at, updL_at, J_lit, J_add, J_mul, J_sub, J_lt, J_le, J_inj, J_ne, ne_J, m_lt, lt_m, m_le, le_m, J_cl, J_inB, if_true, if_false, ite_true, ite_false, reduceIte, isZ0, isZ1, J_and31, shrJ0, shlJ0, gI_sA, gL_sA, Nat.reduceEqDiff, Nat.reduceAdd, Nat.reduceMul, Nat.reduceLT, Nat.reduceLeDiff, he]
        rw [j3.gi (by decide)]
        exact v2
      · simp (decide := true) (disch := omega) only [letS_d, grd_t, bnd_d, bnd1_d, bndX_d, bndX_e, gI_sI, gI_sL, gL_sL, gL_sI, upd_at, updL_at, J_lit, J_add, J_mul, J_sub, J_lt, J_le, J_inj, J_ne, ne_J, m_lt, lt_m, m_le, le_m, J_cl, J_inB, if_true, if_false, ite_true, ite_false, reduceIte, isZ0, isZ1, J_and31, shrJ0, shlJ0, gI_sA, gL_sA, Nat.reduceEqDiff, Nat.reduceAdd, Nat.reduceMul, Nat.reduceLT, Nat.reduceLeDiff, hne2]
        rw [j4.gi (by decide)]
        exact v3
  · intro o' x' ho' hx' hge
    obtain ⟨⟨v, v1, v2, v3⟩, ⟨w, w1, w2, w3⟩⟩ := h3 o' x' ho' hx' (by omega)
    have hxx : o' = o → x < x' := fun h9 => by
      subst h9
      omega
    have e1 : ¬ 2 * (2 ^ i * o' + x') = m := by omega
    have e2 : ¬ 2 * (2 ^ i * o' + x') + 1 = m := by omega
    have e3 : ¬ 512 * o' + 2 * x' = 512 * o + x := by
      intro h9
      have h8 : o' = o := by omega
      have := hxx h8
      omega
    have e4 : ¬ 512 * o' + 2 * x' + 1 = 512 * o + x := by
      intro h9
      have h8 : o' = o := by omega
      have := hxx h8
      omega
    refine ⟨⟨v, v1, ?_, ?_⟩, ⟨w, w1, ?_, ?_⟩⟩
    · simp (decide := true) (disch := omega) only [letS_d, grd_t, bnd_d, bnd1_d, bndX_d, bndX_e, gI_sI, gI_sL, gL_sL, gL_sI, upd_at, updL_at, J_lit, J_add, J_mul, J_sub, J_lt, J_le, J_inj, J_ne, ne_J, m_lt, lt_m, m_le, le_m, J_cl, J_inB, if_true, if_false, ite_true, ite_false, reduceIte, isZ0, isZ1, J_and31, shrJ0, shlJ0, gI_sA, gL_sA, Nat.reduceEqDiff, Nat.reduceAdd, Nat.reduceMul, Nat.reduceLT, Nat.reduceLeDiff, e1]
      rw [j3.gi (by decide)]
      exact v2
    · simp (decide := true) (disch := omega) only [letS_d, grd_t, bnd_d, bnd1_d, bndX_d, bndX_e, gI_sI, gI_sL, gL_sL, gL_sI, upd_at, updL_at, J_lit, J_add, J_mul, J_sub, J_lt, J_le, J_inj, J_ne, ne_J, m_lt, lt_m, m_le, le_m, J_cl, J_inB, if_true, if_false, ite_true, ite_false, reduceIte, isZ0, isZ1, J_and31, shrJ0, shlJ0, gI_sA, gL_sA, Nat.reduceEqDiff, Nat.reduceAdd, Nat.reduceMul, Nat.reduceLT, Nat.reduceLeDiff, e3]
      rw [j4.gi (by decide)]
      exact v3
    · simp (decide := true) (disch := omega) only [letS_d, grd_t, bnd_d, bnd1_d, bndX_d, bndX_e, gI_sI, gI_sL, gL_sL, gL_sI, upd_at, updL_at, J_lit, J_add, J_mul, J_sub, J_lt, J_le, J_inj, J_ne, ne_J, m_lt, lt_m, m_le, le_m, J_cl, J_inB, if_true, if_false, ite_true, ite_false, reduceIte, isZ0, isZ1, J_and31, shrJ0, shlJ0, gI_sA, gL_sA, Nat.reduceEqDiff, Nat.reduceAdd, Nat.reduceMul, Nat.reduceLT, Nat.reduceLeDiff, e2]
      rw [j3.gi (by decide)]
      exact w2
    · simp (decide := true) (disch := omega) only [letS_d, grd_t, bnd_d, bnd1_d, bndX_d, bndX_e, gI_sI, gI_sL, gL_sL, gL_sI, upd_at, updL_at, J_lit, J_add, J_mul, J_sub, J_lt, J_le, J_inj, J_ne, ne_J, m_lt, lt_m, m_le, le_m, J_cl, J_inB, if_true, if_false, ite_true, ite_false, reduceIte, isZ0, isZ1, J_and31, shrJ0, shlJ0, gI_sA, gL_sA, Nat.reduceEqDiff, Nat.reduceAdd, Nat.reduceMul, Nat.reduceLT, Nat.reduceLeDiff, e4]
      rw [j4.gi (by decide)]
      exact w3
/-- there is room for what a level joins -/
def Cap (b i V q : Nat) : Prop := (V = 2 ∧ q = 0) ∨ (V ≤ q + 2 ∧ q + 2 ^ i * (b + 1) < 1800 ∧ 2 ^ i * (b + 1) < 1792)
theorem Cap.ok {i V q pc m : Nat} {τ σ : St} (h : Cap b i V q) (hP : Pr V q pc τ σ) (hpm : pc ≤ m) (hm : m < 2 ^ i * (b + 1)) : V ≤ 7000 ∧ V ≤ q + 2 ∧ q + pc < 1800 ∧ pc < 1792 := by
  rcases h with ⟨rfl, rfl⟩ | ⟨h1, h2, h3⟩
  · have := Pr_two hP
    omega
  · omega
theorem both_row (hN : 2000 ≤ N) {i V q o : Nat} (hb : b ≤ 6) (hi : 2 ^ i ≤ 256) (hc : Cap b i V q) (ho : o ≤ b) (k17 : St → Int32 → Int32 → Int32 → Int32 → Option (Int32 × St)) (k96 : St → Int32 → Option St) (k108 : St → Int32 → Int32 → Int32 → Option St) (x1 x4 : Int32) (n : Nat) : ∀ f x n' (τ σ : St) pc, x + f = 2 ^ i → f < n' → pc ≤ 2 ^ i * o + x → Lv b i V q pc (2 ^ i * o + x) τ σ → ∃ pc' τ' σ', fX2_countGates_35 N k17 (n + f) τ x1 (J (2 ^ i * (b + 1))) (J q) x4 (J (2 ^ i * o + x)) = fX2_countGates_35 N k17 n τ' x1 (J (2 ^ i * (b + 1))) (J q) x4 (J (2 ^ i * (o + 1))) ∧ fX9_count_120 N k96 k108 n' σ (J i) (J q) (J o) (J x) = k108 σ' (J i) (J q) (J (o + 1)) ∧ Fr [83, 84, 85] τ τ' ∧ Fr [42, 46, 47, 48] σ σ' ∧ pc' ≤ 2 ^ i * (o + 1) ∧ Lv b i V q pc' (2 ^ i * (o + 1)) τ' σ' := by
  have hmul : 2 ^ i * (o + 1) = 2 ^ i * o + 2 ^ i := Nat.mul_succ _ _
  have hmono : 2 ^ i * (o + 1) ≤ 2 ^ i * (b + 1) := Nat.mul_le_mul_left _ (by omega)
  have hU : 2 ^ i * (b + 1) ≤ 1792 := Nat.le_trans (Nat.mul_le_mul hi (show b + 1 ≤ 7 by omega)) (by omega)
  have hi31 : i < 31 := by
    rcases Nat.lt_or_ge i 31 with h | h
    · exact h
    · have := Nat.pow_le_pow_right (n := 2) (by omega) h
      omega
  have hcod : J 1 <<< J i = J (2 ^ i) := pow_J hi31
  intro f
  induction f with
  | zero =>
    intro x n' τ σ pc hx hn' hpc hL
    obtain ⟨n', rfl⟩ : ∃ k, n' = k + 1 := ⟨n' - 1, by omega⟩
    obtain rfl : x = 2 ^ i := by omega
    refine ⟨pc, τ, σ, by rw [hmul]; rfl, ?_, Fr.rf, Fr.rf, by omega, by rw [hmul]; exact hL⟩
    unfold fX9_count_120
    simp (decide := true) (disch := omega) only [letS_d, grd_t, bnd_d, bnd1_d, bndX_d, bndX_e, gI_sI, gI_sL, gL_sL, gL_sI, upd_at, updL_at, J_lit, J_add, J_mul, J_sub, J_lt, J_le, J_inj, J_ne, ne_J, m_lt, lt_m, m_le, le_m, J_cl, J_inB, if_true, if_false, ite_true, ite_false, reduceIte, isZ0, isZ1, J_and31, shrJ0, shlJ0, gI_sA, gL_sA, Nat.reduceEqDiff, Nat.reduceAdd, Nat.reduceMul, Nat.reduceLT, Nat.reduceLeDiff, hcod, Nat.le_refl]
  | succ f ih =>
    intro x n' τ σ pc hx hn' hpc hL
    obtain ⟨n', rfl⟩ : ∃ k, n' = k + 1 := ⟨n' - 1, by omega⟩
    obtain ⟨q1, q2, q3, q4⟩ := hc.ok hL.1 hpc (by omega)
    obtain ⟨pc1, τ1, σ1, a1, a2, a3, a4, a5, a6, a7⟩ := both_one hN hb hi q1 q2 q3 q4 ho (show x < 2 ^ i by omega) (U := 2 ^ i * (b + 1)) (by omega) hU hL k17 k96 k108 x1 x4 (n + f) n'
    obtain ⟨pc', τ', σ', b1, b2, b3, b4, b5, b6⟩ := ih (x + 1) n' τ1 σ1 pc1 (by omega) (by omega) (by omega) a7
    exact ⟨pc', τ', σ', a1.trans b1, a2.trans b2, a3.tr b3, a4.tr b4, b5, b6⟩
theorem both_rows (hN : 2000 ≤ N) {i V q : Nat} (hb : b ≤ 6) (hi : 2 ^ i ≤ 256) (hc : Cap b i V q) (k17 : St → Int32 → Int32 → Int32 → Int32 → Option (Int32 × St)) (k96 : St → Int32 → Option St) (x1 x4 : Int32) (n : Nat) : ∀ f o n' (τ σ : St) pc, o + f = b + 1 → f < n' → gI σ 41 0 = J b → pc ≤ 2 ^ i * o → Lv b i V q pc (2 ^ i * o) τ σ → ∃ pc' τ' σ', fX2_countGates_35 N k17 (n + 2 ^ i * f) τ x1 (J (2 ^ i * (b + 1))) (J q) x4 (J (2 ^ i * o)) = fX2_countGates_35 N k17 n τ' x1 (J (2 ^ i * (b + 1))) (J q) x4 (J (2 ^ i * (b + 1))) ∧ fX9_count_108 N k96 n' σ (J i) (J q) (J o) = k96 σ' (J i + -J 1) ∧ Fr [83, 84, 85] τ τ' ∧ Fr [42, 46, 47, 48] σ σ' ∧ pc' ≤ 2 ^ i * (b + 1) ∧ Lv b i V q pc' (2 ^ i * (b + 1)) τ' σ' := by
  intro f
  induction f with
  | zero =>
    intro o n' τ σ pc ho hn' hσ hpc hL
    obtain ⟨n', rfl⟩ : ∃ k, n' = k + 1 := ⟨n' - 1, by omega⟩
    obtain rfl : o = b + 1 := by omega
    refine ⟨pc, τ, σ, by rw [Nat.mul_zero]; rfl, ?_, Fr.rf, Fr.rf, hpc, hL⟩
    unfold fX9_count_108
    have : b < b + 1 := by omega
    simp (decide := true) (disch := omega) only [letS_d, grd_t, bnd_d, bnd1_d, bndX_d, bndX_e, gI_sI, gI_sL, gL_sL, gL_sI, upd_at, updL_at, J_lit, J_add, J_mul, J_sub, J_lt, J_le, J_inj, J_ne, ne_J, m_lt, lt_m, m_le, le_m, J_cl, J_inB, if_true, if_false, ite_true, ite_false, reduceIte, isZ0, isZ1, J_and31, shrJ0, shlJ0, gI_sA, gL_sA, Nat.reduceEqDiff, Nat.reduceAdd, Nat.reduceMul, Nat.reduceLT, Nat.reduceLeDiff, hσ, this]
  | succ f ih =>
    intro o n' τ σ pc ho hn' hσ hpc hL
    obtain ⟨n', rfl⟩ : ∃ k, n' = k + 1 := ⟨n' - 1, by omega⟩
    obtain ⟨pc1, τ1, σ1, a1, a2, a3, a4, a5, a6⟩ := both_row hN hb hi hc (show o ≤ b by omega) k17 k96 (fX9_count_108 N k96 n') x1 x4 (n + 2 ^ i * f) (2 ^ i) 0 N τ σ pc (by omega) (by omega) hpc hL
    obtain ⟨pc', τ', σ', b1, b2, b3, b4, b5, b6⟩ := ih (o + 1) n' τ1 σ1 pc1 (by omega) (by omega) (by rw [a4.gi (by decide)]; exact hσ) a5 a6
    refine ⟨pc', τ', σ', ?_, ?_, a3.tr b3, a4.tr b4, b5, b6⟩
    · rw [show n + 2 ^ i * (f + 1) = n + 2 ^ i * f + 2 ^ i from by rw [Nat.mul_succ, Nat.add_assoc]]
      exact a1.trans b1
    · unfold fX9_count_108
      have : ¬ b < o := by omega
      simp (decide := true) (disch := omega) only [letS_d, grd_t, bnd_d, bnd1_d, bndX_d, bndX_e, gI_sI, gI_sL, gL_sL, gL_sI, upd_at, updL_at, J_lit, J_add, J_mul, J_sub, J_lt, J_le, J_inj, J_ne, ne_J, m_lt, lt_m, m_le, le_m, J_cl, J_inB, if_true, if_false, ite_true, ite_false, reduceIte, isZ0, isZ1, J_and31, shrJ0, shlJ0, gI_sA, gL_sA, Nat.reduceEqDiff, Nat.reduceAdd, Nat.reduceMul, Nat.reduceLT, Nat.reduceLeDiff, hσ, this]
      exact a2.trans b2
/-- before a level: its cells, on both sides -/
def Ld (b i q : Nat) (τ σ : St) : Prop := gI σ 42 0 = J q ∧ gI σ 41 0 = J b ∧ ∀ o x, o ≤ b → x < 2 ^ (i + 1) → ∃ v, v < q + 2 ∧ gI τ 83 (2 ^ (i + 1) * o + x) = J v ∧ gI σ 46 (512 * o + x) = J v
theorem both_lev (hN : 5000 ≤ N) (hb : b ≤ 6) : ∀ i q n n' (τ σ : St), i ≤ b + 2 → i + 1 < n → i + 1 < n' → Ld b i q τ σ → ((i = b + 2 ∧ q = 0) ∨ (i < b + 2 ∧ q + 2 ^ (i + 1) * (b + 1) ≤ 2 + 2 ^ (b + 2) * (b + 1))) → ∃ g τ' σ', fX2_countGates_17 N n τ (J (b + 3)) (J (2 ^ (i + 1) * (b + 1))) (J q) (J (b + 2 - i)) = some (J g, τ') ∧ fX9_count_96 N n' σ (J i) = some σ' ∧ gI σ' 42 0 = J g ∧ g < 2000 ∧ Fr [83, 84, 85] τ τ' ∧ Fr [42, 46, 47, 48] σ σ' := by
  have hB : 2 ^ (b + 2) * (b + 1) ≤ 1792 := by
    have : ∀ b < 7, 2 ^ (b + 2) * (b + 1) ≤ 1792 := by decide
    exact this b (by omega)
  have step : ∀ i q n n' (τ σ : St), i ≤ b + 2 → Ld b i q τ σ → ((i = b + 2 ∧ q = 0) ∨ (i < b + 2 ∧ q + 2 ^ (i + 1) * (b + 1) ≤ 2 + 2 ^ (b + 2) * (b + 1))) → ∃ pc τ' σ', fX2_countGates_17 N (n + 1) τ (J (b + 3)) (J (2 ^ (i + 1) * (b + 1))) (J q) (J (b + 2 - i)) = fX2_countGates_17 N n τ' (J (b + 3)) (J (2 ^ i * (b + 1))) (J (q + pc)) (J (b + 3 - i)) ∧ fX9_count_96 N (n' + 1) σ (J i) = fX9_count_96 N n' σ' (J i + -J 1) ∧ Fr [83, 84, 85] τ τ' ∧ Fr [42, 46, 47, 48] σ σ' ∧ gI σ' 42 0 = J (q + pc) ∧ gI σ' 41 0 = J b ∧ q + pc + 2 ^ i * (b + 1) ≤ 2 + 2 ^ (b + 2) * (b + 1) ∧ ∀ o x, o ≤ b → x < 2 ^ i → ∃ v, v < q + pc + 2 ∧ gI τ' 83 (2 ^ i * o + x) = J v ∧ gI σ' 46 (512 * o + x) = J v := by
    intro i q n n' τ σ hib hL hq
    obtain ⟨l1, l2, l3⟩ := hL
    have hpi : 2 ^ i ≤ 256 := Nat.le_trans (Nat.pow_le_pow_right (n := 2) (by omega) (show i ≤ 8 by omega)) (by decide)
    have hpp : 2 ^ (i + 1) = 2 ^ i * 2 := Nat.pow_succ ..
    have hpp2 : 2 ^ (i + 1) * (b + 1) = 2 * (2 ^ i * (b + 1)) := by rw [hpp, Nat.mul_comm (2 ^ i) 2, Nat.mul_assoc]
    have hpb : 2 ^ i * (b + 1) ≤ 2 ^ (b + 2) * (b + 1) := Nat.mul_le_mul_right _ (Nat.pow_le_pow_right (by omega) hib)
    have hc : Cap b i (q + 2) q := by
      rcases hq with ⟨h1, h2⟩ | ⟨h1, h2⟩
      · left
        exact ⟨by omega, h2⟩
      · right
        rw [hpp2] at h2
        refine ⟨by omega, by omega, ?_⟩
        have : 1 ≤ 2 ^ i * (b + 1) := Nat.mul_pos (Nat.pow_pos (by omega)) (by omega)
        omega
    have hL0 : Lv b i (q + 2) q 0 (2 ^ i * 0) (sI τ 85 0 (J 0)) σ := by
      refine ⟨⟨by simp (decide := true) (disch := omega) only [letS_d, grd_t, bnd_d, bnd1_d, bndX_d, bndX_e, gI_sI, gI_sL, gL_sL, gL_sI, upd_at, updL_at, J_lit, J_add, J_mul, J_sub, J_lt, J_le, J_inj, J_ne, ne_J, m_lt, lt_m, m_le, le_m, J_cl, J_inB, if_true, if_false, ite_true, ite_false, reduceIte, isZ0, isZ1, J_and31, shrJ0, shlJ0, gI_sA, gL_sA, Nat.reduceEqDiff, Nat.reduceAdd, Nat.reduceMul, Nat.reduceLT, Nat.reduceLeDiff], by rw [Nat.add_zero]; exact l1, fun j hj => by omega, fun i j hi hj => by omega⟩, fun o x ho hx hlt => by omega, fun o x ho hx hge => ?_⟩
      have e1 : 2 * (2 ^ i * o + x) = 2 ^ (i + 1) * o + 2 * x := by
        rw [hpp, Nat.mul_comm (2 ^ i) 2, Nat.mul_assoc, Nat.mul_add]
      have e2 : 2 * (2 ^ i * o + x) + 1 = 2 ^ (i + 1) * o + (2 * x + 1) := by rw [e1]; omega
      obtain ⟨v, v1, v2, v3⟩ := l3 o (2 * x) ho (by omega)
      obtain ⟨w, w1, w2, w3⟩ := l3 o (2 * x + 1) ho (by omega)
      refine ⟨⟨v, v1, ?_, v3⟩, ⟨w, w1, ?_, ?_⟩⟩
      · rw [e1]
        simp (decide := true) (disch := omega) only [letS_d, grd_t, bnd_d, bnd1_d, bndX_d, bndX_e, gI_sI, gI_sL, gL_sL, gL_sI, upd_at, updL_at, J_lit, J_add, J_mul, J_sub, J_lt, J_le, J_inj, J_ne, ne_J, m_lt, lt_m, m_le, le_m, J_cl, J_inB, if_true, if_false, ite_true, ite_false, reduceIte, isZ0, isZ1, J_and31, shrJ0, shlJ0, gI_sA, gL_sA, Nat.reduceEqDiff, Nat.reduceAdd, Nat.reduceMul, Nat.reduceLT, Nat.reduceLeDiff]
        exact v2
      · rw [e2]
        simp (decide := true) (disch := omega) only [letS_d, grd_t, bnd_d, bnd1_d, bndX_d, bndX_e, gI_sI, gI_sL, gL_sL, gL_sI, upd_at, updL_at, J_lit, J_add, J_mul, J_sub, J_lt, J_le, J_inj, J_ne, ne_J, m_lt, lt_m, m_le, le_m, J_cl, J_inB, if_true, if_false, ite_true, ite_false, reduceIte, isZ0, isZ1, J_and31, shrJ0, shlJ0, gI_sA, gL_sA, Nat.reduceEqDiff, Nat.reduceAdd, Nat.reduceMul, Nat.reduceLT, Nat.reduceLeDiff]
        exact w2
      · rw [Nat.add_assoc]
        exact w3
    obtain ⟨pc, τ1, σ1, a1, a2, a3, a4, a5, a6⟩ := both_rows (N := N) (by omega) hb hpi hc (fX2_countGates_17 N n) (fX9_count_96 N n') (J (b + 3)) (J (b + 2 - i)) (N - 2 ^ i * (b + 1)) (b + 1) 0 N (sI τ 85 0 (J 0)) σ 0 (by omega) (by omega) l2 (by omega) hL0
    have hU : 2 ^ i * (b + 1) ≤ 1792 := by omega
    rw [show N - 2 ^ i * (b + 1) + 2 ^ i * (b + 1) = N from by omega] at a1
    have e85 : gI τ1 85 0 = J pc := a6.1.1
    refine ⟨pc, τ1, σ1, ?_, ?_, (Fr.i (by decide)).tr a3, a4, a6.1.2.1, by rw [a4.gi (by decide)]; exact l2, ?_, ?_⟩
    · rw [show fX2_countGates_17 N (n + 1) τ (J (b + 3)) (J (2 ^ (i + 1) * (b + 1))) (J q) (J (b + 2 - i)) = _ from by unfold fX2_countGates_17; rfl]
      have n1 : ¬ b + 3 ≤ b + 2 - i := by omega
      have d1 : 2 ^ (i + 1) * (b + 1) / 2 = 2 ^ i * (b + 1) := by rw [hpp2]; omega
      have d2 : 2 ^ (i + 1) * (b + 1) < 4096 := by omega
      have d3 : b + 2 - i + 1 = b + 3 - i := by omega
      simp (decide := true) (disch := omega) only [letS_d, grd_t, bnd_d, bnd1_d, bndX_d, bndX_e, gI_sI, gI_sL, gL_sL, gL_sI, upd_at, updL_at, J_lit, J_add, J_mul, J_sub, J_lt, J_le, J_inj, J_ne, ne_J, m_lt, lt_m, m_le, le_m, J_cl, J_inB, if_true, if_false, ite_true, ite_false, reduceIte, isZ0, isZ1, J_and31, shrJ0, shlJ0, gI_sA, gL_sA, Nat.reduceEqDiff, Nat.reduceAdd, Nat.reduceMul, Nat.reduceLT, Nat.reduceLeDiff, n1, nz2, J_div2 d2, d1]
      rw [Nat.mul_zero] at a1
      rw [a1]
      obtain ⟨M, hM⟩ : ∃ M, N - 2 ^ i * (b + 1) = M + 1 := ⟨N - 2 ^ i * (b + 1) - 1, by omega⟩
      rw [hM]
      unfold fX2_countGates_35
      simp (decide := true) (disch := omega) only [letS_d, grd_t, bnd_d, bnd1_d, bndX_d, bndX_e, gI_sI, gI_sL, gL_sL, gL_sI, upd_at, updL_at, J_lit, J_add, J_mul, J_sub, J_lt, J_le, J_inj, J_ne, ne_J, m_lt, lt_m, m_le, le_m, J_cl, J_inB, if_true, if_false, ite_true, ite_false, reduceIte, isZ0, isZ1, J_and31, shrJ0, shlJ0, gI_sA, gL_sA, Nat.reduceEqDiff, Nat.reduceAdd, Nat.reduceMul, Nat.reduceLT, Nat.reduceLeDiff, Nat.le_refl, e85, d3]
    · rw [show fX9_count_96 N (n' + 1) σ (J i) = _ from by unfold fX9_count_96; rfl]
      simp (decide := true) (disch := omega) only [letS_d, grd_t, bnd_d, bnd1_d, bndX_d, bndX_e, gI_sI, gI_sL, gL_sL, gL_sI, upd_at, updL_at, J_lit, J_add, J_mul, J_sub, J_lt, J_le, J_inj, J_ne, ne_J, m_lt, lt_m, m_le, le_m, J_cl, J_inB, if_true, if_false, ite_true, ite_false, reduceIte, isZ0, isZ1, J_and31, shrJ0, shlJ0, gI_sA, gL_sA, Nat.reduceEqDiff, Nat.reduceAdd, Nat.reduceMul, Nat.reduceLT, Nat.reduceLeDiff, Nat.not_lt_zero, l1]
      exact a2
    · rcases hq with ⟨h1, h2⟩ | ⟨h1, h2⟩
      · subst h1 h2
        have := Pr_two a6.1
        omega
      · rw [hpp2] at h2
        omega
    · intro o x ho hx
      have hlt : 2 ^ i * o + x < 2 ^ i * (b + 1) := by
        have := Nat.mul_le_mul_left (2 ^ i) (show o + 1 ≤ b + 1 by omega)
        rw [Nat.mul_succ] at this
        omega
      obtain ⟨v, v1, v2, v3⟩ := a6.2.1 o x ho hx hlt
      exact ⟨v, by omega, v2, v3⟩
  intro i
  induction i with
  | zero =>
    intro q n n' τ σ hib hn hn' hL hq
    obtain ⟨n, rfl⟩ : ∃ k, n = k + 2 := ⟨n - 2, by omega⟩
    obtain ⟨n', rfl⟩ : ∃ k, n' = k + 2 := ⟨n' - 2, by omega⟩
    obtain ⟨pc, τ1, σ1, a1, a2, a3, a4, a5, a6, a7, a8⟩ := step 0 q (n + 1) (n' + 1) τ σ hib hL hq
    refine ⟨q + pc, τ1, σ1, ?_, ?_, a5, by omega, a3, a4⟩
    · rw [a1]
      unfold fX2_countGates_17
      simp (decide := true) (disch := omega) only [letS_d, grd_t, bnd_d, bnd1_d, bndX_d, bndX_e, gI_sI, gI_sL, gL_sL, gL_sI, upd_at, updL_at, J_lit, J_add, J_mul, J_sub, J_lt, J_le, J_inj, J_ne, ne_J, m_lt, lt_m, m_le, le_m, J_cl, J_inB, if_true, if_false, ite_true, ite_false, reduceIte, isZ0, isZ1, J_and31, shrJ0, shlJ0, gI_sA, gL_sA, Nat.reduceEqDiff, Nat.reduceAdd, Nat.reduceMul, Nat.reduceLT, Nat.reduceLeDiff, Nat.le_refl, Nat.sub_zero]
    · rw [a2]
      unfold fX9_count_96
      have : J 0 + -J 1 < J 0 := by decide
      simp (decide := true) (disch := omega) only [letS_d, grd_t, bnd_d, bnd1_d, bndX_d, bndX_e, gI_sI, gI_sL, gL_sL, gL_sI, upd_at, updL_at, J_lit, J_add, J_mul, J_sub, J_lt, J_le, J_inj, J_ne, ne_J, m_lt, lt_m, m_le, le_m, J_cl, J_inB, if_true, if_false, ite_true, ite_false, reduceIte, isZ0, isZ1, J_and31, shrJ0, shlJ0, gI_sA, gL_sA, Nat.reduceEqDiff, Nat.reduceAdd, Nat.reduceMul, Nat.reduceLT, Nat.reduceLeDiff, this]
  | succ i ih =>
    intro q n n' τ σ hib hn hn' hL hq
    obtain ⟨n, rfl⟩ : ∃ k, n = k + 1 := ⟨n - 1, by omega⟩
    obtain ⟨n', rfl⟩ : ∃ k, n' = k + 1 := ⟨n' - 1, by omega⟩
    obtain ⟨pc, τ1, σ1, a1, a2, a3, a4, a5, a6, a7, a8⟩ := step (i + 1) q n n' τ σ hib hL hq
    obtain ⟨g, τ', σ', b1, b2, b3, b4, b5, b6⟩ := ih (q + pc) n n' τ1 σ1 (by omega) (by omega) (by omega) ⟨a5, a6, fun o x ho hx => by
      obtain ⟨v, v1, v2, v3⟩ := a8 o x ho hx
      exact ⟨v, by omega, v2, v3⟩⟩ (Or.inr ⟨by omega, a7⟩)
    refine ⟨g, τ', σ', ?_, ?_, b3, b4, a3.tr b5, a4.tr b6⟩
    · rw [a1, show b + 3 - (i + 1) = b + 2 - i from by omega]
      exact b1
    · rw [a2]
      have : J (i + 1) + -J 1 = J i := J_addm (a := i + 1) (b := 1) (by omega)
      rw [this]
      exact b2
end LEV
/-- the class's count is the reference's -/
theorem both_gates {N s b : Nat} (hN : 5000 ≤ N) {T : Nat → Int32} {τ σ : St} (hC : Gc s b T τ) (hR : Gr s b T σ) : ∃ g τ' σ', g < 2000 ∧ fX2_countGates N τ = some (J g, τ') ∧ fX9_count_40 N N σ (J (b + 3)) (J 0) = some σ' ∧ gI σ' 42 0 = J g ∧ Fr [83, 84, 85] τ τ' ∧ Fr [42, 46, 47, 48] σ σ' := by
  obtain ⟨g1, g2, g3, g4, g5, g6⟩ := id hC
  obtain ⟨r1, r2, r3, r4, r5, r6⟩ := id hR
  obtain ⟨p1, p2', p3⟩ := p2 g3
  obtain ⟨τ1, a1, a2, a3, a4⟩ := cls_fill2 (N := N) (by omega) (b + 1) 0 N τ (by omega) (by omega) hC
  obtain ⟨σ1, b1, b2, b3, b4⟩ := ref_fill1 (N := N) (by omega) (b + 1) 0 N σ (by omega) (by omega) hR
  have hL : Ld b (b + 2) 0 τ1 (sI σ1 42 0 (J 0)) := by
    refine ⟨by simp (decide := true) (disch := omega) only [letS_d, grd_t, bnd_d, bnd1_d, bndX_d, bndX_e, gI_sI, gI_sL, gL_sL, gL_sI, upd_at, updL_at, J_lit, J_add, J_mul, J_sub, J_lt, J_le, J_inj, J_ne, ne_J, m_lt, lt_m, m_le, le_m, J_cl, J_inB, if_true, if_false, ite_true, ite_false, reduceIte, isZ0, isZ1, J_and31, shrJ0, shlJ0, gI_sA, gL_sA, Nat.reduceEqDiff, Nat.reduceAdd, Nat.reduceMul, Nat.reduceLT, Nat.reduceLeDiff], by simp (decide := true) (disch := omega) only [letS_d, grd_t, bnd_d, bnd1_d, bndX_d, bndX_e, gI_sI, gI_sL, gL_sL, gL_sI, upd_at, updL_at, J_lit, J_add, J_mul, J_sub, J_lt, J_le, J_inj, J_ne, ne_J, m_lt, lt_m, m_le, le_m, J_cl, J_inB, if_true, if_false, ite_true, ite_false, reduceIte, isZ0, isZ1, J_and31, shrJ0, shlJ0, gI_sA, gL_sA, Nat.reduceEqDiff, Nat.reduceAdd, Nat.reduceMul, Nat.reduceLT, Nat.reduceLeDiff]; rw [b2.gi (by decide)]; exact r5, fun o x ho hx => ?_⟩
    have hx' : x < 2 ^ (b + 3) := hx
    have e1 := a4 o x (by omega) ho (by omega)
    have e2 := b4 o x (by omega) ho hx'
    refine ⟨w0 T s b o x, ?_, ?_, ?_⟩
    · unfold w0
      split <;> omega
    · rw [show 2 ^ (b + 2 + 1) * o + x = 2 ^ b * (8 * o) + x from by
        rw [show b + 2 + 1 = b + 3 from rfl, p3, Nat.mul_comm 8 (2 ^ b), Nat.mul_assoc]]
      exact e1
    · simp (decide := true) (disch := omega) only [letS_d, grd_t, bnd_d, bnd1_d, bndX_d, bndX_e, gI_sI, gI_sL, gL_sL, gL_sI, upd_at, updL_at, J_lit, J_add, J_mul, J_sub, J_lt, J_le, J_inj, J_ne, ne_J, m_lt, lt_m, m_le, le_m, J_cl, J_inB, if_true, if_false, ite_true, ite_false, reduceIte, isZ0, isZ1, J_and31, shrJ0, shlJ0, gI_sA, gL_sA, Nat.reduceEqDiff, Nat.reduceAdd, Nat.reduceMul, Nat.reduceLT, Nat.reduceLeDiff]
      exact e2
  obtain ⟨g, τ', σ', c1, c2, c3, c4, c5, c6⟩ := both_lev (N := N) hN g3 (b + 2) 0 N N τ1 (sI σ1 42 0 (J 0)) (by omega) (by omega) (by omega) hL (Or.inl ⟨rfl, rfl⟩)
  refine ⟨g, τ', σ', c4, ?_, ?_, c3, (a2.mono (by decide)).tr c5, ((b2.mono (by decide)).tr (Fr.i (by decide))).tr c6⟩
  · unfold fX2_countGates fX2_fillCells
    rw [Nat.mul_zero] at a1
    rw [show 2 ^ (b + 2 + 1) * (b + 1) = 2 ^ b * (8 * (b + 1)) from by
      rw [show b + 2 + 1 = b + 3 from rfl, p3, Nat.mul_comm 8 (2 ^ b), Nat.mul_assoc], show b + 2 - (b + 2) = 0 from by omega] at c1
    have e : 3 + b = b + 3 := by omega
    simp (decide := true) (disch := omega) only [letS_d, grd_t, bnd_d, bnd1_d, bndX_d, bndX_e, gI_sI, gI_sL, gL_sL, gL_sI, upd_at, updL_at, J_lit, J_add, J_mul, J_sub, J_lt, J_le, J_inj, J_ne, ne_J, m_lt, lt_m, m_le, le_m, J_cl, J_inB, if_true, if_false, ite_true, ite_false, reduceIte, isZ0, isZ1, J_and31, shrJ0, shlJ0, gI_sA, gL_sA, Nat.reduceEqDiff, Nat.reduceAdd, Nat.reduceMul, Nat.reduceLT, Nat.reduceLeDiff, g5, a1, e]
    exact c1
  · exact b1.trans c2
