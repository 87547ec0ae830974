/-! the bits -/
section BITS
variable {N s : Nat}
theorem cls_ren (hs : s ≤ 40) : ∀ f k n (τ : St) b0, k + f = 7 → 2 ≤ k → f < n → gI τ 71 0 = J s → gI τ 81 0 = J b0 → 1 ≤ b0 → b0 < k → (b0 = 1 ∨ 2 ^ (b0 - 1) ≤ s) → (∀ m, b0 < m → m < k → s < 2 ^ (m - 1)) → ∃ τ' b, fX2_renew_7 N n τ (J k) = some τ' ∧ Fr [81, 82] τ τ' ∧ gI τ' 81 0 = J b ∧ gI τ' 82 0 = -J 1 ∧ 1 ≤ b ∧ b ≤ 6 ∧ (b = 1 ∨ 2 ^ (b - 1) ≤ s) ∧ s < 2 ^ b := by
  intro f
  induction f with
  | zero =>
    intro k n τ b0 hk hk2 hn h1 h2 h3 h4 h5 h6
    obtain ⟨n, rfl⟩ : ∃ k, n = k + 1 := ⟨n - 1, by omega⟩
    obtain rfl : k = 7 := by omega
    unfold fX2_renew_7
    refine ⟨sI τ 82 0 (-J 1), b0, by simp (decide := true) (disch := omega) only [letS_d, grd_t, bnd_d, bnd1_d, bndX_d, bndX_e, gI_sI, gI_sL, gL_sL, gL_sI, upd_at, updL_at, J_lit, J_add, J_mul, J_sub, J_lt, J_le, J_inj, J_ne, ne_J, m_lt, lt_m, m_le, le_m, J_cl, J_inB, if_true, if_false, ite_true, ite_false, reduceIte, isZ0, isZ1, J_and31, shrJ0, shlJ0, gI_sA, gL_sA, Nat.reduceEqDiff, Nat.reduceAdd, Nat.reduceMul, Nat.reduceLT, Nat.reduceLeDiff], Fr.i (by decide), by simp (decide := true) (disch := omega) only [letS_d, grd_t, bnd_d, bnd1_d, bndX_d, bndX_e, gI_sI, gI_sL, gL_sL, gL_sI, upd_at, updL_at, J_lit, J_add, J_mul, J_sub, J_lt, J_le, J_inj, J_ne, ne_J, m_lt, lt_m, m_le, le_m, J_cl, J_inB, if_true, if_false, ite_true, ite_false, reduceIte, isZ0, isZ1, J_and31, shrJ0, shlJ0, gI_sA, gL_sA, Nat.reduceEqDiff, Nat.reduceAdd, Nat.reduceMul, Nat.reduceLT, Nat.reduceLeDiff]; exact h2, by simp (decide := true) (disch := omega) only [letS_d, grd_t, bnd_d, bnd1_d, bndX_d, bndX_e, gI_sI, gI_sL, gL_sL, gL_sI, upd_at, updL_at, J_lit, J_add, J_mul, J_sub, J_lt, J_le, J_inj, J_ne, ne_J, m_lt, lt_m, m_le, le_m, J_cl, J_inB, if_true, if_false, ite_true, ite_false, reduceIte, isZ0, isZ1, J_and31, shrJ0, shlJ0, gI_sA, gL_sA, Nat.reduceEqDiff, Nat.reduceAdd, Nat.reduceMul, Nat.reduceLT, Nat.reduceLeDiff], h3, by omega, h5, ?_⟩
    by_cases hb : b0 = 6
    · subst hb
      omega
    · exact h6 (b0 + 1) (by omega) (by omega)
  | succ f ih =>
    intro k n τ b0 hk hk2 hn h1 h2 h3 h4 h5 h6
    obtain ⟨n, rfl⟩ : ∃ k, n = k + 1 := ⟨n - 1, by omega⟩
    unfold fX2_renew_7
    have hk6 : ¬ 6 < k := by omega
    have hp : J 1 <<< J (k - 1) = J (2 ^ (k - 1)) := pow_J (by omega)
    have hpl : 2 ^ (k - 1) ≤ 64 := Nat.le_trans (Nat.pow_le_pow_right (n := 2) (by omega) (show k - 1 ≤ 6 by omega)) (by decide)
    by_cases hlt : s < 2 ^ (k - 1)
    · obtain ⟨τ', b, e1, e2⟩ := ih (k + 1) n τ b0 (by omega) (by omega) (by omega) h1 h2 h3 (by omega) h5 (fun m hm1 hm2 => by
        by_cases hmk : m = k
        · subst hmk
          exact hlt
        · exact h6 m hm1 (by omega))
      refine ⟨τ', b, ?_, e2⟩
      simp (decide := true) (disch := omega) only [letS_d, grd_t, bnd_d, bnd1_d, bndX_d, bndX_e, gI_sI, gI_sL, gL_sL, gL_sI, upd_at, updL_at, J_lit, J_add, J_mul, J_sub, J_lt, J_le, J_inj, J_ne, ne_J, m_lt, lt_m, m_le, le_m, J_cl, J_inB, if_true, if_false, ite_true, ite_false, reduceIte, isZ0, isZ1, J_and31, shrJ0, shlJ0, gI_sA, gL_sA, Nat.reduceEqDiff, Nat.reduceAdd, Nat.reduceMul, Nat.reduceLT, Nat.reduceLeDiff, hk6, hp, h1, hlt, fX2_renew_33]
      exact e1
    · obtain ⟨τ', b, e1, e2, e3⟩ := ih (k + 1) n (sI τ 81 0 (J k)) k (by omega) (by omega) (by omega) (by simp (decide := true) (disch := omega) only [letS_d, grd_t, bnd_d, bnd1_d, bndX_d, bndX_e, gI_sI, gI_sL, gL_sL, gL_sI, upd_at, updL_at, J_lit, J_add, J_mul, J_sub, J_lt, J_le, J_inj, J_ne, ne_J, m_lt, lt_m, m_le, le_m, J_cl, J_inB, if_true, if_false, ite_true, ite_false, reduceIte, isZ0, isZ1, J_and31, shrJ0, shlJ0, gI_sA, gL_sA, Nat.reduceEqDiff, Nat.reduceAdd, Nat.reduceMul, Nat.reduceLT, Nat.reduceLeDiff]; exact h1) (by simp (decide := true) (disch := omega) only [letS_d, grd_t, bnd_d, bnd1_d, bndX_d, bndX_e, gI_sI, gI_sL, gL_sL, gL_sI, upd_at, updL_at, J_lit, J_add, J_mul, J_sub, J_lt, J_le, J_inj, J_ne, ne_J, m_lt, lt_m, m_le, le_m, J_cl, J_inB, if_true, if_false, ite_true, ite_false, reduceIte, isZ0, isZ1, J_and31, shrJ0, shlJ0, gI_sA, gL_sA, Nat.reduceEqDiff, Nat.reduceAdd, Nat.reduceMul, Nat.reduceLT, Nat.reduceLeDiff]) (by omega) (by omega) (Or.inr (by omega)) (fun m hm1 hm2 => by omega)
      refine ⟨τ', b, ?_, (Fr.i (by decide)).tr e2, e3⟩
      simp (decide := true) (disch := omega) only [letS_d, grd_t, bnd_d, bnd1_d, bndX_d, bndX_e, gI_sI, gI_sL, gL_sL, gL_sI, upd_at, updL_at, J_lit, J_add, J_mul, J_sub, J_lt, J_le, J_inj, J_ne, ne_J, m_lt, lt_m, m_le, le_m, J_cl, J_inB, if_true, if_false, ite_true, ite_false, reduceIte, isZ0, isZ1, J_and31, shrJ0, shlJ0, gI_sA, gL_sA, Nat.reduceEqDiff, Nat.reduceAdd, Nat.reduceMul, Nat.reduceLT, Nat.reduceLeDiff, hk6, hp, h1, hlt, fX2_renew_33]
      exact e1
theorem cls_renew (hN : 100 ≤ N) (hs : s ≤ 40) {τ : St} (h : gI τ 71 0 = J s) : ∃ τ' b, fX2_renew N τ = some τ' ∧ Fr [81, 82] τ τ' ∧ gI τ' 81 0 = J b ∧ gI τ' 82 0 = -J 1 ∧ 1 ≤ b ∧ b ≤ 6 ∧ (b = 1 ∨ 2 ^ (b - 1) ≤ s) ∧ s < 2 ^ b := by
  obtain ⟨τ', b, e1, e2, e3⟩ := cls_ren (N := N) hs 5 2 N (sI τ 81 0 (J 1)) 1 (by omega) (by omega) (by omega) (by simp (decide := true) (disch := omega) only [letS_d, grd_t, bnd_d, bnd1_d, bndX_d, bndX_e, gI_sI, gI_sL, gL_sL, gL_sI, upd_at, updL_at, J_lit, J_add, J_mul, J_sub, J_lt, J_le, J_inj, J_ne, ne_J, m_lt, lt_m, m_le, le_m, J_cl, J_inB, if_true, if_false, ite_true, ite_false, reduceIte, isZ0, isZ1, J_and31, shrJ0, shlJ0, gI_sA, gL_sA, Nat.reduceEqDiff, Nat.reduceAdd, Nat.reduceMul, Nat.reduceLT, Nat.reduceLeDiff]; exact h) (by simp (decide := true) (disch := omega) only [letS_d, grd_t, bnd_d, bnd1_d, bndX_d, bndX_e, gI_sI, gI_sL, gL_sL, gL_sI, upd_at, updL_at, J_lit, J_add, J_mul, J_sub, J_lt, J_le, J_inj, J_ne, ne_J, m_lt, lt_m, m_le, le_m, J_cl, J_inB, if_true, if_false, ite_true, ite_false, reduceIte, isZ0, isZ1, J_and31, shrJ0, shlJ0, gI_sA, gL_sA, Nat.reduceEqDiff, Nat.reduceAdd, Nat.reduceMul, Nat.reduceLT, Nat.reduceLeDiff]) (by omega) (by omega) (Or.inl rfl) (fun m h1 h2 => by omega)
  refine ⟨τ', b, ?_, (Fr.i (by decide)).tr e2, e3⟩
  unfold fX2_renew
  simp (decide := true) (disch := omega) only [letS_d, grd_t, bnd_d, bnd1_d, bndX_d, bndX_e, gI_sI, gI_sL, gL_sL, gL_sI, upd_at, updL_at, J_lit, J_add, J_mul, J_sub, J_lt, J_le, J_inj, J_ne, ne_J, m_lt, lt_m, m_le, le_m, J_cl, J_inB, if_true, if_false, ite_true, ite_false, reduceIte, isZ0, isZ1, J_and31, shrJ0, shlJ0, gI_sA, gL_sA, Nat.reduceEqDiff, Nat.reduceAdd, Nat.reduceMul, Nat.reduceLT, Nat.reduceLeDiff]
  exact e1
theorem ref_bits0 {b : Nat} (hs : s ≤ 40) (hb : b ≤ 6) (h1 : b = 1 ∨ 2 ^ (b - 1) ≤ s) (h2 : s < 2 ^ b) : ∀ f k n (σ : St), k + f = b → 1 ≤ k → f < n → gI σ 40 0 = J s → gI σ 41 0 = J k → ∃ σ', fX9_count_5 N n σ = fX9_count_40 N N σ' (J (b + 3)) (J 0) ∧ Fr [41] σ σ' ∧ gI σ' 41 0 = J b := by
  intro f
  induction f with
  | zero =>
    intro k n σ hk hk1 hn h3 h4
    obtain ⟨n, rfl⟩ : ∃ k, n = k + 1 := ⟨n - 1, by omega⟩
    obtain rfl : k = b := by omega
    unfold fX9_count_5
    have hp : J 1 <<< J k = J (2 ^ k) := pow_J (by omega)
    have hpl : 2 ^ k ≤ 64 := Nat.le_trans (Nat.pow_le_pow_right (n := 2) (by omega) hb) (by decide)
    exact ⟨σ, by simp (decide := true) (disch := omega) only [letS_d, grd_t, bnd_d, bnd1_d, bndX_d, bndX_e, gI_sI, gI_sL, gL_sL, gL_sI, upd_at, updL_at, J_lit, J_add, J_mul, J_sub, J_lt, J_le, J_inj, J_ne, ne_J, m_lt, lt_m, m_le, le_m, J_cl, J_inB, if_true, if_false, ite_true, ite_false, reduceIte, isZ0, isZ1, J_and31, shrJ0, shlJ0, gI_sA, gL_sA, Nat.reduceEqDiff, Nat.reduceAdd, Nat.reduceMul, Nat.reduceLT, Nat.reduceLeDiff, h3, h4, hp, h2], Fr.rf, h4⟩
  | succ f ih =>
    intro k n σ hk hk1 hn h3 h4
    obtain ⟨n, rfl⟩ : ∃ k, n = k + 1 := ⟨n - 1, by omega⟩
    unfold fX9_count_5
    have hp : J 1 <<< J k = J (2 ^ k) := pow_J (by omega)
    have hpl : 2 ^ k ≤ 64 := Nat.le_trans (Nat.pow_le_pow_right (n := 2) (by omega) (show k ≤ 6 by omega)) (by decide)
    have hno : ¬ s < 2 ^ k := by
      rcases h1 with h1 | h1
      · omega
      · have := Nat.pow_le_pow_right (n := 2) (by omega) (show k ≤ b - 1 by omega)
        omega
    obtain ⟨σ', e1, e2, e3⟩ := ih (k + 1) n (sI σ 41 0 (J (k + 1))) (by omega) (by omega) (by omega) (by simp (decide := true) (disch := omega) only [letS_d, grd_t, bnd_d, bnd1_d, bndX_d, bndX_e, gI_sI, gI_sL, gL_sL, gL_sI, upd_at, updL_at, J_lit, J_add, J_mul, J_sub, J_lt, J_le, J_inj, J_ne, ne_J, m_lt, lt_m, m_le, le_m, J_cl, J_inB, if_true, if_false, ite_true, ite_false, reduceIte, isZ0, isZ1, J_and31, shrJ0, shlJ0, gI_sA, gL_sA, Nat.reduceEqDiff, Nat.reduceAdd, Nat.reduceMul, Nat.reduceLT, Nat.reduceLeDiff]; exact h3) (by simp (decide := true) (disch := omega) only [letS_d, grd_t, bnd_d, bnd1_d, bndX_d, bndX_e, gI_sI, gI_sL, gL_sL, gL_sI, upd_at, updL_at, J_lit, J_add, J_mul, J_sub, J_lt, J_le, J_inj, J_ne, ne_J, m_lt, lt_m, m_le, le_m, J_cl, J_inB, if_true, if_false, ite_true, ite_false, reduceIte, isZ0, isZ1, J_and31, shrJ0, shlJ0, gI_sA, gL_sA, Nat.reduceEqDiff, Nat.reduceAdd, Nat.reduceMul, Nat.reduceLT, Nat.reduceLeDiff])
    exact ⟨σ', by simp (decide := true) (disch := omega) only [letS_d, grd_t, bnd_d, bnd1_d, bndX_d, bndX_e, gI_sI, gI_sL, gL_sL, gL_sI, upd_at, updL_at, J_lit, J_add, J_mul, J_sub, J_lt, J_le, J_inj, J_ne, ne_J, m_lt, lt_m, m_le, le_m, J_cl, J_inB, if_true, if_false, ite_true, ite_false, reduceIte, isZ0, isZ1, J_and31, shrJ0, shlJ0, gI_sA, gL_sA, Nat.reduceEqDiff, Nat.reduceAdd, Nat.reduceMul, Nat.reduceLT, Nat.reduceLeDiff, h3, h4, hp, hno]; exact e1, (Fr.i (by decide)).tr e2, e3⟩
/-- bits and gates of a monitor, on both sides -/
theorem both_circuit (hN : 5000 ≤ N) {T : Nat → Int32} {τ σ : St} (hs : s ≤ 40) (h1 : gI τ 71 0 = J s) (h2 : gI σ 40 0 = J s) (hT : ∀ i, i < 8 * s → gI τ 72 i = T i ∧ Mx s (T i)) (hT' : ∀ i, i < 8 * s → gI σ 45 i = T i) : ∃ b τ' σ', fX2_renew N τ = some τ' ∧ fX9_count N σ = some σ' ∧ Fr [81, 82] τ τ' ∧ Fr [41, 42, 46, 47, 48] σ σ' ∧ gI τ' 81 0 = J b ∧ gI σ' 41 0 = J b ∧ 1 ≤ b ∧ b ≤ 6 ∧ s < 2 ^ b ∧ IvG N τ' σ' := by
  obtain ⟨τ1, b, a1, a2, a3, a4, a5, a6, a7, a8⟩ := cls_renew (N := N) (by omega) hs h1
  obtain ⟨σ1, b1, b2, b3⟩ := ref_bits0 (N := N) hs a6 a7 a8 (b - 1) 1 N (sI σ 41 0 (J 1)) (by omega) (by omega) (by omega) (by simp (decide := true) (disch := omega) only [letS_d, grd_t, bnd_d, bnd1_d, bndX_d, bndX_e, gI_sI, gI_sL, gL_sL, gL_sI, upd_at, updL_at, J_lit, J_add, J_mul, J_sub, J_lt, J_le, J_inj, J_ne, ne_J, m_lt, lt_m, m_le, le_m, J_cl, J_inB, if_true, if_false, ite_true, ite_false, reduceIte, isZ0, isZ1, J_and31, shrJ0, shlJ0, gI_sA, gL_sA, Nat.reduceEqDiff, Nat.reduceAdd, Nat.reduceMul, Nat.reduceLT, Nat.reduceLeDiff]; exact h2) (by simp (decide := true) (disch := omega) only [letS_d, grd_t, bnd_d, bnd1_d, bndX_d, bndX_e, gI_sI, gI_sL, gL_sL, gL_sI, upd_at, updL_at, J_lit, J_add, J_mul, J_sub, J_lt, J_le, J_inj, J_ne, ne_J, m_lt, lt_m, m_le, le_m, J_cl, J_inB, if_true, if_false, ite_true, ite_false, reduceIte, isZ0, isZ1, J_and31, shrJ0, shlJ0, gI_sA, gL_sA, Nat.reduceEqDiff, Nat.reduceAdd, Nat.reduceMul, Nat.reduceLT, Nat.reduceLeDiff])
  have hf : Fr [41] σ σ1 := (Fr.i (by decide)).tr b2
  have hR : Gr s b T σ1 := ⟨hs, a5, a6, by rw [hf.gi (by decide)]; exact h2, b3, fun i hi => ⟨by rw [hf.gi (by decide)]; exact hT' i hi, (hT i hi).2⟩⟩
  have hC : ∀ τ2, gI τ2 71 = gI τ1 71 → gI τ2 72 = gI τ1 72 → gI τ2 81 = gI τ1 81 → Gc s b T τ2 := fun τ2 e1 e2 e3 => ⟨hs, a5, a6, by rw [e1, a2.gi (by decide)]; exact h1, by rw [e3]; exact a3, fun i hi => by rw [e2, a2.gi (by decide)]; exact hT i hi⟩
  obtain ⟨g, _, σ2, c1, c2, c3, c4, c5, c6⟩ := both_gates (N := N) hN (hC τ1 rfl rfl rfl) hR
  refine ⟨b, τ1, σ2, a1, ?_, a2, (hf.mono (by decide)).tr (c6.mono (by decide)), a3, by rw [c6.gi (by decide)]; exact b3, a5, a6, a8, g, by omega, c4, Or.inr ⟨a4, fun τ2 e1 e2 e3 => ?_⟩⟩
  · unfold fX9_count
    simp (decide := true) (disch := omega) only [letS_d, grd_t, bnd_d, bnd1_d, bndX_d, bndX_e, gI_sI, gI_sL, gL_sL, gL_sI, upd_at, updL_at, J_lit, J_add, J_mul, J_sub, J_lt, J_le, J_inj, J_ne, ne_J, m_lt, lt_m, m_le, le_m, J_cl, J_inB, if_true, if_false, ite_true, ite_false, reduceIte, isZ0, isZ1, J_and31, shrJ0, shlJ0, gI_sA, gL_sA, Nat.reduceEqDiff, Nat.reduceAdd, Nat.reduceMul, Nat.reduceLT, Nat.reduceLeDiff]
    exact b1.trans c3
  · obtain ⟨g', τ3, σ3, d1, d2, d3, d4, d5, d6⟩ := both_gates (N := N) hN (hC τ2 e1 e2 e3) hR
    rw [c3] at d3
    have hσ : σ2 = σ3 := Option.some.inj d3
    subst hσ
    rw [c4, J_inj (by omega) (by omega)] at d4
    subst d4
    exact ⟨τ3, d2, d5⟩
end BITS
