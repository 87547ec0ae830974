/-! exploring -/
section EX
variable {N k Q : Nat} {A : Nat → Nat → Nat → Bool} {im : Nat → Nat → Nat} {π πi : Nat → Nat}
/-- the leads noted so far -/
def Lp (k : Nat) (im : Nat → Nat → Nat) (b l c : Nat) (E : Nat → Nat → Bool) (τ σ : St) : Prop := ∀ i l', l' < 8 → (i < b ∨ (i = b ∧ l' < l)) → ∃ t, t < c ∧ gI τ 62 (8 * i + l') = J t ∧ gI σ 36 (8 * i + l') = J t ∧ ∀ s, s < 2 ^ k → E t s = E i (im l' s)
theorem both_letters (hN : 1000 ≤ N) (hR : Rel k Q A im π πi) {b m : Nat} (k45 : St → Int32 → Option (Int32 × St)) (k126 : St → Int32 → Option (Int32 × St)) : ∀ f l n n' (τ σ : St) c E, l + f = 8 → f < n → f < n' → b < c → Cn k Q A im πi c E τ σ → Lss Q (fun s => E b (pm πi k s)) m τ → Lp k im b l c E τ σ → (∃ τ' σ', fX3_explore_66 N k45 n τ (J b) (J l) = some (J 0, τ') ∧ fX9_gather_136 N k126 n' σ (J b) (J l) = some (J 0, σ') ∧ Fr [61, 62, 66] τ τ' ∧ Fr [34, 35, 36] σ σ') ∨ (∃ c' E' τ' σ', fX3_explore_66 N k45 n τ (J b) (J l) = k45 τ' (J (b + 1)) ∧ fX9_gather_136 N k126 n' σ (J b) (J l) = k126 σ' (J (b + 1)) ∧ Fr [61, 62, 66] τ τ' ∧ Fr [34, 35, 36] σ σ' ∧ c ≤ c' ∧ Cn k Q A im πi c' E' τ' σ' ∧ (∀ i, i < c → E' i = E i) ∧ Lp k im (b + 1) 0 c' E' τ' σ') := by
  intro f
  induction f with
  | zero =>
    intro l n n' τ σ c E hl hn hn' hb hC hL hP
    obtain ⟨n, rfl⟩ : ∃ k, n = k + 1 := ⟨n - 1, by omega⟩
    obtain ⟨n', rfl⟩ : ∃ k, n' = k + 1 := ⟨n' - 1, by omega⟩
    obtain rfl : l = 8 := by omega
    have hc := hC.1.2
    refine Or.inr ⟨c, E, τ, σ, ?_, ?_, Fr.rf, Fr.rf, Nat.le_refl _, hC, fun _ _ => rfl, fun i l' h1 h2 => hP i l' h1 (by omega)⟩
    · unfold fX3_explore_66
      simp (decide := true) (disch := omega) only [letS_d, grd_t, bnd_d, bnd1_d, bndX_d, bndX_e, gI_sI, gI_sL, gL_sL, gL_sI, upd_at, updL_at, J_lit, J_add, J_mul, J_sub, J_lt, J_le, J_inj, J_ne, ne_J, m_lt, lt_m, m_le, le_m, J_cl, J_inB, if_true, if_false, ite_true, ite_false, reduceIte, isZ0, isZ1, J_and31, shrJ0, shlJ0, gI_sA, gL_sA, Nat.reduceEqDiff, Nat.reduceAdd, Nat.reduceMul, Nat.reduceLT, Nat.reduceLeDiff, Nat.le_refl]
    · unfold fX9_gather_136
      simp (decide := true) (disch := omega) only [letS_d, grd_t, bnd_d, bnd1_d, bndX_d, bndX_e, gI_sI, gI_sL, gL_sL, gL_sI, upd_at, updL_at, J_lit, J_add, J_mul, J_sub, J_lt, J_le, J_inj, J_ne, ne_J, m_lt, lt_m, m_le, le_m, J_cl, J_inB, if_true, if_false, ite_true, ite_false, reduceIte, isZ0, isZ1, J_and31, shrJ0, shlJ0, gI_sA, gL_sA, Nat.reduceEqDiff, Nat.reduceAdd, Nat.reduceMul, Nat.reduceLT, Nat.reduceLeDiff, Nat.le_refl]
  | succ f ih =>
    intro l n n' τ σ c E hl hn hn' hb hC hL hP
    obtain ⟨n, rfl⟩ : ∃ k, n = k + 1 := ⟨n - 1, by omega⟩
    obtain ⟨n', rfl⟩ : ∃ k, n' = k + 1 := ⟨n' - 1, by omega⟩
    have hc := hC.1.2
    have h8 : ¬ 8 ≤ l := by omega
    have e8 : b * 8 = 8 * b := Nat.mul_comm _ _
    obtain ⟨τ1, σ1, t, a1, a2, a3, a4, a5⟩ := both_after hN hR hC hb (show l < 8 by omega) hL
    rcases a5 with ⟨b1, b2, b3, b4⟩ | ⟨b1, b2, b3, E', b4, b5, b6, b7⟩
    · left
      refine ⟨τ1, sI σ1 36 (8 * b + l) (-J 1), ?_, ?_, a4.mono (by decide), (b4.mono (by decide)).tr (Fr.i (by decide))⟩
      · have : ¬ t < 40 := by omega
        rw [show fX3_explore_66 N k45 (n + 1) τ (J b) (J l) = _ from by unfold fX3_explore_66; rfl]
        simp (decide := true) (disch := omega) only [letS_d, grd_t, bnd_d, bnd1_d, bndX_d, bndX_e, gI_sI, gI_sL, gL_sL, gL_sI, upd_at, updL_at, J_lit, J_add, J_mul, J_sub, J_lt, J_le, J_inj, J_ne, ne_J, m_lt, lt_m, m_le, le_m, J_cl, J_inB, if_true, if_false, ite_true, ite_false, reduceIte, isZ0, isZ1, J_and31, shrJ0, shlJ0, gI_sA, gL_sA, Nat.reduceEqDiff, Nat.reduceAdd, Nat.reduceMul, Nat.reduceLT, Nat.reduceLeDiff, h8, a1, a2, this]
      · rw [show fX9_gather_136 N k126 (n' + 1) σ (J b) (J l) = _ from by unfold fX9_gather_136; rfl]
        simp (decide := true) (disch := omega) only [letS_d, grd_t, bnd_d, bnd1_d, bndX_d, bndX_e, gI_sI, gI_sL, gL_sL, gL_sI, upd_at, updL_at, J_lit, J_add, J_mul, J_sub, J_lt, J_le, J_inj, J_ne, ne_J, m_lt, lt_m, m_le, le_m, J_cl, J_inB, if_true, if_false, ite_true, ite_false, reduceIte, isZ0, isZ1, J_and31, shrJ0, shlJ0, gI_sA, gL_sA, Nat.reduceEqDiff, Nat.reduceAdd, Nat.reduceMul, Nat.reduceLT, Nat.reduceLeDiff, h8, b3, le_mz]
    · have h66 : gI τ1 66 0 = J c := by rw [a4.gi (by decide)]; exact hC.2.1.1
      have hmx : (if c < t + 1 then J (t + 1) else J c) = J (if t = c then c + 1 else c) := by
        by_cases htc : t = c
        · rw [if_pos (by omega), if_pos htc, htc]
        · rw [if_neg (by omega), if_neg htc]
      generalize hc' : (if t = c then c + 1 else c) = c' at *
      have hcc : c ≤ c' := by
        rw [← hc']
        split <;> omega
      have hc40' := b4.1.2
      have fτ : Fr [61, 62, 66] τ (sI (sI τ1 62 (8 * b + l) (J t)) 66 0 (J c')) := ((a4.mono (by decide)).tr (Fr.i (by decide))).tr (Fr.i (by decide))
      have fσ : Fr [34, 35, 36] σ (sI σ1 36 (8 * b + l) (J t)) := (b3.mono (by decide)).tr (Fr.i (by decide))
      have hC1 : Cn k Q A im πi c' E' (sI (sI τ1 62 (8 * b + l) (J t)) 66 0 (J c')) (sI σ1 36 (8 * b + l) (J t)) := by
        obtain ⟨q1, ⟨q2, q3, q4⟩, q5, q6, q7, q8, q9⟩ := b4
        exact ⟨q1, ⟨by simp (decide := true) (disch := omega) only [letS_d, grd_t, bnd_d, bnd1_d, bndX_d, bndX_e, gI_sI, gI_sL, gL_sL, gL_sI, upd_at, updL_at, J_lit, J_add, J_mul, J_sub, J_lt, J_le, J_inj, J_ne, ne_J, m_lt, lt_m, m_le, le_m, J_cl, J_inB, if_true, if_false, ite_true, ite_false, reduceIte, isZ0, isZ1, J_and31, shrJ0, shlJ0, gI_sA, gL_sA, Nat.reduceEqDiff, Nat.reduceAdd, Nat.reduceMul, Nat.reduceLT, Nat.reduceLeDiff], by simp (decide := true) (disch := omega) only [letS_d, grd_t, bnd_d, bnd1_d, bndX_d, bndX_e, gI_sI, gI_sL, gL_sL, gL_sI, upd_at, updL_at, J_lit, J_add, J_mul, J_sub, J_lt, J_le, J_inj, J_ne, ne_J, m_lt, lt_m, m_le, le_m, J_cl, J_inB, if_true, if_false, ite_true, ite_false, reduceIte, isZ0, isZ1, J_and31, shrJ0, shlJ0, gI_sA, gL_sA, Nat.reduceEqDiff, Nat.reduceAdd, Nat.reduceMul, Nat.reduceLT, Nat.reduceLeDiff]; exact q3, by simp (decide := true) (disch := omega) only [letS_d, grd_t, bnd_d, bnd1_d, bndX_d, bndX_e, gI_sI, gI_sL, gL_sL, gL_sI, upd_at, updL_at, J_lit, J_add, J_mul, J_sub, J_lt, J_le, J_inj, J_ne, ne_J, m_lt, lt_m, m_le, le_m, J_cl, J_inB, if_true, if_false, ite_true, ite_false, reduceIte, isZ0, isZ1, J_and31, shrJ0, shlJ0, gI_sA, gL_sA, Nat.reduceEqDiff, Nat.reduceAdd, Nat.reduceMul, Nat.reduceLT, Nat.reduceLeDiff]; rw [a4.gi (by decide)]; exact hC.2.1.2.2⟩, hC.2.2.1.fr fτ (by decide), hC.2.2.2.1.fr fσ (by decide), q7, q8, q9⟩
      have hP1 : Lp k im b (l + 1) c' E' (sI (sI τ1 62 (8 * b + l) (J t)) 66 0 (J c')) (sI σ1 36 (8 * b + l) (J t)) := by
        intro i l' h1 h2
        by_cases hil : i = b ∧ l' = l
        · obtain ⟨rfl, rfl⟩ := hil
          exact ⟨t, b6, by simp (decide := true) (disch := omega) only [letS_d, grd_t, bnd_d, bnd1_d, bndX_d, bndX_e, gI_sI, gI_sL, gL_sL, gL_sI, upd_at, updL_at, J_lit, J_add, J_mul, J_sub, J_lt, J_le, J_inj, J_ne, ne_J, m_lt, lt_m, m_le, le_m, J_cl, J_inB, if_true, if_false, ite_true, ite_false, reduceIte, isZ0, isZ1, J_and31, shrJ0, shlJ0, gI_sA, gL_sA, Nat.reduceEqDiff, Nat.reduceAdd, Nat.reduceMul, Nat.reduceLT, Nat.reduceLeDiff], by simp (decide := true) (disch := omega) only [letS_d, grd_t, bnd_d, bnd1_d, bndX_d, bndX_e, gI_sI, gI_sL, gL_sL, gL_sI, upd_at, updL_at, J_lit, J_add, J_mul, J_sub, J_lt, J_le, J_inj, J_ne, ne_J, m_lt, lt_m, m_le, le_m, J_cl, J_inB, if_true, if_false, ite_true, ite_false, reduceIte, isZ0, isZ1, J_and31, shrJ0, shlJ0, gI_sA, gL_sA, Nat.reduceEqDiff, Nat.reduceAdd, Nat.reduceMul, Nat.reduceLT, Nat.reduceLeDiff], fun s hs => by rw [b7 s hs, b5 i hb]⟩
        · obtain ⟨t', t1, t2, t3, t4⟩ := hP i l' h1 (by omega)
          have hne : ¬ 8 * i + l' = 8 * b + l := by omega
          refine ⟨t', by omega, ?_, ?_, fun s hs => by rw [b5 t' t1, b5 i (by omega)]; exact t4 s hs⟩
          · simp (decide := true) (disch := omega) only [letS_d, grd_t, bnd_d, bnd1_d, bndX_d, bndX_e, gI_sI, gI_sL, gL_sL, gL_sI, upd_at, updL_at, J_lit, J_add, J_mul, J_sub, J_lt, J_le, J_inj, J_ne, ne_J, m_lt, lt_m, m_le, le_m, J_cl, J_inB, if_true, if_false, ite_true, ite_false, reduceIte, isZ0, isZ1, J_and31, shrJ0, shlJ0, gI_sA, gL_sA, Nat.reduceEqDiff, Nat.reduceAdd, Nat.reduceMul, Nat.reduceLT, Nat.reduceLeDiff, hne]
            rw [a4.gi (by decide)]
            exact t2
          · simp (decide := true) (disch := omega) only [letS_d, grd_t, bnd_d, bnd1_d, bndX_d, bndX_e, gI_sI, gI_sL, gL_sL, gL_sI, upd_at, updL_at, J_lit, J_add, J_mul, J_sub, J_lt, J_le, J_inj, J_ne, ne_J, m_lt, lt_m, m_le, le_m, J_cl, J_inB, if_true, if_false, ite_true, ite_false, reduceIte, isZ0, isZ1, J_and31, shrJ0, shlJ0, gI_sA, gL_sA, Nat.reduceEqDiff, Nat.reduceAdd, Nat.reduceMul, Nat.reduceLT, Nat.reduceLeDiff, hne]
            rw [b3.gi (by decide)]
            exact t3
      have hL1 : Lss Q (fun s => E' b (pm πi k s)) m (sI (sI τ1 62 (8 * b + l) (J t)) 66 0 (J c')) := by
        rw [b5 b hb]
        exact hL.fr fτ (by decide)
      have h0 : 0 ≤ t := Nat.zero_le _
      have heq1 : fX3_explore_66 N k45 (n + 1) τ (J b) (J l) = fX3_explore_66 N k45 n (sI (sI τ1 62 (8 * b + l) (J t)) 66 0 (J c')) (J b) (J (l + 1)) := by
        rw [show fX3_explore_66 N k45 (n + 1) τ (J b) (J l) = _ from by unfold fX3_explore_66; rfl]
        simp (decide := true) (disch := omega) only [letS_d, grd_t, bnd_d, bnd1_d, bndX_d, bndX_e, gI_sI, gI_sL, gL_sL, gL_sI, upd_at, updL_at, J_lit, J_add, J_mul, J_sub, J_lt, J_le, J_inj, J_ne, ne_J, m_lt, lt_m, m_le, le_m, J_cl, J_inB, if_true, if_false, ite_true, ite_false, reduceIte, isZ0, isZ1, J_and31, shrJ0, shlJ0, gI_sA, gL_sA, Nat.reduceEqDiff, Nat.reduceAdd, Nat.reduceMul, Nat.reduceLT, Nat.reduceLeDiff, h8, a1, a2, b1, e8, h66, hmx]
      have heq2 : fX9_gather_136 N k126 (n' + 1) σ (J b) (J l) = fX9_gather_136 N k126 n' (sI σ1 36 (8 * b + l) (J t)) (J b) (J (l + 1)) := by
        rw [show fX9_gather_136 N k126 (n' + 1) σ (J b) (J l) = _ from by unfold fX9_gather_136; rfl]
        simp (decide := true) (disch := omega) only [letS_d, grd_t, bnd_d, bnd1_d, bndX_d, bndX_e, gI_sI, gI_sL, gL_sL, gL_sI, upd_at, updL_at, J_lit, J_add, J_mul, J_sub, J_lt, J_le, J_inj, J_ne, ne_J, m_lt, lt_m, m_le, le_m, J_cl, J_inB, if_true, if_false, ite_true, ite_false, reduceIte, isZ0, isZ1, J_and31, shrJ0, shlJ0, gI_sA, gL_sA, Nat.reduceEqDiff, Nat.reduceAdd, Nat.reduceMul, Nat.reduceLT, Nat.reduceLeDiff, h8, b2, h0]
      rw [heq1, heq2]
      rcases ih (l + 1) n n' _ _ c' E' (by omega) (by omega) (by omega) (by omega) hC1 hL1 hP1 with ⟨τ2, σ2, d1, d2, d3, d4⟩ | ⟨c2, E2, τ2, σ2, d1, d2, d3, d4, d5, d6, d7, d8⟩
      · exact Or.inl ⟨τ2, σ2, d1, d2, fτ.tr d3, fσ.tr d4⟩
      · exact Or.inr ⟨c2, E2, τ2, σ2, d1, d2, fτ.tr d3, fσ.tr d4, by omega, d6, fun i hi => by rw [d7 i (by omega), b5 i hi], d8⟩
theorem both_explore (hN : 1000 ≤ N) (hR : Rel k Q A im π πi) : ∀ f b n n' (τ σ : St) c E, b + f = 40 → f < n → f < n' → b ≤ c → Cn k Q A im πi c E τ σ → Lp k im b 0 c E τ σ → (∃ τ' σ', fX3_explore_45 N n τ (J b) = some (J 0, τ') ∧ fX9_gather_126 N n' σ (J b) = some (J 0, σ') ∧ Fr [61, 62, 63, 64, 66] τ τ' ∧ Fr [34, 35, 36] σ σ') ∨ (∃ c' E' τ' σ', fX3_explore_45 N n τ (J b) = some (J 1, τ') ∧ fX9_gather_126 N n' σ (J b) = some (J 1, σ') ∧ Fr [61, 62, 63, 64, 66] τ τ' ∧ Fr [34, 35, 36] σ σ' ∧ Cn k Q A im πi c' E' τ' σ' ∧ Lp k im c' 0 c' E' τ' σ') := by
  intro f
  induction f with
  | zero =>
    intro b n n' τ σ c E hb hn hn' hbc hC hP
    obtain ⟨n, rfl⟩ : ∃ k, n = k + 1 := ⟨n - 1, by omega⟩
    obtain ⟨n', rfl⟩ : ∃ k, n' = k + 1 := ⟨n' - 1, by omega⟩
    have hc := hC.1.2
    obtain rfl : b = c := by omega
    obtain rfl : b = 40 := by omega
    refine Or.inr ⟨40, E, τ, σ, ?_, ?_, Fr.rf, Fr.rf, hC, hP⟩
    · unfold fX3_explore_45
      simp (decide := true) (disch := omega) only [letS_d, grd_t, bnd_d, bnd1_d, bndX_d, bndX_e, gI_sI, gI_sL, gL_sL, gL_sI, upd_at, updL_at, J_lit, J_add, J_mul, J_sub, J_lt, J_le, J_inj, J_ne, ne_J, m_lt, lt_m, m_le, le_m, J_cl, J_inB, if_true, if_false, ite_true, ite_false, reduceIte, isZ0, isZ1, J_and31, shrJ0, shlJ0, gI_sA, gL_sA, Nat.reduceEqDiff, Nat.reduceAdd, Nat.reduceMul, Nat.reduceLT, Nat.reduceLeDiff, hC.2.1.1, Nat.le_refl, fX3_explore_132]
    · unfold fX9_gather_126
      simp (decide := true) (disch := omega) only [letS_d, grd_t, bnd_d, bnd1_d, bndX_d, bndX_e, gI_sI, gI_sL, gL_sL, gL_sI, upd_at, updL_at, J_lit, J_add, J_mul, J_sub, J_lt, J_le, J_inj, J_ne, ne_J, m_lt, lt_m, m_le, le_m, J_cl, J_inB, if_true, if_false, ite_true, ite_false, reduceIte, isZ0, isZ1, J_and31, shrJ0, shlJ0, gI_sA, gL_sA, Nat.reduceEqDiff, Nat.reduceAdd, Nat.reduceMul, Nat.reduceLT, Nat.reduceLeDiff, hC.2.1.2.1, Nat.le_refl]
  | succ f ih =>
    intro b n n' τ σ c E hb hn hn' hbc hC hP
    obtain ⟨n, rfl⟩ : ∃ k, n = k + 1 := ⟨n - 1, by omega⟩
    obtain ⟨n', rfl⟩ : ∃ k, n' = k + 1 := ⟨n' - 1, by omega⟩
    have hc := hC.1.2
    obtain ⟨⟨k1, k2, k3, k4⟩, r1, r2, r3, r4, r5⟩ := id hR
    have hQ8 : 2 ^ Q ≤ 8 := Nat.le_trans (Nat.pow_le_pow_right (n := 2) (by omega) k3) (by decide)
    by_cases hlt : b < c
    · have h65 := hC.2.1.2.2
      obtain ⟨m, τ1, a1, a2, a3, a4, a5, a6, a7, a8⟩ := cls_sets (N := N) (by omega) (r := b) (D := fun s => E b (pm πi k s)) (by omega) k3 (2 ^ Q) 0 N 0 (sI τ 64 0 (J 0)) (by omega) (by omega) (by simp (decide := true) (disch := omega) only [letS_d, grd_t, bnd_d, bnd1_d, bndX_d, bndX_e, gI_sI, gI_sL, gL_sL, gL_sI, upd_at, updL_at, J_lit, J_add, J_mul, J_sub, J_lt, J_le, J_inj, J_ne, ne_J, m_lt, lt_m, m_le, le_m, J_cl, J_inB, if_true, if_false, ite_true, ite_false, reduceIte, isZ0, isZ1, J_and31, shrJ0, shlJ0, gI_sA, gL_sA, Nat.reduceEqDiff, Nat.reduceAdd, Nat.reduceMul, Nat.reduceLT, Nat.reduceLeDiff]; exact h65) (fun s hs => hC.2.2.2.2.2.1 b s hlt hs) (by simp (decide := true) (disch := omega) only [letS_d, grd_t, bnd_d, bnd1_d, bndX_d, bndX_e, gI_sI, gI_sL, gL_sL, gL_sI, upd_at, updL_at, J_lit, J_add, J_mul, J_sub, J_lt, J_le, J_inj, J_ne, ne_J, m_lt, lt_m, m_le, le_m, J_cl, J_inB, if_true, if_false, ite_true, ite_false, reduceIte, isZ0, isZ1, J_and31, shrJ0, shlJ0, gI_sA, gL_sA, Nat.reduceEqDiff, Nat.reduceAdd, Nat.reduceMul, Nat.reduceLT, Nat.reduceLeDiff]) (by omega)
      have f1 : Fr [63, 64] τ τ1 := (Fr.i (by decide)).tr a2
      have hL1 : Lss Q (fun s => E b (pm πi k s)) m τ1 := ⟨a3, a5, fun i hi => a7 i (by omega) hi, fun u hu h => a8 u (by omega) hu h⟩
      have hC1 : Cn k Q A im πi c E τ1 σ := hC.fr (S' := []) f1 Fr.rf (by decide) (by decide)
      have hP1 : Lp k im b 0 c E τ1 σ := fun i l' h1 h2 => by
        rw [f1.gi (by decide)]
        exact hP i l' h1 h2
      have n1 : ¬ c ≤ b := by omega
      have n2 : ¬ 40 ≤ b := by omega
      have e1 : fX3_explore_45 N (n + 1) τ (J b) = fX3_explore_66 N (fX3_explore_45 N n) N τ1 (J b) (J 0) := by
        have hfl : fX3_findLeastSets N τ (J b) = some τ1 := by
          unfold fX3_findLeastSets
          simp (decide := true) (disch := omega) only [letS_d, grd_t, bnd_d, bnd1_d, bndX_d, bndX_e, gI_sI, gI_sL, gL_sL, gL_sI, upd_at, updL_at, J_lit, J_add, J_mul, J_sub, J_lt, J_le, J_inj, J_ne, ne_J, m_lt, lt_m, m_le, le_m, J_cl, J_inB, if_true, if_false, ite_true, ite_false, reduceIte, isZ0, isZ1, J_and31, shrJ0, shlJ0, gI_sA, gL_sA, Nat.reduceEqDiff, Nat.reduceAdd, Nat.reduceMul, Nat.reduceLT, Nat.reduceLeDiff]
          exact a1
        rw [show fX3_explore_45 N (n + 1) τ (J b) = _ from by unfold fX3_explore_45; rfl]
        simp (decide := true) (disch := omega) only [letS_d, grd_t, bnd_d, bnd1_d, bndX_d, bndX_e, gI_sI, gI_sL, gL_sL, gL_sI, upd_at, updL_at, J_lit, J_add, J_mul, J_sub, J_lt, J_le, J_inj, J_ne, ne_J, m_lt, lt_m, m_le, le_m, J_cl, J_inB, if_true, if_false, ite_true, ite_false, reduceIte, isZ0, isZ1, J_and31, shrJ0, shlJ0, gI_sA, gL_sA, Nat.reduceEqDiff, Nat.reduceAdd, Nat.reduceMul, Nat.reduceLT, Nat.reduceLeDiff, hC.2.1.1, n1, n2, hfl]
      have e2 : fX9_gather_126 N (n' + 1) σ (J b) = fX9_gather_136 N (fX9_gather_126 N n') N σ (J b) (J 0) := by
        rw [show fX9_gather_126 N (n' + 1) σ (J b) = _ from by unfold fX9_gather_126; rfl]
        simp (decide := true) (disch := omega) only [letS_d, grd_t, bnd_d, bnd1_d, bndX_d, bndX_e, gI_sI, gI_sL, gL_sL, gL_sI, upd_at, updL_at, J_lit, J_add, J_mul, J_sub, J_lt, J_le, J_inj, J_ne, ne_J, m_lt, lt_m, m_le, le_m, J_cl, J_inB, if_true, if_false, ite_true, ite_false, reduceIte, isZ0, isZ1, J_and31, shrJ0, shlJ0, gI_sA, gL_sA, Nat.reduceEqDiff, Nat.reduceAdd, Nat.reduceMul, Nat.reduceLT, Nat.reduceLeDiff, hC.2.1.2.1, n1]
      rw [e1, e2]
      rcases both_letters (N := N) hN hR (b := b) (m := m) (fX3_explore_45 N n) (fX9_gather_126 N n') 8 0 N N τ1 σ c E (by omega) (by omega) (by omega) hlt hC1 hL1 hP1 with ⟨τ2, σ2, d1, d2, d3, d4⟩ | ⟨c2, E2, τ2, σ2, d1, d2, d3, d4, d5, d6, d7, d8⟩
      · exact Or.inl ⟨τ2, σ2, d1, d2, (f1.mono (by decide)).tr (d3.mono (by decide)), d4⟩
      · rw [d1, d2]
        rcases ih (b + 1) n n' τ2 σ2 c2 E2 (by omega) (by omega) (by omega) (by omega) d6 d8 with ⟨τ3, σ3, g1, g2, g3, g4⟩ | ⟨c3, E3, τ3, σ3, g1, g2, g3, g4, g5, g6⟩
        · exact Or.inl ⟨τ3, σ3, g1, g2, ((f1.mono (by decide)).tr (d3.mono (by decide))).tr g3, d4.tr g4⟩
        · exact Or.inr ⟨c3, E3, τ3, σ3, g1, g2, ((f1.mono (by decide)).tr (d3.mono (by decide))).tr g3, d4.tr g4, g5, g6⟩
    · obtain rfl : b = c := by omega
      refine Or.inr ⟨b, E, τ, σ, ?_, ?_, Fr.rf, Fr.rf, hC, hP⟩
      · unfold fX3_explore_45
        simp (decide := true) (disch := omega) only [letS_d, grd_t, bnd_d, bnd1_d, bndX_d, bndX_e, gI_sI, gI_sL, gL_sL, gL_sI, upd_at, updL_at, J_lit, J_add, J_mul, J_sub, J_lt, J_le, J_inj, J_ne, ne_J, m_lt, lt_m, m_le, le_m, J_cl, J_inB, if_true, if_false, ite_true, ite_false, reduceIte, isZ0, isZ1, J_and31, shrJ0, shlJ0, gI_sA, gL_sA, Nat.reduceEqDiff, Nat.reduceAdd, Nat.reduceMul, Nat.reduceLT, Nat.reduceLeDiff, hC.2.1.1, Nat.le_refl, fX3_explore_132]
      · unfold fX9_gather_126
        simp (decide := true) (disch := omega) only [letS_d, grd_t, bnd_d, bnd1_d, bndX_d, bndX_e, gI_sI, gI_sL, gL_sL, gL_sI, upd_at, updL_at, J_lit, J_add, J_mul, J_sub, J_lt, J_le, J_inj, J_ne, ne_J, m_lt, lt_m, m_le, le_m, J_cl, J_inB, if_true, if_false, ite_true, ite_false, reduceIte, isZ0, isZ1, J_and31, shrJ0, shlJ0, gI_sA, gL_sA, Nat.reduceEqDiff, Nat.reduceAdd, Nat.reduceMul, Nat.reduceLT, Nat.reduceLeDiff, hC.2.1.2.1, Nat.le_refl]
/-- the sets with an obligation, on the class's side -/
theorem cls_with {τ : St} {o w : Nat} (ho : o < 9) (hw : w < 8) : ∃ x, fX0_with N τ (J o) (J w) = some (x, τ) ∧ ∀ j, j < 64 → bl x j = (64 * w + j).testBit o := by
  unfold fX0_with
  by_cases h6 : 6 ≤ o
  · have hb := J_bits (n := w) (o - 6) (by omega)
    have hz := has_J0 (J w) (k := o - 6) (by omega)
    cases hx : w.testBit (o - 6)
    · refine ⟨0, ?_, fun j hj => ?_⟩
      · rw [hx] at hb
        simp (decide := true) (disch := omega) only [letS_d, grd_t, bnd_d, bnd1_d, bndX_d, bndX_e, gI_sI, gI_sL, gL_sL, gL_sI, upd_at, updL_at, J_lit, J_add, J_mul, J_sub, J_lt, J_le, J_inj, J_ne, ne_J, m_lt, lt_m, m_le, le_m, J_cl, J_inB, if_true, if_false, ite_true, ite_false, reduceIte, isZ0, isZ1, J_and31, shrJ0, shlJ0, gI_sA, gL_sA, Nat.reduceEqDiff, Nat.reduceAdd, Nat.reduceMul, Nat.reduceLT, Nat.reduceLeDiff, Nat.zero_le, h6, hz, hb]
      · rw [bl0, tb64 hj, if_neg (by omega), hx]
    · refine ⟨-1, ?_, fun j hj => ?_⟩
      · rw [hx] at hb
        simp (decide := true) (disch := omega) only [letS_d, grd_t, bnd_d, bnd1_d, bndX_d, bndX_e, gI_sI, gI_sL, gL_sL, gL_sI, upd_at, updL_at, J_lit, J_add, J_mul, J_sub, J_lt, J_le, J_inj, J_ne, ne_J, m_lt, lt_m, m_le, le_m, J_cl, J_inB, if_true, if_false, ite_true, ite_false, reduceIte, isZ0, isZ1, J_and31, shrJ0, shlJ0, gI_sA, gL_sA, Nat.reduceEqDiff, Nat.reduceAdd, Nat.reduceMul, Nat.reduceLT, Nat.reduceLeDiff, Nat.zero_le, h6, hz, hb]
      · rw [bl_m1 hj, tb64 hj, if_neg (by omega), hx]
  · refine ⟨cWITH o, by simp (decide := true) (disch := omega) only [letS_d, grd_t, bnd_d, bnd1_d, bndX_d, bndX_e, gI_sI, gI_sL, gL_sL, gL_sI, upd_at, updL_at, J_lit, J_add, J_mul, J_sub, J_lt, J_le, J_inj, J_ne, ne_J, m_lt, lt_m, m_le, le_m, J_cl, J_inB, if_true, if_false, ite_true, ite_false, reduceIte, isZ0, isZ1, J_and31, shrJ0, shlJ0, gI_sA, gL_sA, Nat.reduceEqDiff, Nat.reduceAdd, Nat.reduceMul, Nat.reduceLT, Nat.reduceLeDiff, Nat.zero_le, h6], fun j hj => ?_⟩
    rw [bl_with (by omega) hj, tb64 hj, if_pos (by omega)]
theorem cls_row0 {o : Nat} (ho : o < 9) (hQ : Q ≤ 3) : ∀ f w n (τ : St), w + f = 2 ^ Q → f < n → gI τ 65 0 = J (2 ^ Q) → ∃ τ', fX3_explore_18 N n τ (J o) (J w) = fX3_explore_45 N N τ' (J 0) ∧ Fr [61] τ τ' ∧ (∀ i, i < w → gL τ' 61 i = gL τ 61 i) ∧ ∀ w' j, w ≤ w' → w' < 2 ^ Q → j < 64 → bl (gL τ' 61 w') j = (64 * w' + j).testBit o := by
  have hQ8 : 2 ^ Q ≤ 8 := Nat.le_trans (Nat.pow_le_pow_right (n := 2) (by omega) hQ) (by decide)
  intro f
  induction f with
  | zero =>
    intro w n τ hw hn h65
    obtain ⟨n, rfl⟩ : ∃ k, n = k + 1 := ⟨n - 1, by omega⟩
    obtain rfl : w = 2 ^ Q := by omega
    refine ⟨τ, ?_, Fr.rf, fun _ _ => rfl, fun w' j h1 h2 => by omega⟩
    unfold fX3_explore_18
    simp (decide := true) (disch := omega) only [letS_d, grd_t, bnd_d, bnd1_d, bndX_d, bndX_e, gI_sI, gI_sL, gL_sL, gL_sI, upd_at, updL_at, J_lit, J_add, J_mul, J_sub, J_lt, J_le, J_inj, J_ne, ne_J, m_lt, lt_m, m_le, le_m, J_cl, J_inB, if_true, if_false, ite_true, ite_false, reduceIte, isZ0, isZ1, J_and31, shrJ0, shlJ0, gI_sA, gL_sA, Nat.reduceEqDiff, Nat.reduceAdd, Nat.reduceMul, Nat.reduceLT, Nat.reduceLeDiff, h65, Nat.le_refl]
  | succ f ih =>
    intro w n τ hw hn h65
    obtain ⟨n, rfl⟩ : ∃ k, n = k + 1 := ⟨n - 1, by omega⟩
    have h1 : ¬ 2 ^ Q ≤ w := by omega
    obtain ⟨x, x1, x2⟩ := cls_with (N := N) (τ := τ) ho (show w < 8 by omega)
    obtain ⟨τ', e1, e2, e3, e4⟩ := ih (w + 1) n (sL τ 61 w x) (by omega) (by omega) (by simp (decide := true) (disch := omega) only [letS_d, grd_t, bnd_d, bnd1_d, bndX_d, bndX_e, gI_sI, gI_sL, gL_sL, gL_sI, upd_at, updL_at, J_lit, J_add, J_mul, J_sub, J_lt, J_le, J_inj, J_ne, ne_J, m_lt, lt_m, m_le, le_m, J_cl, J_inB, if_true, if_false, ite_true, ite_false, reduceIte, isZ0, isZ1, J_and31, shrJ0, shlJ0, gI_sA, gL_sA, Nat.reduceEqDiff, Nat.reduceAdd, Nat.reduceMul, Nat.reduceLT, Nat.reduceLeDiff]; exact h65)
    refine ⟨τ', ?_, (Fr.l (by decide)).tr e2, fun i hi => ?_, fun w' j h1 h2 h3 => ?_⟩
    · rw [show fX3_explore_18 N (n + 1) τ (J o) (J w) = _ from by unfold fX3_explore_18; rfl]
      simp (decide := true) (disch := omega) only [letS_d, grd_t, bnd_d, bnd1_d, bndX_d, bndX_e, gI_sI, gI_sL, gL_sL, gL_sI, upd_at, updL_at, J_lit, J_add, J_mul, J_sub, J_lt, J_le, J_inj, J_ne, ne_J, m_lt, lt_m, m_le, le_m, J_cl, J_inB, if_true, if_false, ite_true, ite_false, reduceIte, isZ0, isZ1, J_and31, shrJ0, shlJ0, gI_sA, gL_sA, Nat.reduceEqDiff, Nat.reduceAdd, Nat.reduceMul, Nat.reduceLT, Nat.reduceLeDiff, h65, h1, x1]
      exact e1
    · rw [e3 i (by omega)]
      have : ¬ i = w := by omega
      simp (decide := true) (disch := omega) only [letS_d, grd_t, bnd_d, bnd1_d, bndX_d, bndX_e, gI_sI, gI_sL, gL_sL, gL_sI, upd_at, updL_at, J_lit, J_add, J_mul, J_sub, J_lt, J_le, J_inj, J_ne, ne_J, m_lt, lt_m, m_le, le_m, J_cl, J_inB, if_true, if_false, ite_true, ite_false, reduceIte, isZ0, isZ1, J_and31, shrJ0, shlJ0, gI_sA, gL_sA, Nat.reduceEqDiff, Nat.reduceAdd, Nat.reduceMul, Nat.reduceLT, Nat.reduceLeDiff, this]
    · by_cases hww : w' = w
      · subst hww
        rw [e3 _ (by omega)]
        have e : gL (sL τ 61 w' x) 61 w' = x := by simp (decide := true) (disch := omega) only [letS_d, grd_t, bnd_d, bnd1_d, bndX_d, bndX_e, gI_sI, gI_sL, gL_sL, gL_sI, upd_at, updL_at, J_lit, J_add, J_mul, J_sub, J_lt, J_le, J_inj, J_ne, ne_J, m_lt, lt_m, m_le, le_m, J_cl, J_inB, if_true, if_false, ite_true, ite_false, reduceIte, isZ0, isZ1, J_and31, shrJ0, shlJ0, gI_sA, gL_sA, Nat.reduceEqDiff, Nat.reduceAdd, Nat.reduceMul, Nat.reduceLT, Nat.reduceLeDiff]
        rw [e]
        exact x2 j h3
      · exact e4 w' j (by omega) h2 h3
theorem ref_row0 (hN : 1000 ≤ N) : ∀ f i n (σ : St), i + f = 8 → f < n → ∃ σ', fX9_gather_57 N n σ (J i) = fX9_gather_78 N N σ' (J 0) ∧ Fr [35] σ σ' ∧ (∀ m, m < i → gL σ' 35 m = gL σ 35 m) ∧ ∀ w, i ≤ w → w < 8 → gL σ' 35 w = 0 := by
  intro f
  induction f with
  | zero =>
    intro i n σ hi hn
    obtain ⟨n, rfl⟩ : ∃ k, n = k + 1 := ⟨n - 1, by omega⟩
    obtain rfl : i = 8 := by omega
    refine ⟨σ, ?_, Fr.rf, fun _ _ => rfl, fun w h1 h2 => by omega⟩
    unfold fX9_gather_57
    simp (decide := true) (disch := omega) only [letS_d, grd_t, bnd_d, bnd1_d, bndX_d, bndX_e, gI_sI, gI_sL, gL_sL, gL_sI, upd_at, updL_at, J_lit, J_add, J_mul, J_sub, J_lt, J_le, J_inj, J_ne, ne_J, m_lt, lt_m, m_le, le_m, J_cl, J_inB, if_true, if_false, ite_true, ite_false, reduceIte, isZ0, isZ1, J_and31, shrJ0, shlJ0, gI_sA, gL_sA, Nat.reduceEqDiff, Nat.reduceAdd, Nat.reduceMul, Nat.reduceLT, Nat.reduceLeDiff, Nat.le_refl]
  | succ f ih =>
    intro i n σ hi hn
    obtain ⟨n, rfl⟩ : ∃ k, n = k + 1 := ⟨n - 1, by omega⟩
    have h1 : ¬ 8 ≤ i := by omega
    obtain ⟨σ', e1, e2, e3, e4⟩ := ih (i + 1) n (sL σ 35 i 0) (by omega) (by omega)
    refine ⟨σ', ?_, (Fr.l (by decide)).tr e2, fun m hm => ?_, fun w w1 w2 => ?_⟩
    · rw [show fX9_gather_57 N (n + 1) σ (J i) = _ from by unfold fX9_gather_57; rfl]
      simp (decide := true) (disch := omega) only [letS_d, grd_t, bnd_d, bnd1_d, bndX_d, bndX_e, gI_sI, gI_sL, gL_sL, gL_sI, upd_at, updL_at, J_lit, J_add, J_mul, J_sub, J_lt, J_le, J_inj, J_ne, ne_J, m_lt, lt_m, m_le, le_m, J_cl, J_inB, if_true, if_false, ite_true, ite_false, reduceIte, isZ0, isZ1, J_and31, shrJ0, shlJ0, gI_sA, gL_sA, Nat.reduceEqDiff, Nat.reduceAdd, Nat.reduceMul, Nat.reduceLT, Nat.reduceLeDiff, h1]
      exact e1
    · rw [e3 m (by omega)]
      have : ¬ m = i := by omega
      simp (decide := true) (disch := omega) only [letS_d, grd_t, bnd_d, bnd1_d, bndX_d, bndX_e, gI_sI, gI_sL, gL_sL, gL_sI, upd_at, updL_at, J_lit, J_add, J_mul, J_sub, J_lt, J_le, J_inj, J_ne, ne_J, m_lt, lt_m, m_le, le_m, J_cl, J_inB, if_true, if_false, ite_true, ite_false, reduceIte, isZ0, isZ1, J_and31, shrJ0, shlJ0, gI_sA, gL_sA, Nat.reduceEqDiff, Nat.reduceAdd, Nat.reduceMul, Nat.reduceLT, Nat.reduceLeDiff, this]
    · by_cases hwi : w = i
      · subst hwi
        rw [e3 _ (by omega)]
        simp (decide := true) (disch := omega) only [letS_d, grd_t, bnd_d, bnd1_d, bndX_d, bndX_e, gI_sI, gI_sL, gL_sL, gL_sI, upd_at, updL_at, J_lit, J_add, J_mul, J_sub, J_lt, J_le, J_inj, J_ne, ne_J, m_lt, lt_m, m_le, le_m, J_cl, J_inB, if_true, if_false, ite_true, ite_false, reduceIte, isZ0, isZ1, J_and31, shrJ0, shlJ0, gI_sA, gL_sA, Nat.reduceEqDiff, Nat.reduceAdd, Nat.reduceMul, Nat.reduceLT, Nat.reduceLeDiff]
      · exact e4 w (by omega) w2
theorem odd_bit (s : Nat) : s.testBit 0 = decide (s % 2 = 1) := by
  rw [Nat.testBit_zero]
theorem J_odd {s : Nat} (hs : s < 512) : (J s &&& J 1 = J 1) = (s % 2 = 1) := by
  have h : ∀ s < 512, decide (J s &&& J 1 = J 1) = decide (s % 2 = 1) := by decide +kernel
  exact propext (decide_eq_decide.mp (h s hs))
theorem ref_odd (hk : k ≤ 9) : ∀ f s n (σ : St), s + f = 2 ^ k → f < n → gI σ 17 0 = J k → ∃ σ', fX9_gather_78 N n σ (J s) = fX9_gather_126 N N (sI σ' 34 0 (J 1)) (J 0) ∧ Fr [35] σ σ' ∧ ∀ x, x < 512 → TR σ' 0 x = (TR σ 0 x || (decide (s ≤ x) && decide (x < 2 ^ k) && x.testBit 0)) := by
  have hk9 : 2 ^ k ≤ 512 := Nat.le_trans (Nat.pow_le_pow_right (n := 2) (by omega) hk) (by decide)
  have hpw : J 1 <<< J k = J (2 ^ k) := pow_J (by omega)
  intro f
  induction f with
  | zero =>
    intro s n σ hs hn h17
    obtain ⟨n, rfl⟩ : ∃ k, n = k + 1 := ⟨n - 1, by omega⟩
    obtain rfl : s = 2 ^ k := by omega
    refine ⟨σ, ?_, Fr.rf, fun x hx => ?_⟩
    · unfold fX9_gather_78
      simp (decide := true) (disch := omega) only [letS_d, grd_t, bnd_d, bnd1_d, bndX_d, bndX_e, gI_sI, gI_sL, gL_sL, gL_sI, upd_at, updL_at, J_lit, J_add, J_mul, J_sub, J_lt, J_le, J_inj, J_ne, ne_J, m_lt, lt_m, m_le, le_m, J_cl, J_inB, if_true, if_false, ite_true, ite_false, reduceIte, isZ0, isZ1, J_and31, shrJ0, shlJ0, gI_sA, gL_sA, Nat.reduceEqDiff, Nat.reduceAdd, Nat.reduceMul, Nat.reduceLT, Nat.reduceLeDiff, h17, hpw, Nat.le_refl]
    · by_cases h : 2 ^ k ≤ x
      · have : ¬ x < 2 ^ k := by omega
        rw [decide_eq_false this, Bool.and_false, Bool.false_and, Bool.or_false]
      · rw [decide_eq_false h, Bool.false_and, Bool.false_and, Bool.or_false]
  | succ f ih =>
    intro s n σ hs hn h17
    obtain ⟨n, rfl⟩ : ∃ k, n = k + 1 := ⟨n - 1, by omega⟩
    have h1 : ¬ 2 ^ k ≤ s := by omega
    have ho := J_odd (show s < 512 by omega)
    rw [show fX9_gather_78 N (n + 1) σ (J s) = _ from by unfold fX9_gather_78; rfl]
    by_cases hb : s % 2 = 1
    · obtain ⟨σ', e1, e2, e3⟩ := ih (s + 1) n (sL σ 35 (8 * 0 + s / 64) (gL σ 35 (8 * 0 + s / 64) ||| ((1 : Int64) <<< ((J (s % 64)).toInt64 &&& 63)))) (by omega) (by omega) (by simp (decide := true) (disch := omega) only [letS_d, grd_t, bnd_d, bnd1_d, bndX_d, bndX_e, gI_sI, gI_sL, gL_sL, gL_sI, upd_at, updL_at, J_lit, J_add, J_mul, J_sub, J_lt, J_le, J_inj, J_ne, ne_J, m_lt, lt_m, m_le, le_m, J_cl, J_inB, if_true, if_false, ite_true, ite_false, reduceIte, isZ0, isZ1, J_and31, shrJ0, shlJ0, gI_sA, gL_sA, Nat.reduceEqDiff, Nat.reduceAdd, Nat.reduceMul, Nat.reduceLT, Nat.reduceLeDiff]; exact h17)
      refine ⟨σ', ?_, (Fr.l (by decide)).tr e2, fun x hx => ?_⟩
      · have ho' := ho.mpr hb
        rw [show 8 * 0 + s / 64 = s / 64 from by omega] at e1
        simp (decide := true) (disch := omega) only [letS_d, grd_t, bnd_d, bnd1_d, bndX_d, bndX_e, gI_sI, gI_sL, gL_sL, gL_sI, upd_at, updL_at, J_lit, J_add, J_mul, J_sub, J_lt, J_le, J_inj, J_ne, ne_J, m_lt, lt_m, m_le, le_m, J_cl, J_inB, if_true, if_false, ite_true, ite_false, reduceIte, isZ0, isZ1, J_and31, shrJ0, shlJ0, gI_sA, gL_sA, Nat.reduceEqDiff, Nat.reduceAdd, Nat.reduceMul, Nat.reduceLT, Nat.reduceLeDiff, h17, hpw, h1, ho', J_shr6 (show s < 512 by omega), J_and63 (show s < 512 by omega), fX9_gather_113]
        exact e1
      · rw [e3 x hx, TR_set (by omega) hx]
        by_cases hxs : x = s
        · subst hxs
          rw [decide_eq_true rfl, decide_eq_true (Nat.le_refl x), decide_eq_true (show x < 2 ^ k by omega), odd_bit, decide_eq_true hb]
          simp
        · rw [decide_eq_false hxs, Bool.or_false, show decide (s + 1 ≤ x) = decide (s ≤ x) from decide_eq_decide.mpr (by omega)]
    · obtain ⟨σ', e1, e2, e3⟩ := ih (s + 1) n σ (by omega) (by omega) h17
      refine ⟨σ', ?_, e2, fun x hx => ?_⟩
      · have ho' : ¬ (J s &&& J 1 = J 1) := fun h => hb (ho.mp h)
        simp (decide := true) (disch := omega) only [letS_d, grd_t, bnd_d, bnd1_d, bndX_d, bndX_e, gI_sI, gI_sL, gL_sL, gL_sI, upd_at, updL_at, J_lit, J_add, J_mul, J_sub, J_lt, J_le, J_inj, J_ne, ne_J, m_lt, lt_m, m_le, le_m, J_cl, J_inB, if_true, if_false, ite_true, ite_false, reduceIte, isZ0, isZ1, J_and31, shrJ0, shlJ0, gI_sA, gL_sA, Nat.reduceEqDiff, Nat.reduceAdd, Nat.reduceMul, Nat.reduceLT, Nat.reduceLeDiff, h17, hpw, h1, ho', fX9_gather_113]
        exact e1
      · rw [e3 x hx]
        by_cases hxs : x = s
        · subst hxs
          rw [odd_bit, decide_eq_false hb, Bool.and_false, Bool.and_false]
        · rw [show decide (s + 1 ≤ x) = decide (s ≤ x) from decide_eq_decide.mpr (by omega)]
/-- the conditions, from the first one on -/
theorem both_conds (hN : 1000 ≤ N) (hR : Rel k Q A im π πi) {τ σ : St} (h54 : gI τ 54 0 = J (2 ^ Q)) (hA : Ak k Q A τ) (hI : Img k im σ) : (∃ τ' σ', fX3_explore N τ (J (πi 0)) = some (J 0, τ') ∧ fX9_gather_57 N N (sI σ 34 0 (J 0)) (J 0) = some (J 0, σ') ∧ Fr [61, 62, 63, 64, 65, 66] τ τ' ∧ Fr [34, 35, 36] σ σ') ∨ (∃ (c : Nat) (ld : Nat → Nat → Nat) (base : Nat → Bool) (τ' σ' : St), fX3_explore N τ (J (πi 0)) = some (J 1, τ') ∧ fX9_gather_57 N N (sI σ 34 0 (J 0)) (J 0) = some (J 1, σ') ∧ Fr [61, 62, 63, 64, 65, 66] τ τ' ∧ Fr [34, 35, 36] σ σ' ∧ Ls c ld τ' σ' ∧ (∀ τ2, gL τ2 61 = gL τ' 61 → gI τ2 65 = gI τ' 65 → ∀ i, i < c → fX3_isNever N τ2 (J i) = some (zb (base i), τ2)) ∧ (∀ σ2, gL σ2 35 = gL σ' 35 → ∀ i, i < c → fX9_marked N σ2 (J i) (J (2 ^ k - 1)) = some (zb (!base i), σ2)) ∧ (∀ i l, i < c → l < 8 → base i = true → base (ld i l) = true)) := by
  obtain ⟨⟨k1, k2, k3, k4⟩, r1, r2, r3, r4, r5⟩ := id hR
  have hQ8 : 2 ^ Q ≤ 8 := Nat.le_trans (Nat.pow_le_pow_right (n := 2) (by omega) k3) (by decide)
  have hk9 : 2 ^ k ≤ 512 := Nat.le_trans (Nat.pow_le_pow_right (n := 2) (by omega) k2) (by decide)
  have h2k1 : 1 ≤ 2 ^ k := Nat.pow_pos (by omega)
  obtain ⟨p1, p2⟩ := r2 0 (by omega)
  obtain ⟨τ1, a1, a2, a3, a4⟩ := cls_row0 (N := N) (o := πi 0) (by omega) k3 (2 ^ Q) 0 N (sI (sI τ 65 0 (J (2 ^ Q))) 66 0 (J 1)) (by omega) (by omega) (by simp (decide := true) (disch := omega) only [letS_d, grd_t, bnd_d, bnd1_d, bndX_d, bndX_e, gI_sI, gI_sL, gL_sL, gL_sI, upd_at, updL_at, J_lit, J_add, J_mul, J_sub, J_lt, J_le, J_inj, J_ne, ne_J, m_lt, lt_m, m_le, le_m, J_cl, J_inB, if_true, if_false, ite_true, ite_false, reduceIte, isZ0, isZ1, J_and31, shrJ0, shlJ0, gI_sA, gL_sA, Nat.reduceEqDiff, Nat.reduceAdd, Nat.reduceMul, Nat.reduceLT, Nat.reduceLeDiff])
  obtain ⟨σ1, b1, b2, b3, b4⟩ := ref_row0 (N := N) hN 8 0 N (sI σ 34 0 (J 0)) (by omega) (by omega)
  have f1 : Fr [61, 65, 66] τ τ1 := ((Fr.i (by decide)).tr (Fr.i (by decide))).tr (a2.mono (by decide))
  have g1 : Fr [34, 35] σ σ1 := (Fr.i (by decide)).tr (b2.mono (by decide))
  obtain ⟨σ2, d1, d2, d3⟩ := ref_odd (N := N) k2 (2 ^ k) 0 N σ1 (by omega) (by omega) (by rw [g1.gi (by decide)]; exact hI.1)
  have g2 : Fr [34, 35] σ (sI σ2 34 0 (J 1)) := (g1.tr (d2.mono (by decide))).tr (Fr.i (by decide))
  have hC : Cn k Q A im πi 1 (fun _ s => s.testBit 0) τ1 (sI σ2 34 0 (J 1)) := by
    refine ⟨⟨by omega, by omega⟩, ⟨by rw [a2.gi (by decide)]; simp (decide := true) (disch := omega) only [letS_d, grd_t, bnd_d, bnd1_d, bndX_d, bndX_e, gI_sI, gI_sL, gL_sL, gL_sI, upd_at, updL_at, J_lit, J_add, J_mul, J_sub, J_lt, J_le, J_inj, J_ne, ne_J, m_lt, lt_m, m_le, le_m, J_cl, J_inB, if_true, if_false, ite_true, ite_false, reduceIte, isZ0, isZ1, J_and31, shrJ0, shlJ0, gI_sA, gL_sA, Nat.reduceEqDiff, Nat.reduceAdd, Nat.reduceMul, Nat.reduceLT, Nat.reduceLeDiff], by simp (decide := true) (disch := omega) only [letS_d, grd_t, bnd_d, bnd1_d, bndX_d, bndX_e, gI_sI, gI_sL, gL_sL, gL_sI, upd_at, updL_at, J_lit, J_add, J_mul, J_sub, J_lt, J_le, J_inj, J_ne, ne_J, m_lt, lt_m, m_le, le_m, J_cl, J_inB, if_true, if_false, ite_true, ite_false, reduceIte, isZ0, isZ1, J_and31, shrJ0, shlJ0, gI_sA, gL_sA, Nat.reduceEqDiff, Nat.reduceAdd, Nat.reduceMul, Nat.reduceLT, Nat.reduceLeDiff], by rw [a2.gi (by decide)]; simp (decide := true) (disch := omega) only [letS_d, grd_t, bnd_d, bnd1_d, bndX_d, bndX_e, gI_sI, gI_sL, gL_sL, gL_sI, upd_at, updL_at, J_lit, J_add, J_mul, J_sub, J_lt, J_le, J_inj, J_ne, ne_J, m_lt, lt_m, m_le, le_m, J_cl, J_inB, if_true, if_false, ite_true, ite_false, reduceIte, isZ0, isZ1, J_and31, shrJ0, shlJ0, gI_sA, gL_sA, Nat.reduceEqDiff, Nat.reduceAdd, Nat.reduceMul, Nat.reduceLT, Nat.reduceLeDiff]⟩, hA.fr f1 (by decide), hI.fr g2 (by decide), fun r hr => fun s t _ _ hst h => hst 0 h, fun r s hr hs => ?_, fun r s hr hs => ?_⟩
    · obtain rfl : r = 0 := by omega
      unfold TC
      rw [show 8 * 0 + s / 64 = s / 64 from by omega, a4 (s / 64) (s % 64) (by omega) (by omega) (by omega), show 64 * (s / 64) + s % 64 = s from by omega]
      show s.testBit (πi 0) = (pm πi k s).testBit 0
      rw [pm_bit, decide_eq_true (show 0 < k by omega)]
      rfl
    · obtain rfl : r = 0 := by omega
      have hz : TR σ1 0 s = false := by
        unfold TR
        rw [show 8 * 0 + s / 64 = s / 64 from by omega, b4 _ (by omega) (by omega), bl0]
      have := d3 s hs
      rw [hz, Bool.false_or, decide_eq_true (Nat.zero_le s), Bool.true_and] at this
      exact this
  have e1 : fX3_explore N τ (J (πi 0)) = fX3_explore_45 N N τ1 (J 0) := by
    unfold fX3_explore
    simp (decide := true) (disch := omega) only [letS_d, grd_t, bnd_d, bnd1_d, bndX_d, bndX_e, gI_sI, gI_sL, gL_sL, gL_sI, upd_at, updL_at, J_lit, J_add, J_mul, J_sub, J_lt, J_le, J_inj, J_ne, ne_J, m_lt, lt_m, m_le, le_m, J_cl, J_inB, if_true, if_false, ite_true, ite_false, reduceIte, isZ0, isZ1, J_and31, shrJ0, shlJ0, gI_sA, gL_sA, Nat.reduceEqDiff, Nat.reduceAdd, Nat.reduceMul, Nat.reduceLT, Nat.reduceLeDiff, h54]
    exact a1
  have e2 : fX9_gather_57 N N (sI σ 34 0 (J 0)) (J 0) = fX9_gather_126 N N (sI σ2 34 0 (J 1)) (J 0) := b1.trans d1
  rw [e1, e2]
  rcases both_explore (N := N) hN hR 40 0 N N τ1 (sI σ2 34 0 (J 1)) 1 _ (by omega) (by omega) (by omega) (by omega) hC (fun i l' h1 h2 => by omega) with ⟨τ3, σ3, q1, q2, q3, q4⟩ | ⟨c, E, τ3, σ3, q1, q2, q3, q4, q5, q6⟩
  · exact Or.inl ⟨τ3, σ3, q1, q2, (f1.mono (by decide)).tr (q3.mono (by decide)), (g2.mono (by decide)).tr q4⟩
  · obtain ⟨⟨c1, c2⟩, ⟨c3, c4, c5⟩, c6, c7, c8, c9, c10⟩ := id q5
    have hfull : ∀ o, (2 ^ k - 1).testBit o = decide (o < k) := fun o => Nat.testBit_two_pow_sub_one k o
    have hle : ∀ i s, i < c → s < 2 ^ k → E i s = true → E i (2 ^ k - 1) = true := fun i s hi hs h => c8 i hi s (2 ^ k - 1) hs (by omega) (fun o ho => by rw [hfull]; exact decide_eq_true (hibit hs ho)) h
    have hldE : ∀ i l, i < c → l < 8 → ∃ t, t < c ∧ gI τ3 62 (8 * i + l) = J t ∧ gI σ3 36 (8 * i + l) = J t ∧ ∀ s, s < 2 ^ k → E t s = E i (im l s) := fun i l hi hl => q6 i l hl (Or.inl hi)
    have hcl : ∀ i l, i < c → l < 8 → ∀ t, gI τ3 62 (8 * i + l) = J t → t < 2147483648 → (t < c ∧ gI σ3 36 (8 * i + l) = J t ∧ ∀ s, s < 2 ^ k → E t s = E i (im l s)) := fun i l hi hl t ht hb => by
      obtain ⟨t', t1, t2, t3, t4⟩ := hldE i l hi hl
      rw [t2, J_inj (by omega) hb] at ht
      subst ht
      exact ⟨t1, t3, t4⟩
    refine Or.inr ⟨c, fun i l => (gI τ3 62 (8 * i + l)).toNatClampNeg, fun i => !E i (2 ^ k - 1), τ3, σ3, q1, q2, (f1.mono (by decide)).tr (q3.mono (by decide)), (g2.mono (by decide)).tr q4, ⟨c1, c2, c3, c4, fun i l hi hl => ?_⟩, fun τ2 h1 h2 i hi => ?_, fun σ2 h1 i hi => ?_, fun i l hi hl hb => ?_⟩
    · obtain ⟨t, t1, t2, t3, t4⟩ := hldE i l hi hl
      show (gI τ3 62 (8 * i + l)).toNatClampNeg < c ∧ gI τ3 62 (8 * i + l) = J (gI τ3 62 (8 * i + l)).toNatClampNeg ∧ gI σ3 36 (8 * i + l) = J (gI τ3 62 (8 * i + l)).toNatClampNeg
      rw [t2, J_cl (by omega)]
      exact ⟨t1, rfl, t3⟩
    · unfold fX3_isNever
      refine cls_never (N := N) (τ := τ2) k3 (by rw [h2]; exact c5) (by omega) ?_ (2 ^ Q) 0 N (by omega) (by omega) (fun w' h => by omega)
      have hTC : ∀ s, TC τ2 i s = TC τ3 i s := fun s => by unfold TC; rw [h1]
      rw [Bool.not_eq_true']
      constructor
      · intro h s hs
        rw [hTC, c9 i s hi hs]
        cases hx : E i (pm πi k s)
        · rfl
        · rw [hle i _ hi (pm_lt s) hx] at h
          cases h
      · intro h
        obtain ⟨t, t1, t2⟩ := pm_onto hR (show 2 ^ k - 1 < 2 ^ k by omega)
        have := h t t1
        rw [hTC, c9 i t hi t1, t2] at this
        exact this
    · rw [ref_marked (by omega) (by omega)]
      have : TR σ2 i (2 ^ k - 1) = TR σ3 i (2 ^ k - 1) := by unfold TR; rw [h1]
      rw [this, c10 i _ hi (by omega), decide_eq_true (show 2 ^ k - 1 < 2 ^ k by omega), Bool.true_and, Bool.not_not]
    · obtain ⟨t, t1, t2, t3, t4⟩ := hldE i l hi hl
      show (!E (gI τ3 62 (8 * i + l)).toNatClampNeg (2 ^ k - 1)) = true
      rw [t2, J_cl (by omega), t4 _ (by omega)]
      have hb' : E i (2 ^ k - 1) = false := by
        have : (!E i (2 ^ k - 1)) = true := hb
        cases hx : E i (2 ^ k - 1)
        · rfl
        · rw [hx] at this
          cases this
      cases hx : E i (im l (2 ^ k - 1))
      · rfl
      · rw [hle i _ hi (r4 l _ hl (by omega)) hx] at hb'
        cases hb'
end EX
