/-! report and said -/
section REP
variable {N : Nat} {τ σ : St}
theorem cls_set0 {w : Nat} (hw : w ≤ 16) (h1 : gI τ 101 0 = J 0) (h2 : gI τ 103 0 = J w) : ∃ τ1, fJ4_setLength_d00df N τ (J 0) = some τ1 ∧ Fr [102, 103] τ τ1 ∧ gI τ1 103 0 = J 0 ∧ gI τ1 101 0 = J 0 := by
  have hcap := cap_ok (N := N) h1 (n := 0) (by omega)
  unfold fJ4_setLength_d00df fJ5_setLength_d00df
  by_cases h0 : w = 0
  · subst h0
    refine ⟨sI τ 103 0 (J 0), by simp (decide := true) (disch := omega) only [letS_d, grd_t, bnd_d, bnd1_d, bndX_d, bndX_e, gI_sI, gI_sL, gL_sL, gL_sI, upd_at, updL_at, J_lit, J_add, J_mul, J_sub, J_lt, J_le, J_inj, J_ne, ne_J, m_lt, lt_m, m_le, le_m, J_cl, J_inB, if_true, if_false, ite_true, ite_false, reduceIte, isZ0, isZ1, J_and31, shrJ0, shlJ0, gI_sA, gL_sA, Nat.reduceEqDiff, Nat.reduceAdd, Nat.reduceMul, Nat.reduceLT, Nat.reduceLeDiff, Nat.le_refl, hcap, h2, fJ5_setLength_d00df_76], Fr.i (by decide), by simp (decide := true) (disch := omega) only [letS_d, grd_t, bnd_d, bnd1_d, bndX_d, bndX_e, gI_sI, gI_sL, gL_sL, gL_sI, upd_at, updL_at, J_lit, J_add, J_mul, J_sub, J_lt, J_le, J_inj, J_ne, ne_J, m_lt, lt_m, m_le, le_m, J_cl, J_inB, if_true, if_false, ite_true, ite_false, reduceIte, isZ0, isZ1, J_and31, shrJ0, shlJ0, gI_sA, gL_sA, Nat.reduceEqDiff, Nat.reduceAdd, Nat.reduceMul, Nat.reduceLT, Nat.reduceLeDiff], by simp (decide := true) (disch := omega) only [letS_d, grd_t, bnd_d, bnd1_d, bndX_d, bndX_e, gI_sI, gI_sL, gL_sL, gL_sI, upd_at, updL_at, J_lit, J_add, J_mul, J_sub, J_lt, J_le, J_inj, J_ne, ne_J, m_lt, lt_m, m_le, le_m, J_cl, J_inB, if_true, if_false, ite_true, ite_false, reduceIte, isZ0, isZ1, J_and31, shrJ0, shlJ0, gI_sA, gL_sA, Nat.reduceEqDiff, Nat.reduceAdd, Nat.reduceMul, Nat.reduceLT, Nat.reduceLeDiff]; exact h1⟩
  · have h0' : ¬ w ≤ 0 := by omega
    refine ⟨sI (sI τ 102 0 (J 1)) 103 0 (J 0), by simp (decide := true) (disch := omega) only [letS_d, grd_t, bnd_d, bnd1_d, bndX_d, bndX_e, gI_sI, gI_sL, gL_sL, gL_sI, upd_at, updL_at, J_lit, J_add, J_mul, J_sub, J_lt, J_le, J_inj, J_ne, ne_J, m_lt, lt_m, m_le, le_m, J_cl, J_inB, if_true, if_false, ite_true, ite_false, reduceIte, isZ0, isZ1, J_and31, shrJ0, shlJ0, gI_sA, gL_sA, Nat.reduceEqDiff, Nat.reduceAdd, Nat.reduceMul, Nat.reduceLT, Nat.reduceLeDiff, Nat.le_refl, Nat.zero_le, hcap, h2, h0', fJ5_setLength_d00df_76], (Fr.i (by decide)).tr (Fr.i (by decide)), by simp (decide := true) (disch := omega) only [letS_d, grd_t, bnd_d, bnd1_d, bndX_d, bndX_e, gI_sI, gI_sL, gL_sL, gL_sI, upd_at, updL_at, J_lit, J_add, J_mul, J_sub, J_lt, J_le, J_inj, J_ne, ne_J, m_lt, lt_m, m_le, le_m, J_cl, J_inB, if_true, if_false, ite_true, ite_false, reduceIte, isZ0, isZ1, J_and31, shrJ0, shlJ0, gI_sA, gL_sA, Nat.reduceEqDiff, Nat.reduceAdd, Nat.reduceMul, Nat.reduceLT, Nat.reduceLeDiff], by simp (decide := true) (disch := omega) only [letS_d, grd_t, bnd_d, bnd1_d, bndX_d, bndX_e, gI_sI, gI_sL, gL_sL, gL_sI, upd_at, updL_at, J_lit, J_add, J_mul, J_sub, J_lt, J_le, J_inj, J_ne, ne_J, m_lt, lt_m, m_le, le_m, J_cl, J_inB, if_true, if_false, ite_true, ite_false, reduceIte, isZ0, isZ1, J_and31, shrJ0, shlJ0, gI_sA, gL_sA, Nat.reduceEqDiff, Nat.reduceAdd, Nat.reduceMul, Nat.reduceLT, Nat.reduceLeDiff]; exact h1⟩
theorem Wr_S {w : Nat} (hw : w ≤ 16) (h : Wr w τ σ) : IvS τ σ := ⟨w, hw, h.1, h.2.1, h.2.2.1, h.2.2.2⟩
theorem rep_fin {τ' σ' : St} (h : Inv N τ σ) (f : Fr [100, 102, 103] τ τ') (f' : Fr [0, 52, 53] σ σ') {w : Nat} (hw : w ≤ 16) (hW : Wr w τ' σ') : Inv N τ' σ' := ⟨h.1.fr f f' (by decide) (by decide), h.2.1.fr f f' (by decide) (by decide), Wr_S hw hW, h.2.2.2.fr f f' (by decide) (by decide)⟩
theorem cls_119 {w : Nat} (h : gI τ 103 0 = J w) : fX8_report_119 N τ = some (J w, τ) := by
  unfold fX8_report_119 fJ4_length_8abf5 fJ5_length_8abf5
  simp (decide := true) (disch := omega) only [letS_d, grd_t, bnd_d, bnd1_d, bndX_d, bndX_e, gI_sI, gI_sL, gL_sL, gL_sI, upd_at, updL_at, J_lit, J_add, J_mul, J_sub, J_lt, J_le, J_inj, J_ne, ne_J, m_lt, lt_m, m_le, le_m, J_cl, J_inB, if_true, if_false, ite_true, ite_false, reduceIte, isZ0, isZ1, J_and31, shrJ0, shlJ0, gI_sA, gL_sA, Nat.reduceEqDiff, Nat.reduceAdd, Nat.reduceMul, Nat.reduceLT, Nat.reduceLeDiff, h]
theorem ref_110 {w : Nat} (h : gI σ 53 0 = J w) : fX9_report_110 N σ = some (J w, σ) := by
  unfold fX9_report_110
  simp (decide := true) (disch := omega) only [letS_d, grd_t, bnd_d, bnd1_d, bndX_d, bndX_e, gI_sI, gI_sL, gL_sL, gL_sI, upd_at, updL_at, J_lit, J_add, J_mul, J_sub, J_lt, J_le, J_inj, J_ne, ne_J, m_lt, lt_m, m_le, le_m, J_cl, J_inB, if_true, if_false, ite_true, ite_false, reduceIte, isZ0, isZ1, J_and31, shrJ0, shlJ0, gI_sA, gL_sA, Nat.reduceEqDiff, Nat.reduceAdd, Nat.reduceMul, Nat.reduceLT, Nat.reduceLeDiff, h]
theorem op_report (hN : 100 ≤ N) (h : Inv N τ σ) : ∃ r τ' σ', fX8_report N τ = some (r, τ') ∧ fX9_report N σ = some (r, σ') ∧ Inv N τ' σ' := by
  obtain ⟨w0, w1, w2, w3, w4, w5⟩ := h.2.2.1
  obtain ⟨τ1, s1, s2, s3, s4⟩ := cls_set0 (N := N) w1 w4 w2
  have f1 : Fr [100, 102, 103] τ τ1 := s2.mono (by decide)
  have f1' : Fr [0, 52, 53] σ (sI (sI σ 0 0 (J 0)) 53 0 (J 0)) := (Fr.i (by decide)).tr (Fr.i (by decide))
  generalize hσ1 : sI (sI σ 0 0 (J 0)) 53 0 (J 0) = σ1 at f1'
  have hW1 : Wr 0 τ1 σ1 := ⟨s3, by rw [← hσ1]; simp (decide := true) (disch := omega) only [letS_d, grd_t, bnd_d, bnd1_d, bndX_d, bndX_e, gI_sI, gI_sL, gL_sL, gL_sI, upd_at, updL_at, J_lit, J_add, J_mul, J_sub, J_lt, J_le, J_inj, J_ne, ne_J, m_lt, lt_m, m_le, le_m, J_cl, J_inB, if_true, if_false, ite_true, ite_false, reduceIte, isZ0, isZ1, J_and31, shrJ0, shlJ0, gI_sA, gL_sA, Nat.reduceEqDiff, Nat.reduceAdd, Nat.reduceMul, Nat.reduceLT, Nat.reduceLeDiff], s4, fun i hi => by omega⟩
  unfold fX8_report fX9_report
  have t10 : gI τ1 10 = gI τ 10 := f1.gi (by decide)
  have t92 : gI τ1 92 = gI τ 92 := f1.gi (by decide)
  have t94 : gI τ1 94 = gI τ 94 := f1.gi (by decide)
  have t93 : gI τ1 93 = gI τ 93 := f1.gi (by decide)
  have t71 : gI τ1 71 = gI τ 71 := f1.gi (by decide)
  have u40 : gI σ1 40 = gI σ 40 := f1'.gi (by decide)
  have u49 : gI σ1 49 = gI σ 49 := f1'.gi (by decide)
  have u50 : gI σ1 50 = gI σ 50 := f1'.gi (by decide)
  simp (decide := true) (disch := omega) only [letS_d, grd_t, bnd_d, bnd1_d, bndX_d, bndX_e, gI_sI, gI_sL, gL_sL, gL_sI, upd_at, updL_at, J_lit, J_add, J_mul, J_sub, J_lt, J_le, J_inj, J_ne, ne_J, m_lt, lt_m, m_le, le_m, J_cl, J_inB, if_true, if_false, ite_true, ite_false, reduceIte, isZ0, isZ1, J_and31, shrJ0, shlJ0, gI_sA, gL_sA, Nat.reduceEqDiff, Nat.reduceAdd, Nat.reduceMul, Nat.reduceLT, Nat.reduceLeDiff, hσ1, s1]
  rcases h.2.2.2 with ⟨h1, h2, h3, h4⟩ | ⟨h1, s, b, h2, h3, h4⟩
  · obtain ⟨τ2, σ2, a1, a2, a3, a4, a5⟩ := both_word (k := 1) (x := 1701736302) hN (by omega) hW1 (by decide) wd1.1 wd1.2
    refine ⟨J (0 + sLen.getD 1 0), τ2, σ2, ?_, ?_, rep_fin h (f1.tr (a3.mono (by decide))) (f1'.tr (a4.mono (by decide))) (by decide) a5⟩
    · simp (decide := true) (disch := omega) only [letS_d, grd_t, bnd_d, bnd1_d, bndX_d, bndX_e, gI_sI, gI_sL, gL_sL, gL_sI, upd_at, updL_at, J_lit, J_add, J_mul, J_sub, J_lt, J_le, J_inj, J_ne, ne_J, m_lt, lt_m, m_le, le_m, J_cl, J_inB, if_true, if_false, ite_true, ite_false, reduceIte, isZ0, isZ1, J_and31, shrJ0, shlJ0, gI_sA, gL_sA, Nat.reduceEqDiff, Nat.reduceAdd, Nat.reduceMul, Nat.reduceLT, Nat.reduceLeDiff, t10, h1, a1]
      exact cls_119 a5.1
    · simp (decide := true) (disch := omega) only [letS_d, grd_t, bnd_d, bnd1_d, bndX_d, bndX_e, gI_sI, gI_sL, gL_sL, gL_sI, upd_at, updL_at, J_lit, J_add, J_mul, J_sub, J_lt, J_le, J_inj, J_ne, ne_J, m_lt, lt_m, m_le, le_m, J_cl, J_inB, if_true, if_false, ite_true, ite_false, reduceIte, isZ0, isZ1, J_and31, shrJ0, shlJ0, gI_sA, gL_sA, Nat.reduceEqDiff, Nat.reduceAdd, Nat.reduceMul, Nat.reduceLT, Nat.reduceLeDiff, u40, h2, le_mz, fX9_tellWord, a2]
      exact ref_110 a5.2.1
  · obtain ⟨⟨m1, m2, m3, m4⟩, ⟨m5, m6, m7, m8⟩, ⟨m9, m10⟩, m11⟩ := id h2
    rcases h4 with ⟨r1, r2⟩ | ⟨r1, t, r2, r3, r4, r5, r6, r7⟩
    · have hd := dg_le s
      have hl : sLen.getD 2 0 = 6 := rfl
      obtain ⟨τ2, σ2, σ3, a1, a2, a3, a4, a5, a6, a7⟩ := both_wn (k := 2) (n := s) (x := 35705747236210) hN (by omega) hW1 (by rw [hl]; omega) (by omega) wd2
      refine ⟨J (0 + sLen.getD 2 0 + dg s), τ2, σ3, ?_, ?_, rep_fin h (f1.tr (a4.mono (by decide))) ((f1'.tr (a5.mono (by decide))).tr (a6.mono (by decide))) (by rw [hl]; omega) a7⟩
      · simp (decide := true) (disch := omega) only [letS_d, grd_t, bnd_d, bnd1_d, bndX_d, bndX_e, gI_sI, gI_sL, gL_sL, gL_sI, upd_at, updL_at, J_lit, J_add, J_mul, J_sub, J_lt, J_le, J_inj, J_ne, ne_J, m_lt, lt_m, m_le, le_m, J_cl, J_inB, if_true, if_false, ite_true, ite_false, reduceIte, isZ0, isZ1, J_and31, shrJ0, shlJ0, gI_sA, gL_sA, Nat.reduceEqDiff, Nat.reduceAdd, Nat.reduceMul, Nat.reduceLT, Nat.reduceLeDiff, t10, h1, t92, r1, t71, m5, a1]
        exact cls_119 a7.1
      · have v40 : gI σ2 40 = gI σ1 40 := a5.gi (by decide)
        simp (decide := true) (disch := omega) only [letS_d, grd_t, bnd_d, bnd1_d, bndX_d, bndX_e, gI_sI, gI_sL, gL_sL, gL_sI, upd_at, updL_at, J_lit, J_add, J_mul, J_sub, J_lt, J_le, J_inj, J_ne, ne_J, m_lt, lt_m, m_le, le_m, J_cl, J_inB, if_true, if_false, ite_true, ite_false, reduceIte, isZ0, isZ1, J_and31, shrJ0, shlJ0, gI_sA, gL_sA, Nat.reduceEqDiff, Nat.reduceAdd, Nat.reduceMul, Nat.reduceLT, Nat.reduceLeDiff, u40, m6, Nat.zero_le, u49, r2, le_mz, fX9_tellWord, a2, v40, a3]
        exact ref_110 a7.2.1
    · have hR1 : Rn s t τ1 σ1 := by
        have := Rn_of h2 r2 r3 r4 r7
        exact (this.fr (S := [100, 102, 103]) (S' := [53]) f1 (by rw [← hσ1]; exact Fr.i (by decide)) (by decide) (by decide))
      have hdt := dg_le t
      rcases r6.lt with ⟨q1, q2⟩ | ⟨q1, q, q2, q3⟩
      · have hl3 : sLen.getD 3 0 = 7 := rfl
        have hl4 : sLen.getD 4 0 = 4 := rfl
        obtain ⟨τ2, σ2, σ3, a1, a2, a3, a4, a5, a6, a7⟩ := both_wn (k := 3) (n := t) (x := 9117586028061030) hN (by omega) hW1 (by rw [hl3]; omega) (by omega) wd3
        have hR2 : Rn s t τ2 σ3 := hR1.fr a4 (a5.tr a6) (by decide) (by decide)
        have c1 := cls_short hN hR2 t 0 N (by omega) (by omega)
        have hsl := shx_le (gI σ3 45) (gI σ3 51) t (fs s) t 0
        generalize hz : shx (gI σ3 45) (gI σ3 51) t (fs s) t 0 = z at c1 hsl
        have hdz := dg_le z
        obtain ⟨τ4, σ4, σ5, b1, b2, b3, b4, b5, b6, b7⟩ := both_wn (k := 4) (n := z) (x := 544825888) hN (by omega) a7 (by rw [hl3, hl4]; omega) (by omega) wd4
        have hR3 : Rn s t τ2 σ4 := hR2.fr (S := []) Fr.rf b5 (by decide) (by decide)
        have c2 := ref_short hN hR3 t 0 N (by omega) (by omega)
        rw [b5.gi (k := 45) (by decide), b5.gi (k := 51) (by decide), hz] at c2
        refine ⟨J (0 + sLen.getD 3 0 + dg t + sLen.getD 4 0 + dg z), τ4, σ5, ?_, ?_, rep_fin h ((f1.tr (a4.mono (by decide))).tr (b4.mono (by decide))) ((((f1'.tr (a5.mono (by decide))).tr (a6.mono (by decide))).tr (b5.mono (by decide))).tr (b6.mono (by decide))) (by rw [hl3, hl4]; omega) b7⟩
        · simp (decide := true) (disch := omega) only [letS_d, grd_t, bnd_d, bnd1_d, bndX_d, bndX_e, gI_sI, gI_sL, gL_sL, gL_sI, upd_at, updL_at, J_lit, J_add, J_mul, J_sub, J_lt, J_le, J_inj, J_ne, ne_J, m_lt, lt_m, m_le, le_m, J_cl, J_inB, if_true, if_false, ite_true, ite_false, reduceIte, isZ0, isZ1, J_and31, shrJ0, shlJ0, gI_sA, gL_sA, Nat.reduceEqDiff, Nat.reduceAdd, Nat.reduceMul, Nat.reduceLT, Nat.reduceLeDiff, t10, h1, t92, r1, fX7_hasFailed, t94, r5, q1, t93, r3, a1, fX7_shortestFailingEnd, c1, b1]
          exact cls_119 b7.1
        · have v49 : gI σ2 49 = gI σ1 49 := a5.gi (by decide)
          have v50 : gI σ3 50 = gI σ 50 := (a6.gi (by decide)).trans ((a5.gi (by decide)).trans u50)
          have x50 : gI σ4 50 = gI σ 50 := (b5.gi (by decide)).trans v50
          have x49 : gI σ4 49 = gI σ 49 := (b5.gi (by decide)).trans ((a6.gi (by decide)).trans (v49.trans u49))
          simp (decide := true) (disch := omega) only [letS_d, grd_t, bnd_d, bnd1_d, bndX_d, bndX_e, gI_sI, gI_sL, gL_sL, gL_sI, upd_at, updL_at, J_lit, J_add, J_mul, J_sub, J_lt, J_le, J_inj, J_ne, ne_J, m_lt, lt_m, m_le, le_m, J_cl, J_inB, if_true, if_false, ite_true, ite_false, reduceIte, isZ0, isZ1, J_and31, shrJ0, shlJ0, gI_sA, gL_sA, Nat.reduceEqDiff, Nat.reduceAdd, Nat.reduceMul, Nat.reduceLT, Nat.reduceLeDiff, u40, m6, Nat.zero_le, u49, r4, u50, q1, le_mz, fX9_report_61, fX9_tellWord, a2, v49, a3, v50, fX9_report_85, b2, x50, x49, fX9_shortest, lo_m, Nat.not_lt_zero, c2, fX9_report_107, b3]
          exact ref_110 b7.2.1
      · have hl5 : sLen.getD 5 0 = 4 := rfl
        have hl6 : sLen.getD 6 0 = 4 := rfl
        obtain ⟨τ2, σ2, σ3, a1, a2, a3, a4, a5, a6, a7⟩ := both_wn (k := 5) (n := t) (x := 544109938) hN (by omega) hW1 (by rw [hl5]; omega) (by omega) wd5
        have hdq := dg_le q
        obtain ⟨τ4, σ4, σ5, b1, b2, b3, b4, b5, b6, b7⟩ := both_wn (k := 6) (n := q) (x := 544106784) hN (by omega) a7 (by rw [hl5, hl6]; omega) (by omega) wd6
        refine ⟨J (0 + sLen.getD 5 0 + dg t + sLen.getD 6 0 + dg q), τ4, σ5, ?_, ?_, rep_fin h ((f1.tr (a4.mono (by decide))).tr (b4.mono (by decide))) ((((f1'.tr (a5.mono (by decide))).tr (a6.mono (by decide))).tr (b5.mono (by decide))).tr (b6.mono (by decide))) (by rw [hl5, hl6]; omega) b7⟩
        · have v94 : gI τ2 94 = gI τ 94 := (a4.gi (by decide)).trans t94
          simp (decide := true) (disch := omega) only [letS_d, grd_t, bnd_d, bnd1_d, bndX_d, bndX_e, gI_sI, gI_sL, gL_sL, gL_sI, upd_at, updL_at, J_lit, J_add, J_mul, J_sub, J_lt, J_le, J_inj, J_ne, ne_J, m_lt, lt_m, m_le, le_m, J_cl, J_inB, if_true, if_false, ite_true, ite_false, reduceIte, isZ0, isZ1, J_and31, shrJ0, shlJ0, gI_sA, gL_sA, Nat.reduceEqDiff, Nat.reduceAdd, Nat.reduceMul, Nat.reduceLT, Nat.reduceLeDiff, t10, h1, t92, r1, fX7_hasFailed, fX7_hasFailed_19, t94, r5, q3, t93, r3, a1, v94, b1]
          exact cls_119 b7.1
        · have v49 : gI σ2 49 = gI σ1 49 := a5.gi (by decide)
          have v50 : gI σ3 50 = gI σ 50 := (a6.gi (by decide)).trans ((a5.gi (by decide)).trans u50)
          have x50 : gI σ4 50 = gI σ 50 := (b5.gi (by decide)).trans v50
          simp (decide := true) (disch := omega) only [letS_d, grd_t, bnd_d, bnd1_d, bndX_d, bndX_e, gI_sI, gI_sL, gL_sL, gL_sI, upd_at, updL_at, J_lit, J_add, J_mul, J_sub, J_lt, J_le, J_inj, J_ne, ne_J, m_lt, lt_m, m_le, le_m, J_cl, J_inB, if_true, if_false, ite_true, ite_false, reduceIte, isZ0, isZ1, J_and31, shrJ0, shlJ0, gI_sA, gL_sA, Nat.reduceEqDiff, Nat.reduceAdd, Nat.reduceMul, Nat.reduceLT, Nat.reduceLeDiff, u40, m6, Nat.zero_le, u49, r4, u50, q3, fX9_report_61, fX9_tellWord, a2, v49, a3, v50, fX9_report_85, b2, x50, fX9_report_107, b3]
          exact ref_110 b7.2.1
theorem op_said (h : Inv N τ σ) (v : Int32) : ∃ r τ' σ', fX8_said N τ v = some (r, τ') ∧ fX9_said N σ v = some (r, σ') ∧ Inv N τ' σ' := by
  have hi : Inv N τ (sI σ 0 0 (J 0)) := h.fr (S := []) Fr.rf fr0 (by decide) (by decide)
  obtain ⟨w, w1, w2, w3, w4, w5⟩ := h.2.2.1
  have hc0 : isC (J 0) = true := J_isC (by omega)
  unfold fX8_said fX9_said fJ4_length_8abf5 fJ5_length_8abf5
  rcases cut3 v (b := w) (by omega) with ⟨c1, c2⟩ | ⟨n, c1, rfl⟩ | ⟨c1, c2, c3, c4, n, c5, c6, rfl⟩
  · exact ⟨J 0, τ, sI σ 0 0 (J 0), by simp (decide := true) (disch := omega) only [letS_d, grd_t, bnd_d, bnd1_d, bndX_d, bndX_e, gI_sI, gI_sL, gL_sL, gL_sI, upd_at, updL_at, J_lit, J_add, J_mul, J_sub, J_lt, J_le, J_inj, J_ne, ne_J, m_lt, lt_m, m_le, le_m, J_cl, J_inB, if_true, if_false, ite_true, ite_false, reduceIte, isZ0, isZ1, J_and31, shrJ0, shlJ0, gI_sA, gL_sA, Nat.reduceEqDiff, Nat.reduceAdd, Nat.reduceMul, Nat.reduceLT, Nat.reduceLeDiff, c1, fX8_said_26, hc0], by simp (decide := true) (disch := omega) only [letS_d, grd_t, bnd_d, bnd1_d, bndX_d, bndX_e, gI_sI, gI_sL, gL_sL, gL_sI, upd_at, updL_at, J_lit, J_add, J_mul, J_sub, J_lt, J_le, J_inj, J_ne, ne_J, m_lt, lt_m, m_le, le_m, J_cl, J_inB, if_true, if_false, ite_true, ite_false, reduceIte, isZ0, isZ1, J_and31, shrJ0, shlJ0, gI_sA, gL_sA, Nat.reduceEqDiff, Nat.reduceAdd, Nat.reduceMul, Nat.reduceLT, Nat.reduceLeDiff, c1, fX9_said_17, hc0], hi⟩
  · obtain ⟨c, d1, d2, d3⟩ := w5 n c1
    have n1 : ¬ w ≤ n := by omega
    have hcc : isC (J c) = true := J_isC (by omega)
    have hmin : ¬ 16 < w := by omega
    have h255 := and255 d1
    have hic := i2c (c := c) (by omega)
    have hck : fJ4_charAt_5068e N τ (J n) = some (J c, τ) := by
      unfold fJ4_charAt_5068e fJ5_charAt_5068e fJ0_checkIndex_df160 fJ3_checkIndex_8e157
      simp (decide := true) (disch := omega) only [letS_d, grd_t, bnd_d, bnd1_d, bndX_d, bndX_e, gI_sI, gI_sL, gL_sL, gL_sI, upd_at, updL_at, J_lit, J_add, J_mul, J_sub, J_lt, J_le, J_inj, J_ne, ne_J, m_lt, lt_m, m_le, le_m, J_cl, J_inB, if_true, if_false, ite_true, ite_false, reduceIte, isZ0, isZ1, J_and31, shrJ0, shlJ0, gI_sA, gL_sA, Nat.reduceEqDiff, Nat.reduceAdd, Nat.reduceMul, Nat.reduceLT, Nat.reduceLeDiff, w4, w2, hmin, Nat.not_lt_zero, c1, d2, h255, hic, hcc]
    exact ⟨J c, τ, sI σ 0 0 (J 0), by simp (decide := true) (disch := omega) only [letS_d, grd_t, bnd_d, bnd1_d, bndX_d, bndX_e, gI_sI, gI_sL, gL_sL, gL_sI, upd_at, updL_at, J_lit, J_add, J_mul, J_sub, J_lt, J_le, J_inj, J_ne, ne_J, m_lt, lt_m, m_le, le_m, J_cl, J_inB, if_true, if_false, ite_true, ite_false, reduceIte, isZ0, isZ1, J_and31, shrJ0, shlJ0, gI_sA, gL_sA, Nat.reduceEqDiff, Nat.reduceAdd, Nat.reduceMul, Nat.reduceLT, Nat.reduceLeDiff, Nat.not_lt_zero, w2, n1, hck, hcc], by simp (decide := true) (disch := omega) only [letS_d, grd_t, bnd_d, bnd1_d, bndX_d, bndX_e, gI_sI, gI_sL, gL_sL, gL_sI, upd_at, updL_at, J_lit, J_add, J_mul, J_sub, J_lt, J_le, J_inj, J_ne, ne_J, m_lt, lt_m, m_le, le_m, J_cl, J_inB, if_true, if_false, ite_true, ite_false, reduceIte, isZ0, isZ1, J_and31, shrJ0, shlJ0, gI_sA, gL_sA, Nat.reduceEqDiff, Nat.reduceAdd, Nat.reduceMul, Nat.reduceLT, Nat.reduceLeDiff, Nat.not_lt_zero, w3, c1, d3, hcc], hi⟩
  · have n1 : ¬ n < w := by omega
    exact ⟨J 0, τ, sI σ 0 0 (J 0), by simp (decide := true) (disch := omega) only [letS_d, grd_t, bnd_d, bnd1_d, bndX_d, bndX_e, gI_sI, gI_sL, gL_sL, gL_sI, upd_at, updL_at, J_lit, J_add, J_mul, J_sub, J_lt, J_le, J_inj, J_ne, ne_J, m_lt, lt_m, m_le, le_m, J_cl, J_inB, if_true, if_false, ite_true, ite_false, reduceIte, isZ0, isZ1, J_and31, shrJ0, shlJ0, gI_sA, gL_sA, Nat.reduceEqDiff, Nat.reduceAdd, Nat.reduceMul, Nat.reduceLT, Nat.reduceLeDiff, Nat.not_lt_zero, w2, c5, fX8_said_26, hc0], by simp (decide := true) (disch := omega) only [letS_d, grd_t, bnd_d, bnd1_d, bndX_d, bndX_e, gI_sI, gI_sL, gL_sL, gL_sI, upd_at, updL_at, J_lit, J_add, J_mul, J_sub, J_lt, J_le, J_inj, J_ne, ne_J, m_lt, lt_m, m_le, le_m, J_cl, J_inB, if_true, if_false, ite_true, ite_false, reduceIte, isZ0, isZ1, J_and31, shrJ0, shlJ0, gI_sA, gL_sA, Nat.reduceEqDiff, Nat.reduceAdd, Nat.reduceMul, Nat.reduceLT, Nat.reduceLeDiff, Nat.not_lt_zero, w3, n1, fX9_said_17, hc0], hi⟩
end REP
