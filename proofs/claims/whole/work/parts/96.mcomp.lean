/-! compile: class and reference alike -/
section CMP
variable {N : Nat} {τ σ : St}
/-- the text's characters -/
theorem text_ch (h : IvT τ σ) : ∃ (ln : Nat) (ch : Nat → Nat), ln ≤ 40 ∧ gI τ 1 0 = J ln ∧ gI σ 2 0 = J ln ∧ (∀ i, i < ln → gI τ 0 i = J (ch i) ∧ 33 ≤ ch i ∧ ch i ≤ 126) ∧ (∀ i, i < ln → gI σ 1 i = J (ch i) ∧ 33 ≤ ch i ∧ ch i ≤ 126) ∧ ∀ i, ln ≤ i → ch i = 0 := by
  obtain ⟨n, hn, h1, h2, h3⟩ := h
  refine ⟨n, fun i => if h : i < n then Classical.choose (h3 i h) else 0, hn, h1, h2, fun i hi => ?_, fun i hi => ?_, fun i hi => dif_neg (by omega)⟩
  · obtain ⟨a, b, c, d⟩ := Classical.choose_spec (h3 i hi)
    show gI τ 0 i = J (if h : i < n then Classical.choose (h3 i h) else 0) ∧ 33 ≤ (if h : i < n then Classical.choose (h3 i h) else 0) ∧ (if h : i < n then Classical.choose (h3 i h) else 0) ≤ 126
    rw [dif_pos hi]
    exact ⟨c, a, b⟩
  · obtain ⟨a, b, c, d⟩ := Classical.choose_spec (h3 i hi)
    show gI σ 1 i = J (if h : i < n then Classical.choose (h3 i h) else 0) ∧ 33 ≤ (if h : i < n then Classical.choose (h3 i h) else 0) ∧ (if h : i < n then Classical.choose (h3 i h) else 0) ≤ 126
    rw [dif_pos hi]
    exact ⟨d, a, b⟩
abbrev CLS : List Nat := [21, 22, 23, 24, 25, 30, 31, 32, 33, 34, 35, 36, 37, 38, 42, 43, 45, 46, 51, 52, 53, 54, 61, 62, 63, 64, 65, 66]
abbrev REF : List Nat := [0, 4, 5, 6, 7, 8, 9, 10, 11, 12, 13, 14, 15, 16, 17, 18, 19, 20, 21, 22, 23, 24, 25, 26, 27, 28, 29, 30, 31, 32, 33, 34, 35, 36]
/-- compile's code: returned, or which throw -/
def cdE (x : Int32) : Int32 := if x = 0 then 0 else if x = 1 then 1 else 2
theorem both_compile (hN : 20 ^ 130 ≤ N) (hI : Inv N τ σ) : ∃ x v r τ1 σ1, fX8_compile N τ = some (x, v, τ1) ∧ (x = 0 ∨ x = 1 ∨ x = 2) ∧ fX9_compile N σ = some (r, σ1) ∧ gI σ1 0 0 = cdE x ∧ (x = 0 → v = r) ∧ Inv N τ1 σ1 := by
  have hN1 : 10000 ≤ N := Nat.le_trans (by decide) hN
  obtain ⟨hT, hFt, hS, hC⟩ := id hI
  obtain ⟨ln, ch, hln, hτ1, hσ2, htτ, htσ, hz⟩ := text_ch hT
  have hcl := cls_readAll (N := N) (τ := τ) (ch := ch) (ln := ln) (by omega) hln htτ hz
  have hrf := ref_read (N := N) (σ := σ) (ch := ch) (ln := ln) (by omega) hσ2 hln htσ hz
  have hr1 : (J 1 : Int32) = 0 ∨ (J 1 : Int32) = 1 ∨ (J 1 : Int32) = 2 := Or.inr (Or.inl rfl)
  have hr2 : (J 2 : Int32) = 0 ∨ (J 2 : Int32) = 1 ∨ (J 2 : Int32) = 2 := Or.inr (Or.inr rfl)
  rcases hcl with ⟨q, τ1, a1, a2, a3, a4⟩ | ⟨t, τ1, a1, a2, a3, a4, a5, a6⟩
  · rcases hrf with ⟨q', σ1, b1, b2, b3, b4, b5⟩ | ⟨t', σ1, b1, b2, b3, b4, b5⟩
    · have hq : q = q' := by
        rcases a4 with a4 | ⟨t, a4, _⟩ <;> rcases b5 with b5 | ⟨t', b5, _⟩ <;> rw [a4] at b5 <;> cases b5 <;> rfl
      subst hq
      refine ⟨J 1, J 0, 0, τ1, sI (sI σ1 3 0 (gI σ1 11 0)) 0 0 (J 1), ?_, hr1, ?_, by simp (decide := true) (disch := omega) only [letS_d, grd_tt, bnd_d, bnd1_d, bndX_d, bndX_e, gI_at, gI_ne, gI_sL, gL_sL, gL_sI, upd_at, updL_at, J_lit, J_add, J_mul, J_sub, J_lt, J_le, J_inj, J_ne, ne_J, m_lt, lt_m, m_le, le_m, J_cl, J_inB, if_true, if_false, ite_true, ite_false, reduceIte, isZ0, isZ1, J_and31, shrJ0, shlJ0, gI_sA, gL_sA, Nat.reduceEqDiff, Nat.reduceAdd, Nat.reduceMul, Nat.reduceLT, Nat.reduceLeDiff, cdE], fun h => absurd h (by decide), ?_⟩
      · unfold fX8_compile
        rw [hτ1, a1, bndX_1]
      · unfold fX9_compile fX9_raise
        rw [b1, bnd1_d, b3, if_pos (show J 0 = (0 : Int32) from rfl)]
        rfl
      · have f2 : Fr (3 :: REF) σ (sI (sI σ1 3 0 (gI σ1 11 0)) 0 0 (J 1)) := ((b2.mono (by decide)).tr (Fr.i (by decide))).tr (Fr.i (by decide))
        refine ⟨hT.fr a2 f2 (by decide) (by decide), ?_, hS.fr a2 f2 (by decide) (by decide), hC.fr a2 f2 (by decide) (by decide)⟩
        show gI τ1 44 0 = gI (sI (sI σ1 3 0 (gI σ1 11 0)) 0 0 (J 1)) 3 0
        rw [a3, ← b4]
        simp (decide := true) (disch := omega) only [letS_d, grd_tt, bnd_d, bnd1_d, bndX_d, bndX_e, gI_at, gI_ne, gI_sL, gL_sL, gL_sI, upd_at, updL_at, J_lit, J_add, J_mul, J_sub, J_lt, J_le, J_inj, J_ne, ne_J, m_lt, lt_m, m_le, le_m, J_cl, J_inB, if_true, if_false, ite_true, ite_false, reduceIte, isZ0, isZ1, J_and31, shrJ0, shlJ0, gI_sA, gL_sA, Nat.reduceEqDiff, Nat.reduceAdd, Nat.reduceMul, Nat.reduceLT, Nat.reduceLeDiff]
    · exfalso
      rcases a4 with a4 | ⟨t, a4, hne⟩
      · rw [a4] at b4
        cases b4
      · rw [a4] at b4
        cases b4
        exact hne rfl
  · rcases hrf with ⟨q', σ1, b1, b2, b3, b4, b5⟩ | ⟨t', σ1, b1, b2, b3, b4, b5, b6, b7, b8⟩
    · exfalso
      rcases b5 with b5 | ⟨t', b5, hne⟩
      · rw [a3] at b5
        cases b5
      · rw [a3] at b5
        cases b5
        exact hne rfl
    · have htt : t = t' := by
        rw [a3] at b4
        cases b4
        rfl
      subst htt
      obtain ⟨hok, hsh, hht⟩ := pP_ok 13 0 _ _ a3
      have hcol := ref_collect (N := N) (t := t) (σ := σ1) hN hok hsh (by omega) b7 b5 b6 b8
      have hoT : oC t + (if own t = true then 0 else 1) = oT t true := (oT_true t).symm
      rw [hoT] at a6
      have hbegC : ∀ Z, fX8_compile N τ = Z ↔ (if (gI τ1 23 0) = 0 then some ((2 : Int32), (0 : Int32), τ1) else bnd1 (fX0_fill N τ1) fun σ5 => bnd (fX1_wholeObligation N σ5) fun r7 σ6 => bnd (fX3_explore N σ6 r7) fun r9 σ8 => if r9 = 0 then some ((2 : Int32), (0 : Int32), σ8) else letS (sI σ8 11 0 (gI σ8 22 0)) fun σ11 => letS (sI σ11 12 0 (gI σ11 66 0)) fun σ12 => bnd1 (fX4_build N σ12) fun σ13 => bnd1 (fX2_renew N σ13) fun σ14 => bnd1 (fX7_end N σ14) fun σ15 => grd (isZ (1 : Int32)) (letS (sI σ15 10 0 (1 : Int32)) fun σ16 => some ((0 : Int32), gI σ16 71 0, σ16))) = Z := fun Z => by
        unfold fX8_compile
        rw [hτ1, a1, bndX_d]
      have hbegR : ∀ Z, fX9_compile N σ = Z ↔ (bnd1 (fX9_collect N σ1) fun σ3 => if (9 : Int32) < (gI σ3 17 0) then fX9_compile_45 N σ3 else bnd (fX9_gather N σ3) fun r6 σ5 => if r6 = 0 then fX9_compile_45 N σ5 else letS (sI σ5 0 0 (0 : Int32)) fun σ8 => bnd1 (fX9_fail N σ8) fun σ9 => bnd1 (fX9_split N σ9) fun σ10 => bnd1 (fX9_number N σ10) fun σ11 => bnd1 (fX9_count N σ11) fun σ12 => letS (sI σ12 43 0 (gI σ12 17 0)) fun σ13 => letS (sI σ13 44 0 (gI σ13 34 0)) fun σ14 => letS (sI σ14 49 0 (-1 : Int32)) fun σ15 => some (gI σ15 40 0, σ15)) = Z := fun Z => by
        unfold fX9_compile
        rw [b1, bnd1_d, b3, if_neg (show ¬ J 1 = (0 : Int32) by decide)]
      have h45 : ∀ σ9, fX9_compile_45 N σ9 = some (0, sI σ9 0 0 (J 2)) := fun σ9 => rfl
      rcases a6 with ⟨c1, c2, c3, c4, c5⟩ | ⟨c1, c2⟩
      · rcases hcol with ⟨d1, _⟩ | ⟨d1, σ2, dn, e1, e2, e3, e4, e5, e6, e7, e8, e9, e10, e11⟩
        · omega
        · -- as many obligations as may be
          have hF2 : Fr REF σ σ2 := (b2.mono (by decide)).tr (e2.mono (by decide))
          have hG : GH t dn σ2 := ⟨⟨by rw [nd_of e2 (by decide)]; exact b7, b5, by rw [e2.gi (by decide)]; exact b6⟩, ⟨d1, e3⟩, e4, e5, e6, e7, e8, e9, e10, e11⟩
          obtain ⟨VC, im, π, πi, r1, r2, r3, r4⟩ := both_rel (N := N) hN hok hsh hG
          obtain ⟨τ2, f1, f2, f3, f4⟩ := cls_fill (N := N) (V := VC) (t := t) (k := oT t true) (τ := τ1) (by omega) hok hsh r1 c4 c5 a5 (by omega) c2 rfl c3
          have hwo : fX1_wholeObligation N τ2 = some (J (πi 0), τ2) := by
            have np := nC_pos t
            have h21 : gI τ2 21 0 = J (nC t) := by rw [f2.gi (by decide)]; exact a5
            have h33 : gI τ2 33 (nC t - 1) = J (πi 0) := by rw [f2.gi (by decide), c5]; exact r3
            have hd : decide (nC t - 1 < 40) = true := decide_eq_true (by omega)
            have hnl : ¬ nC t ≤ 0 := by omega
            unfold fX1_wholeObligation
            simp (decide := true) (disch := omega) only [letS_d, grd_tt, bnd_d, bnd1_d, bndX_d, bndX_e, gI_at, gI_ne, gI_sL, gL_sL, gL_sI, upd_at, updL_at, J_lit, J_add, J_mul, J_sub, J_lt, J_le, J_inj, J_ne, ne_J, m_lt, lt_m, m_le, le_m, J_cl, J_inB, if_true, if_false, ite_true, ite_false, reduceIte, isZ0, isZ1, J_and31, shrJ0, shlJ0, gI_sA, gL_sA, Nat.reduceEqDiff, Nat.reduceAdd, Nat.reduceMul, Nat.reduceLT, Nat.reduceLeDiff, h21, hnl, hd, decide_true, h33]
          obtain ⟨σ3, g1, g2, g3⟩ := g_letters (N := N) (k := oT t true) (im := im) (σ0 := σ2) (by omega) d1 e3 r4 8 0 N σ2 (by omega) (by omega) Fr.rf (fun l' s hl' => by omega)
          have hImg : Img (oT t true) im σ3 := ⟨by rw [g2.gi (by decide)]; exact e3, fun l s hl hs => ⟨g3 l s hl hs, r2.2.2.2.2.1 l s hl hs⟩⟩
          have hcond := both_conds (N := N) (τ := τ2) (σ := σ3) (by omega) r2 f3 f4 hImg
          have h23 : ¬ gI τ1 23 0 = (0 : Int32) := by rw [c1]; decide
          have h17 : ¬ (9 : Int32) < gI σ2 17 0 := by
            rw [e3]
            show ¬ J 9 < J (oT t true)
            rw [J_lt (by omega) (by omega)]
            omega
          have hgat : fX9_gather N σ2 = fX9_gather_57 N N (sI σ3 34 0 (J 0)) (J 0) := by
            unfold fX9_gather
            exact g1
          have hFτ2 : Fr CLS τ τ2 := (a2.mono (by decide)).tr (f2.mono (by decide))
          have hFσ3 : Fr REF σ σ3 := hF2.tr (g2.mono (by decide))
          rcases hcond with ⟨τ3, σ4, i1, i2, i3, i4⟩ | ⟨c, ld, base, τ3, σ4, i1, i2, i3, i4, i5, i6, i7, i8⟩
          · have f1' : Fr CLS τ τ3 := hFτ2.tr (i3.mono (by decide))
            have f2' : Fr REF σ (sI σ4 0 0 (J 2)) := (hFσ3.tr (i4.mono (by decide))).tr (Fr.i (by decide))
            refine ⟨J 2, J 0, 0, τ3, sI σ4 0 0 (J 2), ?_, hr2, ?_, by simp (decide := true) (disch := omega) only [letS_d, grd_tt, bnd_d, bnd1_d, bndX_d, bndX_e, gI_at, gI_ne, gI_sL, gL_sL, gL_sI, upd_at, updL_at, J_lit, J_add, J_mul, J_sub, J_lt, J_le, J_inj, J_ne, ne_J, m_lt, lt_m, m_le, le_m, J_cl, J_inB, if_true, if_false, ite_true, ite_false, reduceIte, isZ0, isZ1, J_and31, shrJ0, shlJ0, gI_sA, gL_sA, Nat.reduceEqDiff, Nat.reduceAdd, Nat.reduceMul, Nat.reduceLT, Nat.reduceLeDiff, cdE], fun h => absurd h (by decide), hI.fr f1' f2' (by decide) (by decide)⟩
            · refine (hbegC _).mpr ?_
              rw [if_neg h23, f1, bnd1_d, hwo, bnd_d, i1, bnd_d, if_pos (show J 0 = (0 : Int32) from rfl)]
              rfl
            · refine (hbegR _).mpr ?_
              rw [e1, bnd1_d, if_neg h17, hgat, i2, bnd_d, if_pos (show J 0 = (0 : Int32) from rfl), h45]
          · have f1' : Fr CLS τ τ3 := hFτ2.tr (i3.mono (by decide))
            have f2' : Fr REF σ σ4 := hFσ3.tr (i4.mono (by decide))
            obtain ⟨r, τ4, σ5, j1, j2, j3, j4⟩ := both_tail (N := N) (by omega) d1 (by rw [i3.gi (by decide), f2.gi (by decide)]; exact c2) (by rw [i4.gi (by decide), g2.gi (by decide)]; exact e3) i5 i6 i7 i8 (hT.fr f1' f2' (by decide) (by decide)) (hFt.fr f1' f2' (by decide) (by decide)) (hS.fr f1' f2' (by decide) (by decide))
            refine ⟨J 0, r, r, τ4, σ5, ?_, Or.inl rfl, ?_, by rw [j3]; rfl, fun _ => rfl, j4⟩
            · refine (hbegC _).mpr ?_
              rw [if_neg h23, f1, bnd1_d, hwo, bnd_d, i1, bnd_d, if_neg (show ¬ J 1 = (0 : Int32) by decide)]
              exact j1
            · refine (hbegR _).mpr ?_
              rw [e1, bnd1_d, if_neg h17, hgat, i2, bnd_d, if_neg (show ¬ J 1 = (0 : Int32) by decide)]
              exact j2
      · rcases hcol with ⟨d1, σ2, e1, e2, e3⟩ | ⟨d1, _⟩
        · have f1' : Fr CLS τ τ1 := a2.mono (by decide)
          have f2' : Fr REF σ (sI σ2 0 0 (J 2)) := ((b2.mono (by decide)).tr (e2.mono (by decide))).tr (Fr.i (by decide))
          refine ⟨J 2, J 0, 0, τ1, sI σ2 0 0 (J 2), ?_, hr2, ?_, by simp (decide := true) (disch := omega) only [letS_d, grd_tt, bnd_d, bnd1_d, bndX_d, bndX_e, gI_at, gI_ne, gI_sL, gL_sL, gL_sI, upd_at, updL_at, J_lit, J_add, J_mul, J_sub, J_lt, J_le, J_inj, J_ne, ne_J, m_lt, lt_m, m_le, le_m, J_cl, J_inB, if_true, if_false, ite_true, ite_false, reduceIte, isZ0, isZ1, J_and31, shrJ0, shlJ0, gI_sA, gL_sA, Nat.reduceEqDiff, Nat.reduceAdd, Nat.reduceMul, Nat.reduceLT, Nat.reduceLeDiff, cdE], fun h => absurd h (by decide), hI.fr f1' f2' (by decide) (by decide)⟩
          · refine (hbegC _).mpr ?_
            rw [c1, if_pos (show J 0 = (0 : Int32) from rfl)]
            rfl
          · refine (hbegR _).mpr ?_
            rw [e1, bnd1_d, e3, if_pos (show (9 : Int32) < J 10 by decide), h45]
        · omega
end CMP
