/-! the reference's reader: sequences -/
section SEQ
variable {N ln : Nat} {ch : Nat → Nat}
/-- how often -/
def TmO (N : Nat) (ch : Nat → Nat) (ln x t : Nat) (L : List IT) (u : Term) (q : Nat) (r : PR) (σ : St) : Prop := match r with
  | (y, some w) => ∃ c σ', w = .elem u (.index c) ∧ Go N 1 σ σ' ∧ RQ ch ln y x L σ' ∧ (∀ i, nd σ' i = if i = t then (nK (nd σ i), nO (nd σ i), nT (nd σ i), nB (nd σ i), J (c / 16), J (c % 16)) else nd σ i) ∧ q ≤ y
  | (y, none) => Bd N 2 y σ ∧ q ≤ y
theorem ref_times {x t q : Nat} {L : List IT} {u : Term} {σ : St} (h : RQ ch ln q x ((J 8, J t, J 0) :: L) σ) (hL : L.length < 200) (ht : t < 160) (hl : nL (nd σ t) = J 1) (hm : nM (nd σ t) = J 1) : TmO N ch ln x t L u q (xP ch q u) σ := by
  have h1 := h.pop
  have hc := h.ch_lt q
  have h11 := h1.1.1
  have hnow := ref_now (N := N) h1
  have hn1 : nd (sI σ 13 0 (J L.length)) = nd σ := nd_of (S := [13]) (Fr.i (by decide)) (by decide)
  have htake : fX9_take N (sI σ 13 0 (J L.length)) (J 8) (J t) (J 0) = bnd1 (fX9_times N (sI σ 13 0 (J L.length)) (J t) (J (ch q))) fun σ15 => some σ15 := by
    unfold fX9_take
    rw [hnow, bnd_d]
    rfl
  unfold xP
  by_cases c1 : ch q = 43
  · rw [if_pos c1]
    have hpl := h.lt (i := q) (by omega)
    have f : Fr [10, 11] (sI σ 13 0 (J L.length)) (sI (sI (sI σ 13 0 (J L.length)) 11 0 (J (q + 1))) 10 t (J 0)) := (Fr.i (by decide)).tr (Fr.i (by decide))
    have f10 : Fr [10] (sI (sI σ 13 0 (J L.length)) 11 0 (J (q + 1))) (sI (sI (sI σ 13 0 (J L.length)) 11 0 (J (q + 1))) 10 t (J 0)) := Fr.i (by decide)
    refine ⟨16, _, rfl, Go.step h hL ?_ (f.mono (by decide)), (h1.go (q := q + 1) (by omega)).fr f10 (by decide), fun i => ?_, by omega⟩
    · refine htake.trans ?_
      unfold fX9_times fX9_times_23
      simp (decide := true) (disch := omega) only [letS_d, grd_tt, bnd_d, bnd1_d, bndX_d, bndX_e, gI_at, gI_ne, gI_sL, gL_sL, gL_sI, upd_at, updL_at, J_lit, J_add, J_mul, J_sub, J_lt, J_le, J_inj, J_ne, ne_J, m_lt, lt_m, m_le, le_m, J_cl, J_inB, if_true, if_false, ite_true, ite_false, reduceIte, isZ0, isZ1, J_and31, shrJ0, shlJ0, gI_sA, gL_sA, Nat.reduceEqDiff, Nat.reduceAdd, Nat.reduceMul, Nat.reduceLT, Nat.reduceLeDiff, c1, h11]
    · rw [nd10, show nd (sI (sI σ 13 0 (J L.length)) 11 0 (J (q + 1))) = nd σ from (nd_of (S := [11]) (Fr.i (by decide)) (by decide)).trans hn1]
      by_cases hi : i = t
      · subst hi
        rw [if_pos rfl, if_pos rfl, hl]
      · rw [if_neg hi, if_neg hi]
  · rw [if_neg c1]
    by_cases c2 : ch q = 42
    · rw [if_pos c2]
      have hpl := h.lt (i := q) (by omega)
      have h2 := h1.go (q := q + 1) (by omega)
      have hc2 := h2.ch_lt (q + 1)
      have hnow2 := ref_now (N := N) h2
      have d1 := dig_lt (m := 1) hc2 (by omega)
      have d2 := dig_gt hc2
      have hbeg : fX9_times N (sI σ 13 0 (J L.length)) (J t) (J (ch q)) = (if J (ch (q + 1)) - J 48 < J 1 then fX9_times_64 N (sI (sI σ 13 0 (J L.length)) 11 0 (J (q + 1))) (J t) (J (ch (q + 1)) - J 48) else if J 9 < J (ch (q + 1)) - J 48 then fX9_times_64 N (sI (sI σ 13 0 (J L.length)) 11 0 (J (q + 1))) (J t) (J (ch (q + 1)) - J 48) else fX9_times_65 N (sI (sI σ 13 0 (J L.length)) 11 0 (J (q + 1))) (J t) (J (ch (q + 1)) - J 48) (J 1)) := by
        unfold fX9_times fX9_times_23
        rw [c2, if_neg (show ¬ J 42 = (43 : Int32) by decide), if_pos (show J 42 = (42 : Int32) from rfl), h11, show J q + (1 : Int32) = J (q + 1) from J_add _ _, letS_d, hnow2, bnd_d]
        rfl
      by_cases hd : 49 ≤ ch (q + 1) ∧ ch (q + 1) ≤ 57
      · rw [if_pos hd]
        have hsub : J (ch (q + 1)) - J 48 = J (ch (q + 1) - 48) := J_sub (by omega)
        have n1 : ¬ (J (ch (q + 1)) - J 48 < J 1) := fun h9 => by have := d1.mp h9; omega
        have n2 : ¬ (J 9 < J (ch (q + 1)) - J 48) := fun h9 => by have := d2.mp h9; omega
        rw [if_neg n1, if_neg n2, hsub] at hbeg
        have hpl2 := h.lt (i := q + 1) (by omega)
        generalize hm' : ch (q + 1) - 48 = m at hbeg
        have hm9 : 1 ≤ m ∧ m ≤ 9 := by omega
        -- the state with the digit read
        have h3 : RQ ch ln (q + 2) x L (sI (sI (sI (sI (sI (sI σ 13 0 (J L.length)) 11 0 (J (q + 1))) 12 0 (J 1)) 11 0 (J (q + 2))) 9 t (J m)) 10 t (J m)) := (h2.good.go (q := q + 2) (by omega)).fr (S := [9, 10]) ((Fr.i (by decide)).tr (Fr.i (by decide))) (by decide)
        have f3 : Fr [9, 10, 11, 12] (sI σ 13 0 (J L.length)) (sI (sI (sI (sI (sI (sI σ 13 0 (J L.length)) 11 0 (J (q + 1))) 12 0 (J 1)) 11 0 (J (q + 2))) 9 t (J m)) 10 t (J m)) := ((((Fr.i (by decide)).tr (Fr.i (by decide))).tr (Fr.i (by decide))).tr (Fr.i (by decide))).tr (Fr.i (by decide))
        have hn3 : ∀ i, nd (sI (sI (sI (sI (sI (sI σ 13 0 (J L.length)) 11 0 (J (q + 1))) 12 0 (J 1)) 11 0 (J (q + 2))) 9 t (J m)) 10 t (J m)) i = if i = t then (nK (nd σ i), nO (nd σ i), nT (nd σ i), nB (nd σ i), J m, J m) else nd σ i := fun i => by
          rw [nd10, nd9, show nd (sI (sI (sI (sI σ 13 0 (J L.length)) 11 0 (J (q + 1))) 12 0 (J 1)) 11 0 (J (q + 2))) = nd σ from (nd_of (S := [11, 12]) (((Fr.i (by decide)).tr (Fr.i (by decide))).tr (Fr.i (by decide))) (by decide)).trans hn1]
          by_cases hi : i = t
          · rw [if_pos hi, if_pos hi, if_pos hi]
            rfl
          · rw [if_neg hi, if_neg hi, if_neg hi]
        have hbeg2 : fX9_times N (sI σ 13 0 (J L.length)) (J t) (J (ch q)) = (bnd (fX9_now N (sI (sI (sI (sI (sI (sI σ 13 0 (J L.length)) 11 0 (J (q + 1))) 12 0 (J 1)) 11 0 (J (q + 2))) 9 t (J m)) 10 t (J m))) fun r21 σ20 => if r21 = (45 : Int32) then letS (sI σ20 11 0 ((gI σ20 11 0) + (1 : Int32))) fun σ23 => bnd (fX9_now N σ23) fun r25 σ24 => letS (r25 - (48 : Int32)) fun u26 => if u26 < J m then fX9_times_147 N σ24 (J t) u26 else if (9 : Int32) < u26 then fX9_times_147 N σ24 (J t) u26 else fX9_times_148 N σ24 (J t) u26 (1 : Int32) else some σ20) := by
          rw [hbeg]
          unfold fX9_times_65
          simp (decide := true) (disch := omega) only [letS_d, grd_tt, bnd_d, bnd1_d, bndX_d, bndX_e, gI_at, gI_ne, gI_sL, gL_sL, gL_sI, upd_at, updL_at, J_lit, J_add, J_mul, J_sub, J_lt, J_le, J_inj, J_ne, ne_J, m_lt, lt_m, m_le, le_m, J_cl, J_inB, if_true, if_false, ite_true, ite_false, reduceIte, isZ0, isZ1, J_and31, shrJ0, shlJ0, gI_sA, gL_sA, Nat.reduceEqDiff, Nat.reduceAdd, Nat.reduceMul, Nat.reduceLT, Nat.reduceLeDiff]
        have hnow3 := ref_now (N := N) h3
        have hc3 := h3.ch_lt (q + 2)
        generalize sI (sI (sI (sI (sI (sI σ 13 0 (J L.length)) 11 0 (J (q + 1))) 12 0 (J 1)) 11 0 (J (q + 2))) 9 t (J m)) 10 t (J m) = σ3 at h3 f3 hn3 hbeg2 hnow3
        rw [hnow3, bnd_d] at hbeg2
        by_cases h45 : ch (q + 2) = 45
        · rw [if_pos h45]
          have hpl3 := h.lt (i := q + 2) (by omega)
          rw [h45, if_pos (show J 45 = (45 : Int32) from rfl), h3.1.1, show J (q + 2) + (1 : Int32) = J (q + 3) from J_add _ _, letS_d] at hbeg2
          have h4 := h3.go (q := q + 3) (by omega)
          have hnow4 := ref_now (N := N) h4
          have hc4 := h4.ch_lt (q + 3)
          have f4 : Fr [9, 10, 11, 12] (sI σ 13 0 (J L.length)) (sI σ3 11 0 (J (q + 3))) := f3.tr (Fr.i (by decide))
          have hn4 : nd (sI σ3 11 0 (J (q + 3))) = nd σ3 := nd_of (S := [11]) (Fr.i (by decide)) (by decide)
          rw [hnow4, bnd_d, letS_d] at hbeg2
          have e1 := dig_lt (m := m) hc4 (by omega)
          have e2 := dig_gt hc4
          by_cases hd2 : ch (q + 1) ≤ ch (q + 3) ∧ ch (q + 3) ≤ 57
          · rw [if_pos hd2]
            have k1 : ¬ (J (ch (q + 3)) - (48 : Int32) < J m) := fun h9 => by have := e1.mp h9; omega
            have k2 : ¬ ((9 : Int32) < J (ch (q + 3)) - (48 : Int32)) := fun h9 => by have := e2.mp h9; omega
            rw [if_neg k1, if_neg k2, show J (ch (q + 3)) - (48 : Int32) = J (ch (q + 3) - 48) from J_sub (a := ch (q + 3)) (b := 48) (by omega)] at hbeg2
            generalize hn' : ch (q + 3) - 48 = n at hbeg2
            have hpl4 := h.lt (i := q + 3) (by omega)
            have f10 : Fr [10] (sI (sI σ3 11 0 (J (q + 3))) 12 0 (J 1)) (sI (sI (sI σ3 11 0 (J (q + 3))) 12 0 (J 1)) 10 t (J n)) := Fr.i (by decide)
            have h5 := (h4.good.fr f10 (by decide)).go (q := q + 4) (by omega)
            refine ⟨16 * m + n, _, rfl, Go.step h hL ?_ (((((f4.mono (by decide)).tr (Fr.i (by decide))).tr (f10.mono (by decide)))).tr (Fr.i (by decide))), h5, fun i => ?_, by omega⟩
            · refine htake.trans ?_
              rw [hbeg2]
              have h11' := h4.1.1
              unfold fX9_times_148 fX9_times_176
              simp (decide := true) (disch := omega) only [letS_d, grd_tt, bnd_d, bnd1_d, bndX_d, bndX_e, gI_at, gI_ne, gI_sL, gL_sL, gL_sI, upd_at, updL_at, J_lit, J_add, J_mul, J_sub, J_lt, J_le, J_inj, J_ne, ne_J, m_lt, lt_m, m_le, le_m, J_cl, J_inB, if_true, if_false, ite_true, ite_false, reduceIte, isZ0, isZ1, J_and31, shrJ0, shlJ0, gI_sA, gL_sA, Nat.reduceEqDiff, Nat.reduceAdd, Nat.reduceMul, Nat.reduceLT, Nat.reduceLeDiff]
            · rw [show nd (sI (sI (sI (sI σ3 11 0 (J (q + 3))) 12 0 (J 1)) 10 t (J n)) 11 0 (J (q + 4))) = nd (sI (sI (sI σ3 11 0 (J (q + 3))) 12 0 (J 1)) 10 t (J n)) from nd_of (S := [11]) (Fr.i (by decide)) (by decide), nd10, show nd (sI (sI σ3 11 0 (J (q + 3))) 12 0 (J 1)) = nd σ3 from (nd_of (S := [12]) (Fr.i (by decide)) (by decide)).trans hn4, hn3 i]
              rw [show (16 * m + n) / 16 = m from by omega, show (16 * m + n) % 16 = n from by omega]
              by_cases hi : i = t
              · rw [if_pos hi, if_pos hi, if_pos hi]
                rfl
              · rw [if_neg hi, if_neg hi, if_neg hi]
          · rw [if_neg hd2]
            refine ⟨?_, by omega⟩
            have h147 : ∀ y, fX9_times_147 N (sI σ3 11 0 (J (q + 3))) (J t) y = some (sI (sI (sI (sI σ3 11 0 (J (q + 3))) 12 0 (J 0)) 10 t y) 11 0 (J (q + 3))) := fun y => by
              unfold fX9_times_147 fX9_times_148 fX9_times_176
              simp (decide := true) (disch := omega) only [letS_d, grd_tt, bnd_d, bnd1_d, bndX_d, bndX_e, gI_at, gI_ne, gI_sL, gL_sL, gL_sI, upd_at, updL_at, J_lit, J_add, J_mul, J_sub, J_lt, J_le, J_inj, J_ne, ne_J, m_lt, lt_m, m_le, le_m, J_cl, J_inB, if_true, if_false, ite_true, ite_false, reduceIte, isZ0, isZ1, J_and31, shrJ0, shlJ0, gI_sA, gL_sA, Nat.reduceEqDiff, Nat.reduceAdd, Nat.reduceMul, Nat.reduceLT, Nat.reduceLeDiff, Nat.add_zero]
            have f5 : ∀ y, Fr [9, 10, 11, 12] (sI σ 13 0 (J L.length)) (sI (sI (sI (sI σ3 11 0 (J (q + 3))) 12 0 (J 0)) 10 t y) 11 0 (J (q + 3))) := fun y => ((f4.tr (Fr.i (by decide))).tr (Fr.i (by decide))).tr (Fr.i (by decide))
            rw [h147] at hbeg2
            have hno : (J (ch (q + 3)) - (48 : Int32) < J m) ∨ ((9 : Int32) < J (ch (q + 3)) - (48 : Int32)) := by
              by_cases hlt : ch (q + 3) < 48 + m
              · exact Or.inl (e1.mpr hlt)
              · exact Or.inr (e2.mpr (by omega))
            have hbeg3 : fX9_times N (sI σ 13 0 (J L.length)) (J t) (J (ch q)) = some (sI (sI (sI (sI σ3 11 0 (J (q + 3))) 12 0 (J 0)) 10 t (J (ch (q + 3)) - (48 : Int32))) 11 0 (J (q + 3))) := by
              rcases hno with hno | hno
              · rw [hbeg2, if_pos hno]
              · rw [hbeg2]
                by_cases hz : (J (ch (q + 3)) - (48 : Int32) < J m)
                · rw [if_pos hz]
                · rw [if_neg hz, if_pos hno]
            exact Bd.step h hL (htake.trans (by rw [hbeg3, bnd1_d])) ((f5 (J (ch (q + 3)) - (48 : Int32))).mono (by decide)) (by simp (decide := true) (disch := omega) only [letS_d, grd_tt, bnd_d, bnd1_d, bndX_d, bndX_e, gI_at, gI_ne, gI_sL, gL_sL, gL_sI, upd_at, updL_at, J_lit, J_add, J_mul, J_sub, J_lt, J_le, J_inj, J_ne, ne_J, m_lt, lt_m, m_le, le_m, J_cl, J_inB, if_true, if_false, ite_true, ite_false, reduceIte, isZ0, isZ1, J_and31, shrJ0, shlJ0, gI_sA, gL_sA, Nat.reduceEqDiff, Nat.reduceAdd, Nat.reduceMul, Nat.reduceLT, Nat.reduceLeDiff]) (by simp (decide := true) (disch := omega) only [letS_d, grd_tt, bnd_d, bnd1_d, bndX_d, bndX_e, gI_at, gI_ne, gI_sL, gL_sL, gL_sI, upd_at, updL_at, J_lit, J_add, J_mul, J_sub, J_lt, J_le, J_inj, J_ne, ne_J, m_lt, lt_m, m_le, le_m, J_cl, J_inB, if_true, if_false, ite_true, ite_false, reduceIte, isZ0, isZ1, J_and31, shrJ0, shlJ0, gI_sA, gL_sA, Nat.reduceEqDiff, Nat.reduceAdd, Nat.reduceMul, Nat.reduceLT, Nat.reduceLeDiff])
        · rw [if_neg h45]
          have hne : ¬ J (ch (q + 2)) = (45 : Int32) := fun h9 => h45 (by
            rw [show (45 : Int32) = J 45 from rfl, J_inj (by omega) (by omega)] at h9
            exact h9)
          rw [if_neg hne] at hbeg2
          refine ⟨17 * m, σ3, rfl, Go.step h hL ?_ (f3.mono (by decide)), h3, fun i => ?_, by omega⟩
          · refine htake.trans ?_
            rw [hbeg2, bnd1_d]
          · rw [hn3 i, show 17 * m / 16 = m from by omega, show 17 * m % 16 = m from by omega]
      · rw [if_neg hd]
        refine ⟨?_, by omega⟩
        have h64 : ∀ y, fX9_times_64 N (sI (sI σ 13 0 (J L.length)) 11 0 (J (q + 1))) (J t) y = some (sI (sI (sI σ 13 0 (J L.length)) 11 0 (J (q + 1))) 12 0 (J 0)) := fun y => by
          unfold fX9_times_64 fX9_times_65
          simp (decide := true) (disch := omega) only [letS_d, grd_tt, bnd_d, bnd1_d, bndX_d, bndX_e, gI_at, gI_ne, gI_sL, gL_sL, gL_sI, upd_at, updL_at, J_lit, J_add, J_mul, J_sub, J_lt, J_le, J_inj, J_ne, ne_J, m_lt, lt_m, m_le, le_m, J_cl, J_inB, if_true, if_false, ite_true, ite_false, reduceIte, isZ0, isZ1, J_and31, shrJ0, shlJ0, gI_sA, gL_sA, Nat.reduceEqDiff, Nat.reduceAdd, Nat.reduceMul, Nat.reduceLT, Nat.reduceLeDiff]
        rw [h64] at hbeg
        have hbeg3 : fX9_times N (sI σ 13 0 (J L.length)) (J t) (J (ch q)) = some (sI (sI (sI σ 13 0 (J L.length)) 11 0 (J (q + 1))) 12 0 (J 0)) := by
          rw [hbeg]
          by_cases hz : J (ch (q + 1)) - J 48 < J 1
          · rw [if_pos hz]
          · have hz2 : J 9 < J (ch (q + 1)) - J 48 := d2.mpr (by
              have : ¬ ch (q + 1) < 48 + 1 := fun h9 => hz (d1.mpr h9)
              omega)
            rw [if_neg hz, if_pos hz2]
        have f5 : Fr [11, 12] (sI σ 13 0 (J L.length)) (sI (sI (sI σ 13 0 (J L.length)) 11 0 (J (q + 1))) 12 0 (J 0)) := (Fr.i (by decide)).tr (Fr.i (by decide))
        refine Bd.step h hL ?_ (f5.mono (by decide)) (by simp (decide := true) (disch := omega) only [letS_d, grd_tt, bnd_d, bnd1_d, bndX_d, bndX_e, gI_at, gI_ne, gI_sL, gL_sL, gL_sI, upd_at, updL_at, J_lit, J_add, J_mul, J_sub, J_lt, J_le, J_inj, J_ne, ne_J, m_lt, lt_m, m_le, le_m, J_cl, J_inB, if_true, if_false, ite_true, ite_false, reduceIte, isZ0, isZ1, J_and31, shrJ0, shlJ0, gI_sA, gL_sA, Nat.reduceEqDiff, Nat.reduceAdd, Nat.reduceMul, Nat.reduceLT, Nat.reduceLeDiff]) (by simp (decide := true) (disch := omega) only [letS_d, grd_tt, bnd_d, bnd1_d, bndX_d, bndX_e, gI_at, gI_ne, gI_sL, gL_sL, gL_sI, upd_at, updL_at, J_lit, J_add, J_mul, J_sub, J_lt, J_le, J_inj, J_ne, ne_J, m_lt, lt_m, m_le, le_m, J_cl, J_inB, if_true, if_false, ite_true, ite_false, reduceIte, isZ0, isZ1, J_and31, shrJ0, shlJ0, gI_sA, gL_sA, Nat.reduceEqDiff, Nat.reduceAdd, Nat.reduceMul, Nat.reduceLT, Nat.reduceLeDiff])
        refine htake.trans ?_
        rw [hbeg3, bnd1_d]
    · rw [if_neg c2]
      refine ⟨17, _, rfl, Go.step h hL ?_ Fr.rf, h1, fun i => ?_, Nat.le_refl _⟩
      · refine htake.trans ?_
        unfold fX9_times fX9_times_23
        simp (decide := true) (disch := omega) only [letS_d, grd_tt, bnd_d, bnd1_d, bndX_d, bndX_e, gI_at, gI_ne, gI_sL, gL_sL, gL_sI, upd_at, updL_at, J_lit, J_add, J_mul, J_sub, J_lt, J_le, J_inj, J_ne, ne_J, m_lt, lt_m, m_le, le_m, J_cl, J_inB, if_true, if_false, ite_true, ite_false, reduceIte, isZ0, isZ1, J_and31, shrJ0, shlJ0, gI_sA, gL_sA, Nat.reduceEqDiff, Nat.reduceAdd, Nat.reduceMul, Nat.reduceLT, Nat.reduceLeDiff, c1, c2]
      · rw [hn1]
        by_cases hi : i = t
        · subst hi
          rw [if_pos rfl]
          exact (show nd σ i = (nK (nd σ i), nO (nd σ i), nT (nd σ i), nB (nd σ i), nL (nd σ i), nM (nd σ i)) from rfl).trans (by rw [hl, hm])
        · rw [if_neg hi]
end SEQ
