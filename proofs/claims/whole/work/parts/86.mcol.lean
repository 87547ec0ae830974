/-! the reference collects its obligations: rules -/
section COL
variable {N : Nat} {F : Nat → ND}
/-- which places are last -/
theorem u_lasts {K' : Nat} (hK : K' ≤ 9) : ∀ f p n (σ : St), p + f = K' → f < n → gI σ 17 0 = J K' → ∃ σ', fX9_unroll_135 N n σ (J p) = some σ' ∧ Fr [22] σ σ' ∧ (∀ i, i < p → gI σ' 22 i = gI σ 22 i) ∧ ∀ i, p ≤ i → i < K' → gI σ' 22 i = zb (bt (gI σ 29 0) i) := by
  intro f
  induction f with
  | zero =>
    intro p n σ hp hn h17
    obtain ⟨n, rfl⟩ : ∃ k, n = k + 1 := ⟨n - 1, by omega⟩
    obtain rfl : p = K' := by omega
    refine ⟨σ, ?_, Fr.rf, fun _ _ => rfl, fun i h1 h2 => by omega⟩
    unfold fX9_unroll_135
    simp (decide := true) (disch := omega) only [letS_d, grd_tt, bnd_d, bnd1_d, bndX_d, bndX_e, gI_at, gI_ne, gI_sL, gL_sL, gL_sI, upd_at, updL_at, J_lit, J_add, J_mul, J_sub, J_lt, J_le, J_inj, J_ne, ne_J, m_lt, lt_m, m_le, le_m, J_cl, J_inB, if_true, if_false, ite_true, ite_false, reduceIte, isZ0, isZ1, J_and31, shrJ0, shlJ0, gI_sA, gL_sA, Nat.reduceEqDiff, Nat.reduceAdd, Nat.reduceMul, Nat.reduceLT, Nat.reduceLeDiff, h17, Nat.le_refl]
  | succ f ih =>
    intro p n σ hp hn h17
    obtain ⟨n, rfl⟩ : ∃ k, n = k + 1 := ⟨n - 1, by omega⟩
    have h1 : ¬ K' ≤ p := by omega
    obtain ⟨σ', e1, e2, e3, e4⟩ := ih (p + 1) n (sI σ 22 p (zb (bt (gI σ 29 0) p))) (by omega) (by omega) (by simp (decide := true) (disch := omega) only [letS_d, grd_tt, bnd_d, bnd1_d, bndX_d, bndX_e, gI_at, gI_ne, gI_sL, gL_sL, gL_sI, upd_at, updL_at, J_lit, J_add, J_mul, J_sub, J_lt, J_le, J_inj, J_ne, ne_J, m_lt, lt_m, m_le, le_m, J_cl, J_inB, if_true, if_false, ite_true, ite_false, reduceIte, isZ0, isZ1, J_and31, shrJ0, shlJ0, gI_sA, gL_sA, Nat.reduceEqDiff, Nat.reduceAdd, Nat.reduceMul, Nat.reduceLT, Nat.reduceLeDiff]; exact h17)
    have hh := has_J1 (gI σ 29 0) (k := p) (by omega)
    refine ⟨σ', ?_, (Fr.i (by decide)).tr e2, fun i hi => ?_, fun i i1 i2 => ?_⟩
    · rw [show fX9_unroll_135 N (n + 1) σ (J p) = _ from by unfold fX9_unroll_135; rfl]
      cases hb : bt (gI σ 29 0) p
      · have hc : ¬ (gI σ 29 0 >>> J p) &&& J 1 = J 1 := fun h9 => by
          have := hh.mp h9
          rw [hb] at this
          cases this
        rw [hb, zb_f] at e1
        have hz : vp_nar .boolean (J 0) = J 0 := nar_zb false
        simp (decide := true) (disch := omega) only [letS_d, grd_tt, bnd_d, bnd1_d, bndX_d, bndX_e, gI_at, gI_ne, gI_sL, gL_sL, gL_sI, upd_at, updL_at, J_lit, J_add, J_mul, J_sub, J_lt, J_le, J_inj, J_ne, ne_J, m_lt, lt_m, m_le, le_m, J_cl, J_inB, if_true, if_false, ite_true, ite_false, reduceIte, isZ0, isZ1, J_and31, shrJ0, shlJ0, gI_sA, gL_sA, Nat.reduceEqDiff, Nat.reduceAdd, Nat.reduceMul, Nat.reduceLT, Nat.reduceLeDiff, h17, h1, hc, fX9_unroll_167, hz]
        exact e1
      · have hc := hh.mpr hb
        rw [hb, zb_t] at e1
        have hz : vp_nar .boolean (J 1) = J 1 := nar_zb true
        simp (decide := true) (disch := omega) only [letS_d, grd_tt, bnd_d, bnd1_d, bndX_d, bndX_e, gI_at, gI_ne, gI_sL, gL_sL, gL_sI, upd_at, updL_at, J_lit, J_add, J_mul, J_sub, J_lt, J_le, J_inj, J_ne, ne_J, m_lt, lt_m, m_le, le_m, J_cl, J_inB, if_true, if_false, ite_true, ite_false, reduceIte, isZ0, isZ1, J_and31, shrJ0, shlJ0, gI_sA, gL_sA, Nat.reduceEqDiff, Nat.reduceAdd, Nat.reduceMul, Nat.reduceLT, Nat.reduceLeDiff, h17, h1, hc, fX9_unroll_167, hz]
        exact e1
    · rw [e3 i (by omega)]
      have : ¬ i = p := by omega
      simp (decide := true) (disch := omega) only [letS_d, grd_tt, bnd_d, bnd1_d, bndX_d, bndX_e, gI_at, gI_ne, gI_sL, gL_sL, gL_sI, upd_at, updL_at, J_lit, J_add, J_mul, J_sub, J_lt, J_le, J_inj, J_ne, ne_J, m_lt, lt_m, m_le, le_m, J_cl, J_inB, if_true, if_false, ite_true, ite_false, reduceIte, isZ0, isZ1, J_and31, shrJ0, shlJ0, gI_sA, gL_sA, Nat.reduceEqDiff, Nat.reduceAdd, Nat.reduceMul, Nat.reduceLT, Nat.reduceLeDiff, this]
    · by_cases hip : i = p
      · subst hip
        rw [e3 i (by omega)]
        simp (decide := true) (disch := omega) only [letS_d, grd_tt, bnd_d, bnd1_d, bndX_d, bndX_e, gI_at, gI_ne, gI_sL, gL_sL, gL_sI, upd_at, updL_at, J_lit, J_add, J_mul, J_sub, J_lt, J_le, J_inj, J_ne, ne_J, m_lt, lt_m, m_le, le_m, J_cl, J_inB, if_true, if_false, ite_true, ite_false, reduceIte, isZ0, isZ1, J_and31, shrJ0, shlJ0, gI_sA, gL_sA, Nat.reduceEqDiff, Nat.reduceAdd, Nat.reduceMul, Nat.reduceLT, Nat.reduceLeDiff]
      · rw [e4 i (by omega) i2]
        simp (decide := true) (disch := omega) only [letS_d, grd_tt, bnd_d, bnd1_d, bndX_d, bndX_e, gI_at, gI_ne, gI_sL, gL_sL, gL_sI, upd_at, updL_at, J_lit, J_add, J_mul, J_sub, J_lt, J_le, J_inj, J_ne, ne_J, m_lt, lt_m, m_le, le_m, J_cl, J_inB, if_true, if_false, ite_true, ite_false, reduceIte, isZ0, isZ1, J_and31, shrJ0, shlJ0, gI_sA, gL_sA, Nat.reduceEqDiff, Nat.reduceAdd, Nat.reduceMul, Nat.reduceLT, Nat.reduceLeDiff]
/-- a rule, collected -/
def RuD (σ : St) (s : Term) (P K : Nat) : Prop := PlR K s (P + 2) P σ ∧ (∀ j, j < len s → gI σ 22 (K + j) = zb (la s j)) ∧ Mk (gI σ 23 P) K (fi s)
/-- what must stay of a rule -/
abbrev CL : List Nat := [17, 19, 20, 21, 22, 23, 24, 25, 26, 27, 28, 29, 30]
def Kpt (K x e : Nat) (σ σ' : St) : Prop := (∀ o, o < K → gI σ' 19 o = gI σ 19 o ∧ gI σ' 20 o = gI σ 20 o ∧ gI σ' 21 o = gI σ 21 o ∧ gI σ' 22 o = gI σ 22 o) ∧ (∀ i, (i < x ∨ e ≤ i) → gI σ' 23 i = gI σ 23 i) ∧ Fr CL σ σ'
theorem ref_unroll (hN : 20 ^ 130 ≤ N) {s : Term} {P K : Nat} {σ : St} (hok : ok s) (hsh : sh s = 1 ∨ sh s = 2) (hht : ht s ≤ 40) (hR : RR F s (P + 2)) (hO : nO (F P) = J (P + 1)) (hk : nK (F (P + 1)) = J 10) (hO1 : nO (F (P + 1)) = J (P + 2)) (hB : nB (F (lastn s (P + 2))) = -J 1) (hn : nd σ = F) (h17 : gI σ 17 0 = J K) (hK : K ≤ 9) (hx : P + 2 + nN s ≤ 120) : (K + len s ≤ 9 → ∃ σ', fX9_unroll N σ (J P) = some σ' ∧ Kpt K P (P + 1) σ σ' ∧ gI σ' 17 0 = J (K + len s) ∧ RuD σ' s P K) ∧ (9 < K + len s → ∃ σ', fX9_unroll N σ (J P) = some σ' ∧ Fr CL σ σ' ∧ gI σ' 17 0 = J 10) := by
  have hps := RR_pos s _ hR
  have hpow : 20 ^ nN s ≤ 20 ^ 130 := Nat.pow_le_pow_right (by omega) (by omega)
  have huc := uc_le s hok
  have hN1 : 1000 ≤ N := Nat.le_trans (by decide) hN
  have f0 : Fr [24, 27] σ (sI (sI σ 24 0 (J 0)) 27 0 (J 0)) := (Fr.i (by decide)).tr (Fr.i (by decide))
  have hU0 : US F 0 0 K (sI (sI σ 24 0 (J 0)) 27 0 (J 0)) := ⟨(nd_of f0 (by decide)).trans hn, by simp (decide := true) (disch := omega) only [letS_d, grd_tt, bnd_d, bnd1_d, bndX_d, bndX_e, gI_at, gI_ne, gI_sL, gL_sL, gL_sI, upd_at, updL_at, J_lit, J_add, J_mul, J_sub, J_lt, J_le, J_inj, J_ne, ne_J, m_lt, lt_m, m_le, le_m, J_cl, J_inB, if_true, if_false, ite_true, ite_false, reduceIte, isZ0, isZ1, J_and31, shrJ0, shlJ0, gI_sA, gL_sA, Nat.reduceEqDiff, Nat.reduceAdd, Nat.reduceMul, Nat.reduceLT, Nat.reduceLeDiff], by simp (decide := true) (disch := omega) only [letS_d, grd_tt, bnd_d, bnd1_d, bndX_d, bndX_e, gI_at, gI_ne, gI_sL, gL_sL, gL_sI, upd_at, updL_at, J_lit, J_add, J_mul, J_sub, J_lt, J_le, J_inj, J_ne, ne_J, m_lt, lt_m, m_le, le_m, J_cl, J_inB, if_true, if_false, ite_true, ite_false, reduceIte, isZ0, isZ1, J_and31, shrJ0, shlJ0, gI_sA, gL_sA, Nat.reduceEqDiff, Nat.reduceAdd, Nat.reduceMul, Nat.reduceLT, Nat.reduceLeDiff], by simp (decide := true) (disch := omega) only [letS_d, grd_tt, bnd_d, bnd1_d, bndX_d, bndX_e, gI_at, gI_ne, gI_sL, gL_sL, gL_sI, upd_at, updL_at, J_lit, J_add, J_mul, J_sub, J_lt, J_le, J_inj, J_ne, ne_J, m_lt, lt_m, m_le, le_m, J_cl, J_inB, if_true, if_false, ite_true, ite_false, reduceIte, isZ0, isZ1, J_and31, shrJ0, shlJ0, gI_sA, gL_sA, Nat.reduceEqDiff, Nat.reduceAdd, Nat.reduceMul, Nat.reduceLT, Nat.reduceLeDiff]; exact h17⟩
  obtain ⟨σ1, a1, a2, a3, a4, a5, a6, a7⟩ := u_enter (N := N) (y := P + 1) hU0 (by omega) (by omega)
  have h6 : gI (sI (sI σ 24 0 (J 0)) 27 0 (J 0)) 6 P = J (P + 1) := by
    rw [f0.gi (by decide), ← hO, ← hn]
    rfl
  have hbeg : fX9_unroll N σ (J P) = fX9_unroll_25 N N σ1 (J P) (J K) := by
    unfold fX9_unroll
    have hin : inB (J P) 160 = true := J_inB (by omega) (by omega)
    rw [h17, letS_d, letS_d, letS_d, hin, grd_t, J_cl (by omega)]
    show bnd1 (fX9_enter N (sI (sI σ 24 0 (J 0)) 27 0 (J 0)) (gI (sI (sI σ 24 0 (J 0)) 27 0 (J 0)) 6 P)) _ = _
    rw [h6, a1, bnd1_d]
  have hF1 : Fr CL σ σ1 := (f0.mono (by decide)).tr (a2.2.2.2.mono (by decide))
  rw [hk, kind11 (by omega) (by omega)] at a5
  obtain ⟨i1, i2⟩ := SR (N := N) (P := P) (fr := K) (y := P + 1) (S := 0) (V := 0) (K := K) (σ := σ1) (by omega) hok hsh ((UA (by omega) s hok).2.1 hsh) hR hO1 hk hB a3 hK a4 a5 (by omega) (by omega) (by omega) ((ht_pos s hok).1 (by omega))
  refine ⟨fun hf => ?_, fun hf => ?_⟩
  · obtain ⟨c, σ2, b1, b2, b3, b4, b5, b6⟩ := i1 hf
    obtain ⟨q1, q2, q3, q4⟩ := id b4
    have f3 : Fr [23] σ2 (sI σ2 23 P (gI σ2 28 0)) := Fr.i (by decide)
    obtain ⟨σ3, d1, d2, d3, d4⟩ := u_lasts (N := N) (K' := K + len s) hf (len s) K N (sI σ2 23 P (gI σ2 28 0)) (by omega) (by omega) (by rw [f3.gi (by decide)]; exact q4)
    have hfin : fX9_unroll N σ (J P) = some σ3 := by
      rw [hbeg]
      have e := b2 (N - c)
      rw [show N - c + c = N from by omega] at e
      rw [e]
      obtain ⟨n, hn⟩ : ∃ n, N - c = n + 1 := ⟨N - c - 1, by omega⟩
      rw [hn, show fX9_unroll_25 N (n + 1) σ2 (J P) (J K) = _ from by unfold fX9_unroll_25; rfl]
      rw [q2, if_pos (show J 0 ≤ (0 : Int32) by decide)]
      unfold fX9_unroll_111
      simp (decide := true) (disch := omega) only [letS_d, grd_tt, bnd_d, bnd1_d, bndX_d, bndX_e, gI_at, gI_ne, gI_sL, gL_sL, gL_sI, upd_at, updL_at, J_lit, J_add, J_mul, J_sub, J_lt, J_le, J_inj, J_ne, ne_J, m_lt, lt_m, m_le, le_m, J_cl, J_inB, if_true, if_false, ite_true, ite_false, reduceIte, isZ0, isZ1, J_and31, shrJ0, shlJ0, gI_sA, gL_sA, Nat.reduceEqDiff, Nat.reduceAdd, Nat.reduceMul, Nat.reduceLT, Nat.reduceLeDiff, q4, hf]
      exact d1
    have hK3 : ∀ o, o < K → gI σ3 22 o = gI σ 22 o := fun o ho => by
      rw [d3 o ho, f3.gi (by decide), b3.2.2.2.gi (by decide), a2.2.2.2.gi (by decide), f0.gi (by decide)]
    refine ⟨σ3, hfin, ⟨fun o ho => ?_, fun i hi => ?_, ((hF1.tr (b3.2.2.2.mono (by decide))).tr (f3.mono (by decide))).tr (d2.mono (by decide))⟩, by rw [d2.gi (by decide), f3.gi (by decide)]; exact q4, fun j hj => ?_, fun j hj => ?_, ?_⟩
    · obtain ⟨p1, p2, p3⟩ := b3.2.2.1 o ho
      obtain ⟨p4, p5, p6⟩ := a7 o
      refine ⟨?_, ?_, ?_, hK3 o ho⟩
      · rw [d2.gi (by decide), f3.gi (by decide), p1, p4, f0.gi (by decide)]
      · rw [d2.gi (by decide), f3.gi (by decide), p2, p5, f0.gi (by decide)]
      · rw [d2.gi (by decide), f3.gi (by decide), p3, p6, f0.gi (by decide)]
    · rw [d2.gi (by decide), gI_at, upd_at, if_neg (by omega), b3.2.2.2.gi (by decide), a2.2.2.2.gi (by decide), f0.gi (by decide)]
    · rw [d2.gi (by decide), d2.gi (by decide), d2.gi (by decide), f3.gi (by decide), f3.gi (by decide), f3.gi (by decide)]
      exact b6 j hj
    · rw [d4 (K + j) (by omega) (by omega), f3.gi (by decide), b5.2.at (by omega)]
    · rw [d2.gi (by decide), gI_at, upd_at, if_pos rfl]
      exact b5.1
  · obtain ⟨c, b1, σ2, b2, b3, b4⟩ := i2 hf
    refine ⟨σ2, ?_, hF1.tr (b3.mono (by decide)), b4⟩
    rw [hbeg]
    have e := b2 (N - c)
    rw [show N - c + c = N from by omega] at e
    exact e
end COL
