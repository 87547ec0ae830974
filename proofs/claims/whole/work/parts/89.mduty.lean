/-! the reference collects its obligations: how it does -/
section DU2
variable {N n0 : Nat} {F : Nat → ND}
/-- properties noted as obligations so far -/
def PD (dn : Nat → Nat) (cnt n0 : Nat) (σ : St) : Prop := gI σ 17 0 = J cnt ∧ cnt ≤ 10 ∧ (∀ i, i < cnt → dn i < n0 ∧ gI σ 19 i = J (dn i) ∧ gI σ 18 (dn i) = J i) ∧ ∀ y, y < n0 → gI σ 18 y = -J 1 ∨ ∃ i, i < cnt ∧ dn i = y
theorem ob_step {dn : Nat → Nat} {cnt y : Nat} {σ : St} (h : PD dn cnt n0 σ) (hn : n0 ≤ 150) (hy : y < n0) : ∃ σ' dn' cnt', fX9_oblige N σ (J y) = some σ' ∧ Fr [17, 18, 19] σ σ' ∧ PD dn' cnt' n0 σ' ∧ cnt ≤ cnt' ∧ (∀ i, i < cnt → dn' i = dn i) ∧ (∀ i, i < cnt' → i < cnt ∨ dn' i = y) ∧ (cnt' = 10 ∨ ∃ i, i < cnt' ∧ dn' i = y) := by
  obtain ⟨h1, h2, h3, h4⟩ := h
  rcases h4 y hy with h18 | ⟨i, i1, i2⟩
  · have hm : ¬ J 0 ≤ -J 1 := by decide
    by_cases hc : cnt ≤ 9
    · have f : Fr [17, 18, 19] σ (sI (sI (sI σ 18 y (J cnt)) 19 cnt (J y)) 17 0 (J (cnt + 1))) := ((Fr.i (by decide)).tr (Fr.i (by decide))).tr (Fr.i (by decide))
      refine ⟨sI (sI (sI σ 18 y (J cnt)) 19 cnt (J y)) 17 0 (J (cnt + 1)), fun i => if i < cnt then dn i else y, cnt + 1, ?_, f, ⟨by simp (decide := true) (disch := omega) only [letS_d, grd_tt, bnd_d, bnd1_d, bndX_d, bndX_e, gI_at, gI_ne, gI_sL, gL_sL, gL_sI, upd_at, updL_at, J_lit, J_add, J_mul, J_sub, J_lt, J_le, J_inj, J_ne, ne_J, m_lt, lt_m, m_le, le_m, J_cl, J_inB, if_true, if_false, ite_true, ite_false, reduceIte, isZ0, isZ1, J_and31, shrJ0, shlJ0, gI_sA, gL_sA, Nat.reduceEqDiff, Nat.reduceAdd, Nat.reduceMul, Nat.reduceLT, Nat.reduceLeDiff], by omega, fun i hi => ?_, fun z hz => ?_⟩, by omega, fun i hi => if_pos hi, fun i hi => ?_, Or.inr ⟨cnt, by omega, if_neg (by omega)⟩⟩
      · unfold fX9_oblige
        simp (decide := true) (disch := omega) only [letS_d, grd_tt, bnd_d, bnd1_d, bndX_d, bndX_e, gI_at, gI_ne, gI_sL, gL_sL, gL_sI, upd_at, updL_at, J_lit, J_add, J_mul, J_sub, J_lt, J_le, J_inj, J_ne, ne_J, m_lt, lt_m, m_le, le_m, J_cl, J_inB, if_true, if_false, ite_true, ite_false, reduceIte, isZ0, isZ1, J_and31, shrJ0, shlJ0, gI_sA, gL_sA, Nat.reduceEqDiff, Nat.reduceAdd, Nat.reduceMul, Nat.reduceLT, Nat.reduceLeDiff, h18, hm, h1, hc, Nat.not_lt_zero]
      · by_cases hic : i < cnt
        · obtain ⟨a, b, c⟩ := h3 i hic
          have hne : ¬ dn i = y := fun h => by
            rw [h, h18, ne_J (by omega)] at c
            exact c
          have hne2 : ¬ i = cnt := by omega
          show (if i < cnt then dn i else y) < n0 ∧ _ = J (if i < cnt then dn i else y) ∧ gI _ 18 (if i < cnt then dn i else y) = J i
          rw [if_pos hic]
          exact ⟨a, by simp (decide := true) (disch := omega) only [letS_d, grd_tt, bnd_d, bnd1_d, bndX_d, bndX_e, gI_at, gI_ne, gI_sL, gL_sL, gL_sI, upd_at, updL_at, J_lit, J_add, J_mul, J_sub, J_lt, J_le, J_inj, J_ne, ne_J, m_lt, lt_m, m_le, le_m, J_cl, J_inB, if_true, if_false, ite_true, ite_false, reduceIte, isZ0, isZ1, J_and31, shrJ0, shlJ0, gI_sA, gL_sA, Nat.reduceEqDiff, Nat.reduceAdd, Nat.reduceMul, Nat.reduceLT, Nat.reduceLeDiff, hne2]; exact b, by simp (decide := true) (disch := omega) only [letS_d, grd_tt, bnd_d, bnd1_d, bndX_d, bndX_e, gI_at, gI_ne, gI_sL, gL_sL, gL_sI, upd_at, updL_at, J_lit, J_add, J_mul, J_sub, J_lt, J_le, J_inj, J_ne, ne_J, m_lt, lt_m, m_le, le_m, J_cl, J_inB, if_true, if_false, ite_true, ite_false, reduceIte, isZ0, isZ1, J_and31, shrJ0, shlJ0, gI_sA, gL_sA, Nat.reduceEqDiff, Nat.reduceAdd, Nat.reduceMul, Nat.reduceLT, Nat.reduceLeDiff, hne]; exact c⟩
        · obtain rfl : i = cnt := by omega
          show (if i < i then dn i else y) < n0 ∧ _ = J (if i < i then dn i else y) ∧ gI _ 18 (if i < i then dn i else y) = J i
          rw [if_neg hic]
          exact ⟨hy, by simp (decide := true) (disch := omega) only [letS_d, grd_tt, bnd_d, bnd1_d, bndX_d, bndX_e, gI_at, gI_ne, gI_sL, gL_sL, gL_sI, upd_at, updL_at, J_lit, J_add, J_mul, J_sub, J_lt, J_le, J_inj, J_ne, ne_J, m_lt, lt_m, m_le, le_m, J_cl, J_inB, if_true, if_false, ite_true, ite_false, reduceIte, isZ0, isZ1, J_and31, shrJ0, shlJ0, gI_sA, gL_sA, Nat.reduceEqDiff, Nat.reduceAdd, Nat.reduceMul, Nat.reduceLT, Nat.reduceLeDiff], by simp (decide := true) (disch := omega) only [letS_d, grd_tt, bnd_d, bnd1_d, bndX_d, bndX_e, gI_at, gI_ne, gI_sL, gL_sL, gL_sI, upd_at, updL_at, J_lit, J_add, J_mul, J_sub, J_lt, J_le, J_inj, J_ne, ne_J, m_lt, lt_m, m_le, le_m, J_cl, J_inB, if_true, if_false, ite_true, ite_false, reduceIte, isZ0, isZ1, J_and31, shrJ0, shlJ0, gI_sA, gL_sA, Nat.reduceEqDiff, Nat.reduceAdd, Nat.reduceMul, Nat.reduceLT, Nat.reduceLeDiff]⟩
      · by_cases hzy : z = y
        · exact Or.inr ⟨cnt, by omega, by show (if cnt < cnt then dn cnt else y) = z; rw [if_neg (by omega), hzy]⟩
        · rcases h4 z hz with h | ⟨i, i1, i2⟩
          · exact Or.inl (by simp (decide := true) (disch := omega) only [letS_d, grd_tt, bnd_d, bnd1_d, bndX_d, bndX_e, gI_at, gI_ne, gI_sL, gL_sL, gL_sI, upd_at, updL_at, J_lit, J_add, J_mul, J_sub, J_lt, J_le, J_inj, J_ne, ne_J, m_lt, lt_m, m_le, le_m, J_cl, J_inB, if_true, if_false, ite_true, ite_false, reduceIte, isZ0, isZ1, J_and31, shrJ0, shlJ0, gI_sA, gL_sA, Nat.reduceEqDiff, Nat.reduceAdd, Nat.reduceMul, Nat.reduceLT, Nat.reduceLeDiff, hzy]; exact h)
          · exact Or.inr ⟨i, by omega, by show (if i < cnt then dn i else y) = z; rw [if_pos i1]; exact i2⟩
      · by_cases hic : i < cnt
        · exact Or.inl hic
        · exact Or.inr (if_neg hic)
    · refine ⟨σ, dn, cnt, ?_, Fr.rf, ⟨h1, h2, h3, h4⟩, Nat.le_refl _, fun _ _ => rfl, fun i hi => Or.inl hi, Or.inl (by omega)⟩
      unfold fX9_oblige
      simp (decide := true) (disch := omega) only [letS_d, grd_tt, bnd_d, bnd1_d, bndX_d, bndX_e, gI_at, gI_ne, gI_sL, gL_sL, gL_sI, upd_at, updL_at, J_lit, J_add, J_mul, J_sub, J_lt, J_le, J_inj, J_ne, ne_J, m_lt, lt_m, m_le, le_m, J_cl, J_inB, if_true, if_false, ite_true, ite_false, reduceIte, isZ0, isZ1, J_and31, shrJ0, shlJ0, gI_sA, gL_sA, Nat.reduceEqDiff, Nat.reduceAdd, Nat.reduceMul, Nat.reduceLT, Nat.reduceLeDiff, h18, hm, h1, hc, Nat.not_lt_zero]
  · have h18 : gI σ 18 y = J i := by rw [← i2]; exact (h3 i i1).2.2
    refine ⟨σ, dn, cnt, ?_, Fr.rf, ⟨h1, h2, h3, h4⟩, Nat.le_refl _, fun _ _ => rfl, fun i hi => Or.inl hi, Or.inr ⟨i, i1, i2⟩⟩
    unfold fX9_oblige
    simp (decide := true) (disch := omega) only [letS_d, grd_tt, bnd_d, bnd1_d, bndX_d, bndX_e, gI_at, gI_ne, gI_sL, gL_sL, gL_sI, upd_at, updL_at, J_lit, J_add, J_mul, J_sub, J_lt, J_le, J_inj, J_ne, ne_J, m_lt, lt_m, m_le, le_m, J_cl, J_inB, if_true, if_false, ite_true, ite_false, reduceIte, isZ0, isZ1, J_and31, shrJ0, shlJ0, gI_sA, gL_sA, Nat.reduceEqDiff, Nat.reduceAdd, Nat.reduceMul, Nat.reduceLT, Nat.reduceLeDiff, h18, Nat.zero_le, Nat.not_lt_zero]
/-- what all nodes up to one make obligations -/
def SS (F : Nat → ND) (x y : Nat) : Prop := y = 0 ∨ ∃ z, z < x ∧ Src F z y
/-- how it stands before a node -/
def DI (F : Nat → ND) (n0 x : Nat) (dn : Nat → Nat) (cnt : Nat) (σ : St) : Prop := nd σ = F ∧ gI σ 4 0 = J n0 ∧ PD dn cnt n0 σ ∧ (1 ≤ cnt ∧ dn 0 = 0) ∧ (∀ i, i < cnt → SS F x (dn i)) ∧ (cnt = 10 ∨ ∀ y, y < 150 → SS F x y → ∃ i, i < cnt ∧ dn i = y)
/-- what nodes may look like -/
def NF (F : Nat → ND) (n0 : Nat) : Prop := ∀ z, z < n0 → ∃ v, v ≤ 12 ∧ nK (F z) = J v ∧ (v = 7 → ∃ y, y < n0 ∧ nO (F z) = J y) ∧ (v = 9 → ∃ y, y < n0 ∧ nT (F z) = J y)
theorem d_loop (hn : n0 ≤ 150) (hF : NF F n0) : ∀ f x n σ dn cnt, x + f = n0 → f < n → DI F n0 x dn cnt σ → ∃ σ' dn' cnt', fX9_collect_12 N n σ (J x) = fX9_collect_96 N N σ' (J 0) ∧ Fr [17, 18, 19] σ σ' ∧ DI F n0 n0 dn' cnt' σ' := by
  intro f
  induction f with
  | zero =>
    intro x n σ dn cnt hx hn' hI
    obtain ⟨n, rfl⟩ : ∃ k, n = k + 1 := ⟨n - 1, by omega⟩
    obtain rfl : x = n0 := by omega
    refine ⟨σ, dn, cnt, ?_, Fr.rf, hI⟩
    rw [show fX9_collect_12 N (n + 1) σ (J x) = _ from by unfold fX9_collect_12; rfl]
    have h4 := hI.2.1
    simp (decide := true) (disch := omega) only [letS_d, grd_tt, bnd_d, bnd1_d, bndX_d, bndX_e, gI_at, gI_ne, gI_sL, gL_sL, gL_sI, upd_at, updL_at, J_lit, J_add, J_mul, J_sub, J_lt, J_le, J_inj, J_ne, ne_J, m_lt, lt_m, m_le, le_m, J_cl, J_inB, if_true, if_false, ite_true, ite_false, reduceIte, isZ0, isZ1, J_and31, shrJ0, shlJ0, gI_sA, gL_sA, Nat.reduceEqDiff, Nat.reduceAdd, Nat.reduceMul, Nat.reduceLT, Nat.reduceLeDiff, h4, Nat.le_refl]
  | succ f ih =>
    intro x n σ dn cnt hx hn' hI
    obtain ⟨n, rfl⟩ : ∃ k, n = k + 1 := ⟨n - 1, by omega⟩
    obtain ⟨h1, h4, h5, h6, h7, h8⟩ := id hI
    obtain ⟨v, v1, v2, v3, v4⟩ := hF x (by omega)
    have hk : gI σ 5 x = J v := by rw [← v2, ← h1]; rfl
    have hnl : ¬ n0 ≤ x := by omega
    -- a step that makes a node an obligation
    have go : ∀ y, y < n0 → Src F x y → (∀ y', y' < 150 → Src F x y' → y' = y) → (∀ σ1, fX9_oblige N σ (J y) = some σ1 → Fr [17, 18, 19] σ σ1 → fX9_collect_12 N (n + 1) σ (J x) = fX9_collect_12 N n σ1 (J (x + 1))) → ∃ σ' dn' cnt', fX9_collect_12 N (n + 1) σ (J x) = fX9_collect_96 N N σ' (J 0) ∧ Fr [17, 18, 19] σ σ' ∧ DI F n0 n0 dn' cnt' σ' := by
      intro y hy hs hu hrun
      obtain ⟨σ1, dn1, c1, a1, a2, a3, a4, a5, a6, a7⟩ := ob_step (N := N) h5 hn hy
      have hDI1 : DI F n0 (x + 1) dn1 c1 σ1 := by
        refine ⟨(nd_of a2 (by decide)).trans h1, by rw [a2.gi (by decide)]; exact h4, a3, ⟨by omega, by rw [a5 0 (by omega)]; exact h6.2⟩, fun i hi => ?_, ?_⟩
        · rcases a6 i hi with hic | hiy
          · rw [a5 i hic]
            rcases h7 i hic with h | ⟨z, z1, z2⟩
            · exact Or.inl h
            · exact Or.inr ⟨z, by omega, z2⟩
          · rw [hiy]
            exact Or.inr ⟨x, by omega, hs⟩
        · rcases a7 with a7 | a7
          · exact Or.inl a7
          · rcases h8 with h8 | h8
            · have := a3.2.1
              exact Or.inl (by omega)
            · refine Or.inr (fun y' hy' hs' => ?_)
              have old : SS F x y' → ∃ i, i < c1 ∧ dn1 i = y' := fun h => by
                obtain ⟨i, i1, i2⟩ := h8 y' hy' h
                exact ⟨i, by omega, by rw [a5 i i1]; exact i2⟩
              rcases hs' with h | ⟨z, z1, z2⟩
              · exact old (Or.inl h)
              · by_cases hz : z = x
                · subst hz
                  rw [hu y' hy' z2]
                  exact a7
                · exact old (Or.inr ⟨z, by omega, z2⟩)
      obtain ⟨σ2, dn2, c2, b1, b2, b3⟩ := ih (x + 1) n σ1 dn1 c1 (by omega) (by omega) hDI1
      exact ⟨σ2, dn2, c2, (hrun σ1 a1 a2).trans b1, a2.tr b2, b3⟩
    have hnd : ∀ σ1, Fr [17, 18, 19] σ σ1 → gI σ1 5 x = J v := fun σ1 f1 => by rw [f1.gi (by decide)]; exact hk
    by_cases h56 : v = 5 ∨ v = 6
    · refine go x (by omega) (Or.inl ⟨by rw [v2]; rcases h56 with rfl | rfl; exact Or.inl rfl; exact Or.inr rfl, rfl⟩) (fun y' _ hs => ?_) (fun σ1 s1 s2 => ?_)
      · rcases hs with ⟨_, h⟩ | ⟨h, _⟩ | ⟨h, _⟩
        · exact h
        · rw [v2] at h
          exact (J_ne9 (by omega) (by omega) (by omega) h).elim
        · rw [v2] at h
          exact (J_ne9 (by omega) (by omega) (by omega) h).elim
      · have hk1 := hnd σ1 s2
        rw [show fX9_collect_12 N (n + 1) σ (J x) = _ from by unfold fX9_collect_12; rfl]
        have n7 : ¬ v = 7 := by omega
        have n9 : ¬ v = 9 := by omega
        rcases h56 with rfl | rfl
        · simp (decide := true) (disch := omega) only [letS_d, grd_tt, bnd_d, bnd1_d, bndX_d, bndX_e, gI_at, gI_ne, gI_sL, gL_sL, gL_sI, upd_at, updL_at, J_lit, J_add, J_mul, J_sub, J_lt, J_le, J_inj, J_ne, ne_J, m_lt, lt_m, m_le, le_m, J_cl, J_inB, if_true, if_false, ite_true, ite_false, reduceIte, isZ0, isZ1, J_and31, shrJ0, shlJ0, gI_sA, gL_sA, Nat.reduceEqDiff, Nat.reduceAdd, Nat.reduceMul, Nat.reduceLT, Nat.reduceLeDiff, h4, hnl, hk, fX9_collect_41, s1, fX9_collect_46, hk1, fX9_collect_67, fX9_collect_88]
        · simp (decide := true) (disch := omega) only [letS_d, grd_tt, bnd_d, bnd1_d, bndX_d, bndX_e, gI_at, gI_ne, gI_sL, gL_sL, gL_sI, upd_at, updL_at, J_lit, J_add, J_mul, J_sub, J_lt, J_le, J_inj, J_ne, ne_J, m_lt, lt_m, m_le, le_m, J_cl, J_inB, if_true, if_false, ite_true, ite_false, reduceIte, isZ0, isZ1, J_and31, shrJ0, shlJ0, gI_sA, gL_sA, Nat.reduceEqDiff, Nat.reduceAdd, Nat.reduceMul, Nat.reduceLT, Nat.reduceLeDiff, h4, hnl, hk, fX9_collect_41, s1, fX9_collect_46, hk1, fX9_collect_67, fX9_collect_88]
    · by_cases h7' : v = 7
      · subst h7'
        obtain ⟨y, y1, y2⟩ := v3 rfl
        have hO : gI σ 6 x = J y := by rw [← y2, ← h1]; rfl
        refine go y y1 (Or.inr (Or.inl ⟨v2, y2⟩)) (fun y' hy' hs => ?_) (fun σ1 s1 s2 => ?_)
        · rcases hs with ⟨h | h, _⟩ | ⟨_, h⟩ | ⟨h, _⟩
          · rw [v2] at h
            exact (J_ne9 (by omega) (by omega) (by omega) h).elim
          · rw [v2] at h
            exact (J_ne9 (by omega) (by omega) (by omega) h).elim
          · rw [y2, J_inj (by omega) (by omega)] at h
            exact h.symm
          · rw [v2] at h
            exact (J_ne9 (by omega) (by omega) (by omega) h).elim
        · have hk1 := hnd σ1 s2
          rw [show fX9_collect_12 N (n + 1) σ (J x) = _ from by unfold fX9_collect_12; rfl]
          simp (decide := true) (disch := omega) only [letS_d, grd_tt, bnd_d, bnd1_d, bndX_d, bndX_e, gI_at, gI_ne, gI_sL, gL_sL, gL_sI, upd_at, updL_at, J_lit, J_add, J_mul, J_sub, J_lt, J_le, J_inj, J_ne, ne_J, m_lt, lt_m, m_le, le_m, J_cl, J_inB, if_true, if_false, ite_true, ite_false, reduceIte, isZ0, isZ1, J_and31, shrJ0, shlJ0, gI_sA, gL_sA, Nat.reduceEqDiff, Nat.reduceAdd, Nat.reduceMul, Nat.reduceLT, Nat.reduceLeDiff, h4, hnl, hk, fX9_collect_46, hO, s1, hk1, fX9_collect_67, fX9_collect_88]
      · by_cases h9' : v = 9
        · subst h9'
          obtain ⟨y, y1, y2⟩ := v4 rfl
          have hO : gI σ 7 x = J y := by rw [← y2, ← h1]; rfl
          refine go y y1 (Or.inr (Or.inr ⟨v2, y2⟩)) (fun y' hy' hs => ?_) (fun σ1 s1 s2 => ?_)
          · rcases hs with ⟨h | h, _⟩ | ⟨h, _⟩ | ⟨_, h⟩
            · rw [v2] at h
              exact (J_ne9 (by omega) (by omega) (by omega) h).elim
            · rw [v2] at h
              exact (J_ne9 (by omega) (by omega) (by omega) h).elim
            · rw [v2] at h
              exact (J_ne9 (by omega) (by omega) (by omega) h).elim
            · rw [y2, J_inj (by omega) (by omega)] at h
              exact h.symm
          · rw [show fX9_collect_12 N (n + 1) σ (J x) = _ from by unfold fX9_collect_12; rfl]
            simp (decide := true) (disch := omega) only [letS_d, grd_tt, bnd_d, bnd1_d, bndX_d, bndX_e, gI_at, gI_ne, gI_sL, gL_sL, gL_sI, upd_at, updL_at, J_lit, J_add, J_mul, J_sub, J_lt, J_le, J_inj, J_ne, ne_J, m_lt, lt_m, m_le, le_m, J_cl, J_inB, if_true, if_false, ite_true, ite_false, reduceIte, isZ0, isZ1, J_and31, shrJ0, shlJ0, gI_sA, gL_sA, Nat.reduceEqDiff, Nat.reduceAdd, Nat.reduceMul, Nat.reduceLT, Nat.reduceLeDiff, h4, hnl, hk, fX9_collect_46, fX9_collect_67, hO, s1, fX9_collect_88]
        · have n5 : ¬ v = 5 := by omega
          have n6 : ¬ v = 6 := by omega
          obtain ⟨σ2, dn2, c2, b1, b2, b3⟩ := ih (x + 1) n σ dn cnt (by omega) (by omega) ⟨h1, h4, h5, h6, fun i hi => by
            rcases h7 i hi with h | ⟨z, z1, z2⟩
            · exact Or.inl h
            · exact Or.inr ⟨z, by omega, z2⟩, by
            rcases h8 with h8 | h8
            · exact Or.inl h8
            · refine Or.inr (fun y hy hs => h8 y hy ?_)
              rcases hs with h | ⟨z, z1, z2⟩
              · exact Or.inl h
              · by_cases hz : z = x
                · subst hz
                  exact (Src_no z2 v2 (by omega) n5 n6 h7' h9').elim
                · exact Or.inr ⟨z, by omega, z2⟩⟩
          refine ⟨σ2, dn2, c2, Eq.trans ?_ b1, b2, b3⟩
          rw [show fX9_collect_12 N (n + 1) σ (J x) = _ from by unfold fX9_collect_12; rfl]
          simp (decide := true) (disch := omega) only [letS_d, grd_tt, bnd_d, bnd1_d, bndX_d, bndX_e, gI_at, gI_ne, gI_sL, gL_sL, gL_sI, upd_at, updL_at, J_lit, J_add, J_mul, J_sub, J_lt, J_le, J_inj, J_ne, ne_J, m_lt, lt_m, m_le, le_m, J_cl, J_inB, if_true, if_false, ite_true, ite_false, reduceIte, isZ0, isZ1, J_and31, shrJ0, shlJ0, gI_sA, gL_sA, Nat.reduceEqDiff, Nat.reduceAdd, Nat.reduceMul, Nat.reduceLT, Nat.reduceLeDiff, h4, hnl, hk, n5, n6, h7', h9', fX9_collect_46, fX9_collect_67, fX9_collect_88]
/-- nodes of a property -/
theorem NF_of : ∀ t x, ok t → sh t = 0 → RR F t x → x + nN t ≤ 150 → ∀ z, x ≤ z → z < x + nN t → ∃ v, v ≤ 12 ∧ nK (F z) = J v ∧ (v = 7 → ∃ y, y < x + nN t ∧ nO (F z) = J y) ∧ (v = 9 → ∃ y, y < x + nN t ∧ nT (F z) = J y) := by
  have up : ∀ z a b, a ≤ b → (∃ v, v ≤ 12 ∧ nK (F z) = J v ∧ (v = 7 → ∃ y, y < a ∧ nO (F z) = J y) ∧ (v = 9 → ∃ y, y < a ∧ nT (F z) = J y)) → ∃ v, v ≤ 12 ∧ nK (F z) = J v ∧ (v = 7 → ∃ y, y < b ∧ nO (F z) = J y) ∧ (v = 9 → ∃ y, y < b ∧ nT (F z) = J y) := by
    rintro z a b hab ⟨v, v1, v2, v3, v4⟩
    exact ⟨v, v1, v2, fun h => by
      obtain ⟨y, y1, y2⟩ := v3 h
      exact ⟨y, by omega, y2⟩, fun h => by
      obtain ⟨y, y1, y2⟩ := v4 h
      exact ⟨y, by omega, y2⟩⟩
  intro t
  induction t using tind with
  | h t ih =>
    intro x hok hsh hR hx z z1 z2
    cases t with
    | index v =>
      obtain ⟨w, w1, w2⟩ := bo_kinds (.index v) x hok hR z z1 z2
      exact ⟨w, by omega, w2, fun h => by omega, fun h => by omega⟩
    | length b =>
      obtain ⟨w, w1, w2⟩ := bo_kinds (.length b) x hok hR z z1 z2
      exact ⟨w, by omega, w2, fun h => by omega, fun h => by omega⟩
    | add p q =>
      have e : nN (.add p q) = 1 + nN p + nN q := rfl
      by_cases hz : z = x
      · subst hz
        exact ⟨3, by omega, hR.1.1, fun h => by omega, fun h => by omega⟩
      · by_cases hp : z < x + 1 + nN p
        · exact up z _ _ (by omega) (ih p (by simp; omega) (x + 1) hok.2.1 hok.1.1 hR.2.1 (by omega) z (by omega) hp)
        · exact up z _ _ (by omega) (ih q (by simp; omega) (x + 1 + nN p) hok.2.2 hok.1.2 hR.2.2 (by omega) z (by omega) (by omega))
    | sub p q =>
      have e : nN (.sub p q) = 1 + nN p + nN q := rfl
      by_cases hz : z = x
      · subst hz
        exact ⟨4, by omega, hR.1.1, fun h => by omega, fun h => by omega⟩
      · by_cases hp : z < x + 1 + nN p
        · exact up z _ _ (by omega) (ih p (by simp; omega) (x + 1) hok.2.1 hok.1.1 hR.2.1 (by omega) z (by omega) hp)
        · exact up z _ _ (by omega) (ih q (by simp; omega) (x + 1 + nN p) hok.2.2 hok.1.2 hR.2.2 (by omega) z (by omega) (by omega))
    | mul p q =>
      have e : nN (.mul p q) = 1 + nN p + nN q := rfl
      by_cases hz : z = x
      · subst hz
        exact ⟨5, by omega, hR.1.1, fun h => by omega, fun h => by omega⟩
      · by_cases hp : z < x + 1 + nN p
        · exact up z _ _ (by omega) (ih p (by simp; omega) (x + 1) hok.2.1 hok.1.1 hR.2.1 (by omega) z (by omega) hp)
        · exact up z _ _ (by omega) (ih q (by simp; omega) (x + 1 + nN p) hok.2.2 hok.1.2 hR.2.2 (by omega) z (by omega) (by omega))
    | sum p =>
      have e : nN (.sum p) = 1 + nN p := rfl
      by_cases hz : z = x
      · subst hz
        exact ⟨6, by omega, hR.1.1, fun h => by omega, fun h => by omega⟩
      · exact up z _ _ (by omega) (ih p (by simp) (x + 1) hok.2 hok.1 hR.2 (by omega) z (by omega) (by omega))
    | old p =>
      have e : nN (.old p) = 1 + nN p := rfl
      have hnp := ok_nN p hok.2
      by_cases hz : z = x
      · subst hz
        exact ⟨7, by omega, hR.1.1, fun _ => ⟨z + 1, by omega, hR.1.2⟩, fun h => by omega⟩
      · exact up z _ _ (by omega) (ih p (by simp) (x + 1) hok.2 hok.1 hR.2 (by omega) z (by omega) (by omega))
    | div s p =>
      have e : nN (.div s p) = 2 + nN s + nN p := rfl
      obtain ⟨⟨r1, r2, r3, r4, r5, r6⟩, r7, r8⟩ := hR
      by_cases hz : z = x
      · subst hz
        exact ⟨8, by omega, r1, fun h => by omega, fun h => by omega⟩
      · by_cases hz1 : z = x + 1
        · subst hz1
          exact ⟨10, by omega, r4, fun h => by omega, fun h => by omega⟩
        · by_cases hs : z < x + 2 + nN s
          · obtain ⟨w, w1, w2, w3⟩ := seq_kinds s (x + 2) hok.2.1 (by have := hok.1.1; omega) r7 z (by omega) hs
            exact ⟨w, w2, w3, fun h => by omega, fun h => by omega⟩
          · exact up z _ _ (by omega) (ih p (by simp; omega) (x + 2 + nN s) hok.2.2 hok.1.2 r8 (by omega) z (by omega) (by omega))
    | rem s p =>
      have e : nN (.rem s p) = 2 + nN s + nN p := rfl
      have hnp := ok_nN p hok.2.2
      obtain ⟨⟨r1, r2, r3, r4, r5, r6⟩, r7, r8⟩ := hR
      by_cases hz : z = x
      · subst hz
        exact ⟨9, by omega, r1, fun h => by omega, fun _ => ⟨z + 2 + nN s, by omega, r3⟩⟩
      · by_cases hz1 : z = x + 1
        · subst hz1
          exact ⟨10, by omega, r4, fun h => by omega, fun h => by omega⟩
        · by_cases hs : z < x + 2 + nN s
          · obtain ⟨w, w1, w2, w3⟩ := seq_kinds s (x + 2) hok.2.1 (by have := hok.1.1; omega) r7 z (by omega) hs
            exact ⟨w, w2, w3, fun h => by omega, fun h => by omega⟩
          · exact up z _ _ (by omega) (ih p (by simp; omega) (x + 2 + nN s) hok.2.2 hok.1.2 r8 (by omega) z (by omega) (by omega))
    | elem a w => cases w <;> first | exact hok.elim | cases hsh
    | field b x y z => cases hsh
    | null => cases hsh
    | _ => exact hok.elim
/-- how many property obligations a whole one has, and which -/
def prW (t : Term) : Nat := prC t + (if own t = true then 0 else 1)
def kQW (t : Term) (i : Nat) : Nat := if i < prC t then kQ t 0 i else 0
theorem kQW_inj {t : Term} {i j : Nat} (hok : ok t) (hsh : sh t = 0) (hi : i < prW t) (hj : j < prW t) (h : kQW t i = kQW t j) : i = j := by
  unfold prW at hi hj
  unfold kQW at h
  by_cases ho : own t = true
  · rw [if_pos ho] at hi hj
    rw [if_pos (by omega), if_pos (by omega)] at h
    exact kQ_inj t 0 i j hok hsh (by omega) (by omega) h
  · rw [if_neg ho] at hi hj
    by_cases h1 : i < prC t
    · rw [if_pos h1] at h
      by_cases h2 : j < prC t
      · rw [if_pos h2] at h
        exact kQ_inj t 0 i j hok hsh h1 h2 h
      · rw [if_neg h2] at h
        exact absurd ((kQ_in t 0 i hok hsh h1).2.2 h) ho
    · rw [if_neg h1] at h
      by_cases h2 : j < prC t
      · rw [if_pos h2] at h
        exact absurd ((kQ_in t 0 j hok hsh h2).2.2 h.symm) ho
      · omega
theorem SS_iff {t : Term} (hok : ok t) (hsh : sh t = 0) (hR : RR F t 0) (hx : nN t ≤ 150) {y : Nat} (hy : y < 150) : SS F (nN t) y ↔ ∃ i, i < prW t ∧ kQW t i = y := by
  have key := Src_iff t 0 hok hsh hR (by omega) y
  rw [Nat.zero_add] at key
  constructor
  · rintro (rfl | ⟨z, z1, z2⟩)
    · unfold prW kQW
      by_cases ho : own t = true
      · obtain ⟨a, b⟩ := kQ_own ho 0
        exact ⟨prC t - 1, by omega, by rw [if_pos (by omega)]; exact b⟩
      · exact ⟨prC t, by rw [if_neg ho]; omega, if_neg (by omega)⟩
    · obtain ⟨i, i1, i2⟩ := key.mp ⟨z, Nat.zero_le _, z1, z2, hy⟩
      exact ⟨i, by unfold prW; omega, by unfold kQW; rw [if_pos i1]; exact i2⟩
  · rintro ⟨i, i1, i2⟩
    unfold kQW at i2
    by_cases hi : i < prC t
    · rw [if_pos hi] at i2
      obtain ⟨z, z1, z2, z3, z4⟩ := key.mpr ⟨i, hi, i2⟩
      exact Or.inr ⟨z, z2, z3⟩
    · rw [if_neg hi] at i2
      exact Or.inl i2.symm
/-- a one-to-one map can't lead from more to fewer -/
theorem inj_le {a b : Nat} {f : Nat → Nat} (h1 : ∀ i, i < a → f i < b) (h2 : ∀ i j, i < a → j < a → f i = f j → i = j) : a ≤ b := by
  rcases Nat.lt_or_ge b a with h | h
  · obtain ⟨i, j, q1, q2, q3⟩ := php b a f h h1
    have := h2 i j (by omega) q2 q3
    omega
  · exact h
/-- the reference's obligations, collected -/
theorem ref_collect (hN : 20 ^ 130 ≤ N) {t : Term} {σ : St} (hok : ok t) (hsh : sh t = 0) (hht : ht t ≤ 40) (hR : RR (nd σ) t 0) (hn : nN t ≤ 120) (h4 : gI σ 4 0 = J (nN t)) (h18 : ∀ i, i < nN t → gI σ 18 i = -J 1) : (9 < oT t true ∧ ∃ σ', fX9_collect N σ = some σ' ∧ Fr (18 :: CL) σ σ' ∧ gI σ' 17 0 = J 10) ∨ (oT t true ≤ 9 ∧ ∃ (σ' : St) (dn : Nat → Nat), fX9_collect N σ = some σ' ∧ Fr (18 :: CL) σ σ' ∧ gI σ' 17 0 = J (oT t true) ∧ RD σ' t 0 (prW t) ∧ prW t + pC t = oT t true ∧ (∀ i, i < prW t → dn i < nN t ∧ gI σ' 19 i = J (dn i) ∧ gI σ' 18 (dn i) = J i) ∧ dn 0 = 0 ∧ 1 ≤ prW t ∧ (∀ y, y < nN t → gI σ' 18 y = -J 1 ∨ ∃ i, i < prW t ∧ dn i = y) ∧ (∀ i, i < prW t → ∃ m, m < prW t ∧ kQW t m = dn i) ∧ (∀ m, m < prW t → ∃ i, i < prW t ∧ dn i = kQW t m)) := by
  have hpos := ok_nN t hok
  have hN1 : 1000 ≤ N := Nat.le_trans (by decide) hN
  have hoT : oT t true = prW t + pC t := by
    rw [oT_true, oC_eq]
    unfold prW
    omega
  have f0 : Fr [17] σ (sI σ 17 0 (J 0)) := Fr.i (by decide)
  have hPD0 : PD (fun _ => 0) 0 (nN t) (sI σ 17 0 (J 0)) := ⟨by simp (decide := true) (disch := omega) only [letS_d, grd_tt, bnd_d, bnd1_d, bndX_d, bndX_e, gI_at, gI_ne, gI_sL, gL_sL, gL_sI, upd_at, updL_at, J_lit, J_add, J_mul, J_sub, J_lt, J_le, J_inj, J_ne, ne_J, m_lt, lt_m, m_le, le_m, J_cl, J_inB, if_true, if_false, ite_true, ite_false, reduceIte, isZ0, isZ1, J_and31, shrJ0, shlJ0, gI_sA, gL_sA, Nat.reduceEqDiff, Nat.reduceAdd, Nat.reduceMul, Nat.reduceLT, Nat.reduceLeDiff], by omega, fun i hi => by omega, fun y hy => Or.inl (by simp (decide := true) (disch := omega) only [letS_d, grd_tt, bnd_d, bnd1_d, bndX_d, bndX_e, gI_at, gI_ne, gI_sL, gL_sL, gL_sI, upd_at, updL_at, J_lit, J_add, J_mul, J_sub, J_lt, J_le, J_inj, J_ne, ne_J, m_lt, lt_m, m_le, le_m, J_cl, J_inB, if_true, if_false, ite_true, ite_false, reduceIte, isZ0, isZ1, J_and31, shrJ0, shlJ0, gI_sA, gL_sA, Nat.reduceEqDiff, Nat.reduceAdd, Nat.reduceMul, Nat.reduceLT, Nat.reduceLeDiff]; exact h18 y hy)⟩
  obtain ⟨σ1, dn1, c1, a1, a2, a3, a4, a5, a6, a7⟩ := ob_step (N := N) (y := 0) hPD0 (by omega) (by omega)
  have hc1 : 1 ≤ c1 ∧ dn1 0 = 0 := by
    rcases a7 with h | ⟨i, i1, i2⟩
    · refine ⟨by omega, ?_⟩
      rcases a6 0 (by omega) with h9 | h9
      · omega
      · exact h9
    · refine ⟨by omega, ?_⟩
      rcases a6 0 (by omega) with h9 | h9
      · omega
      · exact h9
  have hDI : DI (nd σ) (nN t) 0 dn1 c1 σ1 := ⟨(nd_of a2 (by decide)).trans (nd_of f0 (by decide)), by rw [a2.gi (by decide), f0.gi (by decide)]; exact h4, a3, hc1, fun i hi => by
    rcases a6 i hi with h9 | h9
    · omega
    · rw [h9]; exact Or.inl rfl, Or.inr (fun y hy hs => by
    rcases hs with rfl | ⟨z, z1, _⟩
    · exact ⟨0, hc1.1, hc1.2⟩
    · omega)⟩
  have hNF : NF (nd σ) (nN t) := fun z hz => by
    have := NF_of t 0 hok hsh hR (by omega) z (Nat.zero_le _) (by omega)
    rw [Nat.zero_add] at this
    exact this
  obtain ⟨σ2, dn, cnt, b1, b2, b3⟩ := d_loop (N := N) (by omega) hNF (nN t) 0 N σ1 dn1 c1 (by omega) (by omega) hDI
  have hbeg : fX9_collect N σ = fX9_collect_96 N N σ2 (J 0) := by
    unfold fX9_collect
    show bnd1 (fX9_oblige N (sI σ 17 0 (J 0)) (J 0)) _ = _
    rw [a1, bnd1_d]
    exact b1
  have hF2 : Fr (18 :: CL) σ σ2 := ((f0.mono (by decide)).tr (a2.mono (by decide))).tr (b2.mono (by decide))
  obtain ⟨q1, q2, ⟨q3, q4, q5, q6⟩, ⟨q7, q8⟩, q9, q10⟩ := b3
  have dinj : ∀ i j, i < cnt → j < cnt → dn i = dn j → i = j := fun i j hi hj h => by
    have h1 := (q5 i hi).2.2
    have h2 := (q5 j hj).2.2
    rw [h, h2, J_inj (by omega) (by omega)] at h1
    exact h1.symm
  -- from the reference's numbers to the class's
  have toC : ∀ i, i < cnt → ∃ m, m < prW t ∧ kQW t m = dn i := fun i hi => by
    have := (q5 i hi).1
    exact (SS_iff hok hsh hR (by omega) (by omega)).mp (q9 i hi)
  have hle : cnt ≤ prW t := by
    refine inj_le (f := fun i => if h : i < cnt then Classical.choose (toC i h) else 0) (fun i hi => ?_) (fun i j hi hj h => ?_)
    · show (if h : i < cnt then Classical.choose (toC i h) else 0) < prW t
      rw [dif_pos hi]
      exact (Classical.choose_spec (toC i hi)).1
    · have h : (if h : i < cnt then Classical.choose (toC i h) else 0) = (if h : j < cnt then Classical.choose (toC j h) else 0) := h
      rw [dif_pos hi, dif_pos hj] at h
      have e1 := (Classical.choose_spec (toC i hi)).2
      have e2 := (Classical.choose_spec (toC j hj)).2
      rw [h, e2] at e1
      exact dinj i j hi hj e1.symm
  have hkq : ∀ m, m < prW t → kQW t m < 150 := fun m hm => by
    unfold kQW
    by_cases h1 : m < prC t
    · rw [if_pos h1]
      have := kQ_in t 0 m hok hsh h1
      omega
    · rw [if_neg h1]
      omega
  by_cases hc10 : cnt = 10
  · left
    refine ⟨by omega, σ2, ?_, hF2, by rw [q3, hc10]⟩
    rw [hbeg]
    obtain ⟨n, hn'⟩ : ∃ n, N = n + 1 := ⟨N - 1, by omega⟩
    have := c_over (N := N) (n0 := nN t) (x := 0) (n := n) q2 (by omega) (by omega) (by rw [q3, hc10])
    rw [← hn'] at this
    exact this
  · have toR : ∀ m, m < prW t → ∃ i, i < cnt ∧ dn i = kQW t m := fun m hm => by
      rcases q10 with h | h
      · exact absurd h hc10
      · exact h (kQW t m) (hkq m hm) ((SS_iff hok hsh hR (by omega) (hkq m hm)).mpr ⟨m, hm, rfl⟩)
    have hge : prW t ≤ cnt := by
      refine inj_le (f := fun m => if h : m < prW t then Classical.choose (toR m h) else 0) (fun i hi => ?_) (fun i j hi hj h => ?_)
      · show (if h : i < prW t then Classical.choose (toR i h) else 0) < cnt
        rw [dif_pos hi]
        exact (Classical.choose_spec (toR i hi)).1
      · have h : (if h : i < prW t then Classical.choose (toR i h) else 0) = (if h : j < prW t then Classical.choose (toR j h) else 0) := h
        rw [dif_pos hi, dif_pos hj] at h
        have e1 := (Classical.choose_spec (toR i hi)).2
        have e2 := (Classical.choose_spec (toR j hj)).2
        rw [h, e2] at e1
        exact kQW_inj hok hsh hi hj e1.symm
    obtain rfl : cnt = prW t := by omega
    have hCQ : CQ (nd σ) (nN t) (prW t) σ2 := ⟨q1, q2, q3⟩
    obtain ⟨i1, i2⟩ := CO_all (N := N) (n0 := nN t) (F := nd σ) hN hn t 0 (prW t) σ2 hok hsh hht hR hCQ (by omega) (by omega)
    by_cases hf : prW t + pC t ≤ 9
    · right
      obtain ⟨σ3, d1, d2, d3, d4⟩ := i1 hf
      refine ⟨by omega, σ3, dn, ?_, hF2.tr (d2.2.2.mono (by decide)), by rw [d3, hoT], d4, hoT.symm, fun i hi => ?_, q8, q7, fun y hy => ?_, toC, toR⟩
      · rw [hbeg]
        have e := d1 (N - nN t)
        rw [show N - nN t + nN t = N from by omega, Nat.zero_add] at e
        rw [e]
        obtain ⟨n, hn'⟩ : ∃ n, N - nN t = n + 1 := ⟨N - nN t - 1, by omega⟩
        rw [hn', show fX9_collect_96 N (n + 1) σ3 (J (nN t)) = _ from by unfold fX9_collect_96; rfl]
        have h4' : gI σ3 4 0 = J (nN t) := by rw [d2.2.2.gi (by decide)]; exact q2
        simp (decide := true) (disch := omega) only [letS_d, grd_tt, bnd_d, bnd1_d, bndX_d, bndX_e, gI_at, gI_ne, gI_sL, gL_sL, gL_sI, upd_at, updL_at, J_lit, J_add, J_mul, J_sub, J_lt, J_le, J_inj, J_ne, ne_J, m_lt, lt_m, m_le, le_m, J_cl, J_inB, if_true, if_false, ite_true, ite_false, reduceIte, isZ0, isZ1, J_and31, shrJ0, shlJ0, gI_sA, gL_sA, Nat.reduceEqDiff, Nat.reduceAdd, Nat.reduceMul, Nat.reduceLT, Nat.reduceLeDiff, h4', Nat.le_refl]
      · obtain ⟨p1, p2, p3⟩ := q5 i hi
        exact ⟨p1, by rw [(d2.1 i hi).1]; exact p2, by rw [d2.2.2.gi (by decide)]; exact p3⟩
      · rw [d2.2.2.gi (by decide)]
        exact q6 y hy
    · left
      obtain ⟨σ3, d1, d2, d3⟩ := i2 (by omega)
      refine ⟨by omega, σ3, ?_, hF2.tr (d2.mono (by decide)), d3⟩
      rw [hbeg]
      have e := d1 (N - nN t - 1)
      rw [show N - nN t - 1 + nN t + 1 = N from by omega] at e
      exact e
end DU2
