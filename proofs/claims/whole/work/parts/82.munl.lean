/-! unrolling: lists -/
section UNL
variable {N P fr : Nat} {F : Nat → ND}
/-- values and places stay -/
def Sm (σ σ' : St) : Prop := (∀ i, gI σ' 28 i = gI σ 28 i ∧ gI σ' 29 i = gI σ 29 i ∧ gI σ' 30 i = gI σ 30 i) ∧ ∀ o, gI σ' 19 o = gI σ 19 o ∧ gI σ' 20 o = gI σ 20 o ∧ gI σ' 21 o = gI σ 21 o
theorem Vl.sm {i K : Nat} {s : Term} {σ σ' : St} (h : Vl i K s σ) (hs : Sm σ σ') : Vl i K s σ' := by
  obtain ⟨a, b, c⟩ := hs.1 i
  unfold Vl
  rw [a, b]
  exact h
theorem PlR.sm {K : Nat} {s : Term} {x : Nat} {σ σ' : St} (h : PlR K s x P σ) (hs : Sm σ σ') : PlR K s x P σ' := fun j hj => by
  obtain ⟨a, b, c⟩ := hs.2 (K + j)
  rw [a, b, c]
  exact h j hj
/-- on to the next one of a list -/
theorem u_go {S V K z : Nat} {σ : St} (h : US F (S + 1) V K σ) (hS : S + 1 < 64) (hz : z < 160) : ∃ σ', fX9_list_187 N σ (J z) = some σ' ∧ Blw S V K σ σ' ∧ US F (S + 2) V K σ' ∧ gI σ' 25 S = gI σ 25 S ∧ gI σ' 26 S = J z ∧ gI σ' 25 (S + 1) = J z ∧ gI σ' 26 (S + 1) = (if nK (F z) = J 11 then J 0 else -J 1) ∧ Sm σ σ' := by
  obtain ⟨h1, h2, h3, h4⟩ := id h
  have e : S + 1 - 1 = S := by omega
  have f : Fr [26] σ (sI σ 26 S (J z)) := Fr.i (by decide)
  have hu : US F (S + 1) V K (sI σ 26 S (J z)) := ⟨(nd_of f (by decide)).trans h1, by simp (decide := true) (disch := omega) only [letS_d, grd_tt, bnd_d, bnd1_d, bndX_d, bndX_e, gI_at, gI_ne, gI_sL, gL_sL, gL_sI, upd_at, updL_at, J_lit, J_add, J_mul, J_sub, J_lt, J_le, J_inj, J_ne, ne_J, m_lt, lt_m, m_le, le_m, J_cl, J_inB, if_true, if_false, ite_true, ite_false, reduceIte, isZ0, isZ1, J_and31, shrJ0, shlJ0, gI_sA, gL_sA, Nat.reduceEqDiff, Nat.reduceAdd, Nat.reduceMul, Nat.reduceLT, Nat.reduceLeDiff]; exact h2, by simp (decide := true) (disch := omega) only [letS_d, grd_tt, bnd_d, bnd1_d, bndX_d, bndX_e, gI_at, gI_ne, gI_sL, gL_sL, gL_sI, upd_at, updL_at, J_lit, J_add, J_mul, J_sub, J_lt, J_le, J_inj, J_ne, ne_J, m_lt, lt_m, m_le, le_m, J_cl, J_inB, if_true, if_false, ite_true, ite_false, reduceIte, isZ0, isZ1, J_and31, shrJ0, shlJ0, gI_sA, gL_sA, Nat.reduceEqDiff, Nat.reduceAdd, Nat.reduceMul, Nat.reduceLT, Nat.reduceLeDiff]; exact h3, by simp (decide := true) (disch := omega) only [letS_d, grd_tt, bnd_d, bnd1_d, bndX_d, bndX_e, gI_at, gI_ne, gI_sL, gL_sL, gL_sI, upd_at, updL_at, J_lit, J_add, J_mul, J_sub, J_lt, J_le, J_inj, J_ne, ne_J, m_lt, lt_m, m_le, le_m, J_cl, J_inB, if_true, if_false, ite_true, ite_false, reduceIte, isZ0, isZ1, J_and31, shrJ0, shlJ0, gI_sA, gL_sA, Nat.reduceEqDiff, Nat.reduceAdd, Nat.reduceMul, Nat.reduceLT, Nat.reduceLeDiff]; exact h4⟩
  obtain ⟨σ', a1, a2, a3, a4, a5, a6, a7⟩ := u_enter (N := N) hu hS hz
  refine ⟨σ', ?_, ?_, a3, ?_, ?_, a4, a5, ?_⟩
  · unfold fX9_list_187
    simp (decide := true) (disch := omega) only [letS_d, grd_tt, bnd_d, bnd1_d, bndX_d, bndX_e, gI_at, gI_ne, gI_sL, gL_sL, gL_sI, upd_at, updL_at, J_lit, J_add, J_mul, J_sub, J_lt, J_le, J_inj, J_ne, ne_J, m_lt, lt_m, m_le, le_m, J_cl, J_inB, if_true, if_false, ite_true, ite_false, reduceIte, isZ0, isZ1, J_and31, shrJ0, shlJ0, gI_sA, gL_sA, Nat.reduceEqDiff, Nat.reduceAdd, Nat.reduceMul, Nat.reduceLT, Nat.reduceLeDiff, h2, e, Nat.not_lt_zero, a1]
  · refine Blw.tr ⟨fun i hi => ?_, fun i _ => ⟨by simp (decide := true) (disch := omega) only [letS_d, grd_tt, bnd_d, bnd1_d, bndX_d, bndX_e, gI_at, gI_ne, gI_sL, gL_sL, gL_sI, upd_at, updL_at, J_lit, J_add, J_mul, J_sub, J_lt, J_le, J_inj, J_ne, ne_J, m_lt, lt_m, m_le, le_m, J_cl, J_inB, if_true, if_false, ite_true, ite_false, reduceIte, isZ0, isZ1, J_and31, shrJ0, shlJ0, gI_sA, gL_sA, Nat.reduceEqDiff, Nat.reduceAdd, Nat.reduceMul, Nat.reduceLT, Nat.reduceLeDiff], by simp (decide := true) (disch := omega) only [letS_d, grd_tt, bnd_d, bnd1_d, bndX_d, bndX_e, gI_at, gI_ne, gI_sL, gL_sL, gL_sI, upd_at, updL_at, J_lit, J_add, J_mul, J_sub, J_lt, J_le, J_inj, J_ne, ne_J, m_lt, lt_m, m_le, le_m, J_cl, J_inB, if_true, if_false, ite_true, ite_false, reduceIte, isZ0, isZ1, J_and31, shrJ0, shlJ0, gI_sA, gL_sA, Nat.reduceEqDiff, Nat.reduceAdd, Nat.reduceMul, Nat.reduceLT, Nat.reduceLeDiff], by simp (decide := true) (disch := omega) only [letS_d, grd_tt, bnd_d, bnd1_d, bndX_d, bndX_e, gI_at, gI_ne, gI_sL, gL_sL, gL_sI, upd_at, updL_at, J_lit, J_add, J_mul, J_sub, J_lt, J_le, J_inj, J_ne, ne_J, m_lt, lt_m, m_le, le_m, J_cl, J_inB, if_true, if_false, ite_true, ite_false, reduceIte, isZ0, isZ1, J_and31, shrJ0, shlJ0, gI_sA, gL_sA, Nat.reduceEqDiff, Nat.reduceAdd, Nat.reduceMul, Nat.reduceLT, Nat.reduceLeDiff]⟩, fun i _ => ⟨by simp (decide := true) (disch := omega) only [letS_d, grd_tt, bnd_d, bnd1_d, bndX_d, bndX_e, gI_at, gI_ne, gI_sL, gL_sL, gL_sI, upd_at, updL_at, J_lit, J_add, J_mul, J_sub, J_lt, J_le, J_inj, J_ne, ne_J, m_lt, lt_m, m_le, le_m, J_cl, J_inB, if_true, if_false, ite_true, ite_false, reduceIte, isZ0, isZ1, J_and31, shrJ0, shlJ0, gI_sA, gL_sA, Nat.reduceEqDiff, Nat.reduceAdd, Nat.reduceMul, Nat.reduceLT, Nat.reduceLeDiff], by simp (decide := true) (disch := omega) only [letS_d, grd_tt, bnd_d, bnd1_d, bndX_d, bndX_e, gI_at, gI_ne, gI_sL, gL_sL, gL_sI, upd_at, updL_at, J_lit, J_add, J_mul, J_sub, J_lt, J_le, J_inj, J_ne, ne_J, m_lt, lt_m, m_le, le_m, J_cl, J_inB, if_true, if_false, ite_true, ite_false, reduceIte, isZ0, isZ1, J_and31, shrJ0, shlJ0, gI_sA, gL_sA, Nat.reduceEqDiff, Nat.reduceAdd, Nat.reduceMul, Nat.reduceLT, Nat.reduceLeDiff], by simp (decide := true) (disch := omega) only [letS_d, grd_tt, bnd_d, bnd1_d, bndX_d, bndX_e, gI_at, gI_ne, gI_sL, gL_sL, gL_sI, upd_at, updL_at, J_lit, J_add, J_mul, J_sub, J_lt, J_le, J_inj, J_ne, ne_J, m_lt, lt_m, m_le, le_m, J_cl, J_inB, if_true, if_false, ite_true, ite_false, reduceIte, isZ0, isZ1, J_and31, shrJ0, shlJ0, gI_sA, gL_sA, Nat.reduceEqDiff, Nat.reduceAdd, Nat.reduceMul, Nat.reduceLT, Nat.reduceLeDiff]⟩, f.mono (by decide)⟩ (a2.le (by omega) (Nat.le_refl _) (Nat.le_refl _))
    have : ¬ i = S := by omega
    exact ⟨by simp (decide := true) (disch := omega) only [letS_d, grd_tt, bnd_d, bnd1_d, bndX_d, bndX_e, gI_at, gI_ne, gI_sL, gL_sL, gL_sI, upd_at, updL_at, J_lit, J_add, J_mul, J_sub, J_lt, J_le, J_inj, J_ne, ne_J, m_lt, lt_m, m_le, le_m, J_cl, J_inB, if_true, if_false, ite_true, ite_false, reduceIte, isZ0, isZ1, J_and31, shrJ0, shlJ0, gI_sA, gL_sA, Nat.reduceEqDiff, Nat.reduceAdd, Nat.reduceMul, Nat.reduceLT, Nat.reduceLeDiff], by simp (decide := true) (disch := omega) only [letS_d, grd_tt, bnd_d, bnd1_d, bndX_d, bndX_e, gI_at, gI_ne, gI_sL, gL_sL, gL_sI, upd_at, updL_at, J_lit, J_add, J_mul, J_sub, J_lt, J_le, J_inj, J_ne, ne_J, m_lt, lt_m, m_le, le_m, J_cl, J_inB, if_true, if_false, ite_true, ite_false, reduceIte, isZ0, isZ1, J_and31, shrJ0, shlJ0, gI_sA, gL_sA, Nat.reduceEqDiff, Nat.reduceAdd, Nat.reduceMul, Nat.reduceLT, Nat.reduceLeDiff, this]⟩
  · rw [(a2.1 S (by omega)).1]
    simp (decide := true) (disch := omega) only [letS_d, grd_tt, bnd_d, bnd1_d, bndX_d, bndX_e, gI_at, gI_ne, gI_sL, gL_sL, gL_sI, upd_at, updL_at, J_lit, J_add, J_mul, J_sub, J_lt, J_le, J_inj, J_ne, ne_J, m_lt, lt_m, m_le, le_m, J_cl, J_inB, if_true, if_false, ite_true, ite_false, reduceIte, isZ0, isZ1, J_and31, shrJ0, shlJ0, gI_sA, gL_sA, Nat.reduceEqDiff, Nat.reduceAdd, Nat.reduceMul, Nat.reduceLT, Nat.reduceLeDiff]
  · rw [(a2.1 S (by omega)).2]
    simp (decide := true) (disch := omega) only [letS_d, grd_tt, bnd_d, bnd1_d, bndX_d, bndX_e, gI_at, gI_ne, gI_sL, gL_sL, gL_sI, upd_at, updL_at, J_lit, J_add, J_mul, J_sub, J_lt, J_le, J_inj, J_ne, ne_J, m_lt, lt_m, m_le, le_m, J_cl, J_inB, if_true, if_false, ite_true, ite_false, reduceIte, isZ0, isZ1, J_and31, shrJ0, shlJ0, gI_sA, gL_sA, Nat.reduceEqDiff, Nat.reduceAdd, Nat.reduceMul, Nat.reduceLT, Nat.reduceLeDiff]
  · refine ⟨fun i => ?_, fun o => ?_⟩
    · obtain ⟨b1, b2, b3⟩ := a6 i
      rw [b1, b2, b3]
      exact ⟨by simp (decide := true) (disch := omega) only [letS_d, grd_tt, bnd_d, bnd1_d, bndX_d, bndX_e, gI_at, gI_ne, gI_sL, gL_sL, gL_sI, upd_at, updL_at, J_lit, J_add, J_mul, J_sub, J_lt, J_le, J_inj, J_ne, ne_J, m_lt, lt_m, m_le, le_m, J_cl, J_inB, if_true, if_false, ite_true, ite_false, reduceIte, isZ0, isZ1, J_and31, shrJ0, shlJ0, gI_sA, gL_sA, Nat.reduceEqDiff, Nat.reduceAdd, Nat.reduceMul, Nat.reduceLT, Nat.reduceLeDiff], by simp (decide := true) (disch := omega) only [letS_d, grd_tt, bnd_d, bnd1_d, bndX_d, bndX_e, gI_at, gI_ne, gI_sL, gL_sL, gL_sI, upd_at, updL_at, J_lit, J_add, J_mul, J_sub, J_lt, J_le, J_inj, J_ne, ne_J, m_lt, lt_m, m_le, le_m, J_cl, J_inB, if_true, if_false, ite_true, ite_false, reduceIte, isZ0, isZ1, J_and31, shrJ0, shlJ0, gI_sA, gL_sA, Nat.reduceEqDiff, Nat.reduceAdd, Nat.reduceMul, Nat.reduceLT, Nat.reduceLeDiff], by simp (decide := true) (disch := omega) only [letS_d, grd_tt, bnd_d, bnd1_d, bndX_d, bndX_e, gI_at, gI_ne, gI_sL, gL_sL, gL_sI, upd_at, updL_at, J_lit, J_add, J_mul, J_sub, J_lt, J_le, J_inj, J_ne, ne_J, m_lt, lt_m, m_le, le_m, J_cl, J_inB, if_true, if_false, ite_true, ite_false, reduceIte, isZ0, isZ1, J_and31, shrJ0, shlJ0, gI_sA, gL_sA, Nat.reduceEqDiff, Nat.reduceAdd, Nat.reduceMul, Nat.reduceLT, Nat.reduceLeDiff]⟩
    · obtain ⟨b1, b2, b3⟩ := a7 o
      rw [b1, b2, b3]
      exact ⟨by simp (decide := true) (disch := omega) only [letS_d, grd_tt, bnd_d, bnd1_d, bndX_d, bndX_e, gI_at, gI_ne, gI_sL, gL_sL, gL_sI, upd_at, updL_at, J_lit, J_add, J_mul, J_sub, J_lt, J_le, J_inj, J_ne, ne_J, m_lt, lt_m, m_le, le_m, J_cl, J_inB, if_true, if_false, ite_true, ite_false, reduceIte, isZ0, isZ1, J_and31, shrJ0, shlJ0, gI_sA, gL_sA, Nat.reduceEqDiff, Nat.reduceAdd, Nat.reduceMul, Nat.reduceLT, Nat.reduceLeDiff], by simp (decide := true) (disch := omega) only [letS_d, grd_tt, bnd_d, bnd1_d, bndX_d, bndX_e, gI_at, gI_ne, gI_sL, gL_sL, gL_sI, upd_at, updL_at, J_lit, J_add, J_mul, J_sub, J_lt, J_le, J_inj, J_ne, ne_J, m_lt, lt_m, m_le, le_m, J_cl, J_inB, if_true, if_false, ite_true, ite_false, reduceIte, isZ0, isZ1, J_and31, shrJ0, shlJ0, gI_sA, gL_sA, Nat.reduceEqDiff, Nat.reduceAdd, Nat.reduceMul, Nat.reduceLT, Nat.reduceLeDiff], by simp (decide := true) (disch := omega) only [letS_d, grd_tt, bnd_d, bnd1_d, bndX_d, bndX_e, gI_at, gI_ne, gI_sL, gL_sL, gL_sI, upd_at, updL_at, J_lit, J_add, J_mul, J_sub, J_lt, J_le, J_inj, J_ne, ne_J, m_lt, lt_m, m_le, le_m, J_cl, J_inB, if_true, if_false, ite_true, ite_false, reduceIte, isZ0, isZ1, J_and31, shrJ0, shlJ0, gI_sA, gL_sA, Nat.reduceEqDiff, Nat.reduceAdd, Nat.reduceMul, Nat.reduceLT, Nat.reduceLeDiff]⟩
/-- the end of a list -/
theorem u_pop {S V K : Nat} {σ : St} (h : US F (S + 1) V K σ) (hS : S < 64) : ∃ σ', fX9_list_187 N σ (-J 1) = some σ' ∧ Blw S V K σ σ' ∧ US F S V K σ' ∧ Sm σ σ' := by
  obtain ⟨h1, h2, h3, h4⟩ := id h
  have e : S + 1 - 1 = S := by omega
  have f : Fr [24, 26] σ (sI (sI σ 26 S (-J 1)) 24 0 (J S)) := (Fr.i (by decide)).tr (Fr.i (by decide))
  refine ⟨sI (sI σ 26 S (-J 1)) 24 0 (J S), ?_, ⟨fun i hi => ?_, fun i _ => ⟨by simp (decide := true) (disch := omega) only [letS_d, grd_tt, bnd_d, bnd1_d, bndX_d, bndX_e, gI_at, gI_ne, gI_sL, gL_sL, gL_sI, upd_at, updL_at, J_lit, J_add, J_mul, J_sub, J_lt, J_le, J_inj, J_ne, ne_J, m_lt, lt_m, m_le, le_m, J_cl, J_inB, if_true, if_false, ite_true, ite_false, reduceIte, isZ0, isZ1, J_and31, shrJ0, shlJ0, gI_sA, gL_sA, Nat.reduceEqDiff, Nat.reduceAdd, Nat.reduceMul, Nat.reduceLT, Nat.reduceLeDiff], by simp (decide := true) (disch := omega) only [letS_d, grd_tt, bnd_d, bnd1_d, bndX_d, bndX_e, gI_at, gI_ne, gI_sL, gL_sL, gL_sI, upd_at, updL_at, J_lit, J_add, J_mul, J_sub, J_lt, J_le, J_inj, J_ne, ne_J, m_lt, lt_m, m_le, le_m, J_cl, J_inB, if_true, if_false, ite_true, ite_false, reduceIte, isZ0, isZ1, J_and31, shrJ0, shlJ0, gI_sA, gL_sA, Nat.reduceEqDiff, Nat.reduceAdd, Nat.reduceMul, Nat.reduceLT, Nat.reduceLeDiff], by simp (decide := true) (disch := omega) only [letS_d, grd_tt, bnd_d, bnd1_d, bndX_d, bndX_e, gI_at, gI_ne, gI_sL, gL_sL, gL_sI, upd_at, updL_at, J_lit, J_add, J_mul, J_sub, J_lt, J_le, J_inj, J_ne, ne_J, m_lt, lt_m, m_le, le_m, J_cl, J_inB, if_true, if_false, ite_true, ite_false, reduceIte, isZ0, isZ1, J_and31, shrJ0, shlJ0, gI_sA, gL_sA, Nat.reduceEqDiff, Nat.reduceAdd, Nat.reduceMul, Nat.reduceLT, Nat.reduceLeDiff]⟩, fun i _ => ⟨by simp (decide := true) (disch := omega) only [letS_d, grd_tt, bnd_d, bnd1_d, bndX_d, bndX_e, gI_at, gI_ne, gI_sL, gL_sL, gL_sI, upd_at, updL_at, J_lit, J_add, J_mul, J_sub, J_lt, J_le, J_inj, J_ne, ne_J, m_lt, lt_m, m_le, le_m, J_cl, J_inB, if_true, if_false, ite_true, ite_false, reduceIte, isZ0, isZ1, J_and31, shrJ0, shlJ0, gI_sA, gL_sA, Nat.reduceEqDiff, Nat.reduceAdd, Nat.reduceMul, Nat.reduceLT, Nat.reduceLeDiff], by simp (decide := true) (disch := omega) only [letS_d, grd_tt, bnd_d, bnd1_d, bndX_d, bndX_e, gI_at, gI_ne, gI_sL, gL_sL, gL_sI, upd_at, updL_at, J_lit, J_add, J_mul, J_sub, J_lt, J_le, J_inj, J_ne, ne_J, m_lt, lt_m, m_le, le_m, J_cl, J_inB, if_true, if_false, ite_true, ite_false, reduceIte, isZ0, isZ1, J_and31, shrJ0, shlJ0, gI_sA, gL_sA, Nat.reduceEqDiff, Nat.reduceAdd, Nat.reduceMul, Nat.reduceLT, Nat.reduceLeDiff], by simp (decide := true) (disch := omega) only [letS_d, grd_tt, bnd_d, bnd1_d, bndX_d, bndX_e, gI_at, gI_ne, gI_sL, gL_sL, gL_sI, upd_at, updL_at, J_lit, J_add, J_mul, J_sub, J_lt, J_le, J_inj, J_ne, ne_J, m_lt, lt_m, m_le, le_m, J_cl, J_inB, if_true, if_false, ite_true, ite_false, reduceIte, isZ0, isZ1, J_and31, shrJ0, shlJ0, gI_sA, gL_sA, Nat.reduceEqDiff, Nat.reduceAdd, Nat.reduceMul, Nat.reduceLT, Nat.reduceLeDiff]⟩, f.mono (by decide)⟩, ⟨(nd_of f (by decide)).trans h1, by simp (decide := true) (disch := omega) only [letS_d, grd_tt, bnd_d, bnd1_d, bndX_d, bndX_e, gI_at, gI_ne, gI_sL, gL_sL, gL_sI, upd_at, updL_at, J_lit, J_add, J_mul, J_sub, J_lt, J_le, J_inj, J_ne, ne_J, m_lt, lt_m, m_le, le_m, J_cl, J_inB, if_true, if_false, ite_true, ite_false, reduceIte, isZ0, isZ1, J_and31, shrJ0, shlJ0, gI_sA, gL_sA, Nat.reduceEqDiff, Nat.reduceAdd, Nat.reduceMul, Nat.reduceLT, Nat.reduceLeDiff], by simp (decide := true) (disch := omega) only [letS_d, grd_tt, bnd_d, bnd1_d, bndX_d, bndX_e, gI_at, gI_ne, gI_sL, gL_sL, gL_sI, upd_at, updL_at, J_lit, J_add, J_mul, J_sub, J_lt, J_le, J_inj, J_ne, ne_J, m_lt, lt_m, m_le, le_m, J_cl, J_inB, if_true, if_false, ite_true, ite_false, reduceIte, isZ0, isZ1, J_and31, shrJ0, shlJ0, gI_sA, gL_sA, Nat.reduceEqDiff, Nat.reduceAdd, Nat.reduceMul, Nat.reduceLT, Nat.reduceLeDiff]; exact h3, by simp (decide := true) (disch := omega) only [letS_d, grd_tt, bnd_d, bnd1_d, bndX_d, bndX_e, gI_at, gI_ne, gI_sL, gL_sL, gL_sI, upd_at, updL_at, J_lit, J_add, J_mul, J_sub, J_lt, J_le, J_inj, J_ne, ne_J, m_lt, lt_m, m_le, le_m, J_cl, J_inB, if_true, if_false, ite_true, ite_false, reduceIte, isZ0, isZ1, J_and31, shrJ0, shlJ0, gI_sA, gL_sA, Nat.reduceEqDiff, Nat.reduceAdd, Nat.reduceMul, Nat.reduceLT, Nat.reduceLeDiff]; exact h4⟩, fun i => ⟨by simp (decide := true) (disch := omega) only [letS_d, grd_tt, bnd_d, bnd1_d, bndX_d, bndX_e, gI_at, gI_ne, gI_sL, gL_sL, gL_sI, upd_at, updL_at, J_lit, J_add, J_mul, J_sub, J_lt, J_le, J_inj, J_ne, ne_J, m_lt, lt_m, m_le, le_m, J_cl, J_inB, if_true, if_false, ite_true, ite_false, reduceIte, isZ0, isZ1, J_and31, shrJ0, shlJ0, gI_sA, gL_sA, Nat.reduceEqDiff, Nat.reduceAdd, Nat.reduceMul, Nat.reduceLT, Nat.reduceLeDiff], by simp (decide := true) (disch := omega) only [letS_d, grd_tt, bnd_d, bnd1_d, bndX_d, bndX_e, gI_at, gI_ne, gI_sL, gL_sL, gL_sI, upd_at, updL_at, J_lit, J_add, J_mul, J_sub, J_lt, J_le, J_inj, J_ne, ne_J, m_lt, lt_m, m_le, le_m, J_cl, J_inB, if_true, if_false, ite_true, ite_false, reduceIte, isZ0, isZ1, J_and31, shrJ0, shlJ0, gI_sA, gL_sA, Nat.reduceEqDiff, Nat.reduceAdd, Nat.reduceMul, Nat.reduceLT, Nat.reduceLeDiff], by simp (decide := true) (disch := omega) only [letS_d, grd_tt, bnd_d, bnd1_d, bndX_d, bndX_e, gI_at, gI_ne, gI_sL, gL_sL, gL_sI, upd_at, updL_at, J_lit, J_add, J_mul, J_sub, J_lt, J_le, J_inj, J_ne, ne_J, m_lt, lt_m, m_le, le_m, J_cl, J_inB, if_true, if_false, ite_true, ite_false, reduceIte, isZ0, isZ1, J_and31, shrJ0, shlJ0, gI_sA, gL_sA, Nat.reduceEqDiff, Nat.reduceAdd, Nat.reduceMul, Nat.reduceLT, Nat.reduceLeDiff]⟩, fun i => ⟨by simp (decide := true) (disch := omega) only [letS_d, grd_tt, bnd_d, bnd1_d, bndX_d, bndX_e, gI_at, gI_ne, gI_sL, gL_sL, gL_sI, upd_at, updL_at, J_lit, J_add, J_mul, J_sub, J_lt, J_le, J_inj, J_ne, ne_J, m_lt, lt_m, m_le, le_m, J_cl, J_inB, if_true, if_false, ite_true, ite_false, reduceIte, isZ0, isZ1, J_and31, shrJ0, shlJ0, gI_sA, gL_sA, Nat.reduceEqDiff, Nat.reduceAdd, Nat.reduceMul, Nat.reduceLT, Nat.reduceLeDiff], by simp (decide := true) (disch := omega) only [letS_d, grd_tt, bnd_d, bnd1_d, bndX_d, bndX_e, gI_at, gI_ne, gI_sL, gL_sL, gL_sI, upd_at, updL_at, J_lit, J_add, J_mul, J_sub, J_lt, J_le, J_inj, J_ne, ne_J, m_lt, lt_m, m_le, le_m, J_cl, J_inB, if_true, if_false, ite_true, ite_false, reduceIte, isZ0, isZ1, J_and31, shrJ0, shlJ0, gI_sA, gL_sA, Nat.reduceEqDiff, Nat.reduceAdd, Nat.reduceMul, Nat.reduceLT, Nat.reduceLeDiff], by simp (decide := true) (disch := omega) only [letS_d, grd_tt, bnd_d, bnd1_d, bndX_d, bndX_e, gI_at, gI_ne, gI_sL, gL_sL, gL_sI, upd_at, updL_at, J_lit, J_add, J_mul, J_sub, J_lt, J_le, J_inj, J_ne, ne_J, m_lt, lt_m, m_le, le_m, J_cl, J_inB, if_true, if_false, ite_true, ite_false, reduceIte, isZ0, isZ1, J_and31, shrJ0, shlJ0, gI_sA, gL_sA, Nat.reduceEqDiff, Nat.reduceAdd, Nat.reduceMul, Nat.reduceLT, Nat.reduceLeDiff]⟩⟩
  · unfold fX9_list_187
    simp (decide := true) (disch := omega) only [letS_d, grd_tt, bnd_d, bnd1_d, bndX_d, bndX_e, gI_at, gI_ne, gI_sL, gL_sL, gL_sI, upd_at, updL_at, J_lit, J_add, J_mul, J_sub, J_lt, J_le, J_inj, J_ne, ne_J, m_lt, lt_m, m_le, le_m, J_cl, J_inB, if_true, if_false, ite_true, ite_false, reduceIte, isZ0, isZ1, J_and31, shrJ0, shlJ0, gI_sA, gL_sA, Nat.reduceEqDiff, Nat.reduceAdd, Nat.reduceMul, Nat.reduceLT, Nat.reduceLeDiff, h2, e]
  · have : ¬ i = S := by omega
    exact ⟨by simp (decide := true) (disch := omega) only [letS_d, grd_tt, bnd_d, bnd1_d, bndX_d, bndX_e, gI_at, gI_ne, gI_sL, gL_sL, gL_sI, upd_at, updL_at, J_lit, J_add, J_mul, J_sub, J_lt, J_le, J_inj, J_ne, ne_J, m_lt, lt_m, m_le, le_m, J_cl, J_inB, if_true, if_false, ite_true, ite_false, reduceIte, isZ0, isZ1, J_and31, shrJ0, shlJ0, gI_sA, gL_sA, Nat.reduceEqDiff, Nat.reduceAdd, Nat.reduceMul, Nat.reduceLT, Nat.reduceLeDiff], by simp (decide := true) (disch := omega) only [letS_d, grd_tt, bnd_d, bnd1_d, bndX_d, bndX_e, gI_at, gI_ne, gI_sL, gL_sL, gL_sI, upd_at, updL_at, J_lit, J_add, J_mul, J_sub, J_lt, J_le, J_inj, J_ne, ne_J, m_lt, lt_m, m_le, le_m, J_cl, J_inB, if_true, if_false, ite_true, ite_false, reduceIte, isZ0, isZ1, J_and31, shrJ0, shlJ0, gI_sA, gL_sA, Nat.reduceEqDiff, Nat.reduceAdd, Nat.reduceMul, Nat.reduceLT, Nat.reduceLeDiff, this]⟩
/-- a list begins -/
theorem u_list0 {S V K y : Nat} {σ : St} (h : US F (S + 1) V K σ) (hS : S < 64) (hy : y < 160) (h26 : gI σ 26 S = -J 1) : fX9_list N σ (J y) = fX9_list_187 N σ (nO (F y)) := by
  obtain ⟨h1, h2, h3, h4⟩ := h
  have h6 : gI σ 6 y = nO (F y) := by rw [← h1]; rfl
  have e : S + 1 - 1 = S := by omega
  have hm : ¬ J 0 ≤ -J 1 := by decide
  unfold fX9_list fX9_list_31
  simp (decide := true) (disch := omega) only [letS_d, grd_tt, bnd_d, bnd1_d, bndX_d, bndX_e, gI_at, gI_ne, gI_sL, gL_sL, gL_sI, upd_at, updL_at, J_lit, J_add, J_mul, J_sub, J_lt, J_le, J_inj, J_ne, ne_J, m_lt, lt_m, m_le, le_m, J_cl, J_inB, if_true, if_false, ite_true, ite_false, reduceIte, isZ0, isZ1, J_and31, shrJ0, shlJ0, gI_sA, gL_sA, Nat.reduceEqDiff, Nat.reduceAdd, Nat.reduceMul, Nat.reduceLT, Nat.reduceLeDiff, h2, e, h26, hm, h6]
/-- behind the first one -/
theorem u_list1 {S V K y z : Nat} {σ : St} (h : US F (S + 1) V K σ) (hS : S < 64) (hy : y < 160) (hz : z < 160) (h26 : gI σ 26 S = J z) (hO : nO (F y) = J z) : fX9_list N σ (J y) = fX9_list_187 N σ (nB (F z)) := by
  obtain ⟨h1, h2, h3, h4⟩ := h
  have h6 : gI σ 6 y = J z := by rw [← hO, ← h1]; rfl
  have h8 : gI σ 8 z = nB (F z) := by rw [← h1]; rfl
  have e : S + 1 - 1 = S := by omega
  unfold fX9_list fX9_list_31
  simp (decide := true) (disch := omega) only [letS_d, grd_tt, bnd_d, bnd1_d, bndX_d, bndX_e, gI_at, gI_ne, gI_sL, gL_sL, gL_sI, upd_at, updL_at, J_lit, J_add, J_mul, J_sub, J_lt, J_le, J_inj, J_ne, ne_J, m_lt, lt_m, m_le, le_m, J_cl, J_inB, if_true, if_false, ite_true, ite_false, reduceIte, isZ0, isZ1, J_and31, shrJ0, shlJ0, gI_sA, gL_sA, Nat.reduceEqDiff, Nat.reduceAdd, Nat.reduceMul, Nat.reduceLT, Nat.reduceLeDiff, h2, e, h26, h6, h8, Nat.zero_le, Nat.not_lt_zero]
/-- behind a later one of a sequence: the two values become one -/
theorem u_list2 (hN : 100 ≤ N) {S V K y z fst : Nat} {s t : Term} {x : Nat} {σ : St} (h : US F (S + 1) (V + 2) (K + len s + len t) σ) (hK : K + len s + len t ≤ 9) (hS : S < 64) (hV : V + 1 < 64) (hy : y < 160) (hz : z < 160) (hf : fst < 160) (h26 : gI σ 26 S = J z) (hO : nO (F y) = J fst) (hne : ¬ z = fst) (hk : nK (F y) = J 10) (v1 : Vl V K s σ) (v2 : Vl (V + 1) (K + len s) t σ) (p1 : PlR K s x P σ) (p2 : PlR (K + len s) t (x + nN s) P σ) : ∃ σ', fX9_list N σ (J y) = fX9_list_187 N σ' (nB (F z)) ∧ Blw (S + 1) V K σ σ' ∧ US F (S + 1) (V + 1) (K + len s + len t) σ' ∧ Vl V K (.elem s (.length t)) σ' ∧ PlR K (.elem s (.length t)) x P σ' := by
  obtain ⟨h1, h2, h3, h4⟩ := h
  have h6 : gI σ 6 y = J fst := by rw [← hO, ← h1]; rfl
  have h8 : gI σ 8 z = nB (F z) := by rw [← h1]; rfl
  have h5 : gI σ 5 y = J 10 := by rw [← hk, ← h1]; rfl
  have e : S + 1 - 1 = S := by omega
  have ev1 : V + 2 - 2 = V := by omega
  have ev2 : V + 2 - 1 = V + 1 := by omega
  obtain ⟨σ1, a1, a2, a3, a4⟩ := u_follow (N := N) hN (K := K + len s + len t) (by omega) (gI σ 29 V) (gI σ 28 (V + 1)) h4
  have h5' : gI σ1 5 y = J 10 := by rw [a2.gi (by decide)]; exact h5
  have f2 : Fr [27, 28, 29] σ1 (sI (sI (sI σ1 28 V (gI σ1 28 V)) 29 V (gI σ1 29 (V + 1))) 27 0 (J (V + 1))) := ((Fr.i (by decide)).tr (Fr.i (by decide))).tr (Fr.i (by decide))
  have h27 : gI σ1 27 0 = J (V + 2) := by rw [a2.gi (by decide)]; exact h3
  have hl : ∀ i, i < K → gI σ1 21 i = gI σ 21 i := fun i hi => by rw [a4 i (by omega), v1.2.below hi (by omega), if_neg (by decide)]
  refine ⟨sI (sI (sI σ1 28 V (gI σ1 28 V)) 29 V (gI σ1 29 (V + 1))) 27 0 (J (V + 1)), ?_, ⟨fun i _ => ?_, fun i hi => ?_, fun i hi => ?_, (a2.mono (by decide)).tr (f2.mono (by decide))⟩, ⟨?_, ?_, by simp (decide := true) (disch := omega) only [letS_d, grd_tt, bnd_d, bnd1_d, bndX_d, bndX_e, gI_at, gI_ne, gI_sL, gL_sL, gL_sI, upd_at, updL_at, J_lit, J_add, J_mul, J_sub, J_lt, J_le, J_inj, J_ne, ne_J, m_lt, lt_m, m_le, le_m, J_cl, J_inB, if_true, if_false, ite_true, ite_false, reduceIte, isZ0, isZ1, J_and31, shrJ0, shlJ0, gI_sA, gL_sA, Nat.reduceEqDiff, Nat.reduceAdd, Nat.reduceMul, Nat.reduceLT, Nat.reduceLeDiff], ?_⟩, ⟨?_, ?_⟩, fun j hj => ?_⟩
  · have sA : fX9_list N σ (J y) = fX9_list_31 N σ (J y) (J z) (nB (F z)) := by
      unfold fX9_list
      simp (decide := true) (disch := omega) only [letS_d, grd_tt, bnd_d, bnd1_d, bndX_d, bndX_e, gI_at, gI_ne, gI_sL, gL_sL, gL_sI, upd_at, updL_at, J_lit, J_add, J_mul, J_sub, J_lt, J_le, J_inj, J_ne, ne_J, m_lt, lt_m, m_le, le_m, J_cl, J_inB, if_true, if_false, ite_true, ite_false, reduceIte, isZ0, isZ1, J_and31, shrJ0, shlJ0, gI_sA, gL_sA, Nat.reduceEqDiff, Nat.reduceAdd, Nat.reduceMul, Nat.reduceLT, Nat.reduceLeDiff, h2, e, h26, h8, Nat.zero_le]
    have sB : fX9_list_31 N σ (J y) (J z) (nB (F z)) = fX9_list_91 N σ1 (J y) (nB (F z)) (J V) (J (V + 1)) := by
      unfold fX9_list_31
      simp (decide := true) (disch := omega) only [letS_d, grd_tt, bnd_d, bnd1_d, bndX_d, bndX_e, gI_at, gI_ne, gI_sL, gL_sL, gL_sI, upd_at, updL_at, J_lit, J_add, J_mul, J_sub, J_lt, J_le, J_inj, J_ne, ne_J, m_lt, lt_m, m_le, le_m, J_cl, J_inB, if_true, if_false, ite_true, ite_false, reduceIte, isZ0, isZ1, J_and31, shrJ0, shlJ0, gI_sA, gL_sA, Nat.reduceEqDiff, Nat.reduceAdd, Nat.reduceMul, Nat.reduceLT, Nat.reduceLeDiff, h6, Nat.not_lt_zero, hne, h3, ev1, ev2]
      simp (decide := true) (disch := omega) only [letS_d, grd_tt, bnd_d, bnd1_d, bndX_d, bndX_e, gI_at, gI_ne, gI_sL, gL_sL, gL_sI, upd_at, updL_at, J_lit, J_add, J_mul, J_sub, J_lt, J_le, J_inj, J_ne, ne_J, m_lt, lt_m, m_le, le_m, J_cl, J_inB, if_true, if_false, ite_true, ite_false, reduceIte, isZ0, isZ1, J_and31, shrJ0, shlJ0, gI_sA, gL_sA, Nat.reduceEqDiff, Nat.reduceAdd, Nat.reduceMul, Nat.reduceLT, Nat.reduceLeDiff, h5, a1]
    have sC : fX9_list_91 N σ1 (J y) (nB (F z)) (J V) (J (V + 1)) = fX9_list_133 N σ1 (J y) (nB (F z)) (J V) (J (V + 1)) (gI σ1 28 V) (J V) := by
      unfold fX9_list_91
      rw [J_inB hy (by omega), grd_t, J_cl (by omega), h5', if_pos (show J 10 = (10 : Int32) from rfl), J_inB (show V < 64 by omega) (by omega), grd_t, J_cl (by omega)]
    have sD : fX9_list_133 N σ1 (J y) (nB (F z)) (J V) (J (V + 1)) (gI σ1 28 V) (J V) = fX9_list_176 N (sI σ1 28 V (gI σ1 28 V)) (nB (F z)) (gI σ1 29 (V + 1)) (J V) := by
      unfold fX9_list_133
      have h5'' : gI (sI σ1 28 V (gI σ1 28 V)) 5 y = J 10 := by rw [gI_ne _ _ _ (by decide)]; exact h5'
      rw [J_inB (show V < 64 by omega) (by omega), grd_t, J_cl (by omega), letS_d, J_inB hy (by omega), grd_t, J_cl (by omega), h5'', if_pos (show J 10 = (10 : Int32) from rfl), J_inB hV (by omega), grd_t, J_cl (by omega), gI_ne _ _ _ (by decide)]
    have sE : fX9_list_176 N (sI σ1 28 V (gI σ1 28 V)) (nB (F z)) (gI σ1 29 (V + 1)) (J V) = fX9_list_187 N (sI (sI (sI σ1 28 V (gI σ1 28 V)) 29 V (gI σ1 29 (V + 1))) 27 0 (J (V + 1))) (nB (F z)) := by
      unfold fX9_list_176
      simp (decide := true) (disch := omega) only [letS_d, grd_tt, bnd_d, bnd1_d, bndX_d, bndX_e, gI_at, gI_ne, gI_sL, gL_sL, gL_sI, upd_at, updL_at, J_lit, J_add, J_mul, J_sub, J_lt, J_le, J_inj, J_ne, ne_J, m_lt, lt_m, m_le, le_m, J_cl, J_inB, if_true, if_false, ite_true, ite_false, reduceIte, isZ0, isZ1, J_and31, shrJ0, shlJ0, gI_sA, gL_sA, Nat.reduceEqDiff, Nat.reduceAdd, Nat.reduceMul, Nat.reduceLT, Nat.reduceLeDiff, h27, ev2]
    rw [sA, sB, sC, sD, sE]
  · rw [f2.gi (by decide), f2.gi (by decide), a2.gi (by decide), a2.gi (by decide)]
    exact ⟨rfl, rfl⟩
  · have : ¬ i = V := by omega
    refine ⟨?_, ?_, ?_⟩
    · simp (decide := true) (disch := omega) only [letS_d, grd_tt, bnd_d, bnd1_d, bndX_d, bndX_e, gI_at, gI_ne, gI_sL, gL_sL, gL_sI, upd_at, updL_at, J_lit, J_add, J_mul, J_sub, J_lt, J_le, J_inj, J_ne, ne_J, m_lt, lt_m, m_le, le_m, J_cl, J_inB, if_true, if_false, ite_true, ite_false, reduceIte, isZ0, isZ1, J_and31, shrJ0, shlJ0, gI_sA, gL_sA, Nat.reduceEqDiff, Nat.reduceAdd, Nat.reduceMul, Nat.reduceLT, Nat.reduceLeDiff, this]
      rw [a2.gi (by decide)]
    · simp (decide := true) (disch := omega) only [letS_d, grd_tt, bnd_d, bnd1_d, bndX_d, bndX_e, gI_at, gI_ne, gI_sL, gL_sL, gL_sI, upd_at, updL_at, J_lit, J_add, J_mul, J_sub, J_lt, J_le, J_inj, J_ne, ne_J, m_lt, lt_m, m_le, le_m, J_cl, J_inB, if_true, if_false, ite_true, ite_false, reduceIte, isZ0, isZ1, J_and31, shrJ0, shlJ0, gI_sA, gL_sA, Nat.reduceEqDiff, Nat.reduceAdd, Nat.reduceMul, Nat.reduceLT, Nat.reduceLeDiff, this]
      rw [a2.gi (by decide)]
    · rw [f2.gi (by decide), a2.gi (by decide)]
  · rw [f2.gi (by decide), f2.gi (by decide), f2.gi (by decide), a2.gi (by decide), a2.gi (by decide)]
    exact ⟨rfl, rfl, hl i hi⟩
  · rw [nd_of f2 (by decide), nd_of a2 (by decide)]
    exact h1
  · rw [f2.gi (by decide), a2.gi (by decide)]
    exact h2
  · rw [f2.gi (by decide), a2.gi (by decide)]
    exact h4
  · have e1 : gI (sI (sI (sI σ1 28 V (gI σ1 28 V)) 29 V (gI σ1 29 (V + 1))) 27 0 (J (V + 1))) 28 V = gI σ 28 V := by
      simp (decide := true) (disch := omega) only [letS_d, grd_tt, bnd_d, bnd1_d, bndX_d, bndX_e, gI_at, gI_ne, gI_sL, gL_sL, gL_sI, upd_at, updL_at, J_lit, J_add, J_mul, J_sub, J_lt, J_le, J_inj, J_ne, ne_J, m_lt, lt_m, m_le, le_m, J_cl, J_inB, if_true, if_false, ite_true, ite_false, reduceIte, isZ0, isZ1, J_and31, shrJ0, shlJ0, gI_sA, gL_sA, Nat.reduceEqDiff, Nat.reduceAdd, Nat.reduceMul, Nat.reduceLT, Nat.reduceLeDiff]
      rw [a2.gi (by decide)]
    rw [e1]
    refine v1.1.congr (fun t' _ => ?_)
    show fi s t' = (decide (t' < len s) && fi s t')
    by_cases hx : t' < len s
    · rw [decide_eq_true hx]
      rfl
    · rw [nf (fi_lt s) (by omega), Bool.and_false]
  · have e1 : gI (sI (sI (sI σ1 28 V (gI σ1 28 V)) 29 V (gI σ1 29 (V + 1))) 27 0 (J (V + 1))) 29 V = gI σ 29 (V + 1) := by
      simp (decide := true) (disch := omega) only [letS_d, grd_tt, bnd_d, bnd1_d, bndX_d, bndX_e, gI_at, gI_ne, gI_sL, gL_sL, gL_sI, upd_at, updL_at, J_lit, J_add, J_mul, J_sub, J_lt, J_le, J_inj, J_ne, ne_J, m_lt, lt_m, m_le, le_m, J_cl, J_inB, if_true, if_false, ite_true, ite_false, reduceIte, isZ0, isZ1, J_and31, shrJ0, shlJ0, gI_sA, gL_sA, Nat.reduceEqDiff, Nat.reduceAdd, Nat.reduceMul, Nat.reduceLT, Nat.reduceLeDiff]
      rw [a2.gi (by decide)]
    rw [e1]
    exact v2.2.base.congr (fun _ _ => rfl)
  · have hlen : len (.elem s (.length t)) = len s + len t := rfl
    rw [hlen] at hj
    rw [f2.gi (by decide), f2.gi (by decide), f2.gi (by decide), a2.gi (k := 19) (by decide), a2.gi (k := 20) (by decide), a4 (K + j) (by omega)]
    by_cases hjs : j < len s
    · obtain ⟨q1, q2, q3⟩ := p1 j hjs
      refine ⟨by rw [q1, show pn (.elem s (.length t)) x j = pn s x j from if_pos hjs], q2, ?_⟩
      rw [v1.2.at (by omega)]
      have goal : ∀ x, fo (.elem s (.length t)) j x = (fo s j x || (la s j && (decide (len s ≤ x) && fi t (x - len s)))) := fun x => by
        show (if j < len s then (if x < len s then fo s j x else la s j && fi t (x - len s)) else (decide (len s ≤ x) && fo t (j - len s) (x - len s))) = _
        rw [if_pos hjs]
        by_cases hx : x < len s
        · rw [if_pos hx, decide_eq_false (show ¬ len s ≤ x by omega)]
          simp
        · rw [if_neg hx, decide_eq_true (show len s ≤ x by omega)]
          cases hy : fo s j x
          · simp
          · have := (fo_lt s _ _ hy).2
            omega
      cases hla : la s j
      · rw [if_neg (by decide)]
        exact q3.congr (fun x _ => by rw [goal, hla]; simp)
      · rw [if_pos rfl]
        exact (q3.or v2.1.base).congr (fun x _ => by rw [goal, hla]; simp)
    · obtain ⟨q1, q2, q3⟩ := p2 (j - len s) (by omega)
      rw [show K + len s + (j - len s) = K + j from by omega] at q1 q2 q3
      refine ⟨by rw [q1, show pn (.elem s (.length t)) x j = pn t (x + nN s) (j - len s) from if_neg hjs], q2, ?_⟩
      rw [v1.2.at (by omega), nf (la_lt s) (show len s ≤ j by omega), if_neg (by decide)]
      refine q3.base.congr (fun x _ => ?_)
      show _ = (if j < len s then (if x < len s then fo s j x else la s j && fi t (x - len s)) else (decide (len s ≤ x) && fo t (j - len s) (x - len s)))
      rw [if_neg hjs]
/-- behind a later one of a group -/
theorem u_list3 {S V K y z fst : Nat} {g s : Term} {x : Nat} {σ : St} (h : US F (S + 1) (V + 2) (K + len g + len s) σ) (hK : K + len g + len s ≤ 9) (hS : S < 64) (hV : V + 1 < 64) (hy : y < 160) (hz : z < 160) (hf : fst < 160) (h26 : gI σ 26 S = J z) (hO : nO (F y) = J fst) (hne : ¬ z = fst) (hk : nK (F y) = J 12) (v1 : Vl V K g σ) (v2 : Vl (V + 1) (K + len g) s σ) (p1 : PlR K g x P σ) (p2 : PlR (K + len g) s (x + nN g + 1) P σ) : ∃ σ', fX9_list N σ (J y) = fX9_list_187 N σ' (nB (F z)) ∧ Blw (S + 1) V K σ σ' ∧ US F (S + 1) (V + 1) (K + len g + len s) σ' ∧ Vl V K (.elem g (.old s)) σ' ∧ PlR K (.elem g (.old s)) x P σ' := by
  obtain ⟨h1, h2, h3, h4⟩ := h
  have h6 : gI σ 6 y = J fst := by rw [← hO, ← h1]; rfl
  have h8 : gI σ 8 z = nB (F z) := by rw [← h1]; rfl
  have h5 : gI σ 5 y = J 12 := by rw [← hk, ← h1]; rfl
  have e : S + 1 - 1 = S := by omega
  have ev1 : V + 2 - 2 = V := by omega
  have ev2 : V + 2 - 1 = V + 1 := by omega
  have hne2 : ¬ V + 1 = V := by omega
  have f2 : Fr [27, 28, 29] σ (sI (sI (sI σ 28 V (gI σ 28 V ||| gI σ 28 (V + 1))) 29 V (gI σ 29 V ||| gI σ 29 (V + 1))) 27 0 (J (V + 1))) := ((Fr.i (by decide)).tr (Fr.i (by decide))).tr (Fr.i (by decide))
  refine ⟨sI (sI (sI σ 28 V (gI σ 28 V ||| gI σ 28 (V + 1))) 29 V (gI σ 29 V ||| gI σ 29 (V + 1))) 27 0 (J (V + 1)), ?_, ⟨fun i _ => ?_, fun i hi => ?_, fun i hi => ?_, f2.mono (by decide)⟩, ⟨?_, ?_, by simp (decide := true) (disch := omega) only [letS_d, grd_tt, bnd_d, bnd1_d, bndX_d, bndX_e, gI_at, gI_ne, gI_sL, gL_sL, gL_sI, upd_at, updL_at, J_lit, J_add, J_mul, J_sub, J_lt, J_le, J_inj, J_ne, ne_J, m_lt, lt_m, m_le, le_m, J_cl, J_inB, if_true, if_false, ite_true, ite_false, reduceIte, isZ0, isZ1, J_and31, shrJ0, shlJ0, gI_sA, gL_sA, Nat.reduceEqDiff, Nat.reduceAdd, Nat.reduceMul, Nat.reduceLT, Nat.reduceLeDiff], ?_⟩, ⟨?_, ?_⟩, fun j hj => ?_⟩
  · have sA : fX9_list N σ (J y) = fX9_list_31 N σ (J y) (J z) (nB (F z)) := by
      unfold fX9_list
      simp (decide := true) (disch := omega) only [letS_d, grd_tt, bnd_d, bnd1_d, bndX_d, bndX_e, gI_at, gI_ne, gI_sL, gL_sL, gL_sI, upd_at, updL_at, J_lit, J_add, J_mul, J_sub, J_lt, J_le, J_inj, J_ne, ne_J, m_lt, lt_m, m_le, le_m, J_cl, J_inB, if_true, if_false, ite_true, ite_false, reduceIte, isZ0, isZ1, J_and31, shrJ0, shlJ0, gI_sA, gL_sA, Nat.reduceEqDiff, Nat.reduceAdd, Nat.reduceMul, Nat.reduceLT, Nat.reduceLeDiff, h2, e, h26, h8, Nat.zero_le]
    have sB : fX9_list_31 N σ (J y) (J z) (nB (F z)) = fX9_list_91 N σ (J y) (nB (F z)) (J V) (J (V + 1)) := by
      unfold fX9_list_31
      simp (decide := true) (disch := omega) only [letS_d, grd_tt, bnd_d, bnd1_d, bndX_d, bndX_e, gI_at, gI_ne, gI_sL, gL_sL, gL_sI, upd_at, updL_at, J_lit, J_add, J_mul, J_sub, J_lt, J_le, J_inj, J_ne, ne_J, m_lt, lt_m, m_le, le_m, J_cl, J_inB, if_true, if_false, ite_true, ite_false, reduceIte, isZ0, isZ1, J_and31, shrJ0, shlJ0, gI_sA, gL_sA, Nat.reduceEqDiff, Nat.reduceAdd, Nat.reduceMul, Nat.reduceLT, Nat.reduceLeDiff, h6, Nat.not_lt_zero, hne, h3, ev1, ev2]
      simp (decide := true) (disch := omega) only [letS_d, grd_tt, bnd_d, bnd1_d, bndX_d, bndX_e, gI_at, gI_ne, gI_sL, gL_sL, gL_sI, upd_at, updL_at, J_lit, J_add, J_mul, J_sub, J_lt, J_le, J_inj, J_ne, ne_J, m_lt, lt_m, m_le, le_m, J_cl, J_inB, if_true, if_false, ite_true, ite_false, reduceIte, isZ0, isZ1, J_and31, shrJ0, shlJ0, gI_sA, gL_sA, Nat.reduceEqDiff, Nat.reduceAdd, Nat.reduceMul, Nat.reduceLT, Nat.reduceLeDiff, h5]
    have sC : fX9_list_91 N σ (J y) (nB (F z)) (J V) (J (V + 1)) = fX9_list_133 N σ (J y) (nB (F z)) (J V) (J (V + 1)) (gI σ 28 V ||| gI σ 28 (V + 1)) (J V) := by
      unfold fX9_list_91
      rw [J_inB hy (by omega), grd_t, J_cl (by omega), h5, if_neg (show ¬ J 12 = (10 : Int32) by decide), J_inB (show V < 64 by omega) (by omega), grd_t, J_inB hV (by omega), grd_t, J_cl (by omega), J_cl (by omega)]
    have sD : fX9_list_133 N σ (J y) (nB (F z)) (J V) (J (V + 1)) (gI σ 28 V ||| gI σ 28 (V + 1)) (J V) = fX9_list_176 N (sI σ 28 V (gI σ 28 V ||| gI σ 28 (V + 1))) (nB (F z)) (gI σ 29 V ||| gI σ 29 (V + 1)) (J V) := by
      unfold fX9_list_133
      have h5'' : gI (sI σ 28 V (gI σ 28 V ||| gI σ 28 (V + 1))) 5 y = J 12 := by rw [gI_ne _ _ _ (by decide)]; exact h5
      rw [J_inB (show V < 64 by omega) (by omega), grd_t, J_cl (by omega), letS_d, J_inB hy (by omega), grd_t, J_cl (by omega), h5'', if_neg (show ¬ J 12 = (10 : Int32) by decide), grd_t, J_inB hV (by omega), grd_t, J_cl (by omega), gI_ne _ _ _ (by decide)]
    have sE : fX9_list_176 N (sI σ 28 V (gI σ 28 V ||| gI σ 28 (V + 1))) (nB (F z)) (gI σ 29 V ||| gI σ 29 (V + 1)) (J V) = fX9_list_187 N (sI (sI (sI σ 28 V (gI σ 28 V ||| gI σ 28 (V + 1))) 29 V (gI σ 29 V ||| gI σ 29 (V + 1))) 27 0 (J (V + 1))) (nB (F z)) := by
      unfold fX9_list_176
      simp (decide := true) (disch := omega) only [letS_d, grd_tt, bnd_d, bnd1_d, bndX_d, bndX_e, gI_at, gI_ne, gI_sL, gL_sL, gL_sI, upd_at, updL_at, J_lit, J_add, J_mul, J_sub, J_lt, J_le, J_inj, J_ne, ne_J, m_lt, lt_m, m_le, le_m, J_cl, J_inB, if_true, if_false, ite_true, ite_false, reduceIte, isZ0, isZ1, J_and31, shrJ0, shlJ0, gI_sA, gL_sA, Nat.reduceEqDiff, Nat.reduceAdd, Nat.reduceMul, Nat.reduceLT, Nat.reduceLeDiff, h3, ev2]
    rw [sA, sB, sC, sD, sE]
  · rw [f2.gi (by decide), f2.gi (by decide)]
    exact ⟨rfl, rfl⟩
  · have : ¬ i = V := by omega
    exact ⟨by simp (decide := true) (disch := omega) only [letS_d, grd_tt, bnd_d, bnd1_d, bndX_d, bndX_e, gI_at, gI_ne, gI_sL, gL_sL, gL_sI, upd_at, updL_at, J_lit, J_add, J_mul, J_sub, J_lt, J_le, J_inj, J_ne, ne_J, m_lt, lt_m, m_le, le_m, J_cl, J_inB, if_true, if_false, ite_true, ite_false, reduceIte, isZ0, isZ1, J_and31, shrJ0, shlJ0, gI_sA, gL_sA, Nat.reduceEqDiff, Nat.reduceAdd, Nat.reduceMul, Nat.reduceLT, Nat.reduceLeDiff, this], by simp (decide := true) (disch := omega) only [letS_d, grd_tt, bnd_d, bnd1_d, bndX_d, bndX_e, gI_at, gI_ne, gI_sL, gL_sL, gL_sI, upd_at, updL_at, J_lit, J_add, J_mul, J_sub, J_lt, J_le, J_inj, J_ne, ne_J, m_lt, lt_m, m_le, le_m, J_cl, J_inB, if_true, if_false, ite_true, ite_false, reduceIte, isZ0, isZ1, J_and31, shrJ0, shlJ0, gI_sA, gL_sA, Nat.reduceEqDiff, Nat.reduceAdd, Nat.reduceMul, Nat.reduceLT, Nat.reduceLeDiff, this], by rw [f2.gi (by decide)]⟩
  · rw [f2.gi (by decide), f2.gi (by decide), f2.gi (by decide)]
    exact ⟨rfl, rfl, rfl⟩
  · rw [nd_of f2 (by decide)]
    exact h1
  · rw [f2.gi (by decide)]
    exact h2
  · rw [f2.gi (by decide)]
    exact h4
  · have e1 : gI (sI (sI (sI σ 28 V (gI σ 28 V ||| gI σ 28 (V + 1))) 29 V (gI σ 29 V ||| gI σ 29 (V + 1))) 27 0 (J (V + 1))) 28 V = gI σ 28 V ||| gI σ 28 (V + 1) := by simp (decide := true) (disch := omega) only [letS_d, grd_tt, bnd_d, bnd1_d, bndX_d, bndX_e, gI_at, gI_ne, gI_sL, gL_sL, gL_sI, upd_at, updL_at, J_lit, J_add, J_mul, J_sub, J_lt, J_le, J_inj, J_ne, ne_J, m_lt, lt_m, m_le, le_m, J_cl, J_inB, if_true, if_false, ite_true, ite_false, reduceIte, isZ0, isZ1, J_and31, shrJ0, shlJ0, gI_sA, gL_sA, Nat.reduceEqDiff, Nat.reduceAdd, Nat.reduceMul, Nat.reduceLT, Nat.reduceLeDiff]
    rw [e1]
    refine (v1.1.or v2.1.base).congr (fun t _ => ?_)
    show _ = (if t < len g then fi g t else fi s (t - len g))
    by_cases ht : t < len g
    · rw [if_pos ht, decide_eq_false (show ¬ len g ≤ t by omega)]
      simp
    · rw [if_neg ht, nf (fi_lt g) (show len g ≤ t by omega), decide_eq_true (show len g ≤ t by omega)]
      simp
  · have e1 : gI (sI (sI (sI σ 28 V (gI σ 28 V ||| gI σ 28 (V + 1))) 29 V (gI σ 29 V ||| gI σ 29 (V + 1))) 27 0 (J (V + 1))) 29 V = gI σ 29 V ||| gI σ 29 (V + 1) := by simp (decide := true) (disch := omega) only [letS_d, grd_tt, bnd_d, bnd1_d, bndX_d, bndX_e, gI_at, gI_ne, gI_sL, gL_sL, gL_sI, upd_at, updL_at, J_lit, J_add, J_mul, J_sub, J_lt, J_le, J_inj, J_ne, ne_J, m_lt, lt_m, m_le, le_m, J_cl, J_inB, if_true, if_false, ite_true, ite_false, reduceIte, isZ0, isZ1, J_and31, shrJ0, shlJ0, gI_sA, gL_sA, Nat.reduceEqDiff, Nat.reduceAdd, Nat.reduceMul, Nat.reduceLT, Nat.reduceLeDiff]
    rw [e1]
    refine (v1.2.or v2.2.base).congr (fun t _ => ?_)
    show _ = (if t < len g then la g t else la s (t - len g))
    by_cases ht : t < len g
    · rw [if_pos ht, decide_eq_false (show ¬ len g ≤ t by omega)]
      simp
    · rw [if_neg ht, nf (la_lt g) (show len g ≤ t by omega), decide_eq_true (show len g ≤ t by omega)]
      simp
  · have hlen : len (.elem g (.old s)) = len g + len s := rfl
    rw [hlen] at hj
    rw [f2.gi (by decide), f2.gi (by decide), f2.gi (by decide)]
    by_cases hjs : j < len g
    · obtain ⟨q1, q2, q3⟩ := p1 j hjs
      refine ⟨by rw [q1, show pn (.elem g (.old s)) x j = pn g x j from if_pos hjs], q2, ?_⟩
      refine q3.congr (fun t _ => ?_)
      show fo g j t = (if j < len g then decide (t < len g) && fo g j t else decide (len g ≤ t) && fo s (j - len g) (t - len g))
      rw [if_pos hjs]
      by_cases ht : t < len g
      · rw [decide_eq_true ht]
        rfl
      · cases hx : fo g j t
        · simp
        · have := (fo_lt g _ _ hx).2
          omega
    · obtain ⟨q1, q2, q3⟩ := p2 (j - len g) (by omega)
      rw [show K + len g + (j - len g) = K + j from by omega] at q1 q2 q3
      refine ⟨by rw [q1, show pn (.elem g (.old s)) x j = pn s (x + nN g + 1) (j - len g) from if_neg hjs], q2, ?_⟩
      refine q3.base.congr (fun t _ => ?_)
      show _ = (if j < len g then decide (t < len g) && fo g j t else decide (len g ≤ t) && fo s (j - len g) (t - len g))
      rw [if_neg hjs]
end UNL
