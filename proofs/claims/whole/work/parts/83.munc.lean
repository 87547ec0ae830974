/-! unrolling: copies -/
theorem len_pos : ∀ s, ok s → (sh s = 1 ∨ sh s = 2 ∨ sh s = 3 ∨ sh s = 4) → 1 ≤ len s := by
  intro s
  induction s using tind with
  | h s ih =>
    intro h hs
    unfold ok at h
    split at h
    all_goals first
      | (exact h.elim)
      | (exfalso; simp [sh] at hs; done)
      | skip
    · exact Nat.le_refl 1
    · rename_i u c
      have := ih u (by simp; omega) h.2 (by omega)
      show 1 ≤ len u * cps c
      exact Nat.le_trans this (Nat.le_mul_of_pos_right _ (cps_pos c))
    · rename_i s t
      have := ih s (by simp; omega) h.2.1 (by omega)
      show 1 ≤ len s + len t
      omega
    · rename_i g s
      have := ih s (by simp; omega) h.2.2 (by omega)
      show 1 ≤ len g + len s
      omega
def GG (u : Term) (c a b j t : Nat) : Bool := (decide (b * len u ≤ t) && fo u j (t - b * len u)) || (decide (b + 1 < a) && la u j && decide ((b + 1) * len u ≤ t) && fi u (t - (b + 1) * len u)) || (decide (c % 16 = 0) && la u j && fi u t)
theorem cps_le {c : Nat} (h : cOK c) : cps c ≤ 9 := by
  unfold cps
  split
  · omega
  · rcases h with rfl | h
    · omega
    · exact h.2.2
/-- followers within copies -/
theorem fo_rep {u : Term} {c j t : Nat} (hc : cOK c) (hu : 1 ≤ len u) (hj : j < len u * cps c) : fo (.elem u (.index c)) j t = GG u c (cps c) (j / len u) (j % len u) t := by
  show (decide (j < len u * cps c) && decide (t < len u * cps c) && ((decide (j / len u = t / len u) && (fo u (j % len u) (t % len u) || (decide (c % 16 = 0) && la u (j % len u) && fi u (t % len u)))) || (decide (t / len u = j / len u + 1) && la u (j % len u) && fi u (t % len u)))) = _
  unfold GG
  rw [decide_eq_true hj, Bool.true_and]
  by_cases h0 : c % 16 = 0
  · have hn : cps c = 1 := by unfold cps; rw [if_pos h0]
    rw [hn, Nat.mul_one] at hj ⊢
    rw [Nat.mod_eq_of_lt hj, Nat.div_eq_of_lt hj, decide_eq_true h0]
    by_cases ht : t < len u
    · rw [Nat.mod_eq_of_lt ht, Nat.div_eq_of_lt ht, decide_eq_true ht]
      simp
    · rw [decide_eq_false ht, nf (fi_lt u) (show len u ≤ t by omega)]
      cases hx : fo u j t
      · simp [hx]
      · have := (fo_lt u _ _ hx).2
        omega
  · have hn : cps c = c % 16 := by unfold cps; rw [if_neg h0]
    rw [decide_eq_false h0]
    simp only [Bool.false_and, Bool.or_false]
    generalize hN : cps c = n at *
    have hbn : j / len u < n := by
      rw [Nat.div_lt_iff_lt_mul (by omega), Nat.mul_comm n]
      exact hj
    generalize hb : j / len u = b at *
    generalize hr : j % len u = r at *
    obtain ⟨t1, t2⟩ := md (t := t) hu
    by_cases htb : t / len u = b
    · obtain ⟨z1, z2⟩ := dm (b := b) (w := len u) (t := t) (by rw [← htb]; exact t1) (by rw [← htb]; exact t2)
      have e1 : b * len u ≤ t := by rw [← htb]; exact t1
      have e2 : ¬ (b + 1) * len u ≤ t := by rw [Nat.succ_mul, ← htb]; omega
      have e3 : t < len u * n := by
        have := Nat.mul_le_mul_left (len u) (show b + 1 ≤ n by omega)
        rw [Nat.mul_succ, Nat.mul_comm (len u) b] at this
        rw [← htb] at this
        omega
      have e4 : ¬ b = b + 1 := by omega
      rw [z2, htb, decide_eq_true e1, decide_eq_false e2, decide_eq_true e3, decide_eq_false e4]
      simp
    · by_cases htb1 : t / len u = b + 1
      · obtain ⟨z1, z2⟩ := dm (b := b + 1) (w := len u) (t := t) (by rw [← htb1]; exact t1) (by rw [← htb1]; exact t2)
        have e1 : (b + 1) * len u ≤ t := by rw [← htb1]; exact t1
        have e0 : b * len u ≤ t := by rw [Nat.succ_mul] at e1; omega
        have e2 : fo u r (t - b * len u) = false := by
          cases hx : fo u r (t - b * len u)
          · rfl
          · have := (fo_lt u _ _ hx).2
            rw [Nat.succ_mul] at e1
            omega
        have e3 : decide (b + 1 < n) = decide (t < len u * n) := decide_eq_decide.mpr (by
          rw [← htb1, Nat.div_lt_iff_lt_mul (by omega), Nat.mul_comm n])
        rw [z2, htb1, e2, decide_eq_true e1, decide_eq_false (show ¬ b = b + 1 by omega), e3]
        simp [Bool.and_assoc]
      · have e1 : (decide (b * len u ≤ t) && fo u r (t - b * len u)) = false := by
          cases hx : fo u r (t - b * len u)
          · simp
          · have hlt := (fo_lt u _ _ hx).2
            by_cases h9 : b * len u ≤ t
            · exact absurd (dm (b := b) (w := len u) (t := t) h9 (by omega)).1 htb
            · rw [decide_eq_false h9]
              rfl
        have e2 : (decide ((b + 1) * len u ≤ t) && fi u (t - (b + 1) * len u)) = false := by
          cases hx : fi u (t - (b + 1) * len u)
          · simp
          · have hlt := fi_lt u _ hx
            by_cases h9 : (b + 1) * len u ≤ t
            · exact absurd (dm (b := b + 1) (w := len u) (t := t) h9 (by omega)).1 htb1
            · rw [decide_eq_false h9]
              rfl
        rw [e1, Bool.and_assoc (decide (b + 1 < n) && la u r), e2, decide_eq_false (show ¬ b = t / len u from fun h => htb h.symm), decide_eq_false htb1]
        simp
section UNC
variable {N P fr : Nat} {F : Nat → ND}
/-- so many copies, linked -/
def CI (F : Nat → ND) (P : Nat) (u : Term) (x c S V K a : Nat) (σ : St) : Prop := US F (S + 1) (V + 1) (K + len u * a) σ ∧ gI σ 25 S = J x ∧ Mk (gI σ 28 V) K (fi u) ∧ Mk (gI σ 30 V) (K + (a - 1) * len u) (la u) ∧ Mk (gI σ 29 V) K (fun t => decide (t / len u < a) && decide (c / 16 ≤ t / len u + 1) && la u (t % len u)) ∧ ∀ b j, b < a → j < len u → gI σ 19 (K + b * len u + j) = J (pn u (x + 1) j) ∧ gI σ 20 (K + b * len u + j) = J P ∧ Mk (gI σ 21 (K + b * len u + j)) K (GG u c a b j)
/-- the end of the copies -/
theorem u_cpop {S V K x n : Nat} {σ : St} (h : US F (S + 1) V K σ) (hS : S < 64) : ∃ σ', fX9_copy_238 N σ (J x) (J n) (J n) = some σ' ∧ Blw S V K σ σ' ∧ US F S V K σ' ∧ Sm σ σ' := by
  obtain ⟨h1, h2, h3, h4⟩ := h
  have e : S + 1 - 1 = S := by omega
  have f : Fr [24] σ (sI σ 24 0 (J S)) := Fr.i (by decide)
  refine ⟨sI σ 24 0 (J S), ?_, ⟨fun i _ => ⟨by simp (decide := true) (disch := omega) only [letS_d, grd_tt, bnd_d, bnd1_d, bndX_d, bndX_e, gI_at, gI_ne, gI_sL, gL_sL, gL_sI, upd_at, updL_at, J_lit, J_add, J_mul, J_sub, J_lt, J_le, J_inj, J_ne, ne_J, m_lt, lt_m, m_le, le_m, J_cl, J_inB, if_true, if_false, ite_true, ite_false, reduceIte, isZ0, isZ1, J_and31, shrJ0, shlJ0, gI_sA, gL_sA, Nat.reduceEqDiff, Nat.reduceAdd, Nat.reduceMul, Nat.reduceLT, Nat.reduceLeDiff], by simp (decide := true) (disch := omega) only [letS_d, grd_tt, bnd_d, bnd1_d, bndX_d, bndX_e, gI_at, gI_ne, gI_sL, gL_sL, gL_sI, upd_at, updL_at, J_lit, J_add, J_mul, J_sub, J_lt, J_le, J_inj, J_ne, ne_J, m_lt, lt_m, m_le, le_m, J_cl, J_inB, if_true, if_false, ite_true, ite_false, reduceIte, isZ0, isZ1, J_and31, shrJ0, shlJ0, gI_sA, gL_sA, Nat.reduceEqDiff, Nat.reduceAdd, Nat.reduceMul, Nat.reduceLT, Nat.reduceLeDiff]⟩, fun i _ => ⟨by simp (decide := true) (disch := omega) only [letS_d, grd_tt, bnd_d, bnd1_d, bndX_d, bndX_e, gI_at, gI_ne, gI_sL, gL_sL, gL_sI, upd_at, updL_at, J_lit, J_add, J_mul, J_sub, J_lt, J_le, J_inj, J_ne, ne_J, m_lt, lt_m, m_le, le_m, J_cl, J_inB, if_true, if_false, ite_true, ite_false, reduceIte, isZ0, isZ1, J_and31, shrJ0, shlJ0, gI_sA, gL_sA, Nat.reduceEqDiff, Nat.reduceAdd, Nat.reduceMul, Nat.reduceLT, Nat.reduceLeDiff], by simp (decide := true) (disch := omega) only [letS_d, grd_tt, bnd_d, bnd1_d, bndX_d, bndX_e, gI_at, gI_ne, gI_sL, gL_sL, gL_sI, upd_at, updL_at, J_lit, J_add, J_mul, J_sub, J_lt, J_le, J_inj, J_ne, ne_J, m_lt, lt_m, m_le, le_m, J_cl, J_inB, if_true, if_false, ite_true, ite_false, reduceIte, isZ0, isZ1, J_and31, shrJ0, shlJ0, gI_sA, gL_sA, Nat.reduceEqDiff, Nat.reduceAdd, Nat.reduceMul, Nat.reduceLT, Nat.reduceLeDiff], by simp (decide := true) (disch := omega) only [letS_d, grd_tt, bnd_d, bnd1_d, bndX_d, bndX_e, gI_at, gI_ne, gI_sL, gL_sL, gL_sI, upd_at, updL_at, J_lit, J_add, J_mul, J_sub, J_lt, J_le, J_inj, J_ne, ne_J, m_lt, lt_m, m_le, le_m, J_cl, J_inB, if_true, if_false, ite_true, ite_false, reduceIte, isZ0, isZ1, J_and31, shrJ0, shlJ0, gI_sA, gL_sA, Nat.reduceEqDiff, Nat.reduceAdd, Nat.reduceMul, Nat.reduceLT, Nat.reduceLeDiff]⟩, fun i _ => ⟨by simp (decide := true) (disch := omega) only [letS_d, grd_tt, bnd_d, bnd1_d, bndX_d, bndX_e, gI_at, gI_ne, gI_sL, gL_sL, gL_sI, upd_at, updL_at, J_lit, J_add, J_mul, J_sub, J_lt, J_le, J_inj, J_ne, ne_J, m_lt, lt_m, m_le, le_m, J_cl, J_inB, if_true, if_false, ite_true, ite_false, reduceIte, isZ0, isZ1, J_and31, shrJ0, shlJ0, gI_sA, gL_sA, Nat.reduceEqDiff, Nat.reduceAdd, Nat.reduceMul, Nat.reduceLT, Nat.reduceLeDiff], by simp (decide := true) (disch := omega) only [letS_d, grd_tt, bnd_d, bnd1_d, bndX_d, bndX_e, gI_at, gI_ne, gI_sL, gL_sL, gL_sI, upd_at, updL_at, J_lit, J_add, J_mul, J_sub, J_lt, J_le, J_inj, J_ne, ne_J, m_lt, lt_m, m_le, le_m, J_cl, J_inB, if_true, if_false, ite_true, ite_false, reduceIte, isZ0, isZ1, J_and31, shrJ0, shlJ0, gI_sA, gL_sA, Nat.reduceEqDiff, Nat.reduceAdd, Nat.reduceMul, Nat.reduceLT, Nat.reduceLeDiff], by simp (decide := true) (disch := omega) only [letS_d, grd_tt, bnd_d, bnd1_d, bndX_d, bndX_e, gI_at, gI_ne, gI_sL, gL_sL, gL_sI, upd_at, updL_at, J_lit, J_add, J_mul, J_sub, J_lt, J_le, J_inj, J_ne, ne_J, m_lt, lt_m, m_le, le_m, J_cl, J_inB, if_true, if_false, ite_true, ite_false, reduceIte, isZ0, isZ1, J_and31, shrJ0, shlJ0, gI_sA, gL_sA, Nat.reduceEqDiff, Nat.reduceAdd, Nat.reduceMul, Nat.reduceLT, Nat.reduceLeDiff]⟩, f.mono (by decide)⟩, ⟨(nd_of f (by decide)).trans h1, by simp (decide := true) (disch := omega) only [letS_d, grd_tt, bnd_d, bnd1_d, bndX_d, bndX_e, gI_at, gI_ne, gI_sL, gL_sL, gL_sI, upd_at, updL_at, J_lit, J_add, J_mul, J_sub, J_lt, J_le, J_inj, J_ne, ne_J, m_lt, lt_m, m_le, le_m, J_cl, J_inB, if_true, if_false, ite_true, ite_false, reduceIte, isZ0, isZ1, J_and31, shrJ0, shlJ0, gI_sA, gL_sA, Nat.reduceEqDiff, Nat.reduceAdd, Nat.reduceMul, Nat.reduceLT, Nat.reduceLeDiff], by simp (decide := true) (disch := omega) only [letS_d, grd_tt, bnd_d, bnd1_d, bndX_d, bndX_e, gI_at, gI_ne, gI_sL, gL_sL, gL_sI, upd_at, updL_at, J_lit, J_add, J_mul, J_sub, J_lt, J_le, J_inj, J_ne, ne_J, m_lt, lt_m, m_le, le_m, J_cl, J_inB, if_true, if_false, ite_true, ite_false, reduceIte, isZ0, isZ1, J_and31, shrJ0, shlJ0, gI_sA, gL_sA, Nat.reduceEqDiff, Nat.reduceAdd, Nat.reduceMul, Nat.reduceLT, Nat.reduceLeDiff]; exact h3, by simp (decide := true) (disch := omega) only [letS_d, grd_tt, bnd_d, bnd1_d, bndX_d, bndX_e, gI_at, gI_ne, gI_sL, gL_sL, gL_sI, upd_at, updL_at, J_lit, J_add, J_mul, J_sub, J_lt, J_le, J_inj, J_ne, ne_J, m_lt, lt_m, m_le, le_m, J_cl, J_inB, if_true, if_false, ite_true, ite_false, reduceIte, isZ0, isZ1, J_and31, shrJ0, shlJ0, gI_sA, gL_sA, Nat.reduceEqDiff, Nat.reduceAdd, Nat.reduceMul, Nat.reduceLT, Nat.reduceLeDiff]; exact h4⟩, fun i => ⟨by simp (decide := true) (disch := omega) only [letS_d, grd_tt, bnd_d, bnd1_d, bndX_d, bndX_e, gI_at, gI_ne, gI_sL, gL_sL, gL_sI, upd_at, updL_at, J_lit, J_add, J_mul, J_sub, J_lt, J_le, J_inj, J_ne, ne_J, m_lt, lt_m, m_le, le_m, J_cl, J_inB, if_true, if_false, ite_true, ite_false, reduceIte, isZ0, isZ1, J_and31, shrJ0, shlJ0, gI_sA, gL_sA, Nat.reduceEqDiff, Nat.reduceAdd, Nat.reduceMul, Nat.reduceLT, Nat.reduceLeDiff], by simp (decide := true) (disch := omega) only [letS_d, grd_tt, bnd_d, bnd1_d, bndX_d, bndX_e, gI_at, gI_ne, gI_sL, gL_sL, gL_sI, upd_at, updL_at, J_lit, J_add, J_mul, J_sub, J_lt, J_le, J_inj, J_ne, ne_J, m_lt, lt_m, m_le, le_m, J_cl, J_inB, if_true, if_false, ite_true, ite_false, reduceIte, isZ0, isZ1, J_and31, shrJ0, shlJ0, gI_sA, gL_sA, Nat.reduceEqDiff, Nat.reduceAdd, Nat.reduceMul, Nat.reduceLT, Nat.reduceLeDiff], by simp (decide := true) (disch := omega) only [letS_d, grd_tt, bnd_d, bnd1_d, bndX_d, bndX_e, gI_at, gI_ne, gI_sL, gL_sL, gL_sI, upd_at, updL_at, J_lit, J_add, J_mul, J_sub, J_lt, J_le, J_inj, J_ne, ne_J, m_lt, lt_m, m_le, le_m, J_cl, J_inB, if_true, if_false, ite_true, ite_false, reduceIte, isZ0, isZ1, J_and31, shrJ0, shlJ0, gI_sA, gL_sA, Nat.reduceEqDiff, Nat.reduceAdd, Nat.reduceMul, Nat.reduceLT, Nat.reduceLeDiff]⟩, fun i => ⟨by simp (decide := true) (disch := omega) only [letS_d, grd_tt, bnd_d, bnd1_d, bndX_d, bndX_e, gI_at, gI_ne, gI_sL, gL_sL, gL_sI, upd_at, updL_at, J_lit, J_add, J_mul, J_sub, J_lt, J_le, J_inj, J_ne, ne_J, m_lt, lt_m, m_le, le_m, J_cl, J_inB, if_true, if_false, ite_true, ite_false, reduceIte, isZ0, isZ1, J_and31, shrJ0, shlJ0, gI_sA, gL_sA, Nat.reduceEqDiff, Nat.reduceAdd, Nat.reduceMul, Nat.reduceLT, Nat.reduceLeDiff], by simp (decide := true) (disch := omega) only [letS_d, grd_tt, bnd_d, bnd1_d, bndX_d, bndX_e, gI_at, gI_ne, gI_sL, gL_sL, gL_sI, upd_at, updL_at, J_lit, J_add, J_mul, J_sub, J_lt, J_le, J_inj, J_ne, ne_J, m_lt, lt_m, m_le, le_m, J_cl, J_inB, if_true, if_false, ite_true, ite_false, reduceIte, isZ0, isZ1, J_and31, shrJ0, shlJ0, gI_sA, gL_sA, Nat.reduceEqDiff, Nat.reduceAdd, Nat.reduceMul, Nat.reduceLT, Nat.reduceLeDiff], by simp (decide := true) (disch := omega) only [letS_d, grd_tt, bnd_d, bnd1_d, bndX_d, bndX_e, gI_at, gI_ne, gI_sL, gL_sL, gL_sI, upd_at, updL_at, J_lit, J_add, J_mul, J_sub, J_lt, J_le, J_inj, J_ne, ne_J, m_lt, lt_m, m_le, le_m, J_cl, J_inB, if_true, if_false, ite_true, ite_false, reduceIte, isZ0, isZ1, J_and31, shrJ0, shlJ0, gI_sA, gL_sA, Nat.reduceEqDiff, Nat.reduceAdd, Nat.reduceMul, Nat.reduceLT, Nat.reduceLeDiff]⟩⟩
  unfold fX9_copy_238
  rw [if_pos rfl, h2]
  simp (decide := true) (disch := omega) only [letS_d, grd_tt, bnd_d, bnd1_d, bndX_d, bndX_e, gI_at, gI_ne, gI_sL, gL_sL, gL_sI, upd_at, updL_at, J_lit, J_add, J_mul, J_sub, J_lt, J_le, J_inj, J_ne, ne_J, m_lt, lt_m, m_le, le_m, J_cl, J_inB, if_true, if_false, ite_true, ite_false, reduceIte, isZ0, isZ1, J_and31, shrJ0, shlJ0, gI_sA, gL_sA, Nat.reduceEqDiff, Nat.reduceAdd, Nat.reduceMul, Nat.reduceLT, Nat.reduceLeDiff, e]
/-- another copy -/
theorem u_cgo {S V K x a n : Nat} {σ : St} (h : US F (S + 1) V K σ) (hS : S + 1 < 64) (hx : x + 1 < 160) (hO : nO (F x) = J (x + 1)) (ha : a < n) (hn : n < 100) : ∃ σ', fX9_copy_238 N σ (J x) (J a) (J n) = some σ' ∧ Blw S V K σ σ' ∧ US F (S + 2) V K σ' ∧ gI σ' 25 S = gI σ 25 S ∧ gI σ' 26 S = J (a + 1) ∧ gI σ' 25 (S + 1) = J (x + 1) ∧ gI σ' 26 (S + 1) = (if nK (F (x + 1)) = J 11 then J 0 else -J 1) ∧ Sm σ σ' := by
  obtain ⟨h1, h2, h3, h4⟩ := id h
  have e : S + 1 - 1 = S := by omega
  have h6 : gI σ 6 x = J (x + 1) := by rw [← hO, ← h1]; rfl
  have f : Fr [26] σ (sI σ 26 S (J (a + 1))) := Fr.i (by decide)
  have hu : US F (S + 1) V K (sI σ 26 S (J (a + 1))) := ⟨(nd_of f (by decide)).trans h1, by simp (decide := true) (disch := omega) only [letS_d, grd_tt, bnd_d, bnd1_d, bndX_d, bndX_e, gI_at, gI_ne, gI_sL, gL_sL, gL_sI, upd_at, updL_at, J_lit, J_add, J_mul, J_sub, J_lt, J_le, J_inj, J_ne, ne_J, m_lt, lt_m, m_le, le_m, J_cl, J_inB, if_true, if_false, ite_true, ite_false, reduceIte, isZ0, isZ1, J_and31, shrJ0, shlJ0, gI_sA, gL_sA, Nat.reduceEqDiff, Nat.reduceAdd, Nat.reduceMul, Nat.reduceLT, Nat.reduceLeDiff]; exact h2, by simp (decide := true) (disch := omega) only [letS_d, grd_tt, bnd_d, bnd1_d, bndX_d, bndX_e, gI_at, gI_ne, gI_sL, gL_sL, gL_sI, upd_at, updL_at, J_lit, J_add, J_mul, J_sub, J_lt, J_le, J_inj, J_ne, ne_J, m_lt, lt_m, m_le, le_m, J_cl, J_inB, if_true, if_false, ite_true, ite_false, reduceIte, isZ0, isZ1, J_and31, shrJ0, shlJ0, gI_sA, gL_sA, Nat.reduceEqDiff, Nat.reduceAdd, Nat.reduceMul, Nat.reduceLT, Nat.reduceLeDiff]; exact h3, by simp (decide := true) (disch := omega) only [letS_d, grd_tt, bnd_d, bnd1_d, bndX_d, bndX_e, gI_at, gI_ne, gI_sL, gL_sL, gL_sI, upd_at, updL_at, J_lit, J_add, J_mul, J_sub, J_lt, J_le, J_inj, J_ne, ne_J, m_lt, lt_m, m_le, le_m, J_cl, J_inB, if_true, if_false, ite_true, ite_false, reduceIte, isZ0, isZ1, J_and31, shrJ0, shlJ0, gI_sA, gL_sA, Nat.reduceEqDiff, Nat.reduceAdd, Nat.reduceMul, Nat.reduceLT, Nat.reduceLeDiff]; exact h4⟩
  obtain ⟨σ', a1, a2, a3, a4, a5, a6, a7⟩ := u_enter (N := N) hu hS hx
  have hne : ¬ a = n := by omega
  refine ⟨σ', ?_, ?_, a3, ?_, ?_, a4, a5, ?_⟩
  · unfold fX9_copy_238
    simp (decide := true) (disch := omega) only [letS_d, grd_tt, bnd_d, bnd1_d, bndX_d, bndX_e, gI_at, gI_ne, gI_sL, gL_sL, gL_sI, upd_at, updL_at, J_lit, J_add, J_mul, J_sub, J_lt, J_le, J_inj, J_ne, ne_J, m_lt, lt_m, m_le, le_m, J_cl, J_inB, if_true, if_false, ite_true, ite_false, reduceIte, isZ0, isZ1, J_and31, shrJ0, shlJ0, gI_sA, gL_sA, Nat.reduceEqDiff, Nat.reduceAdd, Nat.reduceMul, Nat.reduceLT, Nat.reduceLeDiff, h2, e, hne, h6, a1]
  · refine Blw.tr ⟨fun i hi => ?_, fun i _ => ⟨by simp (decide := true) (disch := omega) only [letS_d, grd_tt, bnd_d, bnd1_d, bndX_d, bndX_e, gI_at, gI_ne, gI_sL, gL_sL, gL_sI, upd_at, updL_at, J_lit, J_add, J_mul, J_sub, J_lt, J_le, J_inj, J_ne, ne_J, m_lt, lt_m, m_le, le_m, J_cl, J_inB, if_true, if_false, ite_true, ite_false, reduceIte, isZ0, isZ1, J_and31, shrJ0, shlJ0, gI_sA, gL_sA, Nat.reduceEqDiff, Nat.reduceAdd, Nat.reduceMul, Nat.reduceLT, Nat.reduceLeDiff], by simp (decide := true) (disch := omega) only [letS_d, grd_tt, bnd_d, bnd1_d, bndX_d, bndX_e, gI_at, gI_ne, gI_sL, gL_sL, gL_sI, upd_at, updL_at, J_lit, J_add, J_mul, J_sub, J_lt, J_le, J_inj, J_ne, ne_J, m_lt, lt_m, m_le, le_m, J_cl, J_inB, if_true, if_false, ite_true, ite_false, reduceIte, isZ0, isZ1, J_and31, shrJ0, shlJ0, gI_sA, gL_sA, Nat.reduceEqDiff, Nat.reduceAdd, Nat.reduceMul, Nat.reduceLT, Nat.reduceLeDiff], by simp (decide := true) (disch := omega) only [letS_d, grd_tt, bnd_d, bnd1_d, bndX_d, bndX_e, gI_at, gI_ne, gI_sL, gL_sL, gL_sI, upd_at, updL_at, J_lit, J_add, J_mul, J_sub, J_lt, J_le, J_inj, J_ne, ne_J, m_lt, lt_m, m_le, le_m, J_cl, J_inB, if_true, if_false, ite_true, ite_false, reduceIte, isZ0, isZ1, J_and31, shrJ0, shlJ0, gI_sA, gL_sA, Nat.reduceEqDiff, Nat.reduceAdd, Nat.reduceMul, Nat.reduceLT, Nat.reduceLeDiff]⟩, fun i _ => ⟨by simp (decide := true) (disch := omega) only [letS_d, grd_tt, bnd_d, bnd1_d, bndX_d, bndX_e, gI_at, gI_ne, gI_sL, gL_sL, gL_sI, upd_at, updL_at, J_lit, J_add, J_mul, J_sub, J_lt, J_le, J_inj, J_ne, ne_J, m_lt, lt_m, m_le, le_m, J_cl, J_inB, if_true, if_false, ite_true, ite_false, reduceIte, isZ0, isZ1, J_and31, shrJ0, shlJ0, gI_sA, gL_sA, Nat.reduceEqDiff, Nat.reduceAdd, Nat.reduceMul, Nat.reduceLT, Nat.reduceLeDiff], by simp (decide := true) (disch := omega) only [letS_d, grd_tt, bnd_d, bnd1_d, bndX_d, bndX_e, gI_at, gI_ne, gI_sL, gL_sL, gL_sI, upd_at, updL_at, J_lit, J_add, J_mul, J_sub, J_lt, J_le, J_inj, J_ne, ne_J, m_lt, lt_m, m_le, le_m, J_cl, J_inB, if_true, if_false, ite_true, ite_false, reduceIte, isZ0, isZ1, J_and31, shrJ0, shlJ0, gI_sA, gL_sA, Nat.reduceEqDiff, Nat.reduceAdd, Nat.reduceMul, Nat.reduceLT, Nat.reduceLeDiff], by simp (decide := true) (disch := omega) only [letS_d, grd_tt, bnd_d, bnd1_d, bndX_d, bndX_e, gI_at, gI_ne, gI_sL, gL_sL, gL_sI, upd_at, updL_at, J_lit, J_add, J_mul, J_sub, J_lt, J_le, J_inj, J_ne, ne_J, m_lt, lt_m, m_le, le_m, J_cl, J_inB, if_true, if_false, ite_true, ite_false, reduceIte, isZ0, isZ1, J_and31, shrJ0, shlJ0, gI_sA, gL_sA, Nat.reduceEqDiff, Nat.reduceAdd, Nat.reduceMul, Nat.reduceLT, Nat.reduceLeDiff]⟩, f.mono (by decide)⟩ (a2.le (by omega) (Nat.le_refl _) (Nat.le_refl _))
    have : ¬ i = S := by omega
    exact ⟨by simp (decide := true) (disch := omega) only [letS_d, grd_tt, bnd_d, bnd1_d, bndX_d, bndX_e, gI_at, gI_ne, gI_sL, gL_sL, gL_sI, upd_at, updL_at, J_lit, J_add, J_mul, J_sub, J_lt, J_le, J_inj, J_ne, ne_J, m_lt, lt_m, m_le, le_m, J_cl, J_inB, if_true, if_false, ite_true, ite_false, reduceIte, isZ0, isZ1, J_and31, shrJ0, shlJ0, gI_sA, gL_sA, Nat.reduceEqDiff, Nat.reduceAdd, Nat.reduceMul, Nat.reduceLT, Nat.reduceLeDiff], by simp (decide := true) (disch := omega) only [letS_d, grd_tt, bnd_d, bnd1_d, bndX_d, bndX_e, gI_at, gI_ne, gI_sL, gL_sL, gL_sI, upd_at, updL_at, J_lit, J_add, J_mul, J_sub, J_lt, J_le, J_inj, J_ne, ne_J, m_lt, lt_m, m_le, le_m, J_cl, J_inB, if_true, if_false, ite_true, ite_false, reduceIte, isZ0, isZ1, J_and31, shrJ0, shlJ0, gI_sA, gL_sA, Nat.reduceEqDiff, Nat.reduceAdd, Nat.reduceMul, Nat.reduceLT, Nat.reduceLeDiff, this]⟩
  · rw [(a2.1 S (by omega)).1]
    simp (decide := true) (disch := omega) only [letS_d, grd_tt, bnd_d, bnd1_d, bndX_d, bndX_e, gI_at, gI_ne, gI_sL, gL_sL, gL_sI, upd_at, updL_at, J_lit, J_add, J_mul, J_sub, J_lt, J_le, J_inj, J_ne, ne_J, m_lt, lt_m, m_le, le_m, J_cl, J_inB, if_true, if_false, ite_true, ite_false, reduceIte, isZ0, isZ1, J_and31, shrJ0, shlJ0, gI_sA, gL_sA, Nat.reduceEqDiff, Nat.reduceAdd, Nat.reduceMul, Nat.reduceLT, Nat.reduceLeDiff]
  · rw [(a2.1 S (by omega)).2]
    simp (decide := true) (disch := omega) only [letS_d, grd_tt, bnd_d, bnd1_d, bndX_d, bndX_e, gI_at, gI_ne, gI_sL, gL_sL, gL_sI, upd_at, updL_at, J_lit, J_add, J_mul, J_sub, J_lt, J_le, J_inj, J_ne, ne_J, m_lt, lt_m, m_le, le_m, J_cl, J_inB, if_true, if_false, ite_true, ite_false, reduceIte, isZ0, isZ1, J_and31, shrJ0, shlJ0, gI_sA, gL_sA, Nat.reduceEqDiff, Nat.reduceAdd, Nat.reduceMul, Nat.reduceLT, Nat.reduceLeDiff]
  · refine ⟨fun i => ?_, fun o => ?_⟩
    · obtain ⟨b1, b2, b3⟩ := a6 i
      rw [b1, b2, b3]
      exact ⟨by simp (decide := true) (disch := omega) only [letS_d, grd_tt, bnd_d, bnd1_d, bndX_d, bndX_e, gI_at, gI_ne, gI_sL, gL_sL, gL_sI, upd_at, updL_at, J_lit, J_add, J_mul, J_sub, J_lt, J_le, J_inj, J_ne, ne_J, m_lt, lt_m, m_le, le_m, J_cl, J_inB, if_true, if_false, ite_true, ite_false, reduceIte, isZ0, isZ1, J_and31, shrJ0, shlJ0, gI_sA, gL_sA, Nat.reduceEqDiff, Nat.reduceAdd, Nat.reduceMul, Nat.reduceLT, Nat.reduceLeDiff], by simp (decide := true) (disch := omega) only [letS_d, grd_tt, bnd_d, bnd1_d, bndX_d, bndX_e, gI_at, gI_ne, gI_sL, gL_sL, gL_sI, upd_at, updL_at, J_lit, J_add, J_mul, J_sub, J_lt, J_le, J_inj, J_ne, ne_J, m_lt, lt_m, m_le, le_m, J_cl, J_inB, if_true, if_false, ite_true, ite_false, reduceIte, isZ0, isZ1, J_and31, shrJ0, shlJ0, gI_sA, gL_sA, Nat.reduceEqDiff, Nat.reduceAdd, Nat.reduceMul, Nat.reduceLT, Nat.reduceLeDiff], by simp (decide := true) (disch := omega) only [letS_d, grd_tt, bnd_d, bnd1_d, bndX_d, bndX_e, gI_at, gI_ne, gI_sL, gL_sL, gL_sI, upd_at, updL_at, J_lit, J_add, J_mul, J_sub, J_lt, J_le, J_inj, J_ne, ne_J, m_lt, lt_m, m_le, le_m, J_cl, J_inB, if_true, if_false, ite_true, ite_false, reduceIte, isZ0, isZ1, J_and31, shrJ0, shlJ0, gI_sA, gL_sA, Nat.reduceEqDiff, Nat.reduceAdd, Nat.reduceMul, Nat.reduceLT, Nat.reduceLeDiff]⟩
    · obtain ⟨b1, b2, b3⟩ := a7 o
      rw [b1, b2, b3]
      exact ⟨by simp (decide := true) (disch := omega) only [letS_d, grd_tt, bnd_d, bnd1_d, bndX_d, bndX_e, gI_at, gI_ne, gI_sL, gL_sL, gL_sI, upd_at, updL_at, J_lit, J_add, J_mul, J_sub, J_lt, J_le, J_inj, J_ne, ne_J, m_lt, lt_m, m_le, le_m, J_cl, J_inB, if_true, if_false, ite_true, ite_false, reduceIte, isZ0, isZ1, J_and31, shrJ0, shlJ0, gI_sA, gL_sA, Nat.reduceEqDiff, Nat.reduceAdd, Nat.reduceMul, Nat.reduceLT, Nat.reduceLeDiff], by simp (decide := true) (disch := omega) only [letS_d, grd_tt, bnd_d, bnd1_d, bndX_d, bndX_e, gI_at, gI_ne, gI_sL, gL_sL, gL_sI, upd_at, updL_at, J_lit, J_add, J_mul, J_sub, J_lt, J_le, J_inj, J_ne, ne_J, m_lt, lt_m, m_le, le_m, J_cl, J_inB, if_true, if_false, ite_true, ite_false, reduceIte, isZ0, isZ1, J_and31, shrJ0, shlJ0, gI_sA, gL_sA, Nat.reduceEqDiff, Nat.reduceAdd, Nat.reduceMul, Nat.reduceLT, Nat.reduceLeDiff], by simp (decide := true) (disch := omega) only [letS_d, grd_tt, bnd_d, bnd1_d, bndX_d, bndX_e, gI_at, gI_ne, gI_sL, gL_sL, gL_sI, upd_at, updL_at, J_lit, J_add, J_mul, J_sub, J_lt, J_le, J_inj, J_ne, ne_J, m_lt, lt_m, m_le, le_m, J_cl, J_inB, if_true, if_false, ite_true, ite_false, reduceIte, isZ0, isZ1, J_and31, shrJ0, shlJ0, gI_sA, gL_sA, Nat.reduceEqDiff, Nat.reduceAdd, Nat.reduceMul, Nat.reduceLT, Nat.reduceLeDiff]⟩
/-- how many copies -/
theorem u_copy {S V K x c : Nat} {σ : St} {had : Int32} (h : US F (S + 1) V K σ) (hS : S < 64) (hx : x < 160) (hc : cOK c) (hM : nM (F x) = J (c % 16)) (h26 : gI σ 26 S = had) : fX9_copy N σ (J x) = fX9_copy_31 N σ (J x) had (J (cps c)) := by
  obtain ⟨h1, h2, h3, h4⟩ := h
  have h10 : gI σ 10 x = J (c % 16) := by rw [← hM, ← h1]; rfl
  have e : S + 1 - 1 = S := by omega
  have hlt : c % 16 < 16 := Nat.mod_lt _ (by omega)
  unfold fX9_copy cps
  by_cases h0 : c % 16 = 0
  · simp (decide := true) (disch := omega) only [letS_d, grd_tt, bnd_d, bnd1_d, bndX_d, bndX_e, gI_at, gI_ne, gI_sL, gL_sL, gL_sI, upd_at, updL_at, J_lit, J_add, J_mul, J_sub, J_lt, J_le, J_inj, J_ne, ne_J, m_lt, lt_m, m_le, le_m, J_cl, J_inB, if_true, if_false, ite_true, ite_false, reduceIte, isZ0, isZ1, J_and31, shrJ0, shlJ0, gI_sA, gL_sA, Nat.reduceEqDiff, Nat.reduceAdd, Nat.reduceMul, Nat.reduceLT, Nat.reduceLeDiff, h2, e, h26, h10, h0]
  · simp (decide := true) (disch := omega) only [letS_d, grd_tt, bnd_d, bnd1_d, bndX_d, bndX_e, gI_at, gI_ne, gI_sL, gL_sL, gL_sI, upd_at, updL_at, J_lit, J_add, J_mul, J_sub, J_lt, J_le, J_inj, J_ne, ne_J, m_lt, lt_m, m_le, le_m, J_cl, J_inB, if_true, if_false, ite_true, ite_false, reduceIte, isZ0, isZ1, J_and31, shrJ0, shlJ0, gI_sA, gL_sA, Nat.reduceEqDiff, Nat.reduceAdd, Nat.reduceMul, Nat.reduceLT, Nat.reduceLeDiff, h2, e, h26, h10, h0]
/-- behind the first copy -/
theorem u_copy1 (hN : 100 ≤ N) {S V K x c : Nat} {u : Term} {σ : St} (h : US F (S + 1) (V + 1) (K + len u) σ) (hK : K + len u ≤ 9) (hV : V < 64) (hx : x < 160) (hu : 1 ≤ len u) (hc : cOK c) (hM : nM (F x) = J (c % 16)) (hL : nL (F x) = J (c / 16)) (h25 : gI σ 25 S = J x) (v : Vl V K u σ) (p : PlR K u (x + 1) P σ) : ∃ σ', fX9_copy_31 N σ (J x) (J 1) (J (cps c)) = fX9_copy_238 N σ' (J x) (J 1) (J (cps c)) ∧ Blw S V K σ σ' ∧ CI F P u x c S V K 1 σ' := by
  obtain ⟨h1, h2, h3, h4⟩ := h
  have h10 : gI σ 10 x = J (c % 16) := by rw [← hM, ← h1]; rfl
  have h9 : gI σ 9 x = J (c / 16) := by rw [← hL, ← h1]; rfl
  have e : V + 1 - 1 = V := by omega
  have hlt : c % 16 < 16 := Nat.mod_lt _ (by omega)
  have hd9 : c / 16 ≤ 9 := by
    rcases hc with rfl | hc
    · omega
    · omega
  -- ends, as the count asks
  obtain ⟨y, hy, hye⟩ : ∃ y, y = (if c / 16 ≤ 1 then gI σ 29 V else J 0) ∧ Mk y K (fun t => decide (t / len u < 1) && decide (c / 16 ≤ t / len u + 1) && la u (t % len u)) := by
    refine ⟨_, rfl, ?_⟩
    by_cases hm : c / 16 ≤ 1
    · rw [if_pos hm]
      refine v.2.congr (fun t _ => ?_)
      by_cases ht : t < len u
      · rw [Nat.div_eq_of_lt ht, Nat.mod_eq_of_lt ht, decide_eq_true (show (0 : Nat) < 1 by omega), decide_eq_true (show c / 16 ≤ 0 + 1 by omega)]
        simp
      · have e1 : ¬ t / len u < 1 := fun h9 => by
          have h8 : t / len u = 0 := Nat.lt_one_iff.mp h9
          rcases Nat.div_eq_zero_iff.mp h8 with h7 | h7 <;> omega
        rw [nf (la_lt u) (show len u ≤ t by omega), decide_eq_false e1]
        rfl
    · rw [if_neg hm]
      refine Mk.zero.congr (fun t _ => ?_)
      by_cases ht : t / len u < 1
      · have e9 : ¬ c / 16 ≤ t / len u + 1 := by omega
        rw [decide_eq_false e9]
        simp
      · rw [decide_eq_false ht]
        rfl
  have f1 : Fr [29, 30] σ (sI (sI σ 30 V (gI σ 29 V)) 29 V y) := (Fr.i (by decide)).tr (Fr.i (by decide))
  have hbeg : fX9_copy_31 N σ (J x) (J 1) (J (cps c)) = (if c % 16 = 0 then bnd1 (fX9_follow N (sI (sI σ 30 V (gI σ 29 V)) 29 V y) (gI σ 29 V) (gI σ 28 V)) fun σ33 => fX9_copy_238 N σ33 (J x) (J 1) (J (cps c)) else fX9_copy_238 N (sI (sI σ 30 V (gI σ 29 V)) 29 V y) (J x) (J 1) (J (cps c))) := by
    have s1 : fX9_copy_31 N σ (J x) (J 1) (J (cps c)) = fX9_copy_94 N (sI σ 30 V (gI σ 29 V)) (J x) (J 1) (J (cps c)) y (J V) := by
      unfold fX9_copy_31
      by_cases hm : c / 16 ≤ 1
      · rw [if_pos hm] at hy
        simp (decide := true) (disch := omega) only [letS_d, grd_tt, bnd_d, bnd1_d, bndX_d, bndX_e, gI_at, gI_ne, gI_sL, gL_sL, gL_sI, upd_at, updL_at, J_lit, J_add, J_mul, J_sub, J_lt, J_le, J_inj, J_ne, ne_J, m_lt, lt_m, m_le, le_m, J_cl, J_inB, if_true, if_false, ite_true, ite_false, reduceIte, isZ0, isZ1, J_and31, shrJ0, shlJ0, gI_sA, gL_sA, Nat.reduceEqDiff, Nat.reduceAdd, Nat.reduceMul, Nat.reduceLT, Nat.reduceLeDiff, h3, e, h9, hm, hy]
      · rw [if_neg hm] at hy
        simp (decide := true) (disch := omega) only [letS_d, grd_tt, bnd_d, bnd1_d, bndX_d, bndX_e, gI_at, gI_ne, gI_sL, gL_sL, gL_sI, upd_at, updL_at, J_lit, J_add, J_mul, J_sub, J_lt, J_le, J_inj, J_ne, ne_J, m_lt, lt_m, m_le, le_m, J_cl, J_inB, if_true, if_false, ite_true, ite_false, reduceIte, isZ0, isZ1, J_and31, shrJ0, shlJ0, gI_sA, gL_sA, Nat.reduceEqDiff, Nat.reduceAdd, Nat.reduceMul, Nat.reduceLT, Nat.reduceLeDiff, h3, e, h9, hm, hy]
    rw [s1]
    unfold fX9_copy_94
    by_cases h0 : c % 16 = 0
    · simp (decide := true) (disch := omega) only [letS_d, grd_tt, bnd_d, bnd1_d, bndX_d, bndX_e, gI_at, gI_ne, gI_sL, gL_sL, gL_sI, upd_at, updL_at, J_lit, J_add, J_mul, J_sub, J_lt, J_le, J_inj, J_ne, ne_J, m_lt, lt_m, m_le, le_m, J_cl, J_inB, if_true, if_false, ite_true, ite_false, reduceIte, isZ0, isZ1, J_and31, shrJ0, shlJ0, gI_sA, gL_sA, Nat.reduceEqDiff, Nat.reduceAdd, Nat.reduceMul, Nat.reduceLT, Nat.reduceLeDiff, h10, h0, h3, e]
    · simp (decide := true) (disch := omega) only [letS_d, grd_tt, bnd_d, bnd1_d, bndX_d, bndX_e, gI_at, gI_ne, gI_sL, gL_sL, gL_sI, upd_at, updL_at, J_lit, J_add, J_mul, J_sub, J_lt, J_le, J_inj, J_ne, ne_J, m_lt, lt_m, m_le, le_m, J_cl, J_inB, if_true, if_false, ite_true, ite_false, reduceIte, isZ0, isZ1, J_and31, shrJ0, shlJ0, gI_sA, gL_sA, Nat.reduceEqDiff, Nat.reduceAdd, Nat.reduceMul, Nat.reduceLT, Nat.reduceLeDiff, h10, h0, h3, e]
  have hu1 : US F (S + 1) (V + 1) (K + len u) (sI (sI σ 30 V (gI σ 29 V)) 29 V y) := ⟨(nd_of f1 (by decide)).trans h1, by simp (decide := true) (disch := omega) only [letS_d, grd_tt, bnd_d, bnd1_d, bndX_d, bndX_e, gI_at, gI_ne, gI_sL, gL_sL, gL_sI, upd_at, updL_at, J_lit, J_add, J_mul, J_sub, J_lt, J_le, J_inj, J_ne, ne_J, m_lt, lt_m, m_le, le_m, J_cl, J_inB, if_true, if_false, ite_true, ite_false, reduceIte, isZ0, isZ1, J_and31, shrJ0, shlJ0, gI_sA, gL_sA, Nat.reduceEqDiff, Nat.reduceAdd, Nat.reduceMul, Nat.reduceLT, Nat.reduceLeDiff]; exact h2, by simp (decide := true) (disch := omega) only [letS_d, grd_tt, bnd_d, bnd1_d, bndX_d, bndX_e, gI_at, gI_ne, gI_sL, gL_sL, gL_sI, upd_at, updL_at, J_lit, J_add, J_mul, J_sub, J_lt, J_le, J_inj, J_ne, ne_J, m_lt, lt_m, m_le, le_m, J_cl, J_inB, if_true, if_false, ite_true, ite_false, reduceIte, isZ0, isZ1, J_and31, shrJ0, shlJ0, gI_sA, gL_sA, Nat.reduceEqDiff, Nat.reduceAdd, Nat.reduceMul, Nat.reduceLT, Nat.reduceLeDiff]; exact h3, by simp (decide := true) (disch := omega) only [letS_d, grd_tt, bnd_d, bnd1_d, bndX_d, bndX_e, gI_at, gI_ne, gI_sL, gL_sL, gL_sI, upd_at, updL_at, J_lit, J_add, J_mul, J_sub, J_lt, J_le, J_inj, J_ne, ne_J, m_lt, lt_m, m_le, le_m, J_cl, J_inB, if_true, if_false, ite_true, ite_false, reduceIte, isZ0, isZ1, J_and31, shrJ0, shlJ0, gI_sA, gL_sA, Nat.reduceEqDiff, Nat.reduceAdd, Nat.reduceMul, Nat.reduceLT, Nat.reduceLeDiff]; exact h4⟩
  have hb1 : Blw S V K σ (sI (sI σ 30 V (gI σ 29 V)) 29 V y) := ⟨fun i _ => ⟨by simp (decide := true) (disch := omega) only [letS_d, grd_tt, bnd_d, bnd1_d, bndX_d, bndX_e, gI_at, gI_ne, gI_sL, gL_sL, gL_sI, upd_at, updL_at, J_lit, J_add, J_mul, J_sub, J_lt, J_le, J_inj, J_ne, ne_J, m_lt, lt_m, m_le, le_m, J_cl, J_inB, if_true, if_false, ite_true, ite_false, reduceIte, isZ0, isZ1, J_and31, shrJ0, shlJ0, gI_sA, gL_sA, Nat.reduceEqDiff, Nat.reduceAdd, Nat.reduceMul, Nat.reduceLT, Nat.reduceLeDiff], by simp (decide := true) (disch := omega) only [letS_d, grd_tt, bnd_d, bnd1_d, bndX_d, bndX_e, gI_at, gI_ne, gI_sL, gL_sL, gL_sI, upd_at, updL_at, J_lit, J_add, J_mul, J_sub, J_lt, J_le, J_inj, J_ne, ne_J, m_lt, lt_m, m_le, le_m, J_cl, J_inB, if_true, if_false, ite_true, ite_false, reduceIte, isZ0, isZ1, J_and31, shrJ0, shlJ0, gI_sA, gL_sA, Nat.reduceEqDiff, Nat.reduceAdd, Nat.reduceMul, Nat.reduceLT, Nat.reduceLeDiff]⟩, fun i hi => by
    have : ¬ i = V := by omega
    exact ⟨by simp (decide := true) (disch := omega) only [letS_d, grd_tt, bnd_d, bnd1_d, bndX_d, bndX_e, gI_at, gI_ne, gI_sL, gL_sL, gL_sI, upd_at, updL_at, J_lit, J_add, J_mul, J_sub, J_lt, J_le, J_inj, J_ne, ne_J, m_lt, lt_m, m_le, le_m, J_cl, J_inB, if_true, if_false, ite_true, ite_false, reduceIte, isZ0, isZ1, J_and31, shrJ0, shlJ0, gI_sA, gL_sA, Nat.reduceEqDiff, Nat.reduceAdd, Nat.reduceMul, Nat.reduceLT, Nat.reduceLeDiff], by simp (decide := true) (disch := omega) only [letS_d, grd_tt, bnd_d, bnd1_d, bndX_d, bndX_e, gI_at, gI_ne, gI_sL, gL_sL, gL_sI, upd_at, updL_at, J_lit, J_add, J_mul, J_sub, J_lt, J_le, J_inj, J_ne, ne_J, m_lt, lt_m, m_le, le_m, J_cl, J_inB, if_true, if_false, ite_true, ite_false, reduceIte, isZ0, isZ1, J_and31, shrJ0, shlJ0, gI_sA, gL_sA, Nat.reduceEqDiff, Nat.reduceAdd, Nat.reduceMul, Nat.reduceLT, Nat.reduceLeDiff, this], by simp (decide := true) (disch := omega) only [letS_d, grd_tt, bnd_d, bnd1_d, bndX_d, bndX_e, gI_at, gI_ne, gI_sL, gL_sL, gL_sI, upd_at, updL_at, J_lit, J_add, J_mul, J_sub, J_lt, J_le, J_inj, J_ne, ne_J, m_lt, lt_m, m_le, le_m, J_cl, J_inB, if_true, if_false, ite_true, ite_false, reduceIte, isZ0, isZ1, J_and31, shrJ0, shlJ0, gI_sA, gL_sA, Nat.reduceEqDiff, Nat.reduceAdd, Nat.reduceMul, Nat.reduceLT, Nat.reduceLeDiff, this]⟩, fun i _ => ⟨by simp (decide := true) (disch := omega) only [letS_d, grd_tt, bnd_d, bnd1_d, bndX_d, bndX_e, gI_at, gI_ne, gI_sL, gL_sL, gL_sI, upd_at, updL_at, J_lit, J_add, J_mul, J_sub, J_lt, J_le, J_inj, J_ne, ne_J, m_lt, lt_m, m_le, le_m, J_cl, J_inB, if_true, if_false, ite_true, ite_false, reduceIte, isZ0, isZ1, J_and31, shrJ0, shlJ0, gI_sA, gL_sA, Nat.reduceEqDiff, Nat.reduceAdd, Nat.reduceMul, Nat.reduceLT, Nat.reduceLeDiff], by simp (decide := true) (disch := omega) only [letS_d, grd_tt, bnd_d, bnd1_d, bndX_d, bndX_e, gI_at, gI_ne, gI_sL, gL_sL, gL_sI, upd_at, updL_at, J_lit, J_add, J_mul, J_sub, J_lt, J_le, J_inj, J_ne, ne_J, m_lt, lt_m, m_le, le_m, J_cl, J_inB, if_true, if_false, ite_true, ite_false, reduceIte, isZ0, isZ1, J_and31, shrJ0, shlJ0, gI_sA, gL_sA, Nat.reduceEqDiff, Nat.reduceAdd, Nat.reduceMul, Nat.reduceLT, Nat.reduceLeDiff], by simp (decide := true) (disch := omega) only [letS_d, grd_tt, bnd_d, bnd1_d, bndX_d, bndX_e, gI_at, gI_ne, gI_sL, gL_sL, gL_sI, upd_at, updL_at, J_lit, J_add, J_mul, J_sub, J_lt, J_le, J_inj, J_ne, ne_J, m_lt, lt_m, m_le, le_m, J_cl, J_inB, if_true, if_false, ite_true, ite_false, reduceIte, isZ0, isZ1, J_and31, shrJ0, shlJ0, gI_sA, gL_sA, Nat.reduceEqDiff, Nat.reduceAdd, Nat.reduceMul, Nat.reduceLT, Nat.reduceLeDiff]⟩, f1.mono (by decide)⟩
  have e28 : gI (sI (sI σ 30 V (gI σ 29 V)) 29 V y) 28 V = gI σ 28 V := by simp (decide := true) (disch := omega) only [letS_d, grd_tt, bnd_d, bnd1_d, bndX_d, bndX_e, gI_at, gI_ne, gI_sL, gL_sL, gL_sI, upd_at, updL_at, J_lit, J_add, J_mul, J_sub, J_lt, J_le, J_inj, J_ne, ne_J, m_lt, lt_m, m_le, le_m, J_cl, J_inB, if_true, if_false, ite_true, ite_false, reduceIte, isZ0, isZ1, J_and31, shrJ0, shlJ0, gI_sA, gL_sA, Nat.reduceEqDiff, Nat.reduceAdd, Nat.reduceMul, Nat.reduceLT, Nat.reduceLeDiff]
  have e29 : gI (sI (sI σ 30 V (gI σ 29 V)) 29 V y) 29 V = y := by simp (decide := true) (disch := omega) only [letS_d, grd_tt, bnd_d, bnd1_d, bndX_d, bndX_e, gI_at, gI_ne, gI_sL, gL_sL, gL_sI, upd_at, updL_at, J_lit, J_add, J_mul, J_sub, J_lt, J_le, J_inj, J_ne, ne_J, m_lt, lt_m, m_le, le_m, J_cl, J_inB, if_true, if_false, ite_true, ite_false, reduceIte, isZ0, isZ1, J_and31, shrJ0, shlJ0, gI_sA, gL_sA, Nat.reduceEqDiff, Nat.reduceAdd, Nat.reduceMul, Nat.reduceLT, Nat.reduceLeDiff]
  have e30 : gI (sI (sI σ 30 V (gI σ 29 V)) 29 V y) 30 V = gI σ 29 V := by simp (decide := true) (disch := omega) only [letS_d, grd_tt, bnd_d, bnd1_d, bndX_d, bndX_e, gI_at, gI_ne, gI_sL, gL_sL, gL_sI, upd_at, updL_at, J_lit, J_add, J_mul, J_sub, J_lt, J_le, J_inj, J_ne, ne_J, m_lt, lt_m, m_le, le_m, J_cl, J_inB, if_true, if_false, ite_true, ite_false, reduceIte, isZ0, isZ1, J_and31, shrJ0, shlJ0, gI_sA, gL_sA, Nat.reduceEqDiff, Nat.reduceAdd, Nat.reduceMul, Nat.reduceLT, Nat.reduceLeDiff]
  have e25 : gI (sI (sI σ 30 V (gI σ 29 V)) 29 V y) 25 S = J x := by simp (decide := true) (disch := omega) only [letS_d, grd_tt, bnd_d, bnd1_d, bndX_d, bndX_e, gI_at, gI_ne, gI_sL, gL_sL, gL_sI, upd_at, updL_at, J_lit, J_add, J_mul, J_sub, J_lt, J_le, J_inj, J_ne, ne_J, m_lt, lt_m, m_le, le_m, J_cl, J_inB, if_true, if_false, ite_true, ite_false, reduceIte, isZ0, isZ1, J_and31, shrJ0, shlJ0, gI_sA, gL_sA, Nat.reduceEqDiff, Nat.reduceAdd, Nat.reduceMul, Nat.reduceLT, Nat.reduceLeDiff]; exact h25
  have e21 : gI (sI (sI σ 30 V (gI σ 29 V)) 29 V y) 21 = gI σ 21 := by rw [f1.gi (by decide)]
  have e19 : gI (sI (sI σ 30 V (gI σ 29 V)) 29 V y) 19 = gI σ 19 := by rw [f1.gi (by decide)]
  have e20 : gI (sI (sI σ 30 V (gI σ 29 V)) 29 V y) 20 = gI σ 20 := by rw [f1.gi (by decide)]
  generalize sI (sI σ 30 V (gI σ 29 V)) 29 V y = σ1 at *
  by_cases h0 : c % 16 = 0
  · rw [if_pos h0] at hbeg
    obtain ⟨σ2, a1, a2, a3, a4⟩ := u_follow (N := N) hN (K := K + len u) (by omega) (gI σ 29 V) (gI σ 28 V) (σ := σ1) hu1.2.2.2
    rw [a1, bnd1_d] at hbeg
    refine ⟨σ2, hbeg, hb1.tr ⟨fun i _ => by rw [a2.gi (by decide), a2.gi (by decide)]; exact ⟨rfl, rfl⟩, fun i _ => by rw [a2.gi (by decide), a2.gi (by decide), a2.gi (by decide)]; exact ⟨rfl, rfl, rfl⟩, fun i hi => ⟨by rw [a2.gi (by decide)], by rw [a2.gi (by decide)], by rw [a4 i (by omega), v.2.below hi (by omega), if_neg (by decide)]⟩, a2.mono (by decide)⟩, ⟨⟨(nd_of a2 (by decide)).trans hu1.1, by rw [a2.gi (by decide)]; exact hu1.2.1, by rw [a2.gi (by decide)]; exact hu1.2.2.1, by rw [a2.gi (by decide), Nat.mul_one]; exact hu1.2.2.2⟩, by rw [a2.gi (by decide)]; exact e25, by rw [a2.gi (by decide), e28]; exact v.1, by rw [a2.gi (by decide), e30, Nat.sub_self, Nat.zero_mul, Nat.add_zero]; exact v.2, by rw [a2.gi (by decide), e29]; exact hye, fun b j hb hj => ?_⟩⟩
    obtain rfl : b = 0 := by omega
    obtain ⟨q1, q2, q3⟩ := p j hj
    rw [Nat.zero_mul, Nat.add_zero, a2.gi (k := 19) (by decide), a2.gi (k := 20) (by decide), e19, e20, a4 (K + j) (by omega), v.2.at (by omega), e21]
    refine ⟨q1, q2, ?_⟩
    have goal : ∀ t, GG u c 1 0 j t = (fo u j t || (la u j && fi u t)) := fun t => by
      unfold GG
      rw [decide_eq_true h0]
      simp
    cases hla : la u j
    · rw [if_neg (by decide)]
      exact q3.congr (fun t _ => by rw [goal, hla]; simp)
    · rw [if_pos rfl]
      exact (q3.or v.1).congr (fun t _ => by rw [goal, hla]; simp)
  · rw [if_neg h0] at hbeg
    refine ⟨σ1, hbeg, hb1, ⟨hu1.1, hu1.2.1, hu1.2.2.1, by rw [Nat.mul_one]; exact hu1.2.2.2⟩, e25, by rw [e28]; exact v.1, by rw [e30, Nat.sub_self, Nat.zero_mul, Nat.add_zero]; exact v.2, by rw [e29]; exact hye, fun b j hb hj => ?_⟩
    obtain rfl : b = 0 := by omega
    obtain ⟨q1, q2, q3⟩ := p j hj
    rw [Nat.zero_mul, Nat.add_zero, e19, e20, e21]
    refine ⟨q1, q2, q3.congr (fun t _ => ?_)⟩
    unfold GG
    rw [decide_eq_false h0]
    simp
/-- behind a later copy -/
theorem u_copy2 (hN : 100 ≤ N) {S V K x c a : Nat} {u : Term} {σ : St} (h : US F (S + 1) (V + 2) (K + len u * a + len u) σ) (hK : K + len u * a + len u ≤ 9) (hV : V + 1 < 64) (hx : x < 160) (hu : 1 ≤ len u) (hc : cOK c) (ha : 1 ≤ a) (ha9 : a < 100) (hL : nL (F x) = J (c / 16)) (h0 : ¬ c % 16 = 0) (h25 : gI σ 25 S = J x) (m28 : Mk (gI σ 28 V) K (fi u)) (m30 : Mk (gI σ 30 V) (K + (a - 1) * len u) (la u)) (m29 : Mk (gI σ 29 V) K (fun t => decide (t / len u < a) && decide (c / 16 ≤ t / len u + 1) && la u (t % len u))) (pp : ∀ b j, b < a → j < len u → gI σ 19 (K + b * len u + j) = J (pn u (x + 1) j) ∧ gI σ 20 (K + b * len u + j) = J P ∧ Mk (gI σ 21 (K + b * len u + j)) K (GG u c a b j)) (v : Vl (V + 1) (K + len u * a) u σ) (p : PlR (K + len u * a) u (x + 1) P σ) : ∃ σ', fX9_copy_31 N σ (J x) (J (a + 1)) (J (cps c)) = fX9_copy_238 N σ' (J x) (J (a + 1)) (J (cps c)) ∧ Blw S V K σ σ' ∧ CI F P u x c S V K (a + 1) σ' := by
  obtain ⟨h1, h2, h3, h4⟩ := h
  have h9 : gI σ 9 x = J (c / 16) := by rw [← hL, ← h1]; rfl
  have e1 : V + 2 - 2 = V := by omega
  have e2 : V + 2 - 1 = V + 1 := by omega
  have hd9 : c / 16 ≤ 9 := by
    rcases hc with rfl | hc
    · omega
    · omega
  have hwa : len u * a = a * len u := Nat.mul_comm _ _
  have hwa1 : a * len u = (a - 1) * len u + len u := by
    obtain ⟨a', rfl⟩ : ∃ a', a = a' + 1 := ⟨a - 1, by omega⟩
    rw [Nat.succ_mul]
    rfl
  obtain ⟨σ1, a1, a2, a3, a4⟩ := u_follow (N := N) hN (K := K + len u * a + len u) (by omega) (gI σ 30 V) (gI σ 28 (V + 1)) h4
  obtain ⟨y, hy⟩ : ∃ y, y = (if a + 1 < c / 16 then gI σ 29 V else gI σ 29 V ||| gI σ 29 (V + 1)) := ⟨_, rfl⟩
  have f2 : Fr [27, 29, 30] σ1 (sI (sI (sI σ1 30 V (gI σ 29 (V + 1))) 29 V y) 27 0 (J (V + 1))) := ((Fr.i (by decide)).tr (Fr.i (by decide))).tr (Fr.i (by decide))
  have h9' : gI σ1 9 x = J (c / 16) := by rw [a2.gi (by decide)]; exact h9
  have h29a : gI σ1 29 = gI σ 29 := by rw [a2.gi (by decide)]
  have h27' : gI σ1 27 0 = J (V + 2) := by rw [a2.gi (by decide)]; exact h3
  have hbeg : fX9_copy_31 N σ (J x) (J (a + 1)) (J (cps c)) = fX9_copy_238 N (sI (sI (sI σ1 30 V (gI σ 29 (V + 1))) 29 V y) 27 0 (J (V + 1))) (J x) (J (a + 1)) (J (cps c)) := by
    have n1 : ¬ a + 1 = 1 := by omega
    have n2 : ¬ a + 1 ≤ 1 := by omega
    have s1 : fX9_copy_31 N σ (J x) (J (a + 1)) (J (cps c)) = fX9_copy_227 N (sI σ1 30 V (gI σ 29 (V + 1))) (J x) (J (a + 1)) (J (cps c)) y (J V) := by
      unfold fX9_copy_31
      by_cases hm : a + 1 < c / 16
      · rw [if_pos hm] at hy
        simp (decide := true) (disch := omega) only [letS_d, grd_tt, bnd_d, bnd1_d, bndX_d, bndX_e, gI_at, gI_ne, gI_sL, gL_sL, gL_sI, upd_at, updL_at, J_lit, J_add, J_mul, J_sub, J_lt, J_le, J_inj, J_ne, ne_J, m_lt, lt_m, m_le, le_m, J_cl, J_inB, if_true, if_false, ite_true, ite_false, reduceIte, isZ0, isZ1, J_and31, shrJ0, shlJ0, gI_sA, gL_sA, Nat.reduceEqDiff, Nat.reduceAdd, Nat.reduceMul, Nat.reduceLT, Nat.reduceLeDiff, n1, n2, h3, e1, e2, a1, h9', h29a, hm, hy]
      · rw [if_neg hm] at hy
        simp (decide := true) (disch := omega) only [letS_d, grd_tt, bnd_d, bnd1_d, bndX_d, bndX_e, gI_at, gI_ne, gI_sL, gL_sL, gL_sI, upd_at, updL_at, J_lit, J_add, J_mul, J_sub, J_lt, J_le, J_inj, J_ne, ne_J, m_lt, lt_m, m_le, le_m, J_cl, J_inB, if_true, if_false, ite_true, ite_false, reduceIte, isZ0, isZ1, J_and31, shrJ0, shlJ0, gI_sA, gL_sA, Nat.reduceEqDiff, Nat.reduceAdd, Nat.reduceMul, Nat.reduceLT, Nat.reduceLeDiff, n1, n2, h3, e1, e2, a1, h9', h29a, hm, hy]
    rw [s1]
    unfold fX9_copy_227
    simp (decide := true) (disch := omega) only [letS_d, grd_tt, bnd_d, bnd1_d, bndX_d, bndX_e, gI_at, gI_ne, gI_sL, gL_sL, gL_sI, upd_at, updL_at, J_lit, J_add, J_mul, J_sub, J_lt, J_le, J_inj, J_ne, ne_J, m_lt, lt_m, m_le, le_m, J_cl, J_inB, if_true, if_false, ite_true, ite_false, reduceIte, isZ0, isZ1, J_and31, shrJ0, shlJ0, gI_sA, gL_sA, Nat.reduceEqDiff, Nat.reduceAdd, Nat.reduceMul, Nat.reduceLT, Nat.reduceLeDiff, h27', e2]
  have hl : ∀ i, i < K → gI σ1 21 i = gI σ 21 i := fun i hi => by rw [a4 i (by omega), m30.below (by omega) (by omega), if_neg (by decide)]
  have g28 : gI (sI (sI (sI σ1 30 V (gI σ 29 (V + 1))) 29 V y) 27 0 (J (V + 1))) 28 = gI σ 28 := by rw [f2.gi (by decide), a2.gi (by decide)]
  have g29 : gI (sI (sI (sI σ1 30 V (gI σ 29 (V + 1))) 29 V y) 27 0 (J (V + 1))) 29 V = y := by simp (decide := true) (disch := omega) only [letS_d, grd_tt, bnd_d, bnd1_d, bndX_d, bndX_e, gI_at, gI_ne, gI_sL, gL_sL, gL_sI, upd_at, updL_at, J_lit, J_add, J_mul, J_sub, J_lt, J_le, J_inj, J_ne, ne_J, m_lt, lt_m, m_le, le_m, J_cl, J_inB, if_true, if_false, ite_true, ite_false, reduceIte, isZ0, isZ1, J_and31, shrJ0, shlJ0, gI_sA, gL_sA, Nat.reduceEqDiff, Nat.reduceAdd, Nat.reduceMul, Nat.reduceLT, Nat.reduceLeDiff]
  have g30 : gI (sI (sI (sI σ1 30 V (gI σ 29 (V + 1))) 29 V y) 27 0 (J (V + 1))) 30 V = gI σ 29 (V + 1) := by simp (decide := true) (disch := omega) only [letS_d, grd_tt, bnd_d, bnd1_d, bndX_d, bndX_e, gI_at, gI_ne, gI_sL, gL_sL, gL_sI, upd_at, updL_at, J_lit, J_add, J_mul, J_sub, J_lt, J_le, J_inj, J_ne, ne_J, m_lt, lt_m, m_le, le_m, J_cl, J_inB, if_true, if_false, ite_true, ite_false, reduceIte, isZ0, isZ1, J_and31, shrJ0, shlJ0, gI_sA, gL_sA, Nat.reduceEqDiff, Nat.reduceAdd, Nat.reduceMul, Nat.reduceLT, Nat.reduceLeDiff]
  have g27 : gI (sI (sI (sI σ1 30 V (gI σ 29 (V + 1))) 29 V y) 27 0 (J (V + 1))) 27 0 = J (V + 1) := by simp (decide := true) (disch := omega) only [letS_d, grd_tt, bnd_d, bnd1_d, bndX_d, bndX_e, gI_at, gI_ne, gI_sL, gL_sL, gL_sI, upd_at, updL_at, J_lit, J_add, J_mul, J_sub, J_lt, J_le, J_inj, J_ne, ne_J, m_lt, lt_m, m_le, le_m, J_cl, J_inB, if_true, if_false, ite_true, ite_false, reduceIte, isZ0, isZ1, J_and31, shrJ0, shlJ0, gI_sA, gL_sA, Nat.reduceEqDiff, Nat.reduceAdd, Nat.reduceMul, Nat.reduceLT, Nat.reduceLeDiff]
  have g29' : ∀ i, ¬ i = V → gI (sI (sI (sI σ1 30 V (gI σ 29 (V + 1))) 29 V y) 27 0 (J (V + 1))) 29 i = gI σ1 29 i := fun i hi => by simp (decide := true) (disch := omega) only [letS_d, grd_tt, bnd_d, bnd1_d, bndX_d, bndX_e, gI_at, gI_ne, gI_sL, gL_sL, gL_sI, upd_at, updL_at, J_lit, J_add, J_mul, J_sub, J_lt, J_le, J_inj, J_ne, ne_J, m_lt, lt_m, m_le, le_m, J_cl, J_inB, if_true, if_false, ite_true, ite_false, reduceIte, isZ0, isZ1, J_and31, shrJ0, shlJ0, gI_sA, gL_sA, Nat.reduceEqDiff, Nat.reduceAdd, Nat.reduceMul, Nat.reduceLT, Nat.reduceLeDiff, hi]
  have g30' : ∀ i, ¬ i = V → gI (sI (sI (sI σ1 30 V (gI σ 29 (V + 1))) 29 V y) 27 0 (J (V + 1))) 30 i = gI σ1 30 i := fun i hi => by simp (decide := true) (disch := omega) only [letS_d, grd_tt, bnd_d, bnd1_d, bndX_d, bndX_e, gI_at, gI_ne, gI_sL, gL_sL, gL_sI, upd_at, updL_at, J_lit, J_add, J_mul, J_sub, J_lt, J_le, J_inj, J_ne, ne_J, m_lt, lt_m, m_le, le_m, J_cl, J_inB, if_true, if_false, ite_true, ite_false, reduceIte, isZ0, isZ1, J_and31, shrJ0, shlJ0, gI_sA, gL_sA, Nat.reduceEqDiff, Nat.reduceAdd, Nat.reduceMul, Nat.reduceLT, Nat.reduceLeDiff, hi]
  generalize sI (sI (sI σ1 30 V (gI σ 29 (V + 1))) 29 V y) 27 0 (J (V + 1)) = σ2 at *
  refine ⟨σ2, hbeg, ⟨fun i _ => ?_, fun i hi => ?_, fun i hi => ?_, (a2.mono (by decide)).tr (f2.mono (by decide))⟩, ⟨?_, ?_, g27, ?_⟩, ?_, ?_, ?_, ?_, fun b j hb hj => ?_⟩
  · rw [f2.gi (by decide), f2.gi (by decide), a2.gi (by decide), a2.gi (by decide)]
    exact ⟨rfl, rfl⟩
  · refine ⟨by rw [g28], ?_, ?_⟩
    · rw [g29' i (by omega), a2.gi (by decide)]
    · rw [g30' i (by omega), a2.gi (by decide)]
  · refine ⟨?_, ?_, ?_⟩
    · rw [f2.gi (by decide), a2.gi (by decide)]
    · rw [f2.gi (by decide), a2.gi (by decide)]
    · rw [f2.gi (by decide)]
      exact hl i hi
  · rw [nd_of f2 (by decide), nd_of a2 (by decide)]
    exact h1
  · rw [f2.gi (by decide), a2.gi (by decide)]
    exact h2
  · rw [f2.gi (by decide), a2.gi (by decide), Nat.mul_succ, ← Nat.add_assoc]
    exact h4
  · rw [f2.gi (by decide), a2.gi (by decide)]
    exact h25
  · rw [g28]
    exact m28
  · rw [g30, show a + 1 - 1 = a from rfl, ← hwa]
    exact v.2
  · rw [g29, hy]
    have hlast : ∀ t, (decide (t / len u < a + 1) && decide (c / 16 ≤ t / len u + 1) && la u (t % len u)) = ((decide (t / len u < a) && decide (c / 16 ≤ t / len u + 1) && la u (t % len u)) || (decide (c / 16 ≤ a + 1) && (decide (a * len u ≤ t) && la u (t - a * len u)))) := fun t => by
      obtain ⟨q1, q2⟩ := md (t := t) hu
      by_cases hta : t / len u = a
      · obtain ⟨q3, q4⟩ := dm (b := a) (w := len u) (t := t) (by rw [← hta]; exact q1) (by rw [← hta]; exact q2)
        have e1 : ¬ t / len u < a := by omega
        have e2 : t / len u < a + 1 := by omega
        have e3 : a * len u ≤ t := by rw [← hta]; exact q1
        rw [q4, decide_eq_true e2, decide_eq_false e1, decide_eq_true e3, hta]
        simp
      · by_cases hlt : t / len u < a
        · have e2 : t / len u < a + 1 := by omega
          have e3 : ¬ a * len u ≤ t := fun h9 => by
            have := Nat.mul_le_mul_right (len u) (show t / len u + 1 ≤ a by omega)
            rw [Nat.succ_mul] at this
            omega
          rw [decide_eq_true e2, decide_eq_true hlt, decide_eq_false e3]
          simp
        · have e2 : ¬ t / len u < a + 1 := by omega
          have e4 : la u (t - a * len u) = false := nf (la_lt u) (by
            have := Nat.mul_le_mul_right (len u) (show a + 1 ≤ t / len u by omega)
            rw [Nat.succ_mul] at this
            omega)
          rw [decide_eq_false e2, decide_eq_false hlt, e4]
          simp
    by_cases hm : a + 1 < c / 16
    · rw [if_pos hm]
      refine m29.congr (fun t _ => ?_)
      rw [hlast t, decide_eq_false (show ¬ c / 16 ≤ a + 1 by omega)]
      simp
    · rw [if_neg hm]
      have v2 := v.2
      rw [hwa] at v2
      refine (m29.or v2.base).congr (fun t _ => ?_)
      rw [hlast t, decide_eq_true (show c / 16 ≤ a + 1 by omega), Bool.true_and]
  · rw [f2.gi (by decide), f2.gi (by decide), f2.gi (by decide), a2.gi (k := 19) (by decide), a2.gi (k := 20) (by decide)]
    by_cases hba : b = a
    · subst hba
      obtain ⟨q1, q2, q3⟩ := p j hj
      rw [hwa] at q1 q2 q3
      rw [a4 _ (by omega)]
      have hbit : bt (gI σ 30 V) (K + b * len u + j) = false := by
        rw [m30 _ (by omega), nf (la_lt u) (by omega), Bool.and_false]
      rw [hbit, if_neg (by decide)]
      refine ⟨q1, q2, q3.base.congr (fun t _ => ?_)⟩
      unfold GG
      rw [decide_eq_false (show ¬ b + 1 < b + 1 by omega), decide_eq_false h0]
      simp
    · have hb' : b < a := by omega
      obtain ⟨q1, q2, q3⟩ := pp b j hb' hj
      have hbw : b * len u + len u ≤ a * len u := by
        have := Nat.mul_le_mul_right (len u) (show b + 1 ≤ a by omega)
        rw [Nat.succ_mul] at this
        exact this
      rw [a4 _ (by omega)]
      refine ⟨q1, q2, ?_⟩
      by_cases hlast : b + 1 = a
      · have hb1 : (a - 1) * len u = b * len u := by rw [show a - 1 = b from by omega]
        have hbit : bt (gI σ 30 V) (K + b * len u + j) = la u j := by
          rw [m30 _ (by omega), hb1, decide_eq_true (by omega), Bool.true_and, show K + b * len u + j - (K + b * len u) = j from by omega]
        rw [hbit]
        have vv := v.1
        rw [hwa, ← hlast] at vv
        cases hla : la u j
        · rw [if_neg (by decide)]
          refine q3.congr (fun t _ => ?_)
          unfold GG
          rw [hla]
          simp
        · rw [if_pos rfl]
          refine (q3.or vv.base).congr (fun t _ => ?_)
          unfold GG
          rw [hla, decide_eq_false (show ¬ b + 1 < a by omega), decide_eq_true (show b + 1 < a + 1 by omega), decide_eq_false h0]
          simp
      · have hbit : bt (gI σ 30 V) (K + b * len u + j) = false := by
          rw [m30 _ (by omega)]
          have : b * len u + len u ≤ (a - 1) * len u := by
            have := Nat.mul_le_mul_right (len u) (show b + 1 ≤ a - 1 by omega)
            rw [Nat.succ_mul] at this
            exact this
          rw [decide_eq_false (by omega)]
          rfl
        rw [hbit, if_neg (by decide)]
        refine q3.congr (fun t _ => ?_)
        unfold GG
        rw [show decide (b + 1 < a) = decide (b + 1 < a + 1) from decide_eq_decide.mpr (by omega)]
end UNC
