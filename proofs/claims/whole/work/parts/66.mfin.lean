/-! the class's reader: the ends of properties -/
section FIN
variable {N : Nat}
/-- how many obligations there are after a property, fitting or not -/
theorem Pw_k {t : Term} {b K : Nat} {τ0 τ : St} (h : Pw t b K τ0 τ) : ∃ k, K ≤ k ∧ St0 k τ ∧ (gI τ 23 0 = J 1 → k = K + oC t) := by
  rcases h with ⟨g1, ⟨g2, g3, g4, g5, g6⟩, g7⟩ | ⟨⟨g1, k, g2, g3, g4⟩, g5⟩
  · exact ⟨K + oC t, by omega, ⟨g4, g3, Or.inl g2⟩, fun _ => rfl⟩
  · exact ⟨k, g2, ⟨g3, g4, Or.inr g1⟩, fun h => absurd (h.symm.trans g1) J10⟩
theorem Pv_k {s : Term} {K : Nat} {τ0 τ : St} (h : Pv K s τ0 τ) : ∃ k, K ≤ k ∧ St0 k τ ∧ (gI τ 23 0 = J 1 → k = K + len s) := by
  rcases h.2 with ⟨g1, ⟨g2, g3, g4, g5, g6, g7⟩, g8⟩ | ⟨⟨g1, k, g2, g3, g4⟩, g5⟩
  · exact ⟨K + len s, by omega, ⟨g4, g3, Or.inl g2⟩, fun _ => rfl⟩
  · exact ⟨k, g2, ⟨g3, g4, Or.inr g1⟩, fun h => absurd (h.symm.trans g1) J10⟩
theorem fin_bool {t : Term} {b K : Nat} {τ : St} (h0 : St0 K τ) (h21 : gI τ 21 0 = J b) (hb : b < 40) (ht : (∃ v, t = .index v) ∨ (∃ x, t = .length x)) : ∃ τ2, fX1_addBoolean N τ (J (bm t)) = some (J b, τ2) ∧ Fr [21, 30, 31, 32, 33, 34] τ τ2 ∧ gI τ2 21 0 = J (b + 1) ∧ Lo b τ τ2 ∧ Pw t b K τ τ2 := by
  have hadd := cls_add (N := N) (kd := 33) (l := -J 1) (r := -J 1) h21 hb (by omega)
  obtain ⟨s1, s2, s3, s4, s5⟩ := addS_at (c := b) (kd := 33) (l := -J 1) (r := -J 1) (τ := τ)
  have f := addS_fr (c := b) (kd := 33) (l := -J 1) (r := -J 1) (τ := τ)
  have hlo := Lo.add (b := b) (c := b) (kd := 33) (l := -J 1) (r := -J 1) (τ := τ) (Nat.le_refl _)
  generalize addS τ b 33 (-J 1) (-J 1) = τ1 at *
  have hd : decide (b < 40) = true := decide_eq_true hb
  have f2 : Fr [34] τ1 (sI τ1 34 b (J (bm t))) := Fr.i (by decide)
  have hfr : Fr [21, 30, 31, 32, 33, 34] τ (sI τ1 34 b (J (bm t))) := (f.mono (by decide)).tr (f2.mono (by decide))
  have hoC : oC t = 0 := by
    rcases ht with ⟨v, rfl⟩ | ⟨x, rfl⟩ <;> rfl
  have hnC : nC t = 1 := by
    rcases ht with ⟨v, rfl⟩ | ⟨x, rfl⟩ <;> rfl
  have hown : own t = false := by
    rcases ht with ⟨v, rfl⟩ | ⟨x, rfl⟩ <;> rfl
  have hRC : RC (sI τ1 34 b (J (bm t))) t b K := by
    have q : gI (sI τ1 34 b (J (bm t))) 30 b = J 33 ∧ gI (sI τ1 34 b (J (bm t))) 34 b = J (bm t) := ⟨by simp (decide := true) (disch := omega) only [letS_d, grd_t, bnd_d, bnd1_d, bndX_d, bndX_e, gI_sI, gI_sL, gL_sL, gL_sI, upd_at, updL_at, J_lit, J_add, J_mul, J_sub, J_lt, J_le, J_inj, J_ne, ne_J, m_lt, lt_m, m_le, le_m, J_cl, J_inB, if_true, if_false, ite_true, ite_false, reduceIte, isZ0, isZ1, J_and31, shrJ0, shlJ0, gI_sA, gL_sA, Nat.reduceEqDiff, Nat.reduceAdd, Nat.reduceMul, Nat.reduceLT, Nat.reduceLeDiff]; exact s1, by simp (decide := true) (disch := omega) only [letS_d, grd_t, bnd_d, bnd1_d, bndX_d, bndX_e, gI_sI, gI_sL, gL_sL, gL_sI, upd_at, updL_at, J_lit, J_add, J_mul, J_sub, J_lt, J_le, J_inj, J_ne, ne_J, m_lt, lt_m, m_le, le_m, J_cl, J_inB, if_true, if_false, ite_true, ite_false, reduceIte, isZ0, isZ1, J_and31, shrJ0, shlJ0, gI_sA, gL_sA, Nat.reduceEqDiff, Nat.reduceAdd, Nat.reduceMul, Nat.reduceLT, Nat.reduceLeDiff]⟩
    rcases ht with ⟨v, rfl⟩ | ⟨x, rfl⟩
    · exact q
    · exact q
  refine ⟨sI τ1 34 b (J (bm t)), ?_, hfr, by simp (decide := true) (disch := omega) only [letS_d, grd_t, bnd_d, bnd1_d, bndX_d, bndX_e, gI_sI, gI_sL, gL_sL, gL_sI, upd_at, updL_at, J_lit, J_add, J_mul, J_sub, J_lt, J_le, J_inj, J_ne, ne_J, m_lt, lt_m, m_le, le_m, J_cl, J_inB, if_true, if_false, ite_true, ite_false, reduceIte, isZ0, isZ1, J_and31, shrJ0, shlJ0, gI_sA, gL_sA, Nat.reduceEqDiff, Nat.reduceAdd, Nat.reduceMul, Nat.reduceLT, Nat.reduceLeDiff]; exact s5, hlo.tr (fun i hi => ?_), ?_⟩
  · unfold fX1_addBoolean
    have hadd' : fX1_add N τ (33 : Int32) (-1 : Int32) (-1 : Int32) = some (J b, τ1) := hadd
    rw [hadd', bnd_d]
    simp (decide := true) (disch := omega) only [letS_d, grd_t, bnd_d, bnd1_d, bndX_d, bndX_e, gI_sI, gI_sL, gL_sL, gL_sI, upd_at, updL_at, J_lit, J_add, J_mul, J_sub, J_lt, J_le, J_inj, J_ne, ne_J, m_lt, lt_m, m_le, le_m, J_cl, J_inB, if_true, if_false, ite_true, ite_false, reduceIte, isZ0, isZ1, J_and31, shrJ0, shlJ0, gI_sA, gL_sA, Nat.reduceEqDiff, Nat.reduceAdd, Nat.reduceMul, Nat.reduceLT, Nat.reduceLeDiff, decide_true, hd]
  · have : ¬ i = b := by omega
    exact ⟨by simp (decide := true) (disch := omega) only [letS_d, grd_t, bnd_d, bnd1_d, bndX_d, bndX_e, gI_sI, gI_sL, gL_sL, gL_sI, upd_at, updL_at, J_lit, J_add, J_mul, J_sub, J_lt, J_le, J_inj, J_ne, ne_J, m_lt, lt_m, m_le, le_m, J_cl, J_inB, if_true, if_false, ite_true, ite_false, reduceIte, isZ0, isZ1, J_and31, shrJ0, shlJ0, gI_sA, gL_sA, Nat.reduceEqDiff, Nat.reduceAdd, Nat.reduceMul, Nat.reduceLT, Nat.reduceLeDiff], by simp (decide := true) (disch := omega) only [letS_d, grd_t, bnd_d, bnd1_d, bndX_d, bndX_e, gI_sI, gI_sL, gL_sL, gL_sI, upd_at, updL_at, J_lit, J_add, J_mul, J_sub, J_lt, J_le, J_inj, J_ne, ne_J, m_lt, lt_m, m_le, le_m, J_cl, J_inB, if_true, if_false, ite_true, ite_false, reduceIte, isZ0, isZ1, J_and31, shrJ0, shlJ0, gI_sA, gL_sA, Nat.reduceEqDiff, Nat.reduceAdd, Nat.reduceMul, Nat.reduceLT, Nat.reduceLeDiff], by simp (decide := true) (disch := omega) only [letS_d, grd_t, bnd_d, bnd1_d, bndX_d, bndX_e, gI_sI, gI_sL, gL_sL, gL_sI, upd_at, updL_at, J_lit, J_add, J_mul, J_sub, J_lt, J_le, J_inj, J_ne, ne_J, m_lt, lt_m, m_le, le_m, J_cl, J_inB, if_true, if_false, ite_true, ite_false, reduceIte, isZ0, isZ1, J_and31, shrJ0, shlJ0, gI_sA, gL_sA, Nat.reduceEqDiff, Nat.reduceAdd, Nat.reduceMul, Nat.reduceLT, Nat.reduceLeDiff], by simp (decide := true) (disch := omega) only [letS_d, grd_t, bnd_d, bnd1_d, bndX_d, bndX_e, gI_sI, gI_sL, gL_sL, gL_sI, upd_at, updL_at, J_lit, J_add, J_mul, J_sub, J_lt, J_le, J_inj, J_ne, ne_J, m_lt, lt_m, m_le, le_m, J_cl, J_inB, if_true, if_false, ite_true, ite_false, reduceIte, isZ0, isZ1, J_and31, shrJ0, shlJ0, gI_sA, gL_sA, Nat.reduceEqDiff, Nat.reduceAdd, Nat.reduceMul, Nat.reduceLT, Nat.reduceLeDiff], by simp (decide := true) (disch := omega) only [letS_d, grd_t, bnd_d, bnd1_d, bndX_d, bndX_e, gI_sI, gI_sL, gL_sL, gL_sI, upd_at, updL_at, J_lit, J_add, J_mul, J_sub, J_lt, J_le, J_inj, J_ne, ne_J, m_lt, lt_m, m_le, le_m, J_cl, J_inB, if_true, if_false, ite_true, ite_false, reduceIte, isZ0, isZ1, J_and31, shrJ0, shlJ0, gI_sA, gL_sA, Nat.reduceEqDiff, Nat.reduceAdd, Nat.reduceMul, Nat.reduceLT, Nat.reduceLeDiff, this], by simp (decide := true) (disch := omega) only [letS_d, grd_t, bnd_d, bnd1_d, bndX_d, bndX_e, gI_sI, gI_sL, gL_sL, gL_sI, upd_at, updL_at, J_lit, J_add, J_mul, J_sub, J_lt, J_le, J_inj, J_ne, ne_J, m_lt, lt_m, m_le, le_m, J_cl, J_inB, if_true, if_false, ite_true, ite_false, reduceIte, isZ0, isZ1, J_and31, shrJ0, shlJ0, gI_sA, gL_sA, Nat.reduceEqDiff, Nat.reduceAdd, Nat.reduceMul, Nat.reduceLT, Nat.reduceLeDiff], by simp (decide := true) (disch := omega) only [letS_d, grd_t, bnd_d, bnd1_d, bndX_d, bndX_e, gI_sI, gI_sL, gL_sL, gL_sI, upd_at, updL_at, J_lit, J_add, J_mul, J_sub, J_lt, J_le, J_inj, J_ne, ne_J, m_lt, lt_m, m_le, le_m, J_cl, J_inB, if_true, if_false, ite_true, ite_false, reduceIte, isZ0, isZ1, J_and31, shrJ0, shlJ0, gI_sA, gL_sA, Nat.reduceEqDiff, Nat.reduceAdd, Nat.reduceMul, Nat.reduceLT, Nat.reduceLeDiff], by simp (decide := true) (disch := omega) only [letS_d, grd_t, bnd_d, bnd1_d, bndX_d, bndX_e, gI_sI, gI_sL, gL_sL, gL_sI, upd_at, updL_at, J_lit, J_add, J_mul, J_sub, J_lt, J_le, J_inj, J_ne, ne_J, m_lt, lt_m, m_le, le_m, J_cl, J_inB, if_true, if_false, ite_true, ite_false, reduceIte, isZ0, isZ1, J_and31, shrJ0, shlJ0, gI_sA, gL_sA, Nat.reduceEqDiff, Nat.reduceAdd, Nat.reduceMul, Nat.reduceLT, Nat.reduceLeDiff], by simp (decide := true) (disch := omega) only [letS_d, grd_t, bnd_d, bnd1_d, bndX_d, bndX_e, gI_sI, gI_sL, gL_sL, gL_sI, upd_at, updL_at, J_lit, J_add, J_mul, J_sub, J_lt, J_le, J_inj, J_ne, ne_J, m_lt, lt_m, m_le, le_m, J_cl, J_inB, if_true, if_false, ite_true, ite_false, reduceIte, isZ0, isZ1, J_and31, shrJ0, shlJ0, gI_sA, gL_sA, Nat.reduceEqDiff, Nat.reduceAdd, Nat.reduceMul, Nat.reduceLT, Nat.reduceLeDiff]⟩
  · obtain ⟨k1, k2, k3⟩ := h0
    by_cases hf : gI τ 23 0 = J 1
    · left
      refine ⟨hf, ⟨by rw [hfr.gi (by decide)]; exact hf, by rw [hoC, hfr.gi (by decide)]; exact k2, by omega, hRC, ?_⟩, Kp.of hfr (by decide)⟩
      rw [hnC, show b + 1 - 1 = b from by omega]
      have e : gI (sI τ1 34 b (J (bm t))) 33 b = -J 1 := by simp (decide := true) (disch := omega) only [letS_d, grd_t, bnd_d, bnd1_d, bndX_d, bndX_e, gI_sI, gI_sL, gL_sL, gL_sI, upd_at, updL_at, J_lit, J_add, J_mul, J_sub, J_lt, J_le, J_inj, J_ne, ne_J, m_lt, lt_m, m_le, le_m, J_cl, J_inB, if_true, if_false, ite_true, ite_false, reduceIte, isZ0, isZ1, J_and31, shrJ0, shlJ0, gI_sA, gL_sA, Nat.reduceEqDiff, Nat.reduceAdd, Nat.reduceMul, Nat.reduceLT, Nat.reduceLeDiff]; exact s4
      rw [e, tob_no (by rw [hown]; decide)]
    · right
      exact ⟨⟨by rw [hfr.gi (by decide)]; exact zc k3 hf, K, Nat.le_refl _, k1, by rw [hfr.gi (by decide)]; exact k2⟩, fun h => absurd h hf⟩
/-- two properties, one behind the other -/
def Two (t u : Term) (b K : Nat) (τ0 τ : St) : Prop := (gI τ0 23 0 = J 1 ∧ (gI τ 23 0 = J 1 ∧ gI τ 22 0 = J (K + (oC t + oC u)) ∧ K + (oC t + oC u) ≤ 9 ∧ (RC τ t b K ∧ RC τ u (b + nC t) (K + oC t)) ∧ gI τ 33 (b + nC t - 1) = tob t K false ∧ gI τ 33 (b + nC t + nC u - 1) = tob u (K + oC t) false) ∧ Kp K τ0 τ) ∨ (Nx K τ ∧ (gI τ0 23 0 = J 1 → 9 < K + (oC t + oC u)))
theorem two_of {t u : Term} {b K k : Nat} {τ0 τa τ1 : St} (ha : Pw t b K τ0 τa) (hk : K ≤ k) (hk2 : gI τa 23 0 = J 1 → k = K + oC t) (hb : Pw u (b + nC t) k τa τ1) (hlo : Lo (b + nC t) τa τ1) : Two t u b K τ0 τ1 := by
  have np := nC_pos t
  rcases ha with ⟨g1, ⟨g2, g3, g4, g5, g6⟩, g7⟩ | ⟨g1, g2⟩
  · have hkk := hk2 g2
    subst hkk
    rcases hb with ⟨_, ⟨w2, w3, w4, w5, w6⟩, w7⟩ | ⟨w1, w2⟩
    · left
      refine ⟨g1, ⟨w2, by rw [← Nat.add_assoc]; exact w3, by omega, ⟨RC_keep t b K (hlo.ag w7) g5, w5⟩, ?_, w6⟩, g7.tr (w7.le (by omega))⟩
      rw [(hlo (b + nC t - 1) (by omega)).2.2.2.1]
      exact g6
    · right
      exact ⟨w1.le (by omega), fun _ => by have := w2 g2; omega⟩
  · right
    rcases hb with ⟨w1, _⟩ | ⟨w1, _⟩
    · exact absurd (w1.symm.trans g1.1) J10
    · exact ⟨w1.le hk, fun h9 => by have := g2 h9; omega⟩
theorem fin_pair {t u : Term} {b K c kd : Nat} {τ0 τ1 : St} (hc : c = b + nC t + nC u) (hc40 : c < 40) (hkd : kd = 38 ∨ kd = 124 ∨ kd = 87) (h21 : gI τ1 21 0 = J c) (h : Two t u b K τ0 τ1) : ∃ τ3, (bnd (fX1_add N τ1 (J kd) (J (b + nC t - 1)) (J (c - 1))) fun r23 σ22 => if J kd = (87 : Int32) then bnd1 (fX1_oblige N σ22 r23) fun σ25 => fX6_readPair_99 N (fX6_rec N 0) σ25 r23 else fX6_readPair_99 N (fX6_rec N 0) σ22 r23) = some (J 0, J c, τ3) ∧ Fr [21, 22, 23, 30, 31, 32, 33] τ1 τ3 ∧ gI τ3 21 0 = J (c + 1) ∧ Lo c τ1 τ3 ∧ Pw (if kd = 38 then .add t u else if kd = 124 then .sub t u else .mul t u) b K τ0 τ3 := by
  have np := nC_pos t
  have nu := nC_pos u
  have hadd := cls_add (N := N) (kd := kd) (l := J (b + nC t - 1)) (r := J (c - 1)) h21 hc40 (by omega)
  obtain ⟨s1, s2, s3, s4, s5⟩ := addS_at (c := c) (kd := kd) (l := J (b + nC t - 1)) (r := J (c - 1)) (τ := τ1)
  have f := addS_fr (c := c) (kd := kd) (l := J (b + nC t - 1)) (r := J (c - 1)) (τ := τ1)
  have hlo := Lo.add (b := c) (c := c) (kd := kd) (l := J (b + nC t - 1)) (r := J (c - 1)) (τ := τ1) (Nat.le_refl _)
  generalize addS τ1 c kd (J (b + nC t - 1)) (J (c - 1)) = τ2 at *
  have hkp2 : ∀ L, Kp L τ1 τ2 := fun L => Kp.of f (by decide)
  -- the pair's rows, in any later state that keeps them
  have rows : ∀ τ3, Lo c τ1 τ3 → Kp (K + (oC t + oC u)) τ1 τ3 → gI τ3 30 c = J kd → gI τ3 31 c = J (b + nC t - 1) → gI τ3 32 c = J (c - 1) → (RC τ1 t b K ∧ RC τ1 u (b + nC t) (K + oC t)) ∧ gI τ1 33 (b + nC t - 1) = tob t K false ∧ gI τ1 33 (b + nC t + nC u - 1) = tob u (K + oC t) false → ((RC τ3 t b K ∧ RC τ3 u (b + nC t) (K + oC t)) ∧ (gI τ3 33 (b + nC t - 1) = tob t K false ∧ gI τ3 33 (b + nC t + nC u - 1) = tob u (K + oC t) false) ∧ gI τ3 30 (b + nC t + nC u) = J kd ∧ gI τ3 31 (b + nC t + nC u) = J (b + nC t - 1) ∧ gI τ3 32 (b + nC t + nC u) = J (b + nC t + nC u - 1)) := by
    intro τ3 hl hk q1 q2 q3 ⟨⟨r1, r2⟩, r3, r4⟩
    refine ⟨⟨RC_keep t b K ((hl.ag (b := b) (K := K) hk).sub (Nat.le_refl _) (by omega) (Nat.le_refl _) (by omega)) r1, RC_keep u _ _ ((hl.ag (b := b) (K := K) hk).sub (by omega) (by omega) (by omega) (by omega)) r2⟩, ⟨by rw [(hl _ (by omega)).2.2.2.1]; exact r3, by rw [(hl _ (by omega)).2.2.2.1]; exact r4⟩, by rw [← hc]; exact q1, by rw [← hc]; exact q2, by rw [← hc]; exact q3⟩
  by_cases h87 : kd = 87
  · subst h87
    have hif : (if 87 = 38 then Term.add t u else if 87 = 124 then Term.sub t u else Term.mul t u) = .mul t u := rfl
    rw [hif]
    have hoC : oC (.mul t u) = oC t + oC u + 1 := rfl
    have hnC : nC (.mul t u) = nC t + nC u + 1 := rfl
    rcases h with ⟨g1, ⟨g2, g3, g4, g5, g6, g6'⟩, g7⟩ | ⟨g1, g2⟩
    · obtain ⟨τ3, e1, e2, e3, e4⟩ := cls_oblige (N := N) hc40 g4 (τ := τ2) (by rw [f.gi (by decide)]; exact g3)
      have hlo3 := hlo.tr (Lo.ob e2 e3 (Nat.le_refl c))
      have hfr : Fr [21, 22, 23, 30, 31, 32, 33] τ1 τ3 := (f.mono (by decide)).tr (e2.mono (by decide))
      have hkp : ∀ L, Kp L τ1 τ3 := fun L => Kp.of hfr (by decide)
      refine ⟨τ3, by rw [hadd, bnd_d, if_pos (show J 87 = (87 : Int32) from rfl), e1, bnd1_d]; rfl, hfr, by rw [e2.gi (by decide)]; exact s5, hlo3, ?_⟩
      rcases e4 with ⟨q1, _⟩ | ⟨q1, q2, q3, q4, q5⟩ | ⟨q1, q2, q3, q4⟩
      · exact absurd s4 q1
      · left
        refine ⟨g1, ⟨by rw [q5, f.gi (by decide)]; exact g2, by rw [hoC, show K + (oC t + oC u + 1) = K + (oC t + oC u) + 1 from by omega]; exact q4, by rw [hoC]; omega, rows τ3 hlo3 (hkp _) (by rw [e2.gi (by decide)]; exact s1) (by rw [e2.gi (by decide)]; exact s2) (by rw [e2.gi (by decide)]; exact s3) ⟨g5, g6, g6'⟩, ?_⟩, g7.tr (hkp K)⟩
        rw [show b + nC (.mul t u) - 1 = c from by rw [hnC]; omega, q3]
        unfold tob
        rw [if_pos (show own (.mul t u) = true from rfl), hoC]
        congr 1
      · right
        exact ⟨⟨q3, 9, by omega, by omega, q4⟩, fun _ => by rw [hoC]; omega⟩
    · obtain ⟨τ3, e1, e2, e3, e4⟩ := Nx_oblige (N := N) (i := c) hc40 (g1.fr f (by decide))
      exact ⟨τ3, by rw [hadd, bnd_d, if_pos (show J 87 = (87 : Int32) from rfl), e1, bnd1_d]; rfl, (f.mono (by decide)).tr (e2.mono (by decide)), by rw [e2.gi (by decide)]; exact s5, hlo.tr (Lo.ob e2 e3 (Nat.le_refl c)), Or.inr ⟨e4, fun h9 => by have := g2 h9; rw [hoC]; omega⟩⟩
  · have hne : ¬ J kd = (87 : Int32) := fun h9 => h87 (by
      rw [show (87 : Int32) = J 87 from rfl, J_inj (by omega) (by omega)] at h9
      exact h9)
    refine ⟨τ2, by rw [hadd, bnd_d, if_neg hne]; rfl, f.mono (by decide), s5, hlo, ?_⟩
    have key : ∀ w : Term, oC w = oC t + oC u → nC w = nC t + nC u + 1 → own w = false → (∀ τ3, ((RC τ3 t b K ∧ RC τ3 u (b + nC t) (K + oC t)) ∧ (gI τ3 33 (b + nC t - 1) = tob t K false ∧ gI τ3 33 (b + nC t + nC u - 1) = tob u (K + oC t) false) ∧ gI τ3 30 (b + nC t + nC u) = J kd ∧ gI τ3 31 (b + nC t + nC u) = J (b + nC t - 1) ∧ gI τ3 32 (b + nC t + nC u) = J (b + nC t + nC u - 1)) → RC τ3 w b K) → Pw w b K τ0 τ2 := by
      intro w hoC hnC hown hRC
      rcases h with ⟨g1, ⟨g2, g3, g4, g5, g6, g6'⟩, g7⟩ | ⟨g1, g2⟩
      · left
        refine ⟨g1, ⟨by rw [f.gi (by decide)]; exact g2, by rw [hoC, f.gi (by decide)]; exact g3, by rw [hoC]; exact g4, hRC τ2 (rows τ2 hlo (hkp2 _) s1 s2 s3 ⟨g5, g6, g6'⟩), ?_⟩, g7.tr (hkp2 K)⟩
        rw [show b + nC w - 1 = c from by rw [hnC]; omega, s4, tob_no (by rw [hown]; decide)]
      · exact Or.inr ⟨g1.fr f (by decide), fun h9 => by rw [hoC]; exact g2 h9⟩
    by_cases h38 : kd = 38
    · rw [if_pos h38]
      subst h38
      exact key (.add t u) rfl rfl rfl (fun τ3 h9 => h9)
    · have h124 : kd = 124 := by omega
      rw [if_neg h38, if_pos h124]
      subst h124
      exact key (.sub t u) rfl rfl rfl (fun τ3 h9 => h9)
/-- the end of a rule -/
theorem fin_rule {s t : Term} {b K X c kd : Nat} {fl : Bool} {x2 x3 x4 x5 : Int32} {τ0 τ1 : St} (w : Term) (hw : (w = .div s t ∧ kd = 62 ∧ fl = false) ∨ (w = .rem s t ∧ kd = 58 ∧ fl = true)) (hX : oC w = X) (hc : c = b + nC t) (hc40 : c < 40) (h21 : gI τ1 21 0 = J c) (hm : gI τ0 23 0 = J 1 → gI τ1 23 0 = J 1 → x2 = J K ∧ x3 = J (K + len s) ∧ Mk x4 K (fi s) ∧ Mk x5 K (la s)) (h : (gI τ0 23 0 = J 1 ∧ (gI τ1 23 0 = J 1 ∧ gI τ1 22 0 = J (K + X) ∧ K + X ≤ 9 ∧ RC τ1 t b (K + len s) ∧ gI τ1 33 (b + nC t - 1) = tob t (K + len s) fl ∧ Plc K s τ1 ∧ len s + oC t ≤ X) ∧ Kp K τ0 τ1) ∨ (Nx K τ1 ∧ (gI τ0 23 0 = J 1 → 9 < K + X))) : ∃ τ3, fX6_readRule_111 N (fX6_rec N 0) τ1 x2 x3 x4 x5 (J kd) (J (c - 1)) = some (J 0, J c, τ3) ∧ Fr [21, 30, 31, 32, 33, 35, 36, 37, 38] τ1 τ3 ∧ gI τ3 21 0 = J (c + 1) ∧ Lo c τ1 τ3 ∧ Pw w b K τ0 τ3 := by
  have np := nC_pos t
  have hkd : kd < 128 := by omega
  have hadd := cls_add (N := N) (kd := kd) (l := J (c - 1)) (r := -J 1) h21 hc40 hkd
  obtain ⟨s1, s2, s3, s4, s5⟩ := addS_at (c := c) (kd := kd) (l := J (c - 1)) (r := -J 1) (τ := τ1)
  have f := addS_fr (c := c) (kd := kd) (l := J (c - 1)) (r := -J 1) (τ := τ1)
  have hlo := Lo.add (b := c) (c := c) (kd := kd) (l := J (c - 1)) (r := -J 1) (τ := τ1) (Nat.le_refl _)
  generalize addS τ1 c kd (J (c - 1)) (-J 1) = τ2 at *
  have hd : decide (c < 40) = true := decide_eq_true hc40
  have f2 : Fr [35, 36, 37, 38] τ2 (sI (sI (sI (sI τ2 35 c x2) 36 c x3) 37 c x4) 38 c x5) := (((Fr.i (by decide)).tr (Fr.i (by decide))).tr (Fr.i (by decide))).tr (Fr.i (by decide))
  have hfr : Fr [21, 30, 31, 32, 33, 35, 36, 37, 38] τ1 (sI (sI (sI (sI τ2 35 c x2) 36 c x3) 37 c x4) 38 c x5) := (f.mono (by decide)).tr (f2.mono (by decide))
  have hlo3 : Lo c τ1 (sI (sI (sI (sI τ2 35 c x2) 36 c x3) 37 c x4) 38 c x5) := hlo.tr (fun i hi => by
    have : ¬ i = c := by omega
    exact ⟨by simp (decide := true) (disch := omega) only [letS_d, grd_t, bnd_d, bnd1_d, bndX_d, bndX_e, gI_sI, gI_sL, gL_sL, gL_sI, upd_at, updL_at, J_lit, J_add, J_mul, J_sub, J_lt, J_le, J_inj, J_ne, ne_J, m_lt, lt_m, m_le, le_m, J_cl, J_inB, if_true, if_false, ite_true, ite_false, reduceIte, isZ0, isZ1, J_and31, shrJ0, shlJ0, gI_sA, gL_sA, Nat.reduceEqDiff, Nat.reduceAdd, Nat.reduceMul, Nat.reduceLT, Nat.reduceLeDiff], by simp (decide := true) (disch := omega) only [letS_d, grd_t, bnd_d, bnd1_d, bndX_d, bndX_e, gI_sI, gI_sL, gL_sL, gL_sI, upd_at, updL_at, J_lit, J_add, J_mul, J_sub, J_lt, J_le, J_inj, J_ne, ne_J, m_lt, lt_m, m_le, le_m, J_cl, J_inB, if_true, if_false, ite_true, ite_false, reduceIte, isZ0, isZ1, J_and31, shrJ0, shlJ0, gI_sA, gL_sA, Nat.reduceEqDiff, Nat.reduceAdd, Nat.reduceMul, Nat.reduceLT, Nat.reduceLeDiff], by simp (decide := true) (disch := omega) only [letS_d, grd_t, bnd_d, bnd1_d, bndX_d, bndX_e, gI_sI, gI_sL, gL_sL, gL_sI, upd_at, updL_at, J_lit, J_add, J_mul, J_sub, J_lt, J_le, J_inj, J_ne, ne_J, m_lt, lt_m, m_le, le_m, J_cl, J_inB, if_true, if_false, ite_true, ite_false, reduceIte, isZ0, isZ1, J_and31, shrJ0, shlJ0, gI_sA, gL_sA, Nat.reduceEqDiff, Nat.reduceAdd, Nat.reduceMul, Nat.reduceLT, Nat.reduceLeDiff], by simp (decide := true) (disch := omega) only [letS_d, grd_t, bnd_d, bnd1_d, bndX_d, bndX_e, gI_sI, gI_sL, gL_sL, gL_sI, upd_at, updL_at, J_lit, J_add, J_mul, J_sub, J_lt, J_le, J_inj, J_ne, ne_J, m_lt, lt_m, m_le, le_m, J_cl, J_inB, if_true, if_false, ite_true, ite_false, reduceIte, isZ0, isZ1, J_and31, shrJ0, shlJ0, gI_sA, gL_sA, Nat.reduceEqDiff, Nat.reduceAdd, Nat.reduceMul, Nat.reduceLT, Nat.reduceLeDiff], by simp (decide := true) (disch := omega) only [letS_d, grd_t, bnd_d, bnd1_d, bndX_d, bndX_e, gI_sI, gI_sL, gL_sL, gL_sI, upd_at, updL_at, J_lit, J_add, J_mul, J_sub, J_lt, J_le, J_inj, J_ne, ne_J, m_lt, lt_m, m_le, le_m, J_cl, J_inB, if_true, if_false, ite_true, ite_false, reduceIte, isZ0, isZ1, J_and31, shrJ0, shlJ0, gI_sA, gL_sA, Nat.reduceEqDiff, Nat.reduceAdd, Nat.reduceMul, Nat.reduceLT, Nat.reduceLeDiff], by simp (decide := true) (disch := omega) only [letS_d, grd_t, bnd_d, bnd1_d, bndX_d, bndX_e, gI_sI, gI_sL, gL_sL, gL_sI, upd_at, updL_at, J_lit, J_add, J_mul, J_sub, J_lt, J_le, J_inj, J_ne, ne_J, m_lt, lt_m, m_le, le_m, J_cl, J_inB, if_true, if_false, ite_true, ite_false, reduceIte, isZ0, isZ1, J_and31, shrJ0, shlJ0, gI_sA, gL_sA, Nat.reduceEqDiff, Nat.reduceAdd, Nat.reduceMul, Nat.reduceLT, Nat.reduceLeDiff, this], by simp (decide := true) (disch := omega) only [letS_d, grd_t, bnd_d, bnd1_d, bndX_d, bndX_e, gI_sI, gI_sL, gL_sL, gL_sI, upd_at, updL_at, J_lit, J_add, J_mul, J_sub, J_lt, J_le, J_inj, J_ne, ne_J, m_lt, lt_m, m_le, le_m, J_cl, J_inB, if_true, if_false, ite_true, ite_false, reduceIte, isZ0, isZ1, J_and31, shrJ0, shlJ0, gI_sA, gL_sA, Nat.reduceEqDiff, Nat.reduceAdd, Nat.reduceMul, Nat.reduceLT, Nat.reduceLeDiff, this], by simp (decide := true) (disch := omega) only [letS_d, grd_t, bnd_d, bnd1_d, bndX_d, bndX_e, gI_sI, gI_sL, gL_sL, gL_sI, upd_at, updL_at, J_lit, J_add, J_mul, J_sub, J_lt, J_le, J_inj, J_ne, ne_J, m_lt, lt_m, m_le, le_m, J_cl, J_inB, if_true, if_false, ite_true, ite_false, reduceIte, isZ0, isZ1, J_and31, shrJ0, shlJ0, gI_sA, gL_sA, Nat.reduceEqDiff, Nat.reduceAdd, Nat.reduceMul, Nat.reduceLT, Nat.reduceLeDiff, this], by simp (decide := true) (disch := omega) only [letS_d, grd_t, bnd_d, bnd1_d, bndX_d, bndX_e, gI_sI, gI_sL, gL_sL, gL_sI, upd_at, updL_at, J_lit, J_add, J_mul, J_sub, J_lt, J_le, J_inj, J_ne, ne_J, m_lt, lt_m, m_le, le_m, J_cl, J_inB, if_true, if_false, ite_true, ite_false, reduceIte, isZ0, isZ1, J_and31, shrJ0, shlJ0, gI_sA, gL_sA, Nat.reduceEqDiff, Nat.reduceAdd, Nat.reduceMul, Nat.reduceLT, Nat.reduceLeDiff, this]⟩)
  have hkp : ∀ L, Kp L τ1 (sI (sI (sI (sI τ2 35 c x2) 36 c x3) 37 c x4) 38 c x5) := fun L => Kp.of hfr (by decide)
  have hown : own w = false := by
    rcases hw with ⟨rfl, _⟩ | ⟨rfl, _⟩ <;> rfl
  have hnC : nC w = nC t + 1 := by
    rcases hw with ⟨rfl, _⟩ | ⟨rfl, _⟩ <;> rfl
  refine ⟨_, ?_, hfr, by simp (decide := true) (disch := omega) only [letS_d, grd_t, bnd_d, bnd1_d, bndX_d, bndX_e, gI_sI, gI_sL, gL_sL, gL_sI, upd_at, updL_at, J_lit, J_add, J_mul, J_sub, J_lt, J_le, J_inj, J_ne, ne_J, m_lt, lt_m, m_le, le_m, J_cl, J_inB, if_true, if_false, ite_true, ite_false, reduceIte, isZ0, isZ1, J_and31, shrJ0, shlJ0, gI_sA, gL_sA, Nat.reduceEqDiff, Nat.reduceAdd, Nat.reduceMul, Nat.reduceLT, Nat.reduceLeDiff]; exact s5, hlo3, ?_⟩
  · unfold fX6_readRule_111
    rw [show (-1 : Int32) = -J 1 from rfl, hadd, bnd_d]
    simp (decide := true) (disch := omega) only [letS_d, grd_t, bnd_d, bnd1_d, bndX_d, bndX_e, gI_sI, gI_sL, gL_sL, gL_sI, upd_at, updL_at, J_lit, J_add, J_mul, J_sub, J_lt, J_le, J_inj, J_ne, ne_J, m_lt, lt_m, m_le, le_m, J_cl, J_inB, if_true, if_false, ite_true, ite_false, reduceIte, isZ0, isZ1, J_and31, shrJ0, shlJ0, gI_sA, gL_sA, Nat.reduceEqDiff, Nat.reduceAdd, Nat.reduceMul, Nat.reduceLT, Nat.reduceLeDiff, decide_true, hd]
  · rcases h with ⟨g1, ⟨g2, g3, g4, g5, g6, g7, g8⟩, g9⟩ | ⟨g1, g2⟩
    · left
      obtain ⟨m1, m2, m3, m4⟩ := hm g1 g2
      refine ⟨g1, ⟨by rw [hfr.gi (by decide)]; exact g2, by rw [hX, hfr.gi (by decide)]; exact g3, by rw [hX]; exact g4, ?_, ?_⟩, g9.tr (hkp K)⟩
      · have e30 : gI (sI (sI (sI (sI τ2 35 c x2) 36 c x3) 37 c x4) 38 c x5) 30 c = J kd := by simp (decide := true) (disch := omega) only [letS_d, grd_t, bnd_d, bnd1_d, bndX_d, bndX_e, gI_sI, gI_sL, gL_sL, gL_sI, upd_at, updL_at, J_lit, J_add, J_mul, J_sub, J_lt, J_le, J_inj, J_ne, ne_J, m_lt, lt_m, m_le, le_m, J_cl, J_inB, if_true, if_false, ite_true, ite_false, reduceIte, isZ0, isZ1, J_and31, shrJ0, shlJ0, gI_sA, gL_sA, Nat.reduceEqDiff, Nat.reduceAdd, Nat.reduceMul, Nat.reduceLT, Nat.reduceLeDiff]; exact s1
        have e31 : gI (sI (sI (sI (sI τ2 35 c x2) 36 c x3) 37 c x4) 38 c x5) 31 c = J (c - 1) := by simp (decide := true) (disch := omega) only [letS_d, grd_t, bnd_d, bnd1_d, bndX_d, bndX_e, gI_sI, gI_sL, gL_sL, gL_sI, upd_at, updL_at, J_lit, J_add, J_mul, J_sub, J_lt, J_le, J_inj, J_ne, ne_J, m_lt, lt_m, m_le, le_m, J_cl, J_inB, if_true, if_false, ite_true, ite_false, reduceIte, isZ0, isZ1, J_and31, shrJ0, shlJ0, gI_sA, gL_sA, Nat.reduceEqDiff, Nat.reduceAdd, Nat.reduceMul, Nat.reduceLT, Nat.reduceLeDiff]; exact s2
        have e35 : gI (sI (sI (sI (sI τ2 35 c x2) 36 c x3) 37 c x4) 38 c x5) 35 c = J K := by simp (decide := true) (disch := omega) only [letS_d, grd_t, bnd_d, bnd1_d, bndX_d, bndX_e, gI_sI, gI_sL, gL_sL, gL_sI, upd_at, updL_at, J_lit, J_add, J_mul, J_sub, J_lt, J_le, J_inj, J_ne, ne_J, m_lt, lt_m, m_le, le_m, J_cl, J_inB, if_true, if_false, ite_true, ite_false, reduceIte, isZ0, isZ1, J_and31, shrJ0, shlJ0, gI_sA, gL_sA, Nat.reduceEqDiff, Nat.reduceAdd, Nat.reduceMul, Nat.reduceLT, Nat.reduceLeDiff]; exact m1
        have e36 : gI (sI (sI (sI (sI τ2 35 c x2) 36 c x3) 37 c x4) 38 c x5) 36 c = J (K + len s) := by simp (decide := true) (disch := omega) only [letS_d, grd_t, bnd_d, bnd1_d, bndX_d, bndX_e, gI_sI, gI_sL, gL_sL, gL_sI, upd_at, updL_at, J_lit, J_add, J_mul, J_sub, J_lt, J_le, J_inj, J_ne, ne_J, m_lt, lt_m, m_le, le_m, J_cl, J_inB, if_true, if_false, ite_true, ite_false, reduceIte, isZ0, isZ1, J_and31, shrJ0, shlJ0, gI_sA, gL_sA, Nat.reduceEqDiff, Nat.reduceAdd, Nat.reduceMul, Nat.reduceLT, Nat.reduceLeDiff]; exact m2
        have e37 : gI (sI (sI (sI (sI τ2 35 c x2) 36 c x3) 37 c x4) 38 c x5) 37 c = x4 := by simp (decide := true) (disch := omega) only [letS_d, grd_t, bnd_d, bnd1_d, bndX_d, bndX_e, gI_sI, gI_sL, gL_sL, gL_sI, upd_at, updL_at, J_lit, J_add, J_mul, J_sub, J_lt, J_le, J_inj, J_ne, ne_J, m_lt, lt_m, m_le, le_m, J_cl, J_inB, if_true, if_false, ite_true, ite_false, reduceIte, isZ0, isZ1, J_and31, shrJ0, shlJ0, gI_sA, gL_sA, Nat.reduceEqDiff, Nat.reduceAdd, Nat.reduceMul, Nat.reduceLT, Nat.reduceLeDiff]
        have e38 : gI (sI (sI (sI (sI τ2 35 c x2) 36 c x3) 37 c x4) 38 c x5) 38 c = x5 := by simp (decide := true) (disch := omega) only [letS_d, grd_t, bnd_d, bnd1_d, bndX_d, bndX_e, gI_sI, gI_sL, gL_sL, gL_sI, upd_at, updL_at, J_lit, J_add, J_mul, J_sub, J_lt, J_le, J_inj, J_ne, ne_J, m_lt, lt_m, m_le, le_m, J_cl, J_inB, if_true, if_false, ite_true, ite_false, reduceIte, isZ0, isZ1, J_and31, shrJ0, shlJ0, gI_sA, gL_sA, Nat.reduceEqDiff, Nat.reduceAdd, Nat.reduceMul, Nat.reduceLT, Nat.reduceLeDiff]
        have r1 : RC (sI (sI (sI (sI τ2 35 c x2) 36 c x3) 37 c x4) 38 c x5) t b (K + len s) := RC_keep t b _ ((hlo3.ag (b := b) (K := K) (hkp (K + X))).sub (Nat.le_refl _) (by omega) (by omega) (by omega)) g5
        have r2 : gI (sI (sI (sI (sI τ2 35 c x2) 36 c x3) 37 c x4) 38 c x5) 33 (b + nC t - 1) = tob t (K + len s) fl := by
          rw [(hlo3 (b + nC t - 1) (by omega)).2.2.2.1]
          exact g6
        have r3 : Plc K s (sI (sI (sI (sI τ2 35 c x2) 36 c x3) 37 c x4) 38 c x5) := fun j hj => by
          obtain ⟨q1, q2⟩ := hkp (K + j + 1) (K + j) (by omega)
          rw [q1, q2]
          exact g7 j hj
        subst hc
        rcases hw with ⟨rfl, rfl, rfl⟩ | ⟨rfl, rfl, rfl⟩
        · exact ⟨r1, r2, e30, e31, e35, e36, by rw [e37]; exact m3, by rw [e38]; exact m4, r3⟩
        · exact ⟨r1, r2, e30, e31, e35, e36, by rw [e37]; exact m3, by rw [e38]; exact m4, r3⟩
      · rw [show b + nC w - 1 = c from by rw [hnC]; omega, tob_no (by rw [hown]; decide)]
        simp (decide := true) (disch := omega) only [letS_d, grd_t, bnd_d, bnd1_d, bndX_d, bndX_e, gI_sI, gI_sL, gL_sL, gL_sI, upd_at, updL_at, J_lit, J_add, J_mul, J_sub, J_lt, J_le, J_inj, J_ne, ne_J, m_lt, lt_m, m_le, le_m, J_cl, J_inB, if_true, if_false, ite_true, ite_false, reduceIte, isZ0, isZ1, J_and31, shrJ0, shlJ0, gI_sA, gL_sA, Nat.reduceEqDiff, Nat.reduceAdd, Nat.reduceMul, Nat.reduceLT, Nat.reduceLeDiff]
        exact s4
    · exact Or.inr ⟨g1.fr hfr (by decide), fun h9 => by rw [hX]; exact g2 h9⟩
end FIN
