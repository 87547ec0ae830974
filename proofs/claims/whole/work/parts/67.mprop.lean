/-! the class's reader: properties, put together -/
section CP
variable {N ln : Nat} {ch : Nat → Nat}
theorem PO.wrap {p b K : Nat} {r : PR} {τ : St} {z : Option (Int32 × Int32 × St)} (h : PO ch ln p b K r τ z) : PO ch ln p b K r τ (bndX z fun r σ => some (J 0, r, σ)) := by
  obtain ⟨q, t⟩ := r
  cases t with
  | none =>
    obtain ⟨τ', z1, z2⟩ := h
    exact ⟨τ', by rw [z1, bndX_1], z2⟩
  | some t =>
    obtain ⟨τ', z1, z2⟩ := h
    exact ⟨τ', by rw [z1, bndX_d], z2⟩
/-- what is known of the read of a property one deeper -/
def HP (N ln : Nat) (ch : Nat → Nat) (f d dep : Nat) : Prop := ∀ p (τ : St) b K, Rd ch ln p τ → St0 K τ → gI τ 21 0 = J b → b ≤ p → PO ch ln p b K (pP ch f p) τ (fX6_rec N d 0 τ (J dep))
theorem cls_always {f d dep p b K : Nat} {τ : St} (hs : HP N ln ch f d (dep + 1)) (hR : Rd ch ln p τ) (h0 : St0 K τ) (h21 : gI τ 21 0 = J b) (hb : b ≤ p) (hc : ch p = 71) : PO ch ln p b K (pbind (pP ch f (p + 1)) (fun q t => (q, some (.sum t)))) τ (fX6_rec N (d + 1) 1 τ (J dep)) := by
  obtain ⟨m1, m2⟩ := cls_pass_ok (N := N) hR hc (by omega)
  have hf1 : Fr [43] τ (sI τ 43 0 (J (p + 1))) := Fr.i (by decide)
  have hso := hs (p + 1) (sI τ 43 0 (J (p + 1))) b K m2 (h0.fr hf1 (by decide)) (by simp (decide := true) (disch := omega) only [letS_d, grd_t, bnd_d, bnd1_d, bndX_d, bndX_e, gI_sI, gI_sL, gL_sL, gL_sI, upd_at, updL_at, J_lit, J_add, J_mul, J_sub, J_lt, J_le, J_inj, J_ne, ne_J, m_lt, lt_m, m_le, le_m, J_cl, J_inB, if_true, if_false, ite_true, ite_false, reduceIte, isZ0, isZ1, J_and31, shrJ0, shlJ0, gI_sA, gL_sA, Nat.reduceEqDiff, Nat.reduceAdd, Nat.reduceMul, Nat.reduceLT, Nat.reduceLeDiff]; exact h21) (by omega)
  have hz : fX6_rec N (d + 1) 1 τ (J dep) = bndX (fX6_rec N d 0 (sI τ 43 0 (J (p + 1))) (J (dep + 1))) fun r5 σ4 => bnd (fX1_add N σ4 (J 71) r5 (-J 1)) fun r8 σ7 => bnd1 (fX1_oblige N σ7 r8) fun σ9 => some (J 0, r8, σ9) := by
    rw [show fX6_rec N (d + 1) 1 τ (J dep) = fX6_readAlways N (fX6_rec N d) τ (J dep) from rfl]
    unfold fX6_readAlways
    rw [show (71 : Int32) = J 71 from rfl, m1, bndX_d, show (1 : Int32) = J 1 from rfl, J_add]
    rfl
  rw [hz]
  generalize pP ch f (p + 1) = r at hso ⊢
  obtain ⟨q, t⟩ := r
  cases t with
  | none =>
    obtain ⟨τ', z1, z2, z3⟩ := hso
    exact ⟨τ', by rw [z1, bndX_1], (Fr.i (by decide)).tr z2, z3⟩
  | some t =>
    obtain ⟨τ', z1, z2, z3, z4, z5, z6, z7⟩ := hso
    have hql := z3.2.2.2.2.2
    have hln := z3.2.2.1
    obtain ⟨τ3, e1, e2, e3, e4, e5⟩ := fin_sum (N := N) (c := b + nC t) rfl (by omega) z4 z7
    rw [z1, bndX_d]
    have hnC : nC (.sum t) = nC t + 1 := rfl
    refine ⟨τ3, ?_, ((Fr.i (by decide)).tr z2).tr (e2.mono (by decide)), z3.fr e2 (by decide), by rw [hnC]; exact e3, by rw [hnC]; omega, ((Lo.of hf1 (by decide)).tr z6).tr (e4.le (by omega)), e5.pre hf1 (by decide)⟩
    rw [e1, hnC]
    rfl
theorem cls_behind {f d dep p b K : Nat} {τ : St} (hs : HP N ln ch f d (dep + 1)) (hR : Rd ch ln p τ) (h0 : St0 K τ) (h21 : gI τ 21 0 = J b) (hb : b ≤ p) (hc : ch p = 88) : PO ch ln p b K (pbind (pP ch f (p + 1)) (fun q t => (q, some (.old t)))) τ (fX6_rec N (d + 1) 2 τ (J dep)) := by
  obtain ⟨m1, m2⟩ := cls_pass_ok (N := N) hR hc (by omega)
  have hf1 : Fr [43] τ (sI τ 43 0 (J (p + 1))) := Fr.i (by decide)
  have hso := hs (p + 1) (sI τ 43 0 (J (p + 1))) b K m2 (h0.fr hf1 (by decide)) (by simp (decide := true) (disch := omega) only [letS_d, grd_t, bnd_d, bnd1_d, bndX_d, bndX_e, gI_sI, gI_sL, gL_sL, gL_sI, upd_at, updL_at, J_lit, J_add, J_mul, J_sub, J_lt, J_le, J_inj, J_ne, ne_J, m_lt, lt_m, m_le, le_m, J_cl, J_inB, if_true, if_false, ite_true, ite_false, reduceIte, isZ0, isZ1, J_and31, shrJ0, shlJ0, gI_sA, gL_sA, Nat.reduceEqDiff, Nat.reduceAdd, Nat.reduceMul, Nat.reduceLT, Nat.reduceLeDiff]; exact h21) (by omega)
  have hz : fX6_rec N (d + 1) 2 τ (J dep) = bndX (fX6_rec N d 0 (sI τ 43 0 (J (p + 1))) (J (dep + 1))) fun r5 σ4 => bnd1 (fX1_oblige N σ4 r5) fun σ7 => bnd (fX1_add N σ7 (J 88) r5 (-J 1)) fun r9 σ8 => some (J 0, r9, σ8) := by
    rw [show fX6_rec N (d + 1) 2 τ (J dep) = fX6_readBehind N (fX6_rec N d) τ (J dep) from rfl]
    unfold fX6_readBehind
    rw [show (88 : Int32) = J 88 from rfl, m1, bndX_d, show (1 : Int32) = J 1 from rfl, J_add]
    rfl
  rw [hz]
  generalize pP ch f (p + 1) = r at hso ⊢
  obtain ⟨q, t⟩ := r
  cases t with
  | none =>
    obtain ⟨τ', z1, z2, z3⟩ := hso
    exact ⟨τ', by rw [z1, bndX_1], (Fr.i (by decide)).tr z2, z3⟩
  | some t =>
    obtain ⟨τ', z1, z2, z3, z4, z5, z6, z7⟩ := hso
    have hql := z3.2.2.2.2.2
    have hln := z3.2.2.1
    obtain ⟨τ3, e1, e2, e3, e4, e5⟩ := fin_old (N := N) (c := b + nC t) rfl (by omega) z4 z7
    rw [z1, bndX_d]
    have hnC : nC (.old t) = nC t + 1 := rfl
    refine ⟨τ3, ?_, ((Fr.i (by decide)).tr z2).tr (e2.mono (by decide)), z3.fr e2 (by decide), by rw [hnC]; exact e3, by rw [hnC]; omega, ((Lo.of hf1 (by decide)).tr z6).tr e4, e5.pre hf1 (by decide)⟩
    rw [e1, hnC]
    rfl
theorem cls_pair {f d dep p b K : Nat} {τ : St} (hs : HP N ln ch f d (dep + 1)) (hR : Rd ch ln p τ) (h0 : St0 K τ) (h21 : gI τ 21 0 = J b) (hb : b ≤ p) (hc : ch p = 40) : PO ch ln p b K (pbind (pP ch f (p + 1)) (fun q a => if ch q = 38 ∨ ch q = 124 ∨ ch q = 87 then pbind (pP ch f (q + 1)) (fun r b => if ch r = 41 then (r + 1, some (if ch q = 38 then .add a b else if ch q = 124 then .sub a b else .mul a b)) else (r, none)) else (q, none))) τ (fX6_rec N (d + 1) 3 τ (J dep)) := by
  obtain ⟨m1, m2⟩ := cls_pass_ok (N := N) hR hc (by omega)
  have hf1 : Fr [43] τ (sI τ 43 0 (J (p + 1))) := Fr.i (by decide)
  have hso := hs (p + 1) (sI τ 43 0 (J (p + 1))) b K m2 (h0.fr hf1 (by decide)) (by simp (decide := true) (disch := omega) only [letS_d, grd_t, bnd_d, bnd1_d, bndX_d, bndX_e, gI_sI, gI_sL, gL_sL, gL_sI, upd_at, updL_at, J_lit, J_add, J_mul, J_sub, J_lt, J_le, J_inj, J_ne, ne_J, m_lt, lt_m, m_le, le_m, J_cl, J_inB, if_true, if_false, ite_true, ite_false, reduceIte, isZ0, isZ1, J_and31, shrJ0, shlJ0, gI_sA, gL_sA, Nat.reduceEqDiff, Nat.reduceAdd, Nat.reduceMul, Nat.reduceLT, Nat.reduceLeDiff]; exact h21) (by omega)
  rw [show fX6_rec N (d + 1) 3 τ (J dep) = fX6_readPair N (fX6_rec N d) τ (J dep) from rfl]
  unfold fX6_readPair
  rw [show (40 : Int32) = J 40 from rfl, m1, bndX_d, show J dep + (1 : Int32) = J (dep + 1) from J_add _ _]
  generalize pP ch f (p + 1) = r at hso ⊢
  obtain ⟨q, t⟩ := r
  cases t with
  | none =>
    obtain ⟨τ', z1, z2, z3⟩ := hso
    exact ⟨τ', by rw [z1, bndX_1], (Fr.i (by decide)).tr z2, z3⟩
  | some t =>
    obtain ⟨τ1, z1, z2, z3, z4, z5, z6, z7⟩ := hso
    have hql := z3.2.2.2.2.2
    have hln := z3.2.2.1
    have hcq := z3.ch_lt q
    have z7' := z7.pre hf1 (by decide)
    have hF1 : Fr [21, 22, 23, 24, 25, 30, 31, 32, 33, 34, 35, 36, 37, 38, 43, 45, 46] τ τ1 := (Fr.i (by decide)).tr z2
    have hL1 : Lo b τ τ1 := (Lo.of hf1 (by decide)).tr z6
    rw [z1, bndX_d, cls_peek z3, bnd_d]
    show PO ch ln p b K (if ch q = 38 ∨ ch q = 124 ∨ ch q = 87 then _ else _) τ _
    by_cases hk : ch q = 38 ∨ ch q = 124 ∨ ch q = 87
    · rw [if_pos hk]
      have hqlt := z3.lt (i := q) (by omega)
      have hz : (if J (ch q) = (38 : Int32) then fX6_readPair_38 N (fX6_rec N d) τ1 (J dep) (J (b + nC t - 1)) (J (ch q)) else if J (ch q) = (124 : Int32) then fX6_readPair_38 N (fX6_rec N d) τ1 (J dep) (J (b + nC t - 1)) (J (ch q)) else if J (ch q) = (87 : Int32) then fX6_readPair_38 N (fX6_rec N d) τ1 (J dep) (J (b + nC t - 1)) (J (ch q)) else fX6_readPair_43 N (fX6_rec N d) τ1 (J dep) (J (b + nC t - 1)) (J (ch q)) (0 : Int32)) = fX6_readPair_43 N (fX6_rec N d) τ1 (J dep) (J (b + nC t - 1)) (J (ch q)) (J 1) := by
        rcases hk with h | h | h <;> rw [h] <;> rfl
      rw [hz]
      unfold fX6_readPair_43
      rw [cls_req1, bndX_d, letS_d, z3.1, show J q + (1 : Int32) = J (q + 1) from J_add _ _, show J dep + (1 : Int32) = J (dep + 1) from J_add _ _]
      have m3 := z3.go (q := q + 1) (by omega)
      have hf2 : Fr [43] τ1 (sI τ1 43 0 (J (q + 1))) := Fr.i (by decide)
      obtain ⟨k, hk1, hk2, hk3⟩ := Pw_k z7'
      have hso2 := hs (q + 1) (sI τ1 43 0 (J (q + 1))) (b + nC t) k m3 (hk2.fr hf2 (by decide)) (by simp (decide := true) (disch := omega) only [letS_d, grd_t, bnd_d, bnd1_d, bndX_d, bndX_e, gI_sI, gI_sL, gL_sL, gL_sI, upd_at, updL_at, J_lit, J_add, J_mul, J_sub, J_lt, J_le, J_inj, J_ne, ne_J, m_lt, lt_m, m_le, le_m, J_cl, J_inB, if_true, if_false, ite_true, ite_false, reduceIte, isZ0, isZ1, J_and31, shrJ0, shlJ0, gI_sA, gL_sA, Nat.reduceEqDiff, Nat.reduceAdd, Nat.reduceMul, Nat.reduceLT, Nat.reduceLeDiff]; exact z4) (by omega)
      generalize pP ch f (q + 1) = r at hso2 ⊢
      obtain ⟨r, u⟩ := r
      cases u with
      | none =>
        obtain ⟨τ', y1, y2, y3⟩ := hso2
        exact ⟨τ', by rw [y1, bndX_1], ((hF1.mono (by decide)).tr (Fr.i (by decide))).tr y2, y3⟩
      | some u =>
        obtain ⟨τ2, y1, y2, y3, y4, y5, y6, y7⟩ := hso2
        have hrl := y3.2.2.2.2.2
        have hcr := y3.ch_lt r
        have y7' := y7.pre hf2 (by decide)
        rw [y1, bndX_d, show (41 : Int32) = J 41 from rfl]
        show PO ch ln p b K (if ch r = 41 then _ else _) τ _
        by_cases h41 : ch r = 41
        · rw [if_pos h41]
          obtain ⟨m5, m6⟩ := cls_pass_ok (N := N) y3 h41 (by omega)
          have hrlt := y3.lt (i := r) (by omega)
          have hf3 : Fr [43] τ2 (sI τ2 43 0 (J (r + 1))) := Fr.i (by decide)
          rw [m5, bndX_d]
          have hlo2 : Lo (b + nC t) τ1 (sI τ2 43 0 (J (r + 1))) := ((Lo.of hf2 (by decide)).tr y6).tr (Lo.of hf3 (by decide))
          have hPw2 : Pw u (b + nC t) k τ1 (sI τ2 43 0 (J (r + 1))) := by
            rcases y7' with ⟨g1, ⟨g2, g3, g4, g5, g6⟩, g7⟩ | ⟨g1, g2⟩
            · exact Or.inl ⟨g1, ⟨by simp (decide := true) (disch := omega) only [letS_d, grd_t, bnd_d, bnd1_d, bndX_d, bndX_e, gI_sI, gI_sL, gL_sL, gL_sI, upd_at, updL_at, J_lit, J_add, J_mul, J_sub, J_lt, J_le, J_inj, J_ne, ne_J, m_lt, lt_m, m_le, le_m, J_cl, J_inB, if_true, if_false, ite_true, ite_false, reduceIte, isZ0, isZ1, J_and31, shrJ0, shlJ0, gI_sA, gL_sA, Nat.reduceEqDiff, Nat.reduceAdd, Nat.reduceMul, Nat.reduceLT, Nat.reduceLeDiff]; exact g2, by simp (decide := true) (disch := omega) only [letS_d, grd_t, bnd_d, bnd1_d, bndX_d, bndX_e, gI_sI, gI_sL, gL_sL, gL_sI, upd_at, updL_at, J_lit, J_add, J_mul, J_sub, J_lt, J_le, J_inj, J_ne, ne_J, m_lt, lt_m, m_le, le_m, J_cl, J_inB, if_true, if_false, ite_true, ite_false, reduceIte, isZ0, isZ1, J_and31, shrJ0, shlJ0, gI_sA, gL_sA, Nat.reduceEqDiff, Nat.reduceAdd, Nat.reduceMul, Nat.reduceLT, Nat.reduceLeDiff]; exact g3, g4, RC_keep u _ _ ((Lo.of (b := b + nC t + nC u) hf3 (by decide)).ag (Kp.of hf3 (by decide))) g5, by simp (decide := true) (disch := omega) only [letS_d, grd_t, bnd_d, bnd1_d, bndX_d, bndX_e, gI_sI, gI_sL, gL_sL, gL_sI, upd_at, updL_at, J_lit, J_add, J_mul, J_sub, J_lt, J_le, J_inj, J_ne, ne_J, m_lt, lt_m, m_le, le_m, J_cl, J_inB, if_true, if_false, ite_true, ite_false, reduceIte, isZ0, isZ1, J_and31, shrJ0, shlJ0, gI_sA, gL_sA, Nat.reduceEqDiff, Nat.reduceAdd, Nat.reduceMul, Nat.reduceLT, Nat.reduceLeDiff]; exact g6⟩, g7.tr (Kp.of hf3 (by decide))⟩
            · exact Or.inr ⟨g1.fr hf3 (by decide), g2⟩
          have htwo := two_of z7' hk1 hk3 hPw2 hlo2
          have np := nC_pos t
          have nu := nC_pos u
          obtain ⟨τ3, e1, e2, e3, e4, e5⟩ := fin_pair (N := N) (kd := ch q) (c := b + nC t + nC u) rfl (by omega) hk (by simp (decide := true) (disch := omega) only [letS_d, grd_t, bnd_d, bnd1_d, bndX_d, bndX_e, gI_sI, gI_sL, gL_sL, gL_sI, upd_at, updL_at, J_lit, J_add, J_mul, J_sub, J_lt, J_le, J_inj, J_ne, ne_J, m_lt, lt_m, m_le, le_m, J_cl, J_inB, if_true, if_false, ite_true, ite_false, reduceIte, isZ0, isZ1, J_and31, shrJ0, shlJ0, gI_sA, gL_sA, Nat.reduceEqDiff, Nat.reduceAdd, Nat.reduceMul, Nat.reduceLT, Nat.reduceLeDiff]; exact y4) htwo
          have hnC : nC (if ch q = 38 then Term.add t u else if ch q = 124 then .sub t u else .mul t u) = nC t + nC u + 1 := by
            split
            · rfl
            · split <;> rfl
          refine ⟨τ3, ?_, (((hF1.tr (Fr.i (by decide))).tr y2).tr (Fr.i (by decide))).tr (e2.mono (by decide)), m6.fr e2 (by decide), by rw [hnC, show b + (nC t + nC u + 1) = b + nC t + nC u + 1 from by omega]; exact e3, by rw [hnC]; omega, (hL1.tr (hlo2.le (by omega))).tr (e4.le (by omega)), e5⟩
          rw [hnC, show b + (nC t + nC u + 1) - 1 = b + nC t + nC u from by omega]
          exact e1
        · rw [if_neg h41]
          have m5 := cls_pass_no (N := N) y3 h41 (by omega)
          exact ⟨sI τ2 44 0 (J r), by rw [m5, bndX_1], (((hF1.mono (by decide)).tr (Fr.i (by decide))).tr (y2.mono (by decide))).tr (Fr.i (by decide)), by simp (decide := true) (disch := omega) only [letS_d, grd_t, bnd_d, bnd1_d, bndX_d, bndX_e, gI_sI, gI_sL, gL_sL, gL_sI, upd_at, updL_at, J_lit, J_add, J_mul, J_sub, J_lt, J_le, J_inj, J_ne, ne_J, m_lt, lt_m, m_le, le_m, J_cl, J_inB, if_true, if_false, ite_true, ite_false, reduceIte, isZ0, isZ1, J_and31, shrJ0, shlJ0, gI_sA, gL_sA, Nat.reduceEqDiff, Nat.reduceAdd, Nat.reduceMul, Nat.reduceLT, Nat.reduceLeDiff]⟩
    · rw [if_neg hk]
      have n1 : ¬ ch q = 38 := fun h => hk (Or.inl h)
      have n2 : ¬ ch q = 124 := fun h => hk (Or.inr (Or.inl h))
      have n3 : ¬ ch q = 87 := fun h => hk (Or.inr (Or.inr h))
      have hreq := cls_req0 (N := N) z3.1
      refine ⟨sI τ1 44 0 (J q), ?_, (hF1.mono (by decide)).tr (Fr.i (by decide)), by simp (decide := true) (disch := omega) only [letS_d, grd_t, bnd_d, bnd1_d, bndX_d, bndX_e, gI_sI, gI_sL, gL_sL, gL_sI, upd_at, updL_at, J_lit, J_add, J_mul, J_sub, J_lt, J_le, J_inj, J_ne, ne_J, m_lt, lt_m, m_le, le_m, J_cl, J_inB, if_true, if_false, ite_true, ite_false, reduceIte, isZ0, isZ1, J_and31, shrJ0, shlJ0, gI_sA, gL_sA, Nat.reduceEqDiff, Nat.reduceAdd, Nat.reduceMul, Nat.reduceLT, Nat.reduceLeDiff]⟩
      simp (decide := true) (disch := omega) only [letS_d, grd_t, bnd_d, bnd1_d, bndX_d, bndX_e, gI_sI, gI_sL, gL_sL, gL_sI, upd_at, updL_at, J_lit, J_add, J_mul, J_sub, J_lt, J_le, J_inj, J_ne, ne_J, m_lt, lt_m, m_le, le_m, J_cl, J_inB, if_true, if_false, ite_true, ite_false, reduceIte, isZ0, isZ1, J_and31, shrJ0, shlJ0, gI_sA, gL_sA, Nat.reduceEqDiff, Nat.reduceAdd, Nat.reduceMul, Nat.reduceLT, Nat.reduceLeDiff, n1, n2, n3, fX6_readPair_43, hreq, bndX_1]
theorem cls_rule (hN : 100 ≤ N) {f d dep p b K : Nat} {τ : St} (hdep : dep + 1 + f = 13) (hd : 3 * f + 3 < d) (hs : HP N ln ch f d (dep + 1)) (hR : Rd ch ln p τ) (h0 : St0 K τ) (h21 : gI τ 21 0 = J b) (hb : b ≤ p) (hc : ch p = 123) : PO ch ln p b K (pbind (sP ch f (p + 1)) (fun q s => if ch q = 125 then (if ch (q + 1) = 62 ∨ ch (q + 1) = 58 then pbind (pP ch f (q + 2)) (fun r t => (r, some (if ch (q + 1) = 62 then .div s t else .rem s t))) else (q + 1, none)) else (q, none))) τ (fX6_rec N (d + 1) 4 τ (J dep)) := by
  obtain ⟨m1, m2⟩ := cls_pass_ok (N := N) hR hc (by omega)
  have hf1 : Fr [43] τ (sI τ 43 0 (J (p + 1))) := Fr.i (by decide)
  have hso := cls_seq (N := N) (ch := ch) (ln := ln) hN f (dep + 1) d (p + 1) (sI τ 43 0 (J (p + 1))) K hdep hd m2 (h0.fr hf1 (by decide))
  rw [show fX6_rec N (d + 1) 4 τ (J dep) = fX6_readRule N (fX6_rec N d) τ (J dep) from rfl]
  unfold fX6_readRule
  have h22 : gI (sI τ 43 0 (J (p + 1))) 22 0 = J K := by simp (decide := true) (disch := omega) only [letS_d, grd_t, bnd_d, bnd1_d, bndX_d, bndX_e, gI_sI, gI_sL, gL_sL, gL_sI, upd_at, updL_at, J_lit, J_add, J_mul, J_sub, J_lt, J_le, J_inj, J_ne, ne_J, m_lt, lt_m, m_le, le_m, J_cl, J_inB, if_true, if_false, ite_true, ite_false, reduceIte, isZ0, isZ1, J_and31, shrJ0, shlJ0, gI_sA, gL_sA, Nat.reduceEqDiff, Nat.reduceAdd, Nat.reduceMul, Nat.reduceLT, Nat.reduceLeDiff]; exact h0.2.1
  rw [show (123 : Int32) = J 123 from rfl, m1, bndX_d, show J dep + (1 : Int32) = J (dep + 1) from J_add _ _, h22, letS_d]
  have hpos := sP_pos (ch := ch) f (p + 1)
  generalize sP ch f (p + 1) = r at hso hpos ⊢
  obtain ⟨q, s⟩ := r
  cases s with
  | none =>
    obtain ⟨τ', z1, z2, z3⟩ := hso
    exact ⟨τ', by rw [z1, bndX_1], (Fr.i (by decide)).tr (z2.mono (by decide)), z3⟩
  | some s =>
    obtain ⟨τ1, z1, z2, z3, z4⟩ := hso
    have hq := hpos q s rfl
    have hql := z3.2.2.2.2.2
    have hln := z3.2.2.1
    have z4' := z4.pre hf1 (by decide)
    have hF1 : Fr [22, 23, 24, 25, 43, 45, 46] τ τ1 := (Fr.i (by decide)).tr z2
    rw [z1, bndX_d, letS_d, letS_d, letS_d, show (125 : Int32) = J 125 from rfl]
    show PO ch ln p b K (if ch q = 125 then _ else _) τ _
    by_cases h125 : ch q = 125
    · rw [if_pos h125]
      obtain ⟨m3, m4⟩ := cls_pass_ok (N := N) z3 h125 (by omega)
      have hf2 : Fr [43] τ1 (sI τ1 43 0 (J (q + 1))) := Fr.i (by decide)
      rw [m3, bndX_d, cls_peek m4, bnd_d]
      have hql1 := m4.2.2.2.2.2
      have hcq := m4.ch_lt (q + 1)
      by_cases hk : ch (q + 1) = 62 ∨ ch (q + 1) = 58
      · rw [if_pos hk]
        have hqlt := m4.lt (i := q + 1) (by omega)
        have hz : ∀ x3 x4 x5, (if J (ch (q + 1)) = (62 : Int32) then fX6_readRule_68 N (fX6_rec N d) (sI τ1 43 0 (J (q + 1))) (J dep) (J K) x3 x4 x5 (J (ch (q + 1))) else if J (ch (q + 1)) = (58 : Int32) then fX6_readRule_68 N (fX6_rec N d) (sI τ1 43 0 (J (q + 1))) (J dep) (J K) x3 x4 x5 (J (ch (q + 1))) else fX6_readRule_73 N (fX6_rec N d) (sI τ1 43 0 (J (q + 1))) (J dep) (J K) x3 x4 x5 (J (ch (q + 1))) (0 : Int32)) = fX6_readRule_73 N (fX6_rec N d) (sI τ1 43 0 (J (q + 1))) (J dep) (J K) x3 x4 x5 (J (ch (q + 1))) (J 1) := by
          intro x3 x4 x5
          rcases hk with h | h <;> rw [h] <;> rfl
        rw [hz]
        unfold fX6_readRule_73
        rw [cls_req1, bndX_d, letS_d, m4.1, show J (q + 1) + (1 : Int32) = J (q + 2) from J_add _ _, show J dep + (1 : Int32) = J (dep + 1) from J_add _ _]
        have m5 := m4.go (q := q + 2) (by omega)
        generalize hτ2 : sI (sI τ1 43 0 (J (q + 1))) 43 0 (J (q + 2)) = τ2 at m5 ⊢
        have hf3 : Fr [43] τ1 τ2 := by
          rw [← hτ2]
          exact (Fr.i (by decide)).tr (Fr.i (by decide))
        obtain ⟨k, hk1, hk2, hk3⟩ := Pv_k z4'
        have h21' : gI τ2 21 0 = J b := by
          rw [hf3.gi (by decide), hF1.gi (by decide)]
          exact h21
        have hso2 := hs (q + 2) τ2 b k m5 (hk2.fr hf3 (by decide)) h21' (by omega)
        have hLo2 : Lo b τ τ2 := (Lo.of hF1 (by decide)).tr (Lo.of hf3 (by decide))
        have hF2 : Fr [22, 23, 24, 25, 43, 45, 46] τ τ2 := hF1.tr (hf3.mono (by decide))
        generalize pP ch f (q + 2) = r at hso2 ⊢
        obtain ⟨r, t⟩ := r
        cases t with
        | none =>
          obtain ⟨τ', y1, y2, y3⟩ := hso2
          exact ⟨τ', by rw [y1, bndX_1], (hF2.mono (by decide)).tr y2, y3⟩
        | some t =>
          obtain ⟨τ3, y1, y2, y3, y4, y5, y6, y7⟩ := hso2
          have hrl := y3.2.2.2.2.2
          have y7' := y7.pre hf3 (by decide)
          have np := nC_pos t
          have hs1 := z4.1
          -- what the rule's registers hold
          have hm : gI τ 23 0 = J 1 → gI τ1 23 0 = J 1 → (J K : Int32) = J K ∧ gI τ1 22 0 = J (K + len s) ∧ Mk (gI τ1 45 0) K (fi s) ∧ Mk (gI τ1 46 0) K (la s) := fun _ h1 => by
            rcases z4'.2 with ⟨_, ⟨v1, v2, v3, v4, v5, v6⟩, _⟩ | ⟨⟨v1, _⟩, _⟩
            · exact ⟨rfl, v2, v5, v6⟩
            · exact absurd (h1.symm.trans v1) J10
          -- places stay
          have hplc : gI τ1 23 0 = J 1 → ∀ τ4, Kp (K + len s) τ1 τ4 → Plc K s τ1 → Plc K s τ4 := fun _ τ4 hkp h j hj => by
            obtain ⟨q1, q2⟩ := hkp (K + j) (by omega)
            rw [q1, q2]
            exact h j hj
          rw [y1, bndX_d]
          by_cases h58 : ch (q + 1) = 58
          · have h62 : ¬ ch (q + 1) = 62 := by omega
            obtain ⟨τ4, o1, o2, o3, o4⟩ := fin_ob (N := N) (b := b) (by omega) y7'
            have o4' : (gI τ 23 0 = J 1 ∧ (gI τ4 23 0 = J 1 ∧ gI τ4 22 0 = J (K + (len s + oC t + (if own t = true then 0 else 1))) ∧ K + (len s + oC t + (if own t = true then 0 else 1)) ≤ 9 ∧ RC τ4 t b (K + len s) ∧ gI τ4 33 (b + nC t - 1) = tob t (K + len s) true ∧ Plc K s τ4 ∧ len s + oC t ≤ len s + oC t + (if own t = true then 0 else 1)) ∧ Kp K τ τ4) ∨ (Nx K τ4 ∧ (gI τ 23 0 = J 1 → 9 < K + (len s + oC t + (if own t = true then 0 else 1)))) := by
              rcases o4 with ⟨g1, ⟨g2, g3, g4, g5, g6⟩, g7⟩ | ⟨g1, g2⟩
              · have hkk := hk3 g1
                subst hkk
                rcases z4'.2 with ⟨v0, ⟨v1, v2, v3, v4, v5, v6⟩, v7⟩ | ⟨⟨v1, _⟩, _⟩
                · exact Or.inl ⟨v0, ⟨g2, by rw [show K + (len s + oC t + (if own t = true then 0 else 1)) = K + len s + (oC t + (if own t = true then 0 else 1)) from by omega]; exact g3, by omega, g5, g6, hplc g1 τ4 g7 v4, by omega⟩, v7.tr (g7.le (by omega))⟩
                · exact absurd (g1.symm.trans v1) J10
              · refine Or.inr ⟨g1.le hk1, fun h9 => ?_⟩
                rcases z4'.2 with ⟨v0, ⟨v1, v2, v3, v4, v5, v6⟩, v7⟩ | ⟨_, v2⟩
                · have := g2 v1
                  have := hk3 v1
                  omega
                · have := v2 h9
                  omega
            obtain ⟨τ5, e1, e2, e3, e4, e5⟩ := fin_rule (N := N) (s := s) (t := t) (b := b) (K := K) (c := b + nC t) (kd := 58) (fl := true) (x2 := J K) (x3 := gI τ1 22 0) (x4 := gI τ1 45 0) (x5 := gI τ1 46 0) (τ0 := τ) (τ1 := τ4) (.rem s t) (Or.inr ⟨rfl, rfl, rfl⟩) (X := len s + oC t + (if own t = true then 0 else 1)) rfl rfl (by omega) (by rw [o2.gi (by decide)]; exact y4) (fun h1 h2 => by
              rcases o4 with ⟨g1, _, _⟩ | ⟨⟨g1, _⟩, _⟩
              · exact hm h1 g1
              · exact absurd (h2.symm.trans g1) J10) o4'
            show PO ch ln p b K (r, some (if ch (q + 1) = 62 then .div s t else .rem s t)) τ _
            rw [if_neg h62]
            have hnC : nC (.rem s t) = nC t + 1 := rfl
            refine ⟨τ5, ?_, (((hF2.mono (by decide)).tr y2).tr (o2.mono (by decide))).tr (e2.mono (by decide)), (y3.fr o2 (by decide)).fr e2 (by decide), by rw [hnC]; exact e3, by rw [hnC]; omega, ((hLo2.tr y6).tr o3).tr (e4.le (by omega)), e5⟩
            rw [h58, if_pos (show J 58 = (58 : Int32) from rfl), o1, bnd1_d, hnC]
            exact e1
          · have h62 : ch (q + 1) = 62 := by omega
            have o4' : (gI τ 23 0 = J 1 ∧ (gI τ3 23 0 = J 1 ∧ gI τ3 22 0 = J (K + (len s + oC t)) ∧ K + (len s + oC t) ≤ 9 ∧ RC τ3 t b (K + len s) ∧ gI τ3 33 (b + nC t - 1) = tob t (K + len s) false ∧ Plc K s τ3 ∧ len s + oC t ≤ len s + oC t) ∧ Kp K τ τ3) ∨ (Nx K τ3 ∧ (gI τ 23 0 = J 1 → 9 < K + (len s + oC t))) := by
              rcases y7' with ⟨g1, ⟨g2, g3, g4, g5, g6⟩, g7⟩ | ⟨g1, g2⟩
              · have hkk := hk3 g1
                subst hkk
                rcases z4'.2 with ⟨v0, ⟨v1, v2, v3, v4, v5, v6⟩, v7⟩ | ⟨⟨v1, _⟩, _⟩
                · exact Or.inl ⟨v0, ⟨g2, by rw [← Nat.add_assoc]; exact g3, by omega, g5, g6, hplc g1 τ3 g7 v4, by omega⟩, v7.tr (g7.le (by omega))⟩
                · exact absurd (g1.symm.trans v1) J10
              · refine Or.inr ⟨g1.le hk1, fun h9 => ?_⟩
                rcases z4'.2 with ⟨v0, ⟨v1, v2, v3, v4, v5, v6⟩, v7⟩ | ⟨_, v2⟩
                · have := g2 v1
                  have := hk3 v1
                  omega
                · have := v2 h9
                  omega
            obtain ⟨τ5, e1, e2, e3, e4, e5⟩ := fin_rule (N := N) (s := s) (t := t) (b := b) (K := K) (c := b + nC t) (kd := 62) (fl := false) (x2 := J K) (x3 := gI τ1 22 0) (x4 := gI τ1 45 0) (x5 := gI τ1 46 0) (τ0 := τ) (τ1 := τ3) (.div s t) (Or.inl ⟨rfl, rfl, rfl⟩) (X := len s + oC t) rfl rfl (by omega) y4 (fun h1 h2 => by
              rcases y7' with ⟨g1, _, _⟩ | ⟨⟨g1, _⟩, _⟩
              · exact hm h1 g1
              · exact absurd (h2.symm.trans g1) J10) o4'
            show PO ch ln p b K (r, some (if ch (q + 1) = 62 then .div s t else .rem s t)) τ _
            rw [if_pos h62]
            have hnC : nC (.div s t) = nC t + 1 := rfl
            refine ⟨τ5, ?_, ((hF2.mono (by decide)).tr y2).tr (e2.mono (by decide)), y3.fr e2 (by decide), by rw [hnC]; exact e3, by rw [hnC]; omega, (hLo2.tr y6).tr (e4.le (by omega)), e5⟩
            rw [h62, if_neg (show ¬ J 62 = (58 : Int32) by decide), hnC]
            exact e1
      · rw [if_neg hk]
        have n1 : ¬ ch (q + 1) = 62 := fun h => hk (Or.inl h)
        have n2 : ¬ ch (q + 1) = 58 := fun h => hk (Or.inr h)
        have hreq := cls_req0 (N := N) m4.1
        refine ⟨sI (sI τ1 43 0 (J (q + 1))) 44 0 (J (q + 1)), ?_, ((hF1.mono (by decide)).tr (Fr.i (by decide))).tr (Fr.i (by decide)), by simp (decide := true) (disch := omega) only [letS_d, grd_t, bnd_d, bnd1_d, bndX_d, bndX_e, gI_sI, gI_sL, gL_sL, gL_sI, upd_at, updL_at, J_lit, J_add, J_mul, J_sub, J_lt, J_le, J_inj, J_ne, ne_J, m_lt, lt_m, m_le, le_m, J_cl, J_inB, if_true, if_false, ite_true, ite_false, reduceIte, isZ0, isZ1, J_and31, shrJ0, shlJ0, gI_sA, gL_sA, Nat.reduceEqDiff, Nat.reduceAdd, Nat.reduceMul, Nat.reduceLT, Nat.reduceLeDiff]⟩
        simp (decide := true) (disch := omega) only [letS_d, grd_t, bnd_d, bnd1_d, bndX_d, bndX_e, gI_sI, gI_sL, gL_sL, gL_sI, upd_at, updL_at, J_lit, J_add, J_mul, J_sub, J_lt, J_le, J_inj, J_ne, ne_J, m_lt, lt_m, m_le, le_m, J_cl, J_inB, if_true, if_false, ite_true, ite_false, reduceIte, isZ0, isZ1, J_and31, shrJ0, shlJ0, gI_sA, gL_sA, Nat.reduceEqDiff, Nat.reduceAdd, Nat.reduceMul, Nat.reduceLT, Nat.reduceLeDiff, n1, n2, fX6_readRule_73, hreq, bndX_1]
    · rw [if_neg h125]
      have m5 := cls_pass_no (N := N) z3 h125 (by omega)
      exact ⟨sI τ1 44 0 (J q), by rw [m5, bndX_1], (hF1.mono (by decide)).tr (Fr.i (by decide)), by simp (decide := true) (disch := omega) only [letS_d, grd_t, bnd_d, bnd1_d, bndX_d, bndX_e, gI_sI, gI_sL, gL_sL, gL_sI, upd_at, updL_at, J_lit, J_add, J_mul, J_sub, J_lt, J_le, J_inj, J_ne, ne_J, m_lt, lt_m, m_le, le_m, J_cl, J_inB, if_true, if_false, ite_true, ite_false, reduceIte, isZ0, isZ1, J_and31, shrJ0, shlJ0, gI_sA, gL_sA, Nat.reduceEqDiff, Nat.reduceAdd, Nat.reduceMul, Nat.reduceLT, Nat.reduceLeDiff]⟩
theorem bP_kind {f p q : Nat} {t : Term} (h : bP ch (f + 1) p = (q, some t)) (h40 : ¬ ch p = 40) : (∃ v, t = .index v) ∨ (∃ x, t = .length x) := by
  unfold bP at h
  by_cases h33 : ch p = 33
  · rw [if_pos h33] at h
    generalize bP ch f (p + 1) = r at h
    obtain ⟨a, b⟩ := r
    cases b with
    | none => cases h
    | some b => cases h; exact Or.inr ⟨_, rfl⟩
  · rw [if_neg h33, if_neg h40] at h
    split at h
    · cases h; exact Or.inl ⟨_, rfl⟩
    · cases h
theorem cls_prop (hN : 100 ≤ N) : ∀ f dep d, dep + f = 13 → 3 * f + 5 < d → HP N ln ch f d dep := by
  intro f
  induction f with
  | zero =>
    intro dep d hd hdd p τ b K hR h0 h21 hb
    obtain ⟨d, rfl⟩ : ∃ k, d = k + 1 := ⟨d - 1, by omega⟩
    obtain rfl : dep = 13 := by omega
    refine ⟨sI τ 44 0 (J p), ?_, Fr.i (by decide), by simp (decide := true) (disch := omega) only [letS_d, grd_t, bnd_d, bnd1_d, bndX_d, bndX_e, gI_sI, gI_sL, gL_sL, gL_sI, upd_at, updL_at, J_lit, J_add, J_mul, J_sub, J_lt, J_le, J_inj, J_ne, ne_J, m_lt, lt_m, m_le, le_m, J_cl, J_inB, if_true, if_false, ite_true, ite_false, reduceIte, isZ0, isZ1, J_and31, shrJ0, shlJ0, gI_sA, gL_sA, Nat.reduceEqDiff, Nat.reduceAdd, Nat.reduceMul, Nat.reduceLT, Nat.reduceLeDiff]⟩
    unfold fX6_rec fX6_readProperty fX6_readProperty_12
    have := cls_req0 (N := N) hR.1
    simp (decide := true) (disch := omega) only [letS_d, grd_t, bnd_d, bnd1_d, bndX_d, bndX_e, gI_sI, gI_sL, gL_sL, gL_sI, upd_at, updL_at, J_lit, J_add, J_mul, J_sub, J_lt, J_le, J_inj, J_ne, ne_J, m_lt, lt_m, m_le, le_m, J_cl, J_inB, if_true, if_false, ite_true, ite_false, reduceIte, isZ0, isZ1, J_and31, shrJ0, shlJ0, gI_sA, gL_sA, Nat.reduceEqDiff, Nat.reduceAdd, Nat.reduceMul, Nat.reduceLT, Nat.reduceLeDiff, this, bndX_1]
  | succ f ih =>
    intro dep d hd hdd p τ b K hR h0 h21 hb
    obtain ⟨d, rfl⟩ : ∃ k, d = k + 2 := ⟨d - 2, by omega⟩
    have hs : HP N ln ch f d (dep + 1) := ih (dep + 1) d (by omega) (by omega)
    have hcp := hR.ch_lt p
    have hpl := hR.2.2.2.2.2
    have hln := hR.2.2.1
    have hbase : fX6_rec N (d + 2) 0 τ (J dep) = (if J (ch p) = (40 : Int32) then bndX (fX6_rec N (d + 1) 3 τ (J dep)) fun r9 σ8 => some ((0 : Int32), r9, σ8) else if J (ch p) = (71 : Int32) then bndX (fX6_rec N (d + 1) 1 τ (J dep)) fun r13 σ12 => some ((0 : Int32), r13, σ12) else if J (ch p) = (88 : Int32) then bndX (fX6_rec N (d + 1) 2 τ (J dep)) fun r17 σ16 => some ((0 : Int32), r17, σ16) else if J (ch p) = (123 : Int32) then bndX (fX6_rec N (d + 1) 4 τ (J dep)) fun r21 σ20 => some ((0 : Int32), r21, σ20) else bndX (fX6_rec N (d + 1) 8 τ (J dep)) fun r24 σ23 => bnd (fX1_addBoolean N σ23 r24) fun r27 σ26 => some ((0 : Int32), r27, σ26)) := by
      rw [show fX6_rec N (d + 2) 0 τ (J dep) = fX6_readProperty N (fX6_rec N (d + 1)) τ (J dep) from rfl]
      unfold fX6_readProperty
      rw [if_neg (show ¬ (12 : Int32) < J dep by
        show ¬ J 12 < J dep
        rw [J_lt (by omega) (by omega)]
        omega)]
      unfold fX6_readProperty_12
      rw [show (1 : Int32) = J 1 from rfl, cls_req1, bndX_d, cls_peek hR, bnd_d]
    rw [hbase]
    unfold pP
    by_cases c1 : ch p = 71
    · rw [if_pos c1]
      have := (cls_always (N := N) hs hR h0 h21 hb c1).wrap
      rw [c1]
      exact this
    · rw [if_neg c1]
      by_cases c2 : ch p = 88
      · rw [if_pos c2]
        have := (cls_behind (N := N) hs hR h0 h21 hb c2).wrap
        rw [c2]
        exact this
      · rw [if_neg c2]
        by_cases c3 : ch p = 123
        · rw [if_pos c3]
          have := (cls_rule (N := N) hN (by omega) (by omega) hs hR h0 h21 hb c3).wrap
          rw [c3]
          exact this
        · rw [if_neg c3]
          by_cases c4 : ch p = 40
          · rw [if_pos c4]
            have := (cls_pair (N := N) hs hR h0 h21 hb c4).wrap
            rw [c4]
            exact this
          · rw [if_neg c4]
            have hz : (if J (ch p) = (40 : Int32) then bndX (fX6_rec N (d + 1) 3 τ (J dep)) fun r9 σ8 => some ((0 : Int32), r9, σ8) else if J (ch p) = (71 : Int32) then bndX (fX6_rec N (d + 1) 1 τ (J dep)) fun r13 σ12 => some ((0 : Int32), r13, σ12) else if J (ch p) = (88 : Int32) then bndX (fX6_rec N (d + 1) 2 τ (J dep)) fun r17 σ16 => some ((0 : Int32), r17, σ16) else if J (ch p) = (123 : Int32) then bndX (fX6_rec N (d + 1) 4 τ (J dep)) fun r21 σ20 => some ((0 : Int32), r21, σ20) else bndX (fX6_rec N (d + 1) 8 τ (J dep)) fun r24 σ23 => bnd (fX1_addBoolean N σ23 r24) fun r27 σ26 => some ((0 : Int32), r27, σ26)) = bndX (fX6_rec N (d + 1) 8 τ (J dep)) fun r24 σ23 => bnd (fX1_addBoolean N σ23 r24) fun r27 σ26 => some (J 0, r27, σ26) := by
              simp (decide := true) (disch := omega) only [letS_d, grd_t, bnd_d, bnd1_d, bndX_d, bndX_e, gI_sI, gI_sL, gL_sL, gL_sI, upd_at, updL_at, J_lit, J_add, J_mul, J_sub, J_lt, J_le, J_inj, J_ne, ne_J, m_lt, lt_m, m_le, le_m, J_cl, J_inB, if_true, if_false, ite_true, ite_false, reduceIte, isZ0, isZ1, J_and31, shrJ0, shlJ0, gI_sA, gL_sA, Nat.reduceEqDiff, Nat.reduceAdd, Nat.reduceMul, Nat.reduceLT, Nat.reduceLeDiff, c1, c2, c3, c4]
            rw [hz]
            have hbo := cls_bool (N := N) (ch := ch) (ln := ln) hN (f + 1) dep (d + 1) p τ (by omega) (by omega) hR
            have hkind := fun q t h => bP_kind (ch := ch) (f := f) (p := p) (q := q) (t := t) h c4
            have hpos := fun q t h => bP_pos (ch := ch) (f + 1) p q t h
            generalize bP ch (f + 1) p = r at hbo hkind hpos ⊢
            obtain ⟨q, t⟩ := r
            cases t with
            | none =>
              obtain ⟨τ', z1, z2, z3⟩ := hbo
              exact ⟨τ', by rw [z1, bndX_1], z2.mono (by decide), z3⟩
            | some t =>
              obtain ⟨τ', z1, z2, z3⟩ := hbo
              have hq := hpos q t rfl
              have hql := z3.2.2.2.2.2
              have h21' : gI τ' 21 0 = J b := by rw [z2.gi (by decide)]; exact h21
              obtain ⟨τ2, e1, e2, e3, e4, e5⟩ := fin_bool (N := N) (h0.fr z2 (by decide)) h21' (by omega) (hkind q t rfl)
              have hnC : nC t = 1 := by
                rcases hkind q t rfl with ⟨v, rfl⟩ | ⟨x, rfl⟩ <;> rfl
              refine ⟨τ2, ?_, (z2.mono (by decide)).tr (e2.mono (by decide)), z3.fr e2 (by decide), by rw [hnC]; exact e3, by rw [hnC]; omega, (Lo.of z2 (by decide)).tr e4, e5.pre z2 (by decide)⟩
              rw [z1, bndX_d, e1, bnd_d, hnC]
              rfl
/-- the class reads a text -/
theorem cls_readAll (hN : 100 ≤ N) {τ : St} (hln : ln ≤ 40) (htx : ∀ i, i < ln → gI τ 0 i = J (ch i) ∧ 33 ≤ ch i ∧ ch i ≤ 126) (hz : ∀ i, ln ≤ i → ch i = 0) : (∃ q τ', fX6_readAll N τ (J ln) = some (J 1, J 0, τ') ∧ Fr [21, 22, 23, 24, 25, 30, 31, 32, 33, 34, 35, 36, 37, 38, 42, 43, 44, 45, 46] τ τ' ∧ gI τ' 44 0 = J q ∧ (pP ch 13 0 = (q, none) ∨ ∃ t, pP ch 13 0 = (q, some t) ∧ ¬ q = ln)) ∨ (∃ t τ', fX6_readAll N τ (J ln) = some (J 0, J 0, τ') ∧ Fr [21, 22, 23, 24, 25, 30, 31, 32, 33, 34, 35, 36, 37, 38, 42, 43, 45, 46] τ τ' ∧ pP ch 13 0 = (ln, some t) ∧ nC t ≤ ln ∧ gI τ' 21 0 = J (nC t) ∧ ((gI τ' 23 0 = J 1 ∧ gI τ' 22 0 = J (oC t + (if own t = true then 0 else 1)) ∧ oC t + (if own t = true then 0 else 1) ≤ 9 ∧ RC τ' t 0 0 ∧ gI τ' 33 (nC t - 1) = tob t 0 true) ∨ (gI τ' 23 0 = J 0 ∧ 9 < oC t + (if own t = true then 0 else 1)))) := by
  have hR : Rd ch ln 0 (sI (sI (sI (sI (sI τ 42 0 (J ln)) 43 0 (J 0)) 21 0 (J 0)) 22 0 (J 0)) 23 0 (J 1)) := ⟨by simp (decide := true) (disch := omega) only [letS_d, grd_t, bnd_d, bnd1_d, bndX_d, bndX_e, gI_sI, gI_sL, gL_sL, gL_sI, upd_at, updL_at, J_lit, J_add, J_mul, J_sub, J_lt, J_le, J_inj, J_ne, ne_J, m_lt, lt_m, m_le, le_m, J_cl, J_inB, if_true, if_false, ite_true, ite_false, reduceIte, isZ0, isZ1, J_and31, shrJ0, shlJ0, gI_sA, gL_sA, Nat.reduceEqDiff, Nat.reduceAdd, Nat.reduceMul, Nat.reduceLT, Nat.reduceLeDiff], by simp (decide := true) (disch := omega) only [letS_d, grd_t, bnd_d, bnd1_d, bndX_d, bndX_e, gI_sI, gI_sL, gL_sL, gL_sI, upd_at, updL_at, J_lit, J_add, J_mul, J_sub, J_lt, J_le, J_inj, J_ne, ne_J, m_lt, lt_m, m_le, le_m, J_cl, J_inB, if_true, if_false, ite_true, ite_false, reduceIte, isZ0, isZ1, J_and31, shrJ0, shlJ0, gI_sA, gL_sA, Nat.reduceEqDiff, Nat.reduceAdd, Nat.reduceMul, Nat.reduceLT, Nat.reduceLeDiff], hln, fun i hi => by simp (decide := true) (disch := omega) only [letS_d, grd_t, bnd_d, bnd1_d, bndX_d, bndX_e, gI_sI, gI_sL, gL_sL, gL_sI, upd_at, updL_at, J_lit, J_add, J_mul, J_sub, J_lt, J_le, J_inj, J_ne, ne_J, m_lt, lt_m, m_le, le_m, J_cl, J_inB, if_true, if_false, ite_true, ite_false, reduceIte, isZ0, isZ1, J_and31, shrJ0, shlJ0, gI_sA, gL_sA, Nat.reduceEqDiff, Nat.reduceAdd, Nat.reduceMul, Nat.reduceLT, Nat.reduceLeDiff]; exact htx i hi, hz, by omega⟩
  have hf0 : Fr [21, 22, 23, 24, 25, 30, 31, 32, 33, 34, 35, 36, 37, 38, 42, 43, 45, 46] τ (sI (sI (sI (sI (sI τ 42 0 (J ln)) 43 0 (J 0)) 21 0 (J 0)) 22 0 (J 0)) 23 0 (J 1)) := ((((Fr.i (by decide)).tr (Fr.i (by decide))).tr (Fr.i (by decide))).tr (Fr.i (by decide))).tr (Fr.i (by decide))
  have h0 : St0 0 (sI (sI (sI (sI (sI τ 42 0 (J ln)) 43 0 (J 0)) 21 0 (J 0)) 22 0 (J 0)) 23 0 (J 1)) := ⟨by omega, by simp (decide := true) (disch := omega) only [letS_d, grd_t, bnd_d, bnd1_d, bndX_d, bndX_e, gI_sI, gI_sL, gL_sL, gL_sI, upd_at, updL_at, J_lit, J_add, J_mul, J_sub, J_lt, J_le, J_inj, J_ne, ne_J, m_lt, lt_m, m_le, le_m, J_cl, J_inB, if_true, if_false, ite_true, ite_false, reduceIte, isZ0, isZ1, J_and31, shrJ0, shlJ0, gI_sA, gL_sA, Nat.reduceEqDiff, Nat.reduceAdd, Nat.reduceMul, Nat.reduceLT, Nat.reduceLeDiff], Or.inl (by simp (decide := true) (disch := omega) only [letS_d, grd_t, bnd_d, bnd1_d, bndX_d, bndX_e, gI_sI, gI_sL, gL_sL, gL_sI, upd_at, updL_at, J_lit, J_add, J_mul, J_sub, J_lt, J_le, J_inj, J_ne, ne_J, m_lt, lt_m, m_le, le_m, J_cl, J_inB, if_true, if_false, ite_true, ite_false, reduceIte, isZ0, isZ1, J_and31, shrJ0, shlJ0, gI_sA, gL_sA, Nat.reduceEqDiff, Nat.reduceAdd, Nat.reduceMul, Nat.reduceLT, Nat.reduceLeDiff])⟩
  have h21 : gI (sI (sI (sI (sI (sI τ 42 0 (J ln)) 43 0 (J 0)) 21 0 (J 0)) 22 0 (J 0)) 23 0 (J 1)) 21 0 = J 0 := by simp (decide := true) (disch := omega) only [letS_d, grd_t, bnd_d, bnd1_d, bndX_d, bndX_e, gI_sI, gI_sL, gL_sL, gL_sI, upd_at, updL_at, J_lit, J_add, J_mul, J_sub, J_lt, J_le, J_inj, J_ne, ne_J, m_lt, lt_m, m_le, le_m, J_cl, J_inB, if_true, if_false, ite_true, ite_false, reduceIte, isZ0, isZ1, J_and31, shrJ0, shlJ0, gI_sA, gL_sA, Nat.reduceEqDiff, Nat.reduceAdd, Nat.reduceMul, Nat.reduceLT, Nat.reduceLeDiff]
  have h23 : gI (sI (sI (sI (sI (sI τ 42 0 (J ln)) 43 0 (J 0)) 21 0 (J 0)) 22 0 (J 0)) 23 0 (J 1)) 23 0 = J 1 := by simp (decide := true) (disch := omega) only [letS_d, grd_t, bnd_d, bnd1_d, bndX_d, bndX_e, gI_sI, gI_sL, gL_sL, gL_sI, upd_at, updL_at, J_lit, J_add, J_mul, J_sub, J_lt, J_le, J_inj, J_ne, ne_J, m_lt, lt_m, m_le, le_m, J_cl, J_inB, if_true, if_false, ite_true, ite_false, reduceIte, isZ0, isZ1, J_and31, shrJ0, shlJ0, gI_sA, gL_sA, Nat.reduceEqDiff, Nat.reduceAdd, Nat.reduceMul, Nat.reduceLT, Nat.reduceLeDiff]
  have hun : fX6_readAll N τ (J ln) = bndX (fX6_rec N 100 0 (sI (sI (sI (sI (sI τ 42 0 (J ln)) 43 0 (J 0)) 21 0 (J 0)) 22 0 (J 0)) 23 0 (J 1)) (J 0)) fun r5 σ4 => if (gI σ4 43 0) = (gI σ4 42 0) then fX6_readAll_40 N σ4 r5 (1 : Int32) else fX6_readAll_40 N σ4 r5 (0 : Int32) := by
    unfold fX6_readAll fX1_clear
    rfl
  rw [hun]
  generalize sI (sI (sI (sI (sI τ 42 0 (J ln)) 43 0 (J 0)) 21 0 (J 0)) 22 0 (J 0)) 23 0 (J 1) = τ1 at hR hf0 h0 h21 h23 ⊢
  have hpo := cls_prop (N := N) (ln := ln) (ch := ch) hN 13 0 100 rfl (by omega) 0 τ1 0 0 hR h0 h21 (by omega)
  generalize pP ch 13 0 = r at hpo ⊢
  obtain ⟨q, t⟩ := r
  cases t with
  | none =>
    obtain ⟨τ', z1, z2, z3⟩ := hpo
    left
    exact ⟨q, τ', by rw [z1, bndX_1], (hf0.mono (by decide)).tr (z2.mono (by decide)), z3, Or.inl rfl⟩
  | some t =>
    obtain ⟨τ', z1, z2, z3, z4, z5, z6, z7⟩ := hpo
    have hql := z3.2.2.2.2.2
    rw [z1, bndX_d, z3.1, z3.2.1]
    by_cases hq : q = ln
    · right
      subst hq
      rw [if_pos rfl]
      unfold fX6_readAll_40
      rw [Nat.zero_add] at z4
      obtain ⟨τ2, o1, o2, o3, o4⟩ := fin_ob (N := N) (b := 0) (by omega) z7
      refine ⟨t, τ2, ?_, (hf0.tr (z2.mono (by decide))).tr (o2.mono (by decide)), rfl, by omega, by rw [o2.gi (by decide)]; exact z4, ?_⟩
      · rw [show (1 : Int32) = J 1 from rfl, cls_req1, bndX_d, o1, bnd1_d]
        rfl
      · rw [Nat.zero_add, Nat.zero_add] at o4
        rcases o4 with ⟨g1, ⟨g2, g3, g4, g5, g6⟩, g7⟩ | ⟨g1, g2⟩
        · exact Or.inl ⟨g2, g3, g4, g5, g6⟩
        · exact Or.inr ⟨g1.1, g2 h23⟩
    · left
      have hne : ¬ (J q : Int32) = J ln := fun h => hq (by rw [J_inj (by omega) (by omega)] at h; exact h)
      rw [if_neg hne]
      unfold fX6_readAll_40
      have hreq := cls_req0 (N := N) z3.1
      exact ⟨q, sI τ' 44 0 (J q), by rw [show (0 : Int32) = J 0 from rfl, hreq, bndX_1], ((hf0.mono (by decide)).tr (z2.mono (by decide))).tr (Fr.i (by decide)), by simp (decide := true) (disch := omega) only [letS_d, grd_t, bnd_d, bnd1_d, bndX_d, bndX_e, gI_sI, gI_sL, gL_sL, gL_sI, upd_at, updL_at, J_lit, J_add, J_mul, J_sub, J_lt, J_le, J_inj, J_ne, ne_J, m_lt, lt_m, m_le, le_m, J_cl, J_inB, if_true, if_false, ite_true, ite_false, reduceIte, isZ0, isZ1, J_and31, shrJ0, shlJ0, gI_sA, gL_sA, Nat.reduceEqDiff, Nat.reduceAdd, Nat.reduceMul, Nat.reduceLT, Nat.reduceLeDiff], Or.inr ⟨t, rfl, hq⟩⟩
end CP
