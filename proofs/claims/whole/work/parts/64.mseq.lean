/-! the class's reader: units, terms and sequences, put together -/
section RD3
variable {N ln : Nat} {ch : Nat → Nat}
theorem cls_unit (hN : 100 ≤ N) {f dep d K p : Nat} {τ : St} (hdep : dep + 1 + f = 13) (hd : 2 * f < d) (hs : ∀ p (τ : St) k, Rd ch ln p τ → St0 k τ → SO ch ln k (sP ch f p) τ (fX6_rec N d 5 τ (J (dep + 1)))) (hR : Rd ch ln p τ) (h0 : St0 K τ) : SO ch ln K (uP ch (bP ch f) (sP ch f) p) τ (fX6_rec N (d + 1) 7 τ (J dep)) := by
  have hpk := cls_peek (N := N) hR
  have hcp := hR.ch_lt p
  have hln := hR.2.2.1
  rw [show fX6_rec N (d + 1) 7 τ (J dep) = fX6_readUnit N (fX6_rec N d) τ (J dep) from rfl]
  unfold fX6_readUnit uP
  rw [hpk, bnd_d]
  by_cases h91 : ch p = 91
  · rw [if_pos h91]
    obtain ⟨m1, m2⟩ := cls_pass_ok (N := N) hR h91 (by omega)
    have hf1 : Fr [43] τ (sI τ 43 0 (J (p + 1))) := Fr.i (by decide)
    have hso := hs (p + 1) (sI τ 43 0 (J (p + 1))) K m2 (h0.fr hf1 (by decide))
    have hz : ∀ Z, (if J (ch p) = (91 : Int32) then bndX (fX6_pass N τ (91 : Int32)) fun r6 σ4 => bndX (fX6_rec N d 5 σ4 (J dep + (1 : Int32))) fun r9 σ7 => letS (gI σ7 45 0) fun u10 => letS (gI σ7 46 0) fun u11 => fX6_readUnit_62 N (fX6_rec N d) N σ7 (J dep) u10 u11 (0 : Int32) else Z) = bndX (fX6_rec N d 5 (sI τ 43 0 (J (p + 1))) (J (dep + 1))) fun r9 σ7 => fX6_readUnit_62 N (fX6_rec N d) N σ7 (J dep) (gI σ7 45 0) (gI σ7 46 0) (J 0) := fun Z => by
      simp (decide := true) (disch := omega) only [letS_d, grd_t, bnd_d, bnd1_d, bndX_d, bndX_e, gI_sI, gI_sL, gL_sL, gL_sI, upd_at, updL_at, J_lit, J_add, J_mul, J_sub, J_lt, J_le, J_inj, J_ne, ne_J, m_lt, lt_m, m_le, le_m, J_cl, J_inB, if_true, if_false, ite_true, ite_false, reduceIte, isZ0, isZ1, J_and31, shrJ0, shlJ0, gI_sA, gL_sA, Nat.reduceEqDiff, Nat.reduceAdd, Nat.reduceMul, Nat.reduceLT, Nat.reduceLeDiff, h91, m1]
    rw [hz]
    have hpos := sP_pos (ch := ch) f (p + 1)
    generalize sP ch f (p + 1) = r at hso hpos ⊢
    obtain ⟨q, s⟩ := r
    cases s with
    | none =>
      obtain ⟨τ', z1, z2, z3⟩ := hso
      exact ⟨τ', by rw [z1, bndX_1], (Fr.i (by decide)).tr z2, z3⟩
    | some s =>
      obtain ⟨τ', z1, z2, z3, z4⟩ := hso
      have hq := hpos q s rfl
      rw [z1, bndX_d]
      have z4' := z4.pre hf1 (by decide)
      have hql := z3.2.2.2.2.2
      have hlen : len (.elem .null (.old s)) = len s := by
        show len .null + len s = len s
        rw [show len .null = 0 from rfl, Nat.zero_add]
      refine cls_alts hN hs 41 q 0 N (.elem .null (.old s)) _ _ τ' (by omega) (by omega) (by omega) z3 ⟨by rw [hlen]; exact z4'.1, ?_⟩ ((Fr.i (by decide)).tr z2)
      rw [hlen]
      rcases z4'.2 with ⟨w1, ⟨v1, v2, v3, v4, v5, v6⟩, w3⟩ | ⟨w1, w2⟩
      · left
        refine ⟨w1, ⟨v1, v2, v3, fun j hj => ?_, v5.congr (fun t _ => ?_), v6.congr (fun t _ => ?_)⟩, w3⟩
        · rw [hlen] at hj
          obtain ⟨a, b⟩ := v4 j hj
          have n0 : ∀ x : Nat, ¬ x < len .null := fun x h => by
            rw [show len .null = 0 from rfl] at h
            omega
          refine ⟨?_, b.congr (fun t _ => ?_)⟩
          · rw [a]
            show _ = J (bm (if j < len .null then pl .null j else pl s (j - len .null)))
            rw [if_neg (n0 j)]
            rfl
          · show _ = (if j < len .null then decide (t < len .null) && fo .null j t else decide (len .null ≤ t) && fo s (j - len .null) (t - len .null))
            rw [if_neg (n0 j), decide_eq_true (show len .null ≤ t from Nat.zero_le t)]
            rfl
        · show _ = (if t < len .null then fi .null t else fi s (t - len .null))
          rw [if_neg (fun h => by rw [show len .null = 0 from rfl] at h; omega)]
          rfl
        · show _ = (if t < len .null then la .null t else la s (t - len .null))
          rw [if_neg (fun h => by rw [show len .null = 0 from rfl] at h; omega)]
          rfl
      · exact Or.inr ⟨w1, w2⟩
  · rw [if_neg h91]
    have hb := cls_bool (N := N) (ch := ch) (ln := ln) hN f (dep + 1) d p τ hdep hd hR
    have hz : ∀ Z, (if J (ch p) = (91 : Int32) then Z else bndX (fX6_rec N d 8 τ (J dep + (1 : Int32))) fun r13 σ12 => bnd (fX1_addPlace N σ12 r13) fun r16 σ15 => letS (sI σ15 45 0 r16) fun σ17 => letS (sI σ17 46 0 (gI σ17 45 0)) fun σ18 => some ((0 : Int32), (0 : Int32), σ18)) = bndX (fX6_rec N d 8 τ (J (dep + 1))) fun r13 σ12 => bnd (fX1_addPlace N σ12 r13) fun r16 σ15 => some (J 0, J 0, sI (sI σ15 45 0 r16) 46 0 r16) := fun Z => by
      simp (decide := true) (disch := omega) only [letS_d, grd_t, bnd_d, bnd1_d, bndX_d, bndX_e, gI_sI, gI_sL, gL_sL, gL_sI, upd_at, updL_at, J_lit, J_add, J_mul, J_sub, J_lt, J_le, J_inj, J_ne, ne_J, m_lt, lt_m, m_le, le_m, J_cl, J_inB, if_true, if_false, ite_true, ite_false, reduceIte, isZ0, isZ1, J_and31, shrJ0, shlJ0, gI_sA, gL_sA, Nat.reduceEqDiff, Nat.reduceAdd, Nat.reduceMul, Nat.reduceLT, Nat.reduceLeDiff, h91]
    rw [hz]
    generalize bP ch f p = r at hb ⊢
    obtain ⟨q, b⟩ := r
    cases b with
    | none =>
      obtain ⟨τ', z1, z2, z3⟩ := hb
      exact ⟨τ', by rw [z1, bndX_1], z2.mono (by decide), z3⟩
    | some b =>
      obtain ⟨τ', z1, z2, z3⟩ := hb
      obtain ⟨x, τ2, y1, y2, y3⟩ := cls_place (N := N) (b := b) (h0.fr z2 (by decide))
      have hfin : Fr [22, 23, 24, 25, 43, 45, 46] τ (sI (sI τ2 45 0 x) 46 0 x) := (((z2.mono (by decide)).tr (y2.mono (by decide))).tr (Fr.i (by decide))).tr (Fr.i (by decide))
      refine ⟨sI (sI τ2 45 0 x) 46 0 x, by rw [z1, bndX_d, y1, bnd_d], hfin, ?_, y3.pre z2 (by decide)⟩
      exact z3.fr (S := [22, 23, 24, 25, 45, 46]) (((y2.mono (by decide)).tr (Fr.i (by decide))).tr (Fr.i (by decide))) (by decide)
/-- repetition, fitting or not -/
theorem cls_rep (hN : 100 ≤ N) {K m n : Nat} {u : Term} {τ τ1 : St} (hm1 : 1 ≤ m) (hmn : m ≤ n) (hn : n ≤ 9) (h : Pv K u τ τ1) : ∃ τ2, fX6_repeat N τ1 (J K) (J m) (J n) = some τ2 ∧ Fr [22, 23, 24, 25, 46] τ1 τ2 ∧ Pv K (.elem u (.index (16 * m + n))) τ τ2 := by
  obtain ⟨hu, h⟩ := h
  have hmod : (16 * m + n) % 16 = n := by omega
  have hlen : len (.elem u (.index (16 * m + n))) = len u * n := by
    show len u * cps (16 * m + n) = _
    unfold cps
    rw [hmod, if_neg (by omega)]
  have hge : len u ≤ len u * n := Nat.le_mul_of_pos_right _ (by omega)
  rcases h with ⟨a, b, c⟩ | ⟨a, b⟩
  · obtain ⟨τ2, e1, e2, e3⟩ := cls_repeat (N := N) hN hm1 hmn hn hu b
    refine ⟨τ2, e1, e2, by rw [hlen]; omega, ?_⟩
    rcases e3 with ⟨_, e4, e5⟩ | ⟨e4, e5⟩
    · exact Or.inl ⟨a, e4, c.tr e5⟩
    · exact Or.inr ⟨e5, fun _ => by rw [hlen]; exact e4⟩
  · obtain ⟨τ2, e1, e2, e3⟩ := cls_repeatN (N := N) (m := m) (n := n) hn (by omega) a
    exact ⟨τ2, e1, e2, by rw [hlen]; omega, Or.inr ⟨e3, fun h9 => by have := b h9; rw [hlen]; omega⟩⟩
theorem cls_term (hN : 100 ≤ N) {f dep d K p : Nat} {τ : St} (hdep : dep + 1 + f = 13) (hd : 2 * f < d) (hs : ∀ p (τ : St) k, Rd ch ln p τ → St0 k τ → SO ch ln k (sP ch f p) τ (fX6_rec N d 5 τ (J (dep + 1)))) (hR : Rd ch ln p τ) (h0 : St0 K τ) : SO ch ln K (tP ch (bP ch f) (sP ch f) p) τ (fX6_rec N (d + 2) 6 τ (J dep)) := by
  have hun := cls_unit (N := N) hN hdep hd hs hR h0
  rw [show fX6_rec N (d + 2) 6 τ (J dep) = fX6_readTerm N (fX6_rec N (d + 1)) τ (J dep) from rfl]
  unfold fX6_readTerm tP
  rw [h0.2.1, letS_d]
  have hu9 := h0.1
  generalize uP ch (bP ch f) (sP ch f) p = r at hun ⊢
  obtain ⟨q, u⟩ := r
  cases u with
  | none =>
    obtain ⟨τ', z1, z2, z3⟩ := hun
    exact ⟨τ', by rw [z1, bndX_1], z2, z3⟩
  | some u =>
    obtain ⟨τ1, z1, z2, z3, z4⟩ := hun
    rw [z1, bndX_d]
    show SO ch ln K (xP ch q u) τ _
    unfold xP
    have hpk := cls_peek (N := N) z3
    have hcq := z3.ch_lt q
    have hu1 := z4.1
    have h43 : ∀ c, ch q = c → ¬ c = 0 → Fr [43] τ1 (sI τ1 43 0 (J (q + 1))) := fun _ _ _ => Fr.i (by decide)
    rw [hpk, bnd_d]
    by_cases hp : ch q = 43
    · rw [if_pos hp]
      obtain ⟨m1, m2⟩ := cls_pass_ok (N := N) z3 hp (by omega)
      have hf1 : Fr [43] τ1 (sI τ1 43 0 (J (q + 1))) := Fr.i (by decide)
      have hlen : len (.elem u (.index 16)) = len u := by
        show len u * cps 16 = len u
        rw [show cps 16 = 1 from rfl, Nat.mul_one]
      have key : ∃ τ3, fX1_link N (sI τ1 43 0 (J (q + 1))) (gI (sI τ1 43 0 (J (q + 1))) 46 0) (gI (sI τ1 43 0 (J (q + 1))) 45 0) = some τ3 ∧ Fr [25] (sI τ1 43 0 (J (q + 1))) τ3 ∧ Pv K (.elem u (.index 16)) τ τ3 := by
        rcases z4.2 with ⟨a, b, c⟩ | ⟨a, b⟩
        · obtain ⟨τ3, e1, e2, e3, e4⟩ := cls_plus (N := N) hN hu1 (b.fr hf1 (by decide))
          exact ⟨τ3, e1, e2, by rw [hlen]; exact hu1, Or.inl ⟨a, e3, (c.tr (Kp.of hf1 (by decide))).tr e4⟩⟩
        · obtain ⟨a1, k, a2, a3, a4⟩ := id a
          obtain ⟨τ3, e1, e2, e3, e4⟩ := cls_link (N := N) hN a3 (gI (sI τ1 43 0 (J (q + 1))) 46 0) (gI (sI τ1 43 0 (J (q + 1))) 45 0) (τ := sI τ1 43 0 (J (q + 1))) (by simp (decide := true) (disch := omega) only [letS_d, grd_t, bnd_d, bnd1_d, bndX_d, bndX_e, gI_sI, gI_sL, gL_sL, gL_sI, upd_at, updL_at, J_lit, J_add, J_mul, J_sub, J_lt, J_le, J_inj, J_ne, ne_J, m_lt, lt_m, m_le, le_m, J_cl, J_inB, if_true, if_false, ite_true, ite_false, reduceIte, isZ0, isZ1, J_and31, shrJ0, shlJ0, gI_sA, gL_sA, Nat.reduceEqDiff, Nat.reduceAdd, Nat.reduceMul, Nat.reduceLT, Nat.reduceLeDiff]; exact a4)
          exact ⟨τ3, e1, e2, by rw [hlen]; exact hu1, Or.inr ⟨(a.fr hf1 (by decide)).fr e2 (by decide), fun h9 => by rw [hlen]; exact b h9⟩⟩
      obtain ⟨τ3, e1, e2, e3⟩ := key
      refine ⟨τ3, ?_, (z2.tr (Fr.i (by decide))).tr (e2.mono (by decide)), m2.fr e2 (by decide), e3⟩
      rw [hp, if_pos (show J 43 = (43 : Int32) from rfl), show (43 : Int32) = J 43 from rfl, m1, bndX_d, e1]
      rfl
    · rw [if_neg hp]
      have hne : ¬ J (ch q) = (43 : Int32) := fun h9 => hp (by
        rw [show (43 : Int32) = J 43 from rfl, J_inj (by omega) (by omega)] at h9
        exact h9)
      rw [if_neg hne, hpk, bnd_d]
      by_cases hst : ch q = 42
      · rw [if_pos hst]
        obtain ⟨m1, m2⟩ := cls_pass_ok (N := N) z3 hst (by omega)
        obtain ⟨dg0, dg1⟩ := cls_digit (N := N) m2 (show 1 < 10 by omega)
        rw [hst, if_pos (show J 42 = (42 : Int32) from rfl), show (42 : Int32) = J 42 from rfl, m1, bndX_d, show (1 : Int32) = J 1 from rfl]
        by_cases hd1 : 49 ≤ ch (q + 1) ∧ ch (q + 1) ≤ 57
        · rw [if_pos hd1]
          obtain ⟨n1, n2⟩ := dg1 (by omega)
          rw [n1, bndX_d]
          have hpk2 := cls_peek (N := N) n2
          rw [show q + 1 + 1 = q + 2 from rfl] at hpk2 n2 ⊢
          rw [hpk2, bnd_d]
          have hc2 := n2.ch_lt (q + 2)
          have hf2 : Fr [43] τ1 (sI (sI τ1 43 0 (J (q + 1))) 43 0 (J (q + 2))) := (Fr.i (by decide)).tr (Fr.i (by decide))
          by_cases hmi : ch (q + 2) = 45
          · rw [if_pos hmi]
            obtain ⟨k1, k2⟩ := cls_pass_ok (N := N) n2 hmi (by omega)
            rw [hmi, if_pos (show J 45 = (45 : Int32) from rfl), show (45 : Int32) = J 45 from rfl, k1, bndX_d]
            rw [show q + 2 + 1 = q + 3 from rfl] at k2 ⊢
            obtain ⟨dg2, dg3⟩ := cls_digit (N := N) k2 (show ch (q + 1) - 48 < 10 by omega)
            by_cases hd2 : ch (q + 1) ≤ ch (q + 3) ∧ ch (q + 3) ≤ 57
            · rw [if_pos hd2]
              obtain ⟨l1, l2⟩ := dg3 (by omega)
              rw [l1, bndX_d]
              rw [show q + 3 + 1 = q + 4 from rfl] at l2 ⊢
              have hf4 : Fr [43] τ1 (sI (sI (sI (sI τ1 43 0 (J (q + 1))) 43 0 (J (q + 2))) 43 0 (J (q + 3))) 43 0 (J (q + 4))) := ((hf2.tr (Fr.i (by decide))).tr (Fr.i (by decide)))
              have hPv : Pv K u τ (sI (sI (sI (sI τ1 43 0 (J (q + 1))) 43 0 (J (q + 2))) 43 0 (J (q + 3))) 43 0 (J (q + 4))) := by
                refine ⟨z4.1, ?_⟩
                rcases z4.2 with ⟨a, b, c⟩ | ⟨a, b⟩
                · exact Or.inl ⟨a, b.fr hf4 (by decide), c.tr (Kp.of hf4 (by decide))⟩
                · exact Or.inr ⟨a.fr hf4 (by decide), b⟩
              obtain ⟨τ5, e1, e2, e3⟩ := cls_rep (N := N) hN (m := ch (q + 1) - 48) (n := ch (q + 3) - 48) (by omega) (by omega) (by omega) hPv
              refine ⟨τ5, ?_, (z2.tr (hf4.mono (by decide))).tr (e2.mono (by decide)), l2.fr e2 (by decide), e3⟩
              unfold fX6_readTerm_92
              rw [e1]
              rfl
            · rw [if_neg hd2]
              exact ⟨_, by rw [dg2 (by omega), bndX_1], ((z2.mono (by decide)).tr ((hf2.mono (by decide)).tr (Fr.i (by decide)))).tr (Fr.i (by decide)), by simp (decide := true) (disch := omega) only [letS_d, grd_t, bnd_d, bnd1_d, bndX_d, bndX_e, gI_sI, gI_sL, gL_sL, gL_sI, upd_at, updL_at, J_lit, J_add, J_mul, J_sub, J_lt, J_le, J_inj, J_ne, ne_J, m_lt, lt_m, m_le, le_m, J_cl, J_inB, if_true, if_false, ite_true, ite_false, reduceIte, isZ0, isZ1, J_and31, shrJ0, shlJ0, gI_sA, gL_sA, Nat.reduceEqDiff, Nat.reduceAdd, Nat.reduceMul, Nat.reduceLT, Nat.reduceLeDiff]⟩
          · rw [if_neg hmi]
            have hne2 : ¬ J (ch (q + 2)) = (45 : Int32) := fun h9 => hmi (by
              rw [show (45 : Int32) = J 45 from rfl, J_inj (by omega) (by omega)] at h9
              exact h9)
            rw [if_neg hne2]
            have hPv : Pv K u τ (sI (sI τ1 43 0 (J (q + 1))) 43 0 (J (q + 2))) := by
              refine ⟨z4.1, ?_⟩
              rcases z4.2 with ⟨a, b, c⟩ | ⟨a, b⟩
              · exact Or.inl ⟨a, b.fr hf2 (by decide), c.tr (Kp.of hf2 (by decide))⟩
              · exact Or.inr ⟨a.fr hf2 (by decide), b⟩
            obtain ⟨τ5, e1, e2, e3⟩ := cls_rep (N := N) hN (m := ch (q + 1) - 48) (n := ch (q + 1) - 48) (by omega) (by omega) (by omega) hPv
            rw [show 16 * (ch (q + 1) - 48) + (ch (q + 1) - 48) = 17 * (ch (q + 1) - 48) from by omega] at e3
            refine ⟨τ5, ?_, (z2.tr (hf2.mono (by decide))).tr (e2.mono (by decide)), n2.fr e2 (by decide), e3⟩
            unfold fX6_readTerm_92
            rw [e1]
            rfl
        · rw [if_neg hd1]
          exact ⟨_, by rw [dg0 (by omega), bndX_1], ((z2.mono (by decide)).tr (Fr.i (by decide))).tr (Fr.i (by decide)), by simp (decide := true) (disch := omega) only [letS_d, grd_t, bnd_d, bnd1_d, bndX_d, bndX_e, gI_sI, gI_sL, gL_sL, gL_sI, upd_at, updL_at, J_lit, J_add, J_mul, J_sub, J_lt, J_le, J_inj, J_ne, ne_J, m_lt, lt_m, m_le, le_m, J_cl, J_inB, if_true, if_false, ite_true, ite_false, reduceIte, isZ0, isZ1, J_and31, shrJ0, shlJ0, gI_sA, gL_sA, Nat.reduceEqDiff, Nat.reduceAdd, Nat.reduceMul, Nat.reduceLT, Nat.reduceLeDiff]⟩
      · rw [if_neg hst]
        have hne2 : ¬ J (ch q) = (42 : Int32) := fun h9 => hst (by
          rw [show (42 : Int32) = J 42 from rfl, J_inj (by omega) (by omega)] at h9
          exact h9)
        rw [if_neg hne2]
        have hlen : len (.elem u (.index 17)) = len u := by
          show len u * cps 17 = len u
          rw [show cps 17 = 1 from rfl, Nat.mul_one]
        refine ⟨τ1, rfl, z2, z3, by rw [hlen]; exact hu1, ?_⟩
        rcases z4.2 with ⟨a, b, c⟩ | ⟨a, b⟩
        · exact Or.inl ⟨a, Sx_once hu1 b, c⟩
        · exact Or.inr ⟨a, fun h9 => by rw [hlen]; exact b h9⟩
/-- a sequence so far -/
def Qx (K : Nat) (s : Term) (x2 : Int32) (τ0 τ : St) : Prop := 1 ≤ len s ∧ ((gI τ0 23 0 = J 1 ∧ (gI τ 23 0 = J 1 ∧ gI τ 22 0 = J (K + len s) ∧ K + len s ≤ 9 ∧ Plc K s τ ∧ Mk x2 K (fi s) ∧ Mk (gI τ 46 0) K (la s)) ∧ Kp K τ0 τ) ∨ (Nx K τ ∧ (gI τ0 23 0 = J 1 → 9 < K + len s)))
theorem cls_terms (hN : 100 ≤ N) {dep d K : Nat} {τ0 : St} {tq : Nat → PR} (hpos : ∀ p q t, tq p = (q, some t) → p < q) (ht : ∀ p (τ : St) k, Rd ch ln p τ → St0 k τ → SO ch ln k (tq p) τ (fX6_rec N d 6 τ (J dep))) : ∀ n q i n' s x2 (τ : St), ln < n + q → ln < n' + q → i < q → Rd ch ln q τ → Qx K s x2 τ0 τ → Fr [22, 23, 24, 25, 43, 45, 46] τ0 τ → SO ch ln K (sLp ch tq n q s) τ0 (fX6_readSequence_27 N (fX6_rec N d) n' τ (J dep) x2 (J i)) := by
  intro n
  induction n with
  | zero =>
    intro q i n' s x2 τ h1 h2 h3 hR hG hF
    have := hR.2.2.2.2.2
    omega
  | succ n ih =>
    intro q i n' s x2 τ h1 h2 h3 hR hG hF
    have hql := hR.2.2.2.2.2
    have hln := hR.2.2.1
    obtain ⟨n', rfl⟩ : ∃ k, n' = k + 1 := ⟨n' - 1, by omega⟩
    have hcq := hR.ch_lt q
    have h42 := hR.2.1
    rw [show fX6_readSequence_27 N (fX6_rec N d) (n' + 1) τ (J dep) x2 (J i) = _ from by unfold fX6_readSequence_27; rfl]
    by_cases h44 : ch q = 44
    · have hqlt := hR.lt (i := q) (by omega)
      have hni : ¬ ln ≤ i := by omega
      obtain ⟨m1, m2⟩ := cls_pass_ok (N := N) hR h44 (by omega)
      have hf1 : Fr [43] τ (sI τ 43 0 (J (q + 1))) := Fr.i (by decide)
      obtain ⟨k, hk1, hk2, hk3⟩ : ∃ k, K ≤ k ∧ St0 k τ ∧ (gI τ 23 0 = J 1 → k = K + len s) := by
        rcases hG.2 with ⟨g1, ⟨g2, g3, g4, g5, g6, g7⟩, g8⟩ | ⟨⟨g1, k, g2, g3, g4⟩, g5⟩
        · exact ⟨K + len s, by omega, ⟨g4, g3, Or.inl g2⟩, fun _ => rfl⟩
        · exact ⟨k, g2, ⟨g3, g4, Or.inr g1⟩, fun h => absurd (h.symm.trans g1) J10⟩
      have hso := ht (q + 1) (sI τ 43 0 (J (q + 1))) k m2 (hk2.fr hf1 (by decide))
      have hz : (if (gI τ 42 0) ≤ J i then fX6_readSequence_80 N (fX6_rec N d) τ x2 else bnd (fX6_peek N τ) fun r11 σ10 => if r11 = (44 : Int32) then bndX (fX6_pass N σ10 (44 : Int32)) fun r15 σ13 => letS (gI σ13 46 0) fun u16 => bndX (fX6_rec N d 6 σ13 (J dep)) fun r19 σ17 => bnd1 (fX1_link N σ17 u16 (gI σ17 45 0)) fun σ20 => letS (J i + (1 : Int32)) fun u21 => fX6_readSequence_27 N (fX6_rec N d) n' σ20 (J dep) x2 u21 else fX6_readSequence_80 N (fX6_rec N d) σ10 x2) = bndX (fX6_rec N d 6 (sI τ 43 0 (J (q + 1))) (J dep)) fun r19 σ17 => bnd1 (fX1_link N σ17 (gI τ 46 0) (gI σ17 45 0)) fun σ20 => fX6_readSequence_27 N (fX6_rec N d) n' σ20 (J dep) x2 (J (i + 1)) := by
        have hpk := cls_peek (N := N) hR
        rw [h44] at hpk
        simp (decide := true) (disch := omega) only [letS_d, grd_t, bnd_d, bnd1_d, bndX_d, bndX_e, gI_sI, gI_sL, gL_sL, gL_sI, upd_at, updL_at, J_lit, J_add, J_mul, J_sub, J_lt, J_le, J_inj, J_ne, ne_J, m_lt, lt_m, m_le, le_m, J_cl, J_inB, if_true, if_false, ite_true, ite_false, reduceIte, isZ0, isZ1, J_and31, shrJ0, shlJ0, gI_sA, gL_sA, Nat.reduceEqDiff, Nat.reduceAdd, Nat.reduceMul, Nat.reduceLT, Nat.reduceLeDiff, h42, hni, hpk, m1]
      rw [hz]
      unfold sLp
      rw [if_pos h44]
      have hpos1 := hpos (q + 1)
      generalize tq (q + 1) = r at hso hpos1 ⊢
      obtain ⟨r, t⟩ := r
      cases t with
      | none =>
        obtain ⟨τ', z1, z2, z3⟩ := hso
        exact ⟨τ', by rw [z1, bndX_1], ((hF.mono (by decide)).tr (Fr.i (by decide))).tr z2, z3⟩
      | some t =>
        obtain ⟨τ', z1, z2, z3, z4⟩ := hso
        have hr := hpos1 r t rfl
        rw [z1, bndX_d]
        have z4' := z4.pre hf1 (by decide)
        have hlen : len (.elem s (.length t)) = len s + len t := rfl
        have hs1 := hG.1
        rcases z4'.2 with ⟨w1, w2, w3⟩ | ⟨w1, w2⟩
        · have hk := hk3 w1
          rcases hG.2 with ⟨g1, ⟨g2, g3, g4, g5, g6, g7⟩, g8⟩ | ⟨⟨g1, _⟩, _⟩
          · subst hk
            obtain ⟨v1, v2, v3, v4, v5, v6⟩ := w2
            obtain ⟨τ2, l1, l2, l3, l4⟩ := cls_link (N := N) hN v3 (gI τ 46 0) (gI τ' 45 0) v2
            rw [l1, bnd1_d]
            refine ih r (i + 1) n' (.elem s (.length t)) x2 τ2 (by omega) (by omega) (by omega) (z3.fr l2 (by decide)) ⟨by rw [hlen]; omega, Or.inl ⟨g1, ⟨by rw [l2.gi (by decide)]; exact v1, by rw [hlen, ← Nat.add_assoc, l2.gi (by decide)]; exact v2, by rw [hlen]; omega, fun j hj => ?_, g6.congr (fun x _ => ?_), ?_⟩, fun o ho => ?_⟩⟩ (((hF.tr (Fr.i (by decide))).tr z2).tr (l2.mono (by decide)))
            · rw [hlen] at hj
              by_cases hjs : j < len s
              · obtain ⟨a, b⟩ := g5 j hjs
                obtain ⟨c, d9⟩ := w3 (K + j) (by omega)
                refine ⟨?_, ?_⟩
                · rw [l2.gi (by decide), c, a]
                  show _ = J (bm (if j < len s then pl s j else pl t (j - len s)))
                  rw [if_pos hjs]
                · rw [l4 (K + j) (by omega), g7.at (by omega), d9]
                  have goal : ∀ x, fo (.elem s (.length t)) j x = (fo s j x || (la s j && (decide (len s ≤ x) && fi t (x - len s)))) := fun x => by
                    show (if j < len s then (if x < len s then fo s j x else la s j && fi t (x - len s)) else (decide (len s ≤ x) && fo t (j - len s) (x - len s))) = _
                    rw [if_pos hjs]
                    by_cases hx : x < len s
                    · rw [if_pos hx, decide_eq_false (show ¬ len s ≤ x by omega)]
                      simp
                    · rw [if_neg hx, decide_eq_true (show len s ≤ x by omega)]
                      cases hy : fo s j x
                      · simp
                      · have := (fo_lt s _ _ hy).2
                        omega
                  cases hla : la s j
                  · rw [if_neg (by decide)]
                    exact b.congr (fun x _ => by rw [goal, hla]; simp)
                  · rw [if_pos rfl]
                    exact (b.or v5.base).congr (fun x _ => by rw [goal, hla]; simp)
              · obtain ⟨a, b⟩ := v4 (j - len s) (by omega)
                rw [show K + len s + (j - len s) = K + j from by omega] at a b
                refine ⟨?_, ?_⟩
                · rw [l2.gi (by decide), a]
                  show _ = J (bm (if j < len s then pl s j else pl t (j - len s)))
                  rw [if_neg hjs]
                · rw [l4 (K + j) (by omega), g7.at (by omega), nf (la_lt s) (show len s ≤ j by omega), if_neg (by decide)]
                  refine b.base.congr (fun x _ => ?_)
                  show _ = (if j < len s then (if x < len s then fo s j x else la s j && fi t (x - len s)) else (decide (len s ≤ x) && fo t (j - len s) (x - len s)))
                  rw [if_neg hjs]
            · show fi s x = (decide (x < len s) && fi s x)
              by_cases hx : x < len s
              · rw [decide_eq_true hx]
                rfl
              · rw [nf (fi_lt s) (by omega), Bool.and_false]
            · rw [l2.gi (by decide)]
              exact v6.base.congr (fun x _ => rfl)
            · obtain ⟨c, d9⟩ := w3 o (by omega)
              obtain ⟨c2, d2⟩ := g8 o ho
              exact ⟨by rw [l2.gi (by decide), c, c2], by rw [l4 o (by omega), g7.below ho (by omega), if_neg (by decide), d9, d2]⟩
          · exact absurd (w1.symm.trans g1) J10
        · obtain ⟨a1, k', a2, a3, a4⟩ := id w1
          obtain ⟨τ2, l1, l2, l3, l4⟩ := cls_link (N := N) hN a3 (gI τ 46 0) (gI τ' 45 0) a4
          rw [l1, bnd1_d]
          refine ih r (i + 1) n' (.elem s (.length t)) x2 τ2 (by omega) (by omega) (by omega) (z3.fr l2 (by decide)) ⟨by rw [hlen]; omega, Or.inr ⟨(w1.le hk1).fr l2 (by decide), fun h0 => ?_⟩⟩ (((hF.tr (Fr.i (by decide))).tr z2).tr (l2.mono (by decide)))
          rw [hlen]
          rcases hG.2 with ⟨g1, ⟨g2, g3, g4, g5, g6, g7⟩, g8⟩ | ⟨_, g2⟩
          · have := w2 g2
            have := hk3 g2
            omega
          · have := g2 h0
            omega
    · have hend : (if (gI τ 42 0) ≤ J i then fX6_readSequence_80 N (fX6_rec N d) τ x2 else bnd (fX6_peek N τ) fun r11 σ10 => if r11 = (44 : Int32) then bndX (fX6_pass N σ10 (44 : Int32)) fun r15 σ13 => letS (gI σ13 46 0) fun u16 => bndX (fX6_rec N d 6 σ13 (J dep)) fun r19 σ17 => bnd1 (fX1_link N σ17 u16 (gI σ17 45 0)) fun σ20 => letS (J i + (1 : Int32)) fun u21 => fX6_readSequence_27 N (fX6_rec N d) n' σ20 (J dep) x2 u21 else fX6_readSequence_80 N (fX6_rec N d) σ10 x2) = some (J 0, J 0, sI τ 45 0 x2) := by
        have hpk := cls_peek (N := N) hR
        by_cases hni : ln ≤ i
        · simp (decide := true) (disch := omega) only [letS_d, grd_t, bnd_d, bnd1_d, bndX_d, bndX_e, gI_sI, gI_sL, gL_sL, gL_sI, upd_at, updL_at, J_lit, J_add, J_mul, J_sub, J_lt, J_le, J_inj, J_ne, ne_J, m_lt, lt_m, m_le, le_m, J_cl, J_inB, if_true, if_false, ite_true, ite_false, reduceIte, isZ0, isZ1, J_and31, shrJ0, shlJ0, gI_sA, gL_sA, Nat.reduceEqDiff, Nat.reduceAdd, Nat.reduceMul, Nat.reduceLT, Nat.reduceLeDiff, h42, hni, fX6_readSequence_80]
        · simp (decide := true) (disch := omega) only [letS_d, grd_t, bnd_d, bnd1_d, bndX_d, bndX_e, gI_sI, gI_sL, gL_sL, gL_sI, upd_at, updL_at, J_lit, J_add, J_mul, J_sub, J_lt, J_le, J_inj, J_ne, ne_J, m_lt, lt_m, m_le, le_m, J_cl, J_inB, if_true, if_false, ite_true, ite_false, reduceIte, isZ0, isZ1, J_and31, shrJ0, shlJ0, gI_sA, gL_sA, Nat.reduceEqDiff, Nat.reduceAdd, Nat.reduceMul, Nat.reduceLT, Nat.reduceLeDiff, h42, hni, hpk, h44, fX6_readSequence_80]
      rw [hend]
      unfold sLp
      rw [if_neg h44]
      have hf1 : Fr [45] τ (sI τ 45 0 x2) := Fr.i (by decide)
      refine ⟨sI τ 45 0 x2, rfl, hF.tr (Fr.i (by decide)), hR.fr hf1 (by decide), hG.1, ?_⟩
      rcases hG.2 with ⟨g1, ⟨g2, g3, g4, g5, g6, g7⟩, g8⟩ | ⟨g1, g2⟩
      · left
        refine ⟨g1, ⟨by simp (decide := true) (disch := omega) only [letS_d, grd_t, bnd_d, bnd1_d, bndX_d, bndX_e, gI_sI, gI_sL, gL_sL, gL_sI, upd_at, updL_at, J_lit, J_add, J_mul, J_sub, J_lt, J_le, J_inj, J_ne, ne_J, m_lt, lt_m, m_le, le_m, J_cl, J_inB, if_true, if_false, ite_true, ite_false, reduceIte, isZ0, isZ1, J_and31, shrJ0, shlJ0, gI_sA, gL_sA, Nat.reduceEqDiff, Nat.reduceAdd, Nat.reduceMul, Nat.reduceLT, Nat.reduceLeDiff]; exact g2, by simp (decide := true) (disch := omega) only [letS_d, grd_t, bnd_d, bnd1_d, bndX_d, bndX_e, gI_sI, gI_sL, gL_sL, gL_sI, upd_at, updL_at, J_lit, J_add, J_mul, J_sub, J_lt, J_le, J_inj, J_ne, ne_J, m_lt, lt_m, m_le, le_m, J_cl, J_inB, if_true, if_false, ite_true, ite_false, reduceIte, isZ0, isZ1, J_and31, shrJ0, shlJ0, gI_sA, gL_sA, Nat.reduceEqDiff, Nat.reduceAdd, Nat.reduceMul, Nat.reduceLT, Nat.reduceLeDiff]; exact g3, g4, fun j hj => ?_, ?_, ?_⟩, g8.tr (Kp.of hf1 (by decide))⟩
        · obtain ⟨a, b⟩ := g5 j hj
          exact ⟨by simp (decide := true) (disch := omega) only [letS_d, grd_t, bnd_d, bnd1_d, bndX_d, bndX_e, gI_sI, gI_sL, gL_sL, gL_sI, upd_at, updL_at, J_lit, J_add, J_mul, J_sub, J_lt, J_le, J_inj, J_ne, ne_J, m_lt, lt_m, m_le, le_m, J_cl, J_inB, if_true, if_false, ite_true, ite_false, reduceIte, isZ0, isZ1, J_and31, shrJ0, shlJ0, gI_sA, gL_sA, Nat.reduceEqDiff, Nat.reduceAdd, Nat.reduceMul, Nat.reduceLT, Nat.reduceLeDiff]; exact a, by
            have e : gI (sI τ 45 0 x2) 25 (K + j) = gI τ 25 (K + j) := by simp (decide := true) (disch := omega) only [letS_d, grd_t, bnd_d, bnd1_d, bndX_d, bndX_e, gI_sI, gI_sL, gL_sL, gL_sI, upd_at, updL_at, J_lit, J_add, J_mul, J_sub, J_lt, J_le, J_inj, J_ne, ne_J, m_lt, lt_m, m_le, le_m, J_cl, J_inB, if_true, if_false, ite_true, ite_false, reduceIte, isZ0, isZ1, J_and31, shrJ0, shlJ0, gI_sA, gL_sA, Nat.reduceEqDiff, Nat.reduceAdd, Nat.reduceMul, Nat.reduceLT, Nat.reduceLeDiff]
            rw [e]
            exact b⟩
        · have e : gI (sI τ 45 0 x2) 45 0 = x2 := by simp (decide := true) (disch := omega) only [letS_d, grd_t, bnd_d, bnd1_d, bndX_d, bndX_e, gI_sI, gI_sL, gL_sL, gL_sI, upd_at, updL_at, J_lit, J_add, J_mul, J_sub, J_lt, J_le, J_inj, J_ne, ne_J, m_lt, lt_m, m_le, le_m, J_cl, J_inB, if_true, if_false, ite_true, ite_false, reduceIte, isZ0, isZ1, J_and31, shrJ0, shlJ0, gI_sA, gL_sA, Nat.reduceEqDiff, Nat.reduceAdd, Nat.reduceMul, Nat.reduceLT, Nat.reduceLeDiff]
          rw [e]
          exact g6
        · have e : gI (sI τ 45 0 x2) 46 0 = gI τ 46 0 := by simp (decide := true) (disch := omega) only [letS_d, grd_t, bnd_d, bnd1_d, bndX_d, bndX_e, gI_sI, gI_sL, gL_sL, gL_sI, upd_at, updL_at, J_lit, J_add, J_mul, J_sub, J_lt, J_le, J_inj, J_ne, ne_J, m_lt, lt_m, m_le, le_m, J_cl, J_inB, if_true, if_false, ite_true, ite_false, reduceIte, isZ0, isZ1, J_and31, shrJ0, shlJ0, gI_sA, gL_sA, Nat.reduceEqDiff, Nat.reduceAdd, Nat.reduceMul, Nat.reduceLT, Nat.reduceLeDiff]
          rw [e]
          exact g7
      · exact Or.inr ⟨g1.fr hf1 (by decide), g2⟩
theorem cls_seq (hN : 100 ≤ N) : ∀ f dep d p (τ : St) K, dep + f = 13 → 3 * f + 3 < d → Rd ch ln p τ → St0 K τ → SO ch ln K (sP ch f p) τ (fX6_rec N d 5 τ (J dep)) := by
  intro f
  induction f with
  | zero =>
    intro dep d p τ K hd hdd hR h0
    obtain ⟨d, rfl⟩ : ∃ k, d = k + 1 := ⟨d - 1, by omega⟩
    obtain rfl : dep = 13 := by omega
    refine ⟨sI τ 44 0 (J p), ?_, Fr.i (by decide), by simp (decide := true) (disch := omega) only [letS_d, grd_t, bnd_d, bnd1_d, bndX_d, bndX_e, gI_sI, gI_sL, gL_sL, gL_sI, upd_at, updL_at, J_lit, J_add, J_mul, J_sub, J_lt, J_le, J_inj, J_ne, ne_J, m_lt, lt_m, m_le, le_m, J_cl, J_inB, if_true, if_false, ite_true, ite_false, reduceIte, isZ0, isZ1, J_and31, shrJ0, shlJ0, gI_sA, gL_sA, Nat.reduceEqDiff, Nat.reduceAdd, Nat.reduceMul, Nat.reduceLT, Nat.reduceLeDiff]⟩
    unfold fX6_rec fX6_readSequence fX6_readSequence_12
    have := cls_req0 (N := N) hR.1
    simp (decide := true) (disch := omega) only [letS_d, grd_t, bnd_d, bnd1_d, bndX_d, bndX_e, gI_sI, gI_sL, gL_sL, gL_sI, upd_at, updL_at, J_lit, J_add, J_mul, J_sub, J_lt, J_le, J_inj, J_ne, ne_J, m_lt, lt_m, m_le, le_m, J_cl, J_inB, if_true, if_false, ite_true, ite_false, reduceIte, isZ0, isZ1, J_and31, shrJ0, shlJ0, gI_sA, gL_sA, Nat.reduceEqDiff, Nat.reduceAdd, Nat.reduceMul, Nat.reduceLT, Nat.reduceLeDiff, this, bndX_1]
  | succ f ih =>
    intro dep d p τ K hd hdd hR h0
    obtain ⟨d, rfl⟩ : ∃ k, d = k + 3 := ⟨d - 3, by omega⟩
    have hln := hR.2.2.1
    have hs : ∀ p (τ : St) k, Rd ch ln p τ → St0 k τ → SO ch ln k (sP ch f p) τ (fX6_rec N d 5 τ (J (dep + 1))) := fun p τ k hR h0 => ih (dep + 1) d p τ k (by omega) (by omega) hR h0
    have htm : ∀ p (τ : St) k, Rd ch ln p τ → St0 k τ → SO ch ln k (tP ch (bP ch f) (sP ch f) p) τ (fX6_rec N (d + 2) 6 τ (J dep)) := fun p τ k hR h0 => cls_term (N := N) hN (by omega) (by omega) hs hR h0
    have hbase : fX6_rec N (d + 3) 5 τ (J dep) = bndX (fX6_rec N (d + 2) 6 τ (J dep)) fun r7 σ5 => fX6_readSequence_27 N (fX6_rec N (d + 2)) N σ5 (J dep) (gI σ5 45 0) (J 0) := by
      rw [show fX6_rec N (d + 3) 5 τ (J dep) = fX6_readSequence N (fX6_rec N (d + 2)) τ (J dep) from rfl]
      unfold fX6_readSequence
      rw [if_neg (show ¬ (12 : Int32) < J dep by
        show ¬ J 12 < J dep
        rw [J_lt (by omega) (by omega)]
        omega)]
      unfold fX6_readSequence_12
      rw [show (1 : Int32) = J 1 from rfl, cls_req1, bndX_d]
      rfl
    rw [hbase]
    unfold sP
    have hso := htm p τ K hR h0
    have hpos : ∀ p q t, tP ch (bP ch f) (sP ch f) p = (q, some t) → p < q := fun p q t h => tP_pos (bP_pos f) (sP_pos f) h
    have hpos1 := hpos p
    generalize hr : tP ch (bP ch f) (sP ch f) p = r at hso hpos1 ⊢
    obtain ⟨q, t⟩ := r
    cases t with
    | none =>
      obtain ⟨τ', z1, z2, z3⟩ := hso
      exact ⟨τ', by rw [z1, bndX_1], z2, z3⟩
    | some t =>
      obtain ⟨τ', z1, z2, z3, z4⟩ := hso
      have hq := hpos1 q t rfl
      rw [z1, bndX_d]
      refine cls_terms hN hpos htm 41 q 0 N t (gI τ' 45 0) τ' (by omega) (by omega) (by omega) z3 ⟨z4.1, ?_⟩ z2
      rcases z4.2 with ⟨w1, ⟨v1, v2, v3, v4, v5, v6⟩, w3⟩ | ⟨w1, w2⟩
      · exact Or.inl ⟨w1, ⟨v1, v2, v3, v4, v5, v6⟩, w3⟩
      · exact Or.inr ⟨w1, w2⟩
end RD3
