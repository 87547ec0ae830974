/-! the class's tables: pairs, rules, and the whole -/
section FLA
variable {N l w : Nat} {V : Nat → Nat → Nat → Bool}
/-- a valuation tells a property's obligations -/
def VH (V : Nat → Nat → Nat → Bool) (w : Nat) (t : Term) (x K : Nat) : Prop := ∀ j, j < 64 → ∀ o, o < oC t → V j (kC t x o).1 (kC t x o).2 = (64 * w + j).testBit (K + o)
theorem FT_two {p q : Term} {b K x : Nat} {τ : St} (hokp : ok p) (hokq : ok q) (hshp : sh p = 0) (hshq : sh q = 0) (ihp : FT N l w V p b K (x + 1) false) (ihq : FT N l w V q (b + nC p) (K + oC p) (x + 1 + nN p) false) (hR : RC τ p b K ∧ RC τ q (b + nC p) (K + oC p)) (h33 : gI τ 33 (b + nC p - 1) = tob p K false ∧ gI τ 33 (b + nC p + nC q - 1) = tob q (K + oC p) false) (hcnt : ∃ cnt, gI τ 21 0 = J cnt ∧ b + nC p + nC q ≤ cnt ∧ cnt ≤ 40) (hk : ∃ k, gI τ 53 0 = J k ∧ K + oC p + oC q ≤ k ∧ k ≤ 9) (hVp : VH V w p (x + 1) K) (hVq : VH V w q (x + 1 + nN p) (K + oC p)) : ∃ τ1, (∀ n, fX0_fillWord_2 N (n + (nC p + nC q)) τ (J l) (J w) (J b) = fX0_fillWord_2 N n τ1 (J l) (J w) (J (b + nC p + nC q))) ∧ Fr [51, 52] τ τ1 ∧ (∀ i, i < b → gL τ1 52 i = gL τ 52 i) ∧ (∀ j, j < 64 → bl (gL τ1 52 (b + nC p - 1)) j = sem (V j) l p (x + 1)) ∧ (∀ j, j < 64 → bl (gL τ1 52 (b + nC p + nC q - 1)) j = sem (V j) l q (x + 1 + nN p)) ∧ (∀ o, o < oC p → ∀ j, j < 64 → bl (gL τ1 51 ((l * 9 + (K + o)) * 8 + w)) j = ev (V j) l p (x + 1) (kC p (x + 1) o)) ∧ (∀ o, o < oC q → ∀ j, j < 64 → bl (gL τ1 51 ((l * 9 + (K + oC p + o)) * 8 + w)) j = ev (V j) l q (x + 1 + nN p) (kC q (x + 1 + nN p) o)) ∧ ∀ z, (∀ o, o < oC p + oC q → ¬ z = (l * 9 + (K + o)) * 8 + w) → gL τ1 51 z = gL τ 51 z := by
  have np := nC_pos p
  have nq := nC_pos q
  obtain ⟨cnt, q1, q2, q3⟩ := hcnt
  obtain ⟨k, k1, k2, k3⟩ := hk
  obtain ⟨τ1, a1, a2, a3, a4, a5, a6⟩ := ihp τ hR.1 h33.1 ⟨cnt, q1, by omega, q3⟩ ⟨k, k1, by rw [oT_false]; omega, k3⟩ hVp
  obtain ⟨τ2, b1, b2, b3, b4, b5, b6⟩ := ihq τ1 (RC_fr a2 (by decide) hR.2) (by rw [a2.gi (by decide)]; exact h33.2) ⟨cnt, by rw [a2.gi (by decide)]; exact q1, by omega, q3⟩ ⟨k, by rw [a2.gi (by decide)]; exact k1, by rw [oT_false]; omega, k3⟩ hVq
  rw [oT_false] at a5 a6 b5 b6
  refine ⟨τ2, fun n => ?_, a2.tr b2, fun i hi => by rw [b3 i (by omega)]; exact a3 i hi, fun j hj => by rw [b3 _ (by omega)]; exact a4 j hj, b4, fun o ho j hj => ?_, fun o ho j hj => ?_, fun z hz => ?_⟩
  · rw [show n + (nC p + nC q) = n + nC q + nC p from by omega, a1, b1]
  · rw [b6 _ (fun o' ho' => by omega)]
    have := a5 o ho j hj
    rw [kT_lt ho] at this
    exact this
  · have := b5 o ho j hj
    rw [kT_lt ho] at this
    exact this
  · rw [b6 z (fun o ho => by have := hz (oC p + o) (by omega); omega), a6 z (fun o ho => hz o (by omega))]
/-- & | W -/
theorem FT_add {p q : Term} {b K x : Nat} {ob : Bool} (hl : l < 8) (hw : w < 8) (hokp : ok p) (hokq : ok q) (hshp : sh p = 0) (hshq : sh q = 0) (ihp : FT N l w V p b K (x + 1) false) (ihq : FT N l w V q (b + nC p) (K + oC p) (x + 1 + nN p) false) (t : Term) (ht : t = .add p q ∨ t = .sub p q) : FT N l w V t b K x ob := by
  intro τ hRC h33 hcnt hk hV
  have hnC : nC t = nC p + nC q + 1 := by rcases ht with rfl | rfl <;> rfl
  have hoC : oC t = oC p + oC q := by rcases ht with rfl | rfl <;> rfl
  have hown : own t = false := by rcases ht with rfl | rfl <;> rfl
  have hkC : ∀ o, kC t x o = if o < oC p then kC p (x + 1) o else kC q (x + 1 + nN p) (o - oC p) := fun o => by rcases ht with rfl | rfl <;> rfl
  have hev : ∀ j k, ¬ k.1 ≤ x → ev (V j) l t x k = if k.1 < x + 1 + nN p then ev (V j) l p (x + 1) k else ev (V j) l q (x + 1 + nN p) k := fun j k hk9 => by
    rcases ht with rfl | rfl
    · exact if_neg hk9
    · exact if_neg hk9
  have np := nC_pos p
  have nq := nC_pos q
  obtain ⟨cnt, q1, q2, q3⟩ := id hcnt
  obtain ⟨k, k1, k2, k3⟩ := id hk
  have hle : oC t ≤ oT t ob := by unfold oT; omega
  obtain ⟨z, hz, hRC'⟩ : ∃ z, ((t = .add p q ∧ z = 38) ∨ (t = .sub p q ∧ z = 124)) ∧ ((RC τ p b K ∧ RC τ q (b + nC p) (K + oC p)) ∧ (gI τ 33 (b + nC p - 1) = tob p K false ∧ gI τ 33 (b + nC p + nC q - 1) = tob q (K + oC p) false) ∧ gI τ 30 (b + nC p + nC q) = J z ∧ gI τ 31 (b + nC p + nC q) = J (b + nC p - 1) ∧ gI τ 32 (b + nC p + nC q) = J (b + nC p + nC q - 1)) := by
    rcases ht with rfl | rfl
    · exact ⟨38, Or.inl ⟨rfl, rfl⟩, hRC⟩
    · exact ⟨124, Or.inr ⟨rfl, rfl⟩, hRC⟩
  obtain ⟨r1, r2, r3, r4, r5⟩ := hRC'
  have hVp : VH V w p (x + 1) K := fun j hj o ho => by
    have := hV j hj o (by omega)
    rw [hkC, if_pos ho] at this
    exact this
  have hVq : VH V w q (x + 1 + nN p) (K + oC p) := fun j hj o ho => by
    have := hV j hj (oC p + o) (by omega)
    rw [hkC, if_neg (by omega), show oC p + o - oC p = o from by omega, ← Nat.add_assoc] at this
    exact this
  obtain ⟨τ1, a1, a2, a3, a4, a4', a5, a5', a6⟩ := FT_two hokp hokq hshp hshq ihp ihq r1 r2 ⟨cnt, q1, by omega, q3⟩ ⟨k, k1, by omega, k3⟩ hVp hVq
  have hd : decide (b + nC p + nC q < 40) = true := decide_eq_true (by omega)
  have h31 : gI τ1 31 (b + nC p + nC q) = J (b + nC p - 1) := by rw [a2.gi (by decide)]; exact r4
  have h32 : gI τ1 32 (b + nC p + nC q) = J (b + nC p + nC q - 1) := by rw [a2.gi (by decide)]; exact r5
  have hrows : ∀ o, o < oC t → (own t = true → ¬ o = oC t - 1) → ∀ j, j < 64 → bl (gL τ1 51 ((l * 9 + (K + o)) * 8 + w)) j = ev (V j) l t x (kC t x o) := fun o ho _ j hj => by
    rw [hkC]
    by_cases h1 : o < oC p
    · rw [if_pos h1]
      have hin := kC_in p (x + 1) o hokp hshp h1
      rw [hev j _ (by omega), if_pos (by omega)]
      exact a5 o h1 j hj
    · rw [if_neg h1]
      have hin := kC_in q (x + 1 + nN p) (o - oC p) hokq hshq (by omega)
      rw [hev j _ (by omega), if_neg (by omega)]
      have := a5' (o - oC p) (by omega) j hj
      rw [show K + oC p + (o - oC p) = K + o from by omega] at this
      exact this
  rcases hz with ⟨rfl, rfl⟩ | ⟨rfl, rfl⟩
  · have hask : fX0_askedByNode N τ1 (b + nC p + nC q) (J l) (J w) = some (gL τ1 52 (b + nC p - 1) &&& gL τ1 52 (b + nC p + nC q - 1), τ1) := by
      unfold fX0_askedByNode
      have h30 : gI τ1 30 (b + nC p + nC q) = J 38 := by rw [a2.gi (by decide)]; exact r3
      simp (decide := true) (disch := omega) only [letS_d, grd_tt, bnd_d, bnd1_d, bndX_d, bndX_e, gI_at, gI_ne, gI_sL, gL_sL, gL_sI, upd_at, updL_at, J_lit, J_add, J_mul, J_sub, J_lt, J_le, J_inj, J_ne, ne_J, m_lt, lt_m, m_le, le_m, J_cl, J_inB, if_true, if_false, ite_true, ite_false, reduceIte, isZ0, isZ1, J_and31, shrJ0, shlJ0, gI_sA, gL_sA, Nat.reduceEqDiff, Nat.reduceAdd, Nat.reduceMul, Nat.reduceLT, Nat.reduceLeDiff, h30, h31, h32, hd, decide_true]
    refine fl_top (c := b + nC p + nC q) hl hw (by rw [hnC]; omega) (by rw [hnC, show b + (nC p + nC q + 1) - 1 = b + nC p + nC q from by omega] at h33; exact h33) hcnt hk (fun n => by rw [hnC]; exact a1 n) a2 a3 hask Fr.rf (fun j hj => ?_) hrows (fun z hz => a6 z (fun o ho => hz o (by omega)))
    rw [bl_and, a4 j hj, a4' j hj]
    rfl
  · have hask : fX0_askedByNode N τ1 (b + nC p + nC q) (J l) (J w) = some (gL τ1 52 (b + nC p - 1) ||| gL τ1 52 (b + nC p + nC q - 1), τ1) := by
      unfold fX0_askedByNode
      have h30 : gI τ1 30 (b + nC p + nC q) = J 124 := by rw [a2.gi (by decide)]; exact r3
      simp (decide := true) (disch := omega) only [letS_d, grd_tt, bnd_d, bnd1_d, bndX_d, bndX_e, gI_at, gI_ne, gI_sL, gL_sL, gL_sI, upd_at, updL_at, J_lit, J_add, J_mul, J_sub, J_lt, J_le, J_inj, J_ne, ne_J, m_lt, lt_m, m_le, le_m, J_cl, J_inB, if_true, if_false, ite_true, ite_false, reduceIte, isZ0, isZ1, J_and31, shrJ0, shlJ0, gI_sA, gL_sA, Nat.reduceEqDiff, Nat.reduceAdd, Nat.reduceMul, Nat.reduceLT, Nat.reduceLeDiff, h30, h31, h32, hd, decide_true]
    refine fl_top (c := b + nC p + nC q) hl hw (by rw [hnC]; omega) (by rw [hnC, show b + (nC p + nC q + 1) - 1 = b + nC p + nC q from by omega] at h33; exact h33) hcnt hk (fun n => by rw [hnC]; exact a1 n) a2 a3 hask Fr.rf (fun j hj => ?_) hrows (fun z hz => a6 z (fun o ho => hz o (by omega)))
    rw [bl_or, a4 j hj, a4' j hj]
    rfl
theorem FT_mul {p q : Term} {b K x : Nat} {ob : Bool} (hl : l < 8) (hw : w < 8) (hokp : ok p) (hokq : ok q) (hshp : sh p = 0) (hshq : sh q = 0) (ihp : FT N l w V p b K (x + 1) false) (ihq : FT N l w V q (b + nC p) (K + oC p) (x + 1 + nN p) false) : FT N l w V (.mul p q) b K x ob := by
  intro τ hRC h33 hcnt hk hV
  have hnC : nC (.mul p q) = nC p + nC q + 1 := rfl
  have hoC : oC (.mul p q) = oC p + oC q + 1 := rfl
  have np := nC_pos p
  have nq := nC_pos q
  obtain ⟨cnt, q1, q2, q3⟩ := id hcnt
  obtain ⟨k, k1, k2, k3⟩ := id hk
  have hoT : oT (.mul p q) ob = oC p + oC q + 1 := by
    unfold oT
    rw [if_neg (fun h => by cases h.2)]
    rfl
  obtain ⟨r1, r2, r3, r4, r5⟩ := hRC
  have hVp : VH V w p (x + 1) K := fun j hj o ho => by
    have := hV j hj o (by omega)
    rw [show kC (.mul p q) x o = kC p (x + 1) o from if_pos ho] at this
    exact this
  have hVq : VH V w q (x + 1 + nN p) (K + oC p) := fun j hj o ho => by
    have := hV j hj (oC p + o) (by omega)
    rw [show kC (.mul p q) x (oC p + o) = kC q (x + 1 + nN p) (oC p + o - oC p) from (if_neg (by omega)).trans (if_pos (by omega)), show oC p + o - oC p = o from by omega, ← Nat.add_assoc] at this
    exact this
  have hVs : ∀ j, j < 64 → V j x 0 = (64 * w + j).testBit (K + (oC p + oC q)) := fun j hj => by
    have := hV j hj (oC p + oC q) (by omega)
    rw [show kC (.mul p q) x (oC p + oC q) = (x, 0) from (if_neg (by omega)).trans (if_neg (by omega))] at this
    exact this
  obtain ⟨τ1, a1, a2, a3, a4, a4', a5, a5', a6⟩ := FT_two hokp hokq hshp hshq ihp ihq r1 r2 ⟨cnt, q1, by omega, q3⟩ ⟨k, k1, by omega, k3⟩ hVp hVq
  have hd : decide (b + nC p + nC q < 40) = true := decide_eq_true (by omega)
  have h31 : gI τ1 31 (b + nC p + nC q) = J (b + nC p - 1) := by rw [a2.gi (by decide)]; exact r4
  have h32 : gI τ1 32 (b + nC p + nC q) = J (b + nC p + nC q - 1) := by rw [a2.gi (by decide)]; exact r5
  obtain ⟨y, y1, y2⟩ := cls_with (N := N) (τ := τ1) (o := K + (oC p + oC q)) (w := w) (by omega) hw
  have h33t : gI τ 33 (b + nC p + nC q) = tob (.mul p q) K ob := by
    rw [hnC, show b + (nC p + nC q + 1) - 1 = b + nC p + nC q from by omega] at h33
    exact h33
  have h33' : gI τ1 33 (b + nC p + nC q) = J (K + (oC p + oC q)) := by
    rw [a2.gi (by decide), h33t]
    unfold tob
    rw [if_pos (show own (.mul p q) = true from rfl), hoC]
    rfl
  have hask : fX0_askedByNode N τ1 (b + nC p + nC q) (J l) (J w) = some (gL τ1 52 (b + nC p + nC q - 1) ||| (gL τ1 52 (b + nC p - 1) &&& y), τ1) := by
    unfold fX0_askedByNode
    have h30 : gI τ1 30 (b + nC p + nC q) = J 87 := by rw [a2.gi (by decide)]; exact r3
    simp (decide := true) (disch := omega) only [letS_d, grd_tt, bnd_d, bnd1_d, bndX_d, bndX_e, gI_at, gI_ne, gI_sL, gL_sL, gL_sI, upd_at, updL_at, J_lit, J_add, J_mul, J_sub, J_lt, J_le, J_inj, J_ne, ne_J, m_lt, lt_m, m_le, le_m, J_cl, J_inB, if_true, if_false, ite_true, ite_false, reduceIte, isZ0, isZ1, J_and31, shrJ0, shlJ0, gI_sA, gL_sA, Nat.reduceEqDiff, Nat.reduceAdd, Nat.reduceMul, Nat.reduceLT, Nat.reduceLeDiff, h30, h31, h32, h33', hd, decide_true, y1]
  refine fl_top (c := b + nC p + nC q) hl hw (by rw [hnC]; omega) h33t hcnt hk (fun n => by rw [hnC]; exact a1 n) a2 a3 hask Fr.rf (fun j hj => ?_) (fun o ho hne j hj => ?_) (fun z hz => a6 z (fun o ho => hz o (by omega)))
  · rw [bl_or, bl_and, a4 j hj, a4' j hj, y2 j hj]
    show _ = (sem (V j) l q (x + 1 + nN p) || (sem (V j) l p (x + 1) && V j x 0))
    rw [hVs j hj]
  · have ho' := hne rfl
    by_cases h1 : o < oC p
    · rw [show kC (.mul p q) x o = kC p (x + 1) o from if_pos h1]
      have hin := kC_in p (x + 1) o hokp hshp h1
      rw [show ev (V j) l (.mul p q) x (kC p (x + 1) o) = ev (V j) l p (x + 1) (kC p (x + 1) o) from (if_neg (by omega)).trans (if_pos (by omega))]
      exact a5 o h1 j hj
    · rw [show kC (.mul p q) x o = kC q (x + 1 + nN p) (o - oC p) from (if_neg h1).trans (if_pos (by omega))]
      have hin := kC_in q (x + 1 + nN p) (o - oC p) hokq hshq (by omega)
      rw [show ev (V j) l (.mul p q) x (kC q (x + 1 + nN p) (o - oC p)) = ev (V j) l q (x + 1 + nN p) (kC q (x + 1 + nN p) (o - oC p)) from (if_neg (by omega)).trans (if_neg (by omega))]
      have := a5' (o - oC p) (by omega) j hj
      rw [show K + oC p + (o - oC p) = K + o from by omega] at this
      exact this
/-- > -/
theorem FT_div (hN : 100 ≤ N) {s p : Term} {b K x : Nat} {ob : Bool} (hl : l < 8) (hw : w < 8) (hok : ok p) (hsh : sh p = 0) (ih : FT N l w V p b (K + len s) (x + 2 + nN s) false) : FT N l w V (.div s p) b K x ob := by
  intro τ hRC h33 hcnt hk hV
  obtain ⟨r1, r2, r3, r4, r5, r6, r7, r8, r9⟩ := hRC
  have hnC : nC (.div s p) = nC p + 1 := rfl
  have hoC : oC (.div s p) = len s + oC p := rfl
  have np := nC_pos p
  obtain ⟨cnt, q1, q2, q3⟩ := id hcnt
  obtain ⟨k, k1, k2, k3⟩ := id hk
  have hle : oC (.div s p) ≤ oT (.div s p) ob := by unfold oT; omega
  have hV1 : VH V w p (x + 2 + nN s) (K + len s) := fun j hj o ho => by
    have := hV j hj (len s + o) (by omega)
    rw [show kC (.div s p) x (len s + o) = kC p (x + 2 + nN s) (len s + o - len s) from if_neg (by omega), show len s + o - len s = o from by omega, ← Nat.add_assoc] at this
    exact this
  have hVs : ∀ j, j < 64 → ∀ i, i < len s → V j x (i + 1) = (64 * w + j).testBit (K + i) := fun j hj i hi => by
    have := hV j hj i (by omega)
    rw [show kC (.div s p) x i = (x, i + 1) from if_pos hi] at this
    exact this
  obtain ⟨τ1, a1, a2, a3, a4, a5, a6⟩ := ih τ r1 r2 ⟨cnt, q1, by omega, q3⟩ ⟨k, k1, by rw [oT_false]; omega, k3⟩ hV1
  rw [oT_false] at a5 a6
  have hd : decide (b + nC p < 40) = true := decide_eq_true (by omega)
  have hRL : RLH τ1 (b + nC p) K k s := RLH.fr (τ := τ) ⟨r5, r6, r7, r8, r9, k1⟩ a2 (by decide)
  obtain ⟨y, τ2, e1, e2, e3, e4, e5⟩ := cls_rule2 (N := N) hN (x := x) (V := V) (thn := fun j => sem (V j) l p (x + 2 + nN s)) (atE := gL τ1 52 (b + nC p - 1)) (show b + nC p < 40 by omega) k3 (by omega) hl hw a4 hVs hRL
  have hask : fX0_askedByNode N τ1 (b + nC p) (J l) (J w) = some (y, τ2) := by
    unfold fX0_askedByNode
    have h30 : gI τ1 30 (b + nC p) = J 62 := by rw [a2.gi (by decide)]; exact r3
    have h31 : gI τ1 31 (b + nC p) = J (b + nC p - 1) := by rw [a2.gi (by decide)]; exact r4
    simp (decide := true) (disch := omega) only [letS_d, grd_tt, bnd_d, bnd1_d, bndX_d, bndX_e, gI_at, gI_ne, gI_sL, gL_sL, gL_sI, upd_at, updL_at, J_lit, J_add, J_mul, J_sub, J_lt, J_le, J_inj, J_ne, ne_J, m_lt, lt_m, m_le, le_m, J_cl, J_inB, if_true, if_false, ite_true, ite_false, reduceIte, isZ0, isZ1, J_and31, shrJ0, shlJ0, gI_sA, gL_sA, Nat.reduceEqDiff, Nat.reduceAdd, Nat.reduceMul, Nat.reduceLT, Nat.reduceLeDiff, h30, h31, hd, decide_true, e1]
  refine fl_top (c := b + nC p) hl hw (by rw [hnC]; rfl) (by rw [show b + nC (.div s p) - 1 = b + nC p from by omega] at h33; exact h33) hcnt hk (fun n => by rw [hnC]; exact a1 n) a2 a3 hask e2 (fun j hj => e5 j hj) (fun o ho _ j hj => ?_) (fun z hz => ?_)
  · by_cases h1 : o < len s
    · rw [show kC (.div s p) x o = (x, o + 1) from if_pos h1, e4 o h1 j hj]
      exact ((if_pos (Nat.le_refl x)).trans (if_neg (by show ¬ o + 1 = 0; omega))).symm
    · rw [show kC (.div s p) x o = kC p (x + 2 + nN s) (o - len s) from if_neg h1]
      have hin := kC_in p (x + 2 + nN s) (o - len s) hok hsh (by omega)
      rw [show ev (V j) l (.div s p) x (kC p (x + 2 + nN s) (o - len s)) = ev (V j) l p (x + 2 + nN s) (kC p (x + 2 + nN s) (o - len s)) from if_neg (by omega), e3 _ (fun p' hp' => by omega)]
      have := a5 (o - len s) (by omega) j hj
      rw [kT_lt (by omega), show K + len s + (o - len s) = K + o from by omega] at this
      exact this
  · rw [e3 z (fun p' hp' => hz p' (by omega))]
    exact a6 z (fun o ho => by have := hz (len s + o) (by omega); omega)
/-- : -/
theorem FT_rem (hN : 100 ≤ N) {s p : Term} {b K x : Nat} {ob : Bool} (hl : l < 8) (hw : w < 8) (hok : ok p) (hsh : sh p = 0) (ih : FT N l w V p b (K + len s) (x + 2 + nN s) true) : FT N l w V (.rem s p) b K x ob := by
  intro τ hRC h33 hcnt hk hV
  obtain ⟨r1, r2, r3, r4, r5, r6, r7, r8, r9⟩ := hRC
  have hnC : nC (.rem s p) = nC p + 1 := rfl
  have hoC : oC (.rem s p) = len s + oT p true := by
    rw [oT_true, ← Nat.add_assoc]
    rfl
  have np := nC_pos p
  obtain ⟨cnt, q1, q2, q3⟩ := id hcnt
  obtain ⟨k, k1, k2, k3⟩ := id hk
  have hle : oC (.rem s p) ≤ oT (.rem s p) ob := by unfold oT; omega
  have hpo : oC p ≤ oT p true := by unfold oT; omega
  have hkC : ∀ o, ¬ o < len s → kC (.rem s p) x o = kT p (x + 2 + nN s) (o - len s) := fun o ho => by
    refine (if_neg ho).trans ?_
    unfold kT
    by_cases h1 : o < len s + oC p
    · rw [if_pos h1, if_pos (by omega)]
    · rw [if_neg h1, if_neg (by omega)]
  have hV1 : VH V w p (x + 2 + nN s) (K + len s) := fun j hj o ho => by
    have := hV j hj (len s + o) (by omega)
    rw [hkC _ (by omega), show len s + o - len s = o from by omega, ← Nat.add_assoc, kT_lt ho] at this
    exact this
  have hVs : ∀ j, j < 64 → ∀ i, i < len s → V j x (i + 1) = (64 * w + j).testBit (K + i) := fun j hj i hi => by
    have := hV j hj i (by omega)
    rw [show kC (.rem s p) x i = (x, i + 1) from if_pos hi] at this
    exact this
  obtain ⟨τ1, a1, a2, a3, a4, a5, a6⟩ := ih τ r1 r2 ⟨cnt, q1, by omega, q3⟩ ⟨k, k1, by omega, k3⟩ hV1
  have hd : decide (b + nC p < 40) = true := decide_eq_true (by omega)
  have hd2 : decide (b + nC p - 1 < 40) = true := decide_eq_true (by omega)
  obtain ⟨oo, o1, o2, o3⟩ : ∃ oo, oo < oT p true ∧ tob p (K + len s) true = J (K + len s + oo) ∧ ∀ j, j < 64 → V j (x + 2 + nN s) 0 = (64 * w + j).testBit (K + len s + oo) := by
    rcases tob_cases p (K + len s) true (x + 2 + nN s) with ⟨t1, t2, t3⟩ | ⟨o, t1, t2, t3, t4, t5, t6⟩
    · exfalso
      rw [oT_true, t3] at t2
      have t2 : oC p + 1 = oC p := t2
      omega
    · refine ⟨o, t2, t1, fun j hj => ?_⟩
      have := hV j hj (len s + o) (by omega)
      rw [hkC _ (by omega), show len s + o - len s = o from by omega, t3, ← Nat.add_assoc] at this
      exact this
  have hRL : RLH τ1 (b + nC p) K k s := RLH.fr (τ := τ) ⟨r5, r6, r7, r8, r9, k1⟩ a2 (by decide)
  obtain ⟨a, y1, y2⟩ := cls_with (N := N) (τ := τ1) (o := K + len s + oo) (w := w) (by omega) hw
  obtain ⟨y, τ2, e1, e2, e3, e4, e5⟩ := cls_rule2 (N := N) hN (x := x) (V := V) (thn := fun j => V j (x + 2 + nN s) 0) (atE := a) (show b + nC p < 40 by omega) k3 (by omega) hl hw (fun j hj => by rw [y2 j hj, o3 j hj]) hVs hRL
  have hask : fX0_askedByNode N τ1 (b + nC p) (J l) (J w) = some (y, τ2) := by
    unfold fX0_askedByNode
    have h30 : gI τ1 30 (b + nC p) = J 58 := by rw [a2.gi (by decide)]; exact r3
    have h31 : gI τ1 31 (b + nC p) = J (b + nC p - 1) := by rw [a2.gi (by decide)]; exact r4
    have h33' : gI τ1 33 (b + nC p - 1) = J (K + len s + oo) := by rw [a2.gi (by decide), r2]; exact o2
    simp (decide := true) (disch := omega) only [letS_d, grd_tt, bnd_d, bnd1_d, bndX_d, bndX_e, gI_at, gI_ne, gI_sL, gL_sL, gL_sI, upd_at, updL_at, J_lit, J_add, J_mul, J_sub, J_lt, J_le, J_inj, J_ne, ne_J, m_lt, lt_m, m_le, le_m, J_cl, J_inB, if_true, if_false, ite_true, ite_false, reduceIte, isZ0, isZ1, J_and31, shrJ0, shlJ0, gI_sA, gL_sA, Nat.reduceEqDiff, Nat.reduceAdd, Nat.reduceMul, Nat.reduceLT, Nat.reduceLeDiff, h30, h31, h33', hd, hd2, decide_true, y1, e1]
  refine fl_top (c := b + nC p) hl hw (by rw [hnC]; rfl) (by rw [show b + nC (.rem s p) - 1 = b + nC p from by omega] at h33; exact h33) hcnt hk (fun n => by rw [hnC]; exact a1 n) a2 a3 hask e2 (fun j hj => e5 j hj) (fun o ho _ j hj => ?_) (fun z hz => ?_)
  · by_cases h1 : o < len s
    · rw [show kC (.rem s p) x o = (x, o + 1) from if_pos h1, e4 o h1 j hj]
      exact ((if_pos (Nat.le_refl x)).trans (if_neg (by show ¬ o + 1 = 0; omega))).symm
    · rw [hkC o h1]
      have hin : ¬ (kT p (x + 2 + nN s) (o - len s)).1 ≤ x := by
        unfold kT
        by_cases ho' : o - len s < oC p
        · rw [if_pos ho']
          have hin := (kC_in p (x + 2 + nN s) (o - len s) hok hsh ho').1
          omega
        · rw [if_neg ho']
          show ¬ x + 2 + nN s ≤ x
          omega
      rw [show ev (V j) l (.rem s p) x (kT p (x + 2 + nN s) (o - len s)) = ev (V j) l p (x + 2 + nN s) (kT p (x + 2 + nN s) (o - len s)) from if_neg hin, e3 _ (fun p' hp' => by omega)]
      have := a5 (o - len s) (by omega) j hj
      rw [show K + len s + (o - len s) = K + o from by omega] at this
      exact this
  · rw [e3 z (fun p' hp' => hz p' (by omega))]
    exact a6 z (fun o ho => by have := hz (len s + o) (by omega); omega)
theorem FT_all (hN : 100 ≤ N) (hl : l < 8) (hw : w < 8) : ∀ t b K x ob, ok t → sh t = 0 → FT N l w V t b K x ob := by
  intro t
  induction t using tind with
  | h t ih =>
    intro b K x ob hok hsh
    unfold ok at hok
    split at hok
    · exact FT_leaf hl hw (Or.inl ⟨_, rfl⟩)
    · exact FT_leaf hl hw (Or.inr ⟨_, rfl⟩)
    · rename_i p q
      exact FT_add hl hw hok.2.1 hok.2.2 hok.1.1 hok.1.2 (ih p (by simp; omega) _ _ _ _ hok.2.1 hok.1.1) (ih q (by simp; omega) _ _ _ _ hok.2.2 hok.1.2) _ (Or.inl rfl)
    · rename_i p q
      exact FT_add hl hw hok.2.1 hok.2.2 hok.1.1 hok.1.2 (ih p (by simp; omega) _ _ _ _ hok.2.1 hok.1.1) (ih q (by simp; omega) _ _ _ _ hok.2.2 hok.1.2) _ (Or.inr rfl)
    · rename_i p q
      exact FT_mul hl hw hok.2.1 hok.2.2 hok.1.1 hok.1.2 (ih p (by simp; omega) _ _ _ _ hok.2.1 hok.1.1) (ih q (by simp; omega) _ _ _ _ hok.2.2 hok.1.2)
    · rename_i p
      exact FT_sum hl hw hok.2 hok.1 (ih p (by simp) _ _ _ _ hok.2 hok.1)
    · rename_i p
      exact FT_old hl hw hok.2 hok.1 (ih p (by simp) _ _ _ _ hok.2 hok.1)
    · rename_i s p
      exact FT_div hN hl hw hok.2.2 hok.1.2 (ih p (by simp; omega) _ _ _ _ hok.2.2 hok.1.2)
    · rename_i s p
      exact FT_rem hN hl hw hok.2.2 hok.1.2 (ih p (by simp; omega) _ _ _ _ hok.2.2 hok.1.2)
    all_goals first | exact hok.elim | cases hsh
end FLA
/-- what the class's obligation asks -/
def aC (V : Nat → Nat → Nat → Bool) (t : Term) (l o s : Nat) : Bool := ev (V s) l t 0 (kT t 0 o)
section FLW
variable {N : Nat} {V : Nat → Nat → Nat → Bool}
/-- the tables filled up to a letter and a word -/
def Fl (V : Nat → Nat → Nat → Bool) (t : Term) (Q l w : Nat) (τ : St) : Prop := ∀ l' o w' j, l' < 8 → o < oT t true → w' < 2 ^ Q → j < 64 → (l' < l ∨ (l' = l ∧ w' < w)) → bl (gL τ 51 ((l' * 9 + o) * 8 + w')) j = aC V t l' o (64 * w' + j)
def FlI (t : Term) (Q k : Nat) (τ : St) : Prop := RC τ t 0 0 ∧ gI τ 33 (nC t - 1) = tob t 0 true ∧ gI τ 21 0 = J (nC t) ∧ nC t ≤ 40 ∧ gI τ 53 0 = J k ∧ gI τ 54 0 = J (2 ^ Q) ∧ oT t true = k ∧ k ≤ 9 ∧ Q ≤ 3
theorem FlI.fr {t : Term} {Q k : Nat} {τ τ' : St} (h : FlI t Q k τ) (f : Fr [51, 52] τ τ') : FlI t Q k τ' := by
  obtain ⟨h1, h2, h3, h4, h5, h6, h7⟩ := h
  exact ⟨RC_fr f (by decide) h1, by rw [f.gi (by decide)]; exact h2, by rw [f.gi (by decide)]; exact h3, h4, by rw [f.gi (by decide)]; exact h5, by rw [f.gi (by decide)]; exact h6, h7⟩
theorem cls_word (hN : 100 ≤ N) {t : Term} {Q k l w : Nat} {τ : St} (hok : ok t) (hsh : sh t = 0) (hV : ∀ s o, o < oC t → V s (kC t 0 o).1 (kC t 0 o).2 = s.testBit o) (hl : l < 8) (hw : w < 2 ^ Q) (hI : FlI t Q k τ) (hF : Fl V t Q l w τ) : ∃ τ', fX0_fillWord N τ (J l) (J w) = some τ' ∧ Fr [51, 52] τ τ' ∧ Fl V t Q l (w + 1) τ' := by
  obtain ⟨h1, h2, h3, h4, h5, h6, h7, h8, h9⟩ := id hI
  have hQ8 : 2 ^ Q ≤ 8 := Nat.le_trans (Nat.pow_le_pow_right (n := 2) (by omega) h9) (by decide)
  obtain ⟨τ', a1, a2, a3, a4, a5, a6⟩ := FT_all (N := N) (l := l) (w := w) (V := fun j => V (64 * w + j)) hN hl (by omega) t 0 0 0 true hok hsh τ h1 (by rw [Nat.zero_add]; exact h2) ⟨nC t, h3, by omega, h4⟩ ⟨k, h5, by omega, h8⟩ (fun j hj o ho => by rw [Nat.zero_add]; exact hV _ o ho)
  refine ⟨τ', ?_, a2, fun l' o w' j g1 g2 g3 g4 g5 => ?_⟩
  · unfold fX0_fillWord
    have e := a1 (N - nC t)
    rw [show N - nC t + nC t = N from by omega] at e
    refine e.trans ?_
    obtain ⟨n, hn⟩ : ∃ n, N - nC t = n + 1 := ⟨N - nC t - 1, by omega⟩
    rw [hn, Nat.zero_add]
    unfold fX0_fillWord_2
    have h21 : gI τ' 21 0 = J (nC t) := by rw [a2.gi (by decide)]; exact h3
    simp (decide := true) (disch := omega) only [letS_d, grd_tt, bnd_d, bnd1_d, bndX_d, bndX_e, gI_at, gI_ne, gI_sL, gL_sL, gL_sI, upd_at, updL_at, J_lit, J_add, J_mul, J_sub, J_lt, J_le, J_inj, J_ne, ne_J, m_lt, lt_m, m_le, le_m, J_cl, J_inB, if_true, if_false, ite_true, ite_false, reduceIte, isZ0, isZ1, J_and31, shrJ0, shlJ0, gI_sA, gL_sA, Nat.reduceEqDiff, Nat.reduceAdd, Nat.reduceMul, Nat.reduceLT, Nat.reduceLeDiff, h21, Nat.le_refl]
  · by_cases he : l' = l ∧ w' = w
    · obtain ⟨rfl, rfl⟩ := he
      have := a5 o g2 j g4
      rw [Nat.zero_add] at this
      exact this
    · rw [a6 _ (fun o' ho' => by omega)]
      exact hF l' o w' j g1 g2 g3 g4 (by omega)
theorem cls_words (hN : 100 ≤ N) {t : Term} {Q k l : Nat} (hok : ok t) (hsh : sh t = 0) (hV : ∀ s o, o < oC t → V s (kC t 0 o).1 (kC t 0 o).2 = s.testBit o) (hl : l < 8) (k39 : St → Int32 → Option St) : ∀ f w n (τ : St), w + f = 2 ^ Q → f < n → FlI t Q k τ → Fl V t Q l w τ → ∃ τ', fX0_fill_47 N k39 n τ (J l) (J w) = k39 τ' (J (l + 1)) ∧ Fr [51, 52] τ τ' ∧ Fl V t Q (l + 1) 0 τ' := by
  intro f
  induction f with
  | zero =>
    intro w n τ hw hn hI hF
    obtain ⟨n, rfl⟩ : ∃ k, n = k + 1 := ⟨n - 1, by omega⟩
    have h54 := hI.2.2.2.2.2.1
    have hQ8 : 2 ^ Q ≤ 8 := Nat.le_trans (Nat.pow_le_pow_right (n := 2) (by omega) hI.2.2.2.2.2.2.2.2) (by decide)
    refine ⟨τ, ?_, Fr.rf, fun l' o w' j g1 g2 g3 g4 g5 => hF l' o w' j g1 g2 g3 g4 (by omega)⟩
    have : 2 ^ Q ≤ w := by omega
    rw [show fX0_fill_47 N k39 (n + 1) τ (J l) (J w) = _ from by unfold fX0_fill_47; rfl]
    simp (decide := true) (disch := omega) only [letS_d, grd_tt, bnd_d, bnd1_d, bndX_d, bndX_e, gI_at, gI_ne, gI_sL, gL_sL, gL_sI, upd_at, updL_at, J_lit, J_add, J_mul, J_sub, J_lt, J_le, J_inj, J_ne, ne_J, m_lt, lt_m, m_le, le_m, J_cl, J_inB, if_true, if_false, ite_true, ite_false, reduceIte, isZ0, isZ1, J_and31, shrJ0, shlJ0, gI_sA, gL_sA, Nat.reduceEqDiff, Nat.reduceAdd, Nat.reduceMul, Nat.reduceLT, Nat.reduceLeDiff, h54, this]
  | succ f ih =>
    intro w n τ hw hn hI hF
    obtain ⟨n, rfl⟩ : ∃ k, n = k + 1 := ⟨n - 1, by omega⟩
    have h54 := hI.2.2.2.2.2.1
    have hQ8 : 2 ^ Q ≤ 8 := Nat.le_trans (Nat.pow_le_pow_right (n := 2) (by omega) hI.2.2.2.2.2.2.2.2) (by decide)
    obtain ⟨τ1, a1, a2, a3⟩ := cls_word (N := N) hN hok hsh hV hl (show w < 2 ^ Q by omega) hI hF
    obtain ⟨τ2, b1, b2, b3⟩ := ih (w + 1) n τ1 (by omega) (by omega) (hI.fr a2) a3
    refine ⟨τ2, ?_, a2.tr b2, b3⟩
    have hnl : ¬ 2 ^ Q ≤ w := by omega
    rw [show fX0_fill_47 N k39 (n + 1) τ (J l) (J w) = _ from by unfold fX0_fill_47; rfl]
    simp (decide := true) (disch := omega) only [letS_d, grd_tt, bnd_d, bnd1_d, bndX_d, bndX_e, gI_at, gI_ne, gI_sL, gL_sL, gL_sI, upd_at, updL_at, J_lit, J_add, J_mul, J_sub, J_lt, J_le, J_inj, J_ne, ne_J, m_lt, lt_m, m_le, le_m, J_cl, J_inB, if_true, if_false, ite_true, ite_false, reduceIte, isZ0, isZ1, J_and31, shrJ0, shlJ0, gI_sA, gL_sA, Nat.reduceEqDiff, Nat.reduceAdd, Nat.reduceMul, Nat.reduceLT, Nat.reduceLeDiff, h54, hnl, a1]
    exact b1
theorem cls_letters (hN : 100 ≤ N) {t : Term} {Q k : Nat} (hok : ok t) (hsh : sh t = 0) (hV : ∀ s o, o < oC t → V s (kC t 0 o).1 (kC t 0 o).2 = s.testBit o) : ∀ f l n (τ : St), l + f = 8 → f < n → FlI t Q k τ → Fl V t Q l 0 τ → ∃ τ', fX0_fill_39 N n τ (J l) = some τ' ∧ Fr [51, 52] τ τ' ∧ Fl V t Q 8 0 τ' := by
  intro f
  induction f with
  | zero =>
    intro l n τ hw hn hI hF
    obtain ⟨n, rfl⟩ : ∃ k, n = k + 1 := ⟨n - 1, by omega⟩
    obtain rfl : l = 8 := by omega
    refine ⟨τ, ?_, Fr.rf, hF⟩
    unfold fX0_fill_39
    simp (decide := true) (disch := omega) only [letS_d, grd_tt, bnd_d, bnd1_d, bndX_d, bndX_e, gI_at, gI_ne, gI_sL, gL_sL, gL_sI, upd_at, updL_at, J_lit, J_add, J_mul, J_sub, J_lt, J_le, J_inj, J_ne, ne_J, m_lt, lt_m, m_le, le_m, J_cl, J_inB, if_true, if_false, ite_true, ite_false, reduceIte, isZ0, isZ1, J_and31, shrJ0, shlJ0, gI_sA, gL_sA, Nat.reduceEqDiff, Nat.reduceAdd, Nat.reduceMul, Nat.reduceLT, Nat.reduceLeDiff, Nat.le_refl]
  | succ f ih =>
    intro l n τ hw hn hI hF
    obtain ⟨n, rfl⟩ : ∃ k, n = k + 1 := ⟨n - 1, by omega⟩
    have hQ8 : 2 ^ Q ≤ 8 := Nat.le_trans (Nat.pow_le_pow_right (n := 2) (by omega) hI.2.2.2.2.2.2.2.2) (by decide)
    obtain ⟨τ1, a1, a2, a3⟩ := cls_words (N := N) hN hok hsh hV (show l < 8 by omega) (fX0_fill_39 N n) (2 ^ Q) 0 N τ (by omega) (by omega) hI hF
    obtain ⟨τ2, b1, b2, b3⟩ := ih (l + 1) n τ1 (by omega) (by omega) (hI.fr a2) a3
    refine ⟨τ2, ?_, a2.tr b2, b3⟩
    have hnl : ¬ 8 ≤ l := by omega
    rw [show fX0_fill_39 N (n + 1) τ (J l) = _ from by unfold fX0_fill_39; rfl]
    simp (decide := true) (disch := omega) only [letS_d, grd_tt, bnd_d, bnd1_d, bndX_d, bndX_e, gI_at, gI_ne, gI_sL, gL_sL, gL_sI, upd_at, updL_at, J_lit, J_add, J_mul, J_sub, J_lt, J_le, J_inj, J_ne, ne_J, m_lt, lt_m, m_le, le_m, J_cl, J_inB, if_true, if_false, ite_true, ite_false, reduceIte, isZ0, isZ1, J_and31, shrJ0, shlJ0, gI_sA, gL_sA, Nat.reduceEqDiff, Nat.reduceAdd, Nat.reduceMul, Nat.reduceLT, Nat.reduceLeDiff, hnl]
    exact a1.trans b1
/-- the class's tables are filled -/
theorem cls_fill (hN : 100 ≤ N) {t : Term} {k : Nat} {τ : St} (hok : ok t) (hsh : sh t = 0) (hV : ∀ s o, o < oC t → V s (kC t 0 o).1 (kC t 0 o).2 = s.testBit o) (h1 : RC τ t 0 0) (h2 : gI τ 33 (nC t - 1) = tob t 0 true) (h3 : gI τ 21 0 = J (nC t)) (h4 : nC t ≤ 40) (h5 : gI τ 22 0 = J k) (h6 : oT t true = k) (h7 : k ≤ 9) : ∃ τ', fX0_fill N τ = some τ' ∧ Fr [51, 52, 53, 54] τ τ' ∧ gI τ' 54 0 = J (2 ^ (k - 6)) ∧ Ak k (k - 6) (aC V t) τ' := by
  have hf : Fr [53, 54] τ (sI (sI τ 53 0 (J k)) 54 0 (J (2 ^ (k - 6)))) := (Fr.i (by decide)).tr (Fr.i (by decide))
  have hI : FlI t (k - 6) k (sI (sI τ 53 0 (J k)) 54 0 (J (2 ^ (k - 6)))) := ⟨RC_fr hf (by decide) h1, by rw [hf.gi (by decide)]; exact h2, by rw [hf.gi (by decide)]; exact h3, h4, by simp (decide := true) (disch := omega) only [letS_d, grd_tt, bnd_d, bnd1_d, bndX_d, bndX_e, gI_at, gI_ne, gI_sL, gL_sL, gL_sI, upd_at, updL_at, J_lit, J_add, J_mul, J_sub, J_lt, J_le, J_inj, J_ne, ne_J, m_lt, lt_m, m_le, le_m, J_cl, J_inB, if_true, if_false, ite_true, ite_false, reduceIte, isZ0, isZ1, J_and31, shrJ0, shlJ0, gI_sA, gL_sA, Nat.reduceEqDiff, Nat.reduceAdd, Nat.reduceMul, Nat.reduceLT, Nat.reduceLeDiff], by simp (decide := true) (disch := omega) only [letS_d, grd_tt, bnd_d, bnd1_d, bndX_d, bndX_e, gI_at, gI_ne, gI_sL, gL_sL, gL_sI, upd_at, updL_at, J_lit, J_add, J_mul, J_sub, J_lt, J_le, J_inj, J_ne, ne_J, m_lt, lt_m, m_le, le_m, J_cl, J_inB, if_true, if_false, ite_true, ite_false, reduceIte, isZ0, isZ1, J_and31, shrJ0, shlJ0, gI_sA, gL_sA, Nat.reduceEqDiff, Nat.reduceAdd, Nat.reduceMul, Nat.reduceLT, Nat.reduceLeDiff], h6, h7, by omega⟩
  obtain ⟨τ', a1, a2, a3⟩ := cls_letters (N := N) (V := V) hN hok hsh hV 8 0 N _ (by omega) (by omega) hI (fun l' o w' j g1 g2 g3 g4 g5 => by omega)
  refine ⟨τ', ?_, (hf.mono (by decide)).tr (a2.mono (by decide)), by rw [a2.gi (by decide)]; simp (decide := true) (disch := omega) only [letS_d, grd_tt, bnd_d, bnd1_d, bndX_d, bndX_e, gI_at, gI_ne, gI_sL, gL_sL, gL_sI, upd_at, updL_at, J_lit, J_add, J_mul, J_sub, J_lt, J_le, J_inj, J_ne, ne_J, m_lt, lt_m, m_le, le_m, J_cl, J_inB, if_true, if_false, ite_true, ite_false, reduceIte, isZ0, isZ1, J_and31, shrJ0, shlJ0, gI_sA, gL_sA, Nat.reduceEqDiff, Nat.reduceAdd, Nat.reduceMul, Nat.reduceLT, Nat.reduceLeDiff], by rw [a2.gi (by decide)]; simp (decide := true) (disch := omega) only [letS_d, grd_tt, bnd_d, bnd1_d, bndX_d, bndX_e, gI_at, gI_ne, gI_sL, gL_sL, gL_sI, upd_at, updL_at, J_lit, J_add, J_mul, J_sub, J_lt, J_le, J_inj, J_ne, ne_J, m_lt, lt_m, m_le, le_m, J_cl, J_inB, if_true, if_false, ite_true, ite_false, reduceIte, isZ0, isZ1, J_and31, shrJ0, shlJ0, gI_sA, gL_sA, Nat.reduceEqDiff, Nat.reduceAdd, Nat.reduceMul, Nat.reduceLT, Nat.reduceLeDiff], fun l o w j g1 g2 g3 g4 => ?_⟩
  · unfold fX0_fill fX0_fill_34
    by_cases h9 : 6 < k
    · have hp : J 1 <<< (J (k - 6)) = J (2 ^ (k - 6)) := pow_J (by omega)
      simp (decide := true) (disch := omega) only [letS_d, grd_tt, bnd_d, bnd1_d, bndX_d, bndX_e, gI_at, gI_ne, gI_sL, gL_sL, gL_sI, upd_at, updL_at, J_lit, J_add, J_mul, J_sub, J_lt, J_le, J_inj, J_ne, ne_J, m_lt, lt_m, m_le, le_m, J_cl, J_inB, if_true, if_false, ite_true, ite_false, reduceIte, isZ0, isZ1, J_and31, shrJ0, shlJ0, gI_sA, gL_sA, Nat.reduceEqDiff, Nat.reduceAdd, Nat.reduceMul, Nat.reduceLT, Nat.reduceLeDiff, h5, h9]
      rw [hp]
      exact a1
    · have e : k - 6 = 0 := by omega
      rw [e] at a1
      simp (decide := true) (disch := omega) only [letS_d, grd_tt, bnd_d, bnd1_d, bndX_d, bndX_e, gI_at, gI_ne, gI_sL, gL_sL, gL_sI, upd_at, updL_at, J_lit, J_add, J_mul, J_sub, J_lt, J_le, J_inj, J_ne, ne_J, m_lt, lt_m, m_le, le_m, J_cl, J_inB, if_true, if_false, ite_true, ite_false, reduceIte, isZ0, isZ1, J_and31, shrJ0, shlJ0, gI_sA, gL_sA, Nat.reduceEqDiff, Nat.reduceAdd, Nat.reduceMul, Nat.reduceLT, Nat.reduceLeDiff, h5, h9]
      exact a1
  · exact a3 l o w j g1 (by omega) g3 g4 (Or.inl g1)
end FLW
