/-! the conditions of both -/
section CB
variable {N k Q : Nat} {A : Nat → Nat → Nat → Bool} {im : Nat → Nat → Nat} {π πi : Nat → Nat}
/-- a set of the class's obligations, in the reference's numbers -/
def pm (πi : Nat → Nat) (k s : Nat) : Nat := msk (fun q => s.testBit (πi q)) k
theorem pm_lt (s : Nat) : pm πi k s < 2 ^ k := msk_lt _ k
theorem pm_bit (s q : Nat) : (pm πi k s).testBit q = (decide (q < k) && s.testBit (πi q)) := msk_bit _ k q
/-- how the two numberings and the two askings belong together -/
def Rel (k Q : Nat) (A : Nat → Nat → Nat → Bool) (im : Nat → Nat → Nat) (π πi : Nat → Nat) : Prop := (1 ≤ k ∧ k ≤ 9 ∧ Q ≤ 3 ∧ k ≤ 6 + Q) ∧ (∀ o, o < k → π o < k ∧ πi (π o) = o) ∧ (∀ q, q < k → πi q < k ∧ π (πi q) = q) ∧ (∀ l o s, l < 8 → o < k → s < 64 * 2 ^ Q → A l o s = (im l (pm πi k s)).testBit (π o)) ∧ (∀ l s, l < 8 → s < 2 ^ k → im l s < 2 ^ k) ∧ ∀ l s t, l < 8 → s < 2 ^ k → t < 2 ^ k → (∀ o, s.testBit o = true → t.testBit o = true) → ∀ o, (im l s).testBit o = true → (im l t).testBit o = true
theorem sub_pow (h : k ≤ 6 + Q) : 2 ^ k ≤ 64 * 2 ^ Q := by
  have := Nat.pow_le_pow_right (n := 2) (by omega) h
  rw [Nat.pow_add] at this
  exact this
theorem hibit {s o : Nat} (hs : s < 2 ^ k) (h : s.testBit o = true) : o < k := by
  rcases Nat.lt_or_ge o k with h1 | h1
  · exact h1
  · have := Nat.pow_le_pow_right (n := 2) (by omega) h1
    rw [Nat.testBit_lt_two_pow (show s < 2 ^ o by omega)] at h
    cases h
/-- below each set that is enough there is a least one -/
theorem descent {P : Nat} (hP : P ≤ 9) (D : Nat → Bool) : ∀ a, a < 512 → D a = true → ∃ u, u ≤ a ∧ (∀ o, u.testBit o = true → a.testBit o = true) ∧ Lst P D u := by
  intro a
  induction a using Nat.strongRecOn with
  | ind a ih =>
    intro ha hD
    by_cases h : ∃ p, p < P ∧ a.testBit p = true ∧ D (a - 2 ^ p) = true
    · obtain ⟨p, p1, p2, p3⟩ := h
      obtain ⟨q1, q2⟩ := less ha (show p < 9 by omega) p2
      have hpos : 1 ≤ 2 ^ p := Nat.pow_pos (by omega)
      have hlt : a - 2 ^ p < a := by
        have : 2 ^ p ≤ a := q1
        omega
      obtain ⟨u, u1, u2, u3⟩ := ih (a - 2 ^ p) hlt (by omega) p3
      refine ⟨u, by omega, fun o ho => ?_, u3⟩
      have := u2 o ho
      rw [q2, Bool.and_eq_true] at this
      exact this.1
    · refine ⟨a, Nat.le_refl _, fun _ h => h, hD, fun p hp hb => ?_⟩
      cases hx : D (a - 2 ^ p)
      · rfl
      · exact absurd ⟨p, hp, hb, hx⟩ h
/-- a condition is monotone -/
def Mono (k : Nat) (E : Nat → Bool) : Prop := ∀ s t, s < 2 ^ k → t < 2 ^ k → (∀ o, s.testBit o = true → t.testBit o = true) → E s = true → E t = true
/-- what the class works out is the condition by the letter -/
theorem next_iff (hR : Rel k Q A im π πi) {E : Nat → Bool} (hM : Mono k E) {l s : Nat} (hl : l < 8) (hs : s < 64 * 2 ^ Q) : (∃ u, u < 64 * 2 ^ Q ∧ Lst (6 + Q) (fun s => E (pm πi k s)) u ∧ ∀ o, o < k → u.testBit o = true → A l o s = true) ↔ E (im l (pm πi k s)) = true := by
  obtain ⟨⟨k1, k2, k3, k4⟩, r1, r2, r3, r4, r5⟩ := hR
  have hQ8 : 2 ^ Q ≤ 8 := Nat.le_trans (Nat.pow_le_pow_right (n := 2) (by omega) k3) (by decide)
  have h2k := sub_pow k4
  have hpl := pm_lt (πi := πi) (k := k) s
  have hil := r4 l _ hl hpl
  constructor
  · rintro ⟨u, u1, u2, u3⟩
    refine hM (pm πi k u) (im l (pm πi k s)) (pm_lt u) hil (fun q hq => ?_) u2.1
    rw [pm_bit, Bool.and_eq_true, decide_eq_true_eq] at hq
    obtain ⟨q1, q2⟩ := hq
    obtain ⟨a1, a2⟩ := r2 q q1
    have := u3 (πi q) a1 q2
    rw [r3 l (πi q) s hl a1 hs, a2] at this
    exact this
  · intro hE
    have ham := msk_lt (fun o => (im l (pm πi k s)).testBit (π o)) k
    have hmb := msk_bit (fun o => (im l (pm πi k s)).testBit (π o)) k
    generalize msk (fun o => (im l (pm πi k s)).testBit (π o)) k = am at ham hmb
    have hpa : pm πi k am = im l (pm πi k s) := by
      refine Nat.eq_of_testBit_eq fun q => ?_
      rw [pm_bit]
      by_cases hq : q < k
      · obtain ⟨a1, a2⟩ := r2 q hq
        rw [hmb, decide_eq_true hq, decide_eq_true a1, a2]
        rfl
      · rw [decide_eq_false hq, Bool.false_and]
        cases hx : (im l (pm πi k s)).testBit q
        · rfl
        · exact absurd (hibit hil hx) hq
    obtain ⟨u, u1, u2, u3⟩ := descent (P := 6 + Q) (by omega) (fun s => E (pm πi k s)) am (by omega) (by show E (pm πi k am) = true; rw [hpa]; exact hE)
    refine ⟨u, by omega, u3, fun o ho hb => ?_⟩
    have := u2 o hb
    rw [hmb, Bool.and_eq_true] at this
    rw [r3 l o s hl ho hs]
    exact this.2
/-- conditions known so far, on both sides -/
def Cn (k Q : Nat) (A : Nat → Nat → Nat → Bool) (im : Nat → Nat → Nat) (πi : Nat → Nat) (c : Nat) (E : Nat → Nat → Bool) (τ σ : St) : Prop := (1 ≤ c ∧ c ≤ 40) ∧ (gI τ 66 0 = J c ∧ gI σ 34 0 = J c ∧ gI τ 65 0 = J (2 ^ Q)) ∧ Ak k Q A τ ∧ Img k im σ ∧ (∀ r, r < c → Mono k (E r)) ∧ (∀ r s, r < c → s < 64 * 2 ^ Q → TC τ r s = E r (pm πi k s)) ∧ ∀ r s, r < c → s < 512 → TR σ r s = (decide (s < 2 ^ k) && E r s)
theorem Cn.fr {c : Nat} {E : Nat → Nat → Bool} {τ τ' σ σ' : St} {S S' : List Nat} (h : Cn k Q A im πi c E τ σ) (f : Fr S τ τ') (f' : Fr S' σ σ') (d : ∀ k ∈ [51, 53, 61, 65, 66], k ∉ S) (d' : ∀ k ∈ [17, 31, 34, 35], k ∉ S') : Cn k Q A im πi c E τ' σ' := by
  obtain ⟨h1, h2, h3, h4, h5, h6, h7⟩ := h
  refine ⟨h1, ?_, h3.fr f (fun k hk => d k (by simp at hk ⊢; omega)), h4.fr f' (fun k hk => d' k (by simp at hk ⊢; omega)), h5, fun r s hr hs => ?_, fun r s hr hs => ?_⟩
  · rw [f.gi (d 66 (by decide)), f'.gi (d' 34 (by decide)), f.gi (d 65 (by decide))]
    exact h2
  · unfold TC
    rw [f.gl (d 61 (by decide))]
    exact h6 r s hr hs
  · unfold TR
    rw [f'.gl (d' 35 (by decide))]
    exact h7 r s hr hs
/-- two conditions say the same -/
def sameE (k : Nat) (E F : Nat → Bool) : Bool := (List.range (2 ^ k)).all (fun s => decide (E s = F s))
theorem sameE_iff {E F : Nat → Bool} : sameE k E F = true ↔ ∀ s, s < 2 ^ k → E s = F s := by
  unfold sameE
  rw [List.all_eq_true]
  exact ⟨fun h s hs => of_decide_eq_true (h s (List.mem_range.mpr hs)), fun h s hs => decide_eq_true (h s (List.mem_range.mp hs))⟩
theorem pm_onto (hR : Rel k Q A im π πi) {s : Nat} (hs : s < 2 ^ k) : ∃ t, t < 64 * 2 ^ Q ∧ pm πi k t = s := by
  obtain ⟨⟨k1, k2, k3, k4⟩, r1, r2, r3, r4, r5⟩ := hR
  have h2k := sub_pow k4
  have ham := msk_lt (fun o => s.testBit (π o)) k
  have hmb := msk_bit (fun o => s.testBit (π o)) k
  refine ⟨msk (fun o => s.testBit (π o)) k, by omega, Nat.eq_of_testBit_eq fun q => ?_⟩
  rw [pm_bit]
  by_cases hq : q < k
  · obtain ⟨a1, a2⟩ := r2 q hq
    rw [hmb, decide_eq_true hq, decide_eq_true a1, a2]
    rfl
  · rw [decide_eq_false hq, Bool.false_and]
    cases hx : s.testBit q
    · rfl
    · exact absurd (hibit hs hx) hq
theorem bool_iff {a b : Bool} (h : a = true ↔ b = true) : a = b := by
  cases a <;> cases b
  · rfl
  · exact h.mpr rfl
  · exact (h.mp rfl).symm
  · rfl
/-- one letter -/
theorem both_after (hN : 1000 ≤ N) (hR : Rel k Q A im π πi) {c : Nat} {E : Nat → Nat → Bool} {τ σ : St} {r l m : Nat} (h : Cn k Q A im πi c E τ σ) (hr : r < c) (hl : l < 8) (hm : Lss Q (fun s => E r (pm πi k s)) m τ) : ∃ τ' σ' t, fX3_putIn N τ (J l) = some τ' ∧ fX3_find N τ' = some (J t, τ') ∧ t ≤ c ∧ Fr [61] τ τ' ∧ ((t = c ∧ c = 40 ∧ fX9_after N σ (J r) (J l) = some (-J 1, σ') ∧ Fr [34, 35] σ σ') ∨ (t < 40 ∧ fX9_after N σ (J r) (J l) = some (J t, σ') ∧ Fr [34, 35] σ σ' ∧ ∃ E', Cn k Q A im πi (if t = c then c + 1 else c) E' (sI τ' 66 0 (J (if t = c then c + 1 else c))) σ' ∧ (∀ i, i < c → E' i = E i) ∧ t < (if t = c then c + 1 else c) ∧ ∀ s, s < 2 ^ k → E' t s = E r (im l s))) := by
  obtain ⟨⟨c1, c2⟩, ⟨h1, h2, h3⟩, h4, h5, h6, h7, h8⟩ := id h
  obtain ⟨⟨k1, k2, k3, k4⟩, r1, r2, r3, r4, r5⟩ := id hR
  have hQ8 : 2 ^ Q ≤ 8 := Nat.le_trans (Nat.pow_le_pow_right (n := 2) (by omega) k3) (by decide)
  have hk9 : 2 ^ k ≤ 512 := Nat.le_trans (Nat.pow_le_pow_right (n := 2) (by omega) k2) (by decide)
  obtain ⟨τ', a1, a2, a3, a4⟩ := cls_put2 (N := N) hN k2 k3 hl (show 8 * c + 8 ≤ 328 by omega) (2 ^ Q) 0 N τ (by omega) (by omega) h3 h4 hm
  have hput : fX3_putIn N τ (J l) = some τ' := by
    unfold fX3_putIn
    have e : c * 8 = 8 * c := Nat.mul_comm _ _
    simp (decide := true) (disch := omega) only [letS_d, grd_t, bnd_d, bnd1_d, bndX_d, bndX_e, gI_sI, gI_sL, gL_sL, gL_sI, upd_at, updL_at, J_lit, J_add, J_mul, J_sub, J_lt, J_le, J_inj, J_ne, ne_J, m_lt, lt_m, m_le, le_m, J_cl, J_inB, if_true, if_false, ite_true, ite_false, reduceIte, isZ0, isZ1, J_and31, shrJ0, shlJ0, gI_sA, gL_sA, Nat.reduceEqDiff, Nat.reduceAdd, Nat.reduceMul, Nat.reduceLT, Nat.reduceLeDiff, h1, e]
    exact a1
  have hTn : ∀ s, s < 64 * 2 ^ Q → TC τ' c s = E r (im l (pm πi k s)) := fun s hs => by
    have h9 := a4 (s / 64) (s % 64) (by omega) (by omega) (by omega)
    rw [show 64 * (s / 64) + s % 64 = s from by omega] at h9
    exact bool_iff (h9.trans (next_iff hR (h6 r hr) hl hs))
  have hTo : ∀ i s, i < c → s < 64 * 2 ^ Q → TC τ' i s = E i (pm πi k s) := fun i s hi hs => by
    rw [← h7 i s hi hs]
    unfold TC
    rw [a3 _ (by omega)]
  have h65' : gI τ' 65 0 = J (2 ^ Q) := by rw [a2.gi (by decide)]; exact h3
  have h66' : gI τ' 66 0 = J c := by rw [a2.gi (by decide)]; exact h1
  have hfind := cls_find (N := N) (by omega) k3 h65' h66' c2 c 0 N (by omega) (by omega)
  -- the reference
  obtain ⟨σ1, b1, b2, b3, b4⟩ := ref_clear (N := N) (n0 := c) c2 (J r) (J l) 8 0 N σ (by omega) (by omega)
  obtain ⟨σ2, d1, d2, d3, d4⟩ := ref_fill (N := N) (im := im) (n0 := c) (r := r) (l := l) k2 c2 hr hl (2 ^ k) 0 N σ1 (by omega) (by omega) (h5.fr b2 (by decide))
  have h34' : gI σ2 34 0 = J c := by rw [d2.gi (by decide), b2.gi (by decide)]; exact h2
  have hkn := ref_known (N := N) (by omega) (σ := σ2) c2 h34'
  have haf : fX9_after N σ (J r) (J l) = (bnd (fX9_known N σ2 (J c)) fun r8 σ7 => some (r8, σ7)) := by
    unfold fX9_after
    simp (decide := true) (disch := omega) only [letS_d, grd_t, bnd_d, bnd1_d, bndX_d, bndX_e, gI_sI, gI_sL, gL_sL, gL_sI, upd_at, updL_at, J_lit, J_add, J_mul, J_sub, J_lt, J_le, J_inj, J_ne, ne_J, m_lt, lt_m, m_le, le_m, J_cl, J_inB, if_true, if_false, ite_true, ite_false, reduceIte, isZ0, isZ1, J_and31, shrJ0, shlJ0, gI_sA, gL_sA, Nat.reduceEqDiff, Nat.reduceAdd, Nat.reduceMul, Nat.reduceLT, Nat.reduceLeDiff, h2]
    exact b1.trans d1
  have hRr : ∀ x, x < 512 → TR σ1 r x = TR σ r x := fun x hx => by
    unfold TR
    rw [b3 _ (by omega)]
  have hRo : ∀ i s, i < c → s < 512 → TR σ2 i s = (decide (s < 2 ^ k) && E i s) := fun i s hi hs => by
    rw [← h8 i s hi hs]
    unfold TR
    rw [d3 _ (by omega), b3 _ (by omega)]
  have hRn : ∀ s, s < 512 → TR σ2 c s = (decide (s < 2 ^ k) && E r (im l s)) := fun s hs => by
    rw [d4 s hs]
    have hz : TR σ1 c s = false := by
      unfold TR
      rw [b4 _ (by omega) (by omega), bl0]
    rw [hz, Bool.false_or, decide_eq_true (Nat.zero_le s), Bool.true_and]
    by_cases hsk : s < 2 ^ k
    · have hi := r4 l s hl hsk
      rw [hRr _ (by omega), h8 r _ hr (by omega), decide_eq_true hi, Bool.true_and]
    · rw [decide_eq_false hsk, Bool.false_and, Bool.false_and]
  have hsame : ∀ i, i < c → sameC Q τ' i c = sameR σ2 i c := fun i hi => by
    have q1 : sameC Q τ' i c = true ↔ ∀ s, s < 2 ^ k → E i s = E r (im l s) := by
      rw [sameC_iff]
      constructor
      · intro h9 s hs
        obtain ⟨t, t1, t2⟩ := pm_onto hR hs
        have := h9 t t1
        rw [hTo i t hi t1, hTn t t1, t2] at this
        exact this
      · intro h9 s hs
        rw [hTo i s hi hs, hTn s hs]
        exact h9 _ (pm_lt s)
    have q2 : sameR σ2 i c = true ↔ ∀ s, s < 2 ^ k → E i s = E r (im l s) := by
      rw [sameR_iff]
      constructor
      · intro h9 s hs
        have := h9 s (by omega)
        rw [hRo i s hi (by omega), hRn s (by omega), decide_eq_true hs, Bool.true_and, Bool.true_and] at this
        exact this
      · intro h9 s hs
        rw [hRo i s hi hs, hRn s hs]
        by_cases hsk : s < 2 ^ k
        · rw [h9 s hsk]
        · rw [decide_eq_false hsk, Bool.false_and, Bool.false_and]
    exact bool_iff (q1.trans q2.symm)
  have hfst : fst1 (fun a => sameC Q τ' a c) c 0 = fst1 (fun a => sameR σ2 a c) c 0 := fst1_congr c 0 (fun j _ h9 => hsame j (by omega))
  obtain ⟨f1, f2, f3, f4⟩ := fst1_spec (fun a => sameR σ2 a c) c 0
  rw [hfst] at hfind
  generalize fst1 (fun a => sameR σ2 a c) c 0 = t at *
  have hfr : Fr [35] σ σ2 := b2.tr d2
  refine ⟨τ', ?_⟩
  by_cases htc : t = c
  · by_cases h40 : c = 40
    · rw [if_pos ⟨htc, h40⟩] at hkn
      refine ⟨σ2, t, hput, ?_, by omega, a2, Or.inl ⟨htc, h40, ?_, hfr.mono (by decide)⟩⟩
      · unfold fX3_find
        simp (decide := true) (disch := omega) only [letS_d, grd_t, bnd_d, bnd1_d, bndX_d, bndX_e, gI_sI, gI_sL, gL_sL, gL_sI, upd_at, updL_at, J_lit, J_add, J_mul, J_sub, J_lt, J_le, J_inj, J_ne, ne_J, m_lt, lt_m, m_le, le_m, J_cl, J_inB, if_true, if_false, ite_true, ite_false, reduceIte, isZ0, isZ1, J_and31, shrJ0, shlJ0, gI_sA, gL_sA, Nat.reduceEqDiff, Nat.reduceAdd, Nat.reduceMul, Nat.reduceLT, Nat.reduceLeDiff]
        exact hfind
      · rw [haf, hkn, bnd_d]
    · rw [if_neg (fun h9 => h40 h9.2), if_pos htc] at hkn
      refine ⟨sI σ2 34 0 (J (c + 1)), t, hput, ?_, by omega, a2, Or.inr ⟨by omega, ?_, (hfr.mono (by decide)).tr (Fr.i (by decide)), fun i => if i < c then E i else fun s => E r (im l s), ?_, fun i hi => if_pos hi, by rw [if_pos htc]; omega, fun s hs => ?_⟩⟩
      · unfold fX3_find
        simp (decide := true) (disch := omega) only [letS_d, grd_t, bnd_d, bnd1_d, bndX_d, bndX_e, gI_sI, gI_sL, gL_sL, gL_sI, upd_at, updL_at, J_lit, J_add, J_mul, J_sub, J_lt, J_le, J_inj, J_ne, ne_J, m_lt, lt_m, m_le, le_m, J_cl, J_inB, if_true, if_false, ite_true, ite_false, reduceIte, isZ0, isZ1, J_and31, shrJ0, shlJ0, gI_sA, gL_sA, Nat.reduceEqDiff, Nat.reduceAdd, Nat.reduceMul, Nat.reduceLT, Nat.reduceLeDiff]
        exact hfind
      · rw [haf, hkn, bnd_d]
      · rw [if_pos htc]
        have fτ : Fr [61, 66] τ (sI τ' 66 0 (J (c + 1))) := (a2.mono (by decide)).tr (Fr.i (by decide))
        have fσ : Fr [34, 35] σ (sI σ2 34 0 (J (c + 1))) := (hfr.mono (by decide)).tr (Fr.i (by decide))
        refine ⟨⟨by omega, by omega⟩, ⟨by simp (decide := true) (disch := omega) only [letS_d, grd_t, bnd_d, bnd1_d, bndX_d, bndX_e, gI_sI, gI_sL, gL_sL, gL_sI, upd_at, updL_at, J_lit, J_add, J_mul, J_sub, J_lt, J_le, J_inj, J_ne, ne_J, m_lt, lt_m, m_le, le_m, J_cl, J_inB, if_true, if_false, ite_true, ite_false, reduceIte, isZ0, isZ1, J_and31, shrJ0, shlJ0, gI_sA, gL_sA, Nat.reduceEqDiff, Nat.reduceAdd, Nat.reduceMul, Nat.reduceLT, Nat.reduceLeDiff], by simp (decide := true) (disch := omega) only [letS_d, grd_t, bnd_d, bnd1_d, bndX_d, bndX_e, gI_sI, gI_sL, gL_sL, gL_sI, upd_at, updL_at, J_lit, J_add, J_mul, J_sub, J_lt, J_le, J_inj, J_ne, ne_J, m_lt, lt_m, m_le, le_m, J_cl, J_inB, if_true, if_false, ite_true, ite_false, reduceIte, isZ0, isZ1, J_and31, shrJ0, shlJ0, gI_sA, gL_sA, Nat.reduceEqDiff, Nat.reduceAdd, Nat.reduceMul, Nat.reduceLT, Nat.reduceLeDiff], by simp (decide := true) (disch := omega) only [letS_d, grd_t, bnd_d, bnd1_d, bndX_d, bndX_e, gI_sI, gI_sL, gL_sL, gL_sI, upd_at, updL_at, J_lit, J_add, J_mul, J_sub, J_lt, J_le, J_inj, J_ne, ne_J, m_lt, lt_m, m_le, le_m, J_cl, J_inB, if_true, if_false, ite_true, ite_false, reduceIte, isZ0, isZ1, J_and31, shrJ0, shlJ0, gI_sA, gL_sA, Nat.reduceEqDiff, Nat.reduceAdd, Nat.reduceMul, Nat.reduceLT, Nat.reduceLeDiff]; exact h65'⟩, h4.fr fτ (by decide), h5.fr fσ (by decide), fun i hi => ?_, fun i s hi hs => ?_, fun i s hi hs => ?_⟩
        · show Mono k (if i < c then E i else fun s => E r (im l s))
          by_cases hic : i < c
          · rw [if_pos hic]
            exact h6 i hic
          · rw [if_neg hic]
            intro x y hx hy hxy
            exact h6 r hr _ _ (r4 l x hl hx) (r4 l y hl hy) (r5 l x y hl hx hy hxy)
        · show TC τ' i s = (if i < c then E i else fun s => E r (im l s)) (pm πi k s)
          by_cases hic : i < c
          · rw [if_pos hic]
            exact hTo i s hic hs
          · rw [if_neg hic, show i = c from by omega]
            exact hTn s hs
        · show TR σ2 i s = (decide (s < 2 ^ k) && (if i < c then E i else fun s => E r (im l s)) s)
          by_cases hic : i < c
          · rw [if_pos hic]
            exact hRo i s hic hs
          · rw [if_neg hic, show i = c from by omega]
            exact hRn s hs
      · show (if t < c then E t else fun s => E r (im l s)) s = _
        rw [if_neg (by omega)]
  · rw [if_neg (fun h9 => htc h9.1), if_neg htc, Nat.add_zero] at hkn
    refine ⟨sI σ2 34 0 (J c), t, hput, ?_, by omega, a2, Or.inr ⟨by omega, ?_, (hfr.mono (by decide)).tr (Fr.i (by decide)), E, ?_, fun i hi => rfl, by rw [if_neg htc]; omega, fun s hs => ?_⟩⟩
    · unfold fX3_find
      simp (decide := true) (disch := omega) only [letS_d, grd_t, bnd_d, bnd1_d, bndX_d, bndX_e, gI_sI, gI_sL, gL_sL, gL_sI, upd_at, updL_at, J_lit, J_add, J_mul, J_sub, J_lt, J_le, J_inj, J_ne, ne_J, m_lt, lt_m, m_le, le_m, J_cl, J_inB, if_true, if_false, ite_true, ite_false, reduceIte, isZ0, isZ1, J_and31, shrJ0, shlJ0, gI_sA, gL_sA, Nat.reduceEqDiff, Nat.reduceAdd, Nat.reduceMul, Nat.reduceLT, Nat.reduceLeDiff]
      exact hfind
    · rw [haf, hkn, bnd_d]
    · rw [if_neg htc]
      have fτ : Fr [61, 66] τ (sI τ' 66 0 (J c)) := (a2.mono (by decide)).tr (Fr.i (by decide))
      have fσ : Fr [34, 35] σ (sI σ2 34 0 (J c)) := (hfr.mono (by decide)).tr (Fr.i (by decide))
      exact ⟨⟨by omega, by omega⟩, ⟨by simp (decide := true) (disch := omega) only [letS_d, grd_t, bnd_d, bnd1_d, bndX_d, bndX_e, gI_sI, gI_sL, gL_sL, gL_sI, upd_at, updL_at, J_lit, J_add, J_mul, J_sub, J_lt, J_le, J_inj, J_ne, ne_J, m_lt, lt_m, m_le, le_m, J_cl, J_inB, if_true, if_false, ite_true, ite_false, reduceIte, isZ0, isZ1, J_and31, shrJ0, shlJ0, gI_sA, gL_sA, Nat.reduceEqDiff, Nat.reduceAdd, Nat.reduceMul, Nat.reduceLT, Nat.reduceLeDiff], by simp (decide := true) (disch := omega) only [letS_d, grd_t, bnd_d, bnd1_d, bndX_d, bndX_e, gI_sI, gI_sL, gL_sL, gL_sI, upd_at, updL_at, J_lit, J_add, J_mul, J_sub, J_lt, J_le, J_inj, J_ne, ne_J, m_lt, lt_m, m_le, le_m, J_cl, J_inB, if_true, if_false, ite_true, ite_false, reduceIte, isZ0, isZ1, J_and31, shrJ0, shlJ0, gI_sA, gL_sA, Nat.reduceEqDiff, Nat.reduceAdd, Nat.reduceMul, Nat.reduceLT, Nat.reduceLeDiff], by simp (decide := true) (disch := omega) only [letS_d, grd_t, bnd_d, bnd1_d, bndX_d, bndX_e, gI_sI, gI_sL, gL_sL, gL_sI, upd_at, updL_at, J_lit, J_add, J_mul, J_sub, J_lt, J_le, J_inj, J_ne, ne_J, m_lt, lt_m, m_le, le_m, J_cl, J_inB, if_true, if_false, ite_true, ite_false, reduceIte, isZ0, isZ1, J_and31, shrJ0, shlJ0, gI_sA, gL_sA, Nat.reduceEqDiff, Nat.reduceAdd, Nat.reduceMul, Nat.reduceLT, Nat.reduceLeDiff]; exact h65'⟩, h4.fr fτ (by decide), h5.fr fσ (by decide), h6, hTo, hRo⟩
    · have ht := f3 (by omega)
      have := sameR_iff.mp ht s (by omega)
      rw [hRo t s (by omega) (by omega), hRn s (by omega), decide_eq_true hs, Bool.true_and, Bool.true_and] at this
      exact this
end CB
