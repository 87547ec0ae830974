/-! promises 14 and 15: what is written -/
theorem nJ_toInt {a : Nat} (h : a < 2147483648) : (-J a).toInt = -(a : Int) := by
  rw [Int32.toInt_neg, J_toInt h]
  exact Int.bmod_eq_of_le (by omega) (by omega)
theorem nJ_le {a b : Nat} (ha : a < 2147483648) (hb : b < 2147483648) : (-J a ≤ -J b) = (b ≤ a) := by
  rw [Int32.le_iff_toInt_le, nJ_toInt ha, nJ_toInt hb]
  exact propext ⟨fun h => by omega, fun h => by omega⟩
theorem nJ_lt {a b : Nat} (ha : a < 2147483648) (hb : b < 2147483648) : (-J a < -J b) = (b < a) := by
  rw [Int32.lt_iff_toInt_lt, nJ_toInt ha, nJ_toInt hb]
  exact propext ⟨fun h => by omega, fun h => by omega⟩
theorem nJ_neg (a : Nat) : - -J a = J a := Int32.neg_neg
theorem J_mneg (a b : Nat) : J a * -J b = -J (a * b) := by rw [Int32.mul_neg, J_mul]
theorem J_addm {a b : Nat} (h : b ≤ a) : J a + -J b = J (a - b) := by rw [← Int32.sub_eq_add_neg, J_sub h]
theorem J_div10 {n : Nat} (h : n < 100) : J n / J 10 = J (n / 10) := by
  have : ∀ n < 100, J n / J 10 = J (n / 10) := by decide +kernel
  exact this n h
theorem nz10 : nz (J 10) = true := rfl
theorem nar_b {c : Nat} (h : c < 128) : vp_nar .byte (J c) = J c := by
  have : ∀ c < 128, vp_nar .byte (J c) = J c := by decide +kernel
  exact this c h
theorem and255 {c : Nat} (h : c < 128) : (J c &&& J 255) = J c := by
  have : ∀ c < 128, (J c &&& J 255) = J c := by decide +kernel
  exact this c h
theorem sz0 : ((16 : Int32) >>> (J 0 &&& 31)) = J 16 := by decide
/-- what stands in both texts, up to a place -/
def Wr (w : Nat) (τ σ : St) : Prop := gI τ 103 0 = J w ∧ gI σ 53 0 = J w ∧ gI τ 101 0 = J 0 ∧ ∀ i, i < w → ∃ c, c < 128 ∧ gI τ 100 i = J c ∧ gI σ 52 i = J c
theorem cap_ok {N : Nat} {τ : St} (h : gI τ 101 0 = J 0) {n : Nat} (hn : n ≤ 16) : fJ5_ensureCapacityInternal_d00df N τ (J n) = some τ := by
  unfold fJ5_ensureCapacityInternal_d00df
  have h1 : J n - J 16 ≤ J 0 := by
    have : ∀ n < 17, J n - J 16 ≤ J 0 := by decide +kernel
    exact this n (by omega)
  rw [h, sz0]
  exact if_pos h1
theorem sLen_le : ∀ k < 7, sLen.getD k 0 ≤ 7 := by decide
theorem cpOK_J {a b x y : Nat} (hx : a ≤ x) (hy : b + a ≤ y) (hy2 : y < 100) (hx2 : x < 100) : cpOK (J 0) (J b) (J a) x y = true := by
  unfold cpOK
  have h1 : ¬ J 0 < 0 := by decide
  have h2 : ¬ J b < 0 := by
    show ¬ J b < J 0
    rw [J_lt (by omega) (by omega)]
    omega
  have h3 : ¬ J a < 0 := by
    show ¬ J a < J 0
    rw [J_lt (by omega) (by omega)]
    omega
  rw [decide_eq_false h1, decide_eq_false h2, decide_eq_false h3, J_cl (by omega), J_cl (by omega), J_cl (by omega), decide_eq_true (by omega), decide_eq_true (by omega)]
  rfl
theorem isB0 : isB (J 0) = true := by decide
theorem cls_app {N w k : Nat} {τ : St} (hk : k < 7) (h1 : gI τ 101 0 = J 0) (h2 : gI τ 103 0 = J w) (hw : w + sLen.getD k 0 ≤ 16) : ∃ τ', fJ4_append_15ec4 N τ k = some τ' ∧ Fr [100, 103] τ τ' ∧ gI τ' 103 0 = J (w + sLen.getD k 0) ∧ gI τ' 101 0 = J 0 ∧ (∀ i, i < w → gI τ' 100 i = gI τ 100 i) ∧ ∀ j, j < sLen.getD k 0 → gI τ' 100 (w + j) = (sByt.getD k []).getD j 0 := by
  have hd : decide (k < 7) = true := decide_eq_true hk
  have hl := sLen_le k hk
  have h10 : ¬ (J 1 : Int32) = J 0 := by decide
  have hco : fJ0_coder_7d493 N τ k = some (J 0, τ) := by
    unfold fJ0_coder_7d493
    simp (decide := true) (disch := omega) only [letS_d, grd_t, bnd_d, bnd1_d, bndX_d, bndX_e, gI_sI, gI_sL, gL_sL, gL_sI, upd_at, updL_at, J_lit, J_add, J_mul, J_sub, J_lt, J_le, J_inj, J_ne, ne_J, m_lt, lt_m, m_le, le_m, J_cl, J_inB, if_true, if_false, ite_true, ite_false, reduceIte, isZ0, isZ1, J_and31, shrJ0, shlJ0, gI_sA, gL_sA, Nat.reduceEqDiff, Nat.reduceAdd, Nat.reduceMul, Nat.reduceLT, Nat.reduceLeDiff, hd, isB0]
  have hle : fJ0_length_8abf5 N τ k = some (J (sLen.getD k 0), τ) := by
    unfold fJ0_length_8abf5
    rw [hd, hco]
    have e : (Int32.ofNat (sLen.getD k 0)) = J (sLen.getD k 0) := rfl
    simp (decide := true) (disch := omega) only [letS_d, grd_t, bnd_d, bnd1_d, bndX_d, bndX_e, gI_sI, gI_sL, gL_sL, gL_sI, upd_at, updL_at, J_lit, J_add, J_mul, J_sub, J_lt, J_le, J_inj, J_ne, ne_J, m_lt, lt_m, m_le, le_m, J_cl, J_inB, if_true, if_false, ite_true, ite_false, reduceIte, isZ0, isZ1, J_and31, shrJ0, shlJ0, gI_sA, gL_sA, Nat.reduceEqDiff, Nat.reduceAdd, Nat.reduceMul, Nat.reduceLT, Nat.reduceLeDiff, e]
  have hput : fJ5_putStringAt_47b60 N τ (J w) k = some (sA τ 100 (va_cpy (fun j => (sByt.getD k []).getD j 0) (gI τ 100) 0 w (sLen.getD k 0))) := by
    unfold fJ5_putStringAt_47b60 fJ5_inflateIfNeededFor_a7421 fJ0_getBytes_840e7
    have hcp := cpOK_J (a := sLen.getD k 0) (b := w) (x := sLen.getD k 0) (y := 16) (by omega) hw (by omega) (by omega)
    have hcl := J_cl (a := sLen.getD k 0) (by omega)
    have e : (Int32.ofNat (sLen.getD k 0)) = J (sLen.getD k 0) := rfl
    simp (decide := true) (disch := omega) only [letS_d, grd_t, bnd_d, bnd1_d, bndX_d, bndX_e, gI_sI, gI_sL, gL_sL, gL_sI, upd_at, updL_at, J_lit, J_add, J_mul, J_sub, J_lt, J_le, J_inj, J_ne, ne_J, m_lt, lt_m, m_le, le_m, J_cl, J_inB, if_true, if_false, ite_true, ite_false, reduceIte, isZ0, isZ1, J_and31, shrJ0, shlJ0, gI_sA, gL_sA, Nat.reduceEqDiff, Nat.reduceAdd, Nat.reduceMul, Nat.reduceLT, Nat.reduceLeDiff, hd, hco, h1, e, hcp, hcl]
  refine ⟨sI (sA τ 100 (va_cpy (fun j => (sByt.getD k []).getD j 0) (gI τ 100) 0 w (sLen.getD k 0))) 103 0 (J (w + sLen.getD k 0)), ?_, ?_, ?_, ?_, ?_, ?_⟩
  · unfold fJ4_append_15ec4 fJ5_append_cf1ce
    have hcap := cap_ok (N := N) h1 hw
    have hg : gI (sA τ 100 (va_cpy (fun j => (sByt.getD k []).getD j 0) (gI τ 100) 0 w (sLen.getD k 0))) 103 0 = J w := h2
    simp (decide := true) (disch := omega) only [letS_d, grd_t, bnd_d, bnd1_d, bndX_d, bndX_e, gI_sI, gI_sL, gL_sL, gL_sI, upd_at, updL_at, J_lit, J_add, J_mul, J_sub, J_lt, J_le, J_inj, J_ne, ne_J, m_lt, lt_m, m_le, le_m, J_cl, J_inB, if_true, if_false, ite_true, ite_false, reduceIte, isZ0, isZ1, J_and31, shrJ0, shlJ0, gI_sA, gL_sA, Nat.reduceEqDiff, Nat.reduceAdd, Nat.reduceMul, Nat.reduceLT, Nat.reduceLeDiff, hd, hle, h2, hcap, hput, hg]
  · exact (Fr.a (by decide)).tr (Fr.i (by decide))
  · simp (decide := true) (disch := omega) only [letS_d, grd_t, bnd_d, bnd1_d, bndX_d, bndX_e, gI_sI, gI_sL, gL_sL, gL_sI, upd_at, updL_at, J_lit, J_add, J_mul, J_sub, J_lt, J_le, J_inj, J_ne, ne_J, m_lt, lt_m, m_le, le_m, J_cl, J_inB, if_true, if_false, ite_true, ite_false, reduceIte, isZ0, isZ1, J_and31, shrJ0, shlJ0, gI_sA, gL_sA, Nat.reduceEqDiff, Nat.reduceAdd, Nat.reduceMul, Nat.reduceLT, Nat.reduceLeDiff]
  · show gI τ 101 0 = J 0
    exact h1
  · intro i hi
    simp (decide := true) (disch := omega) only [letS_d, grd_t, bnd_d, bnd1_d, bndX_d, bndX_e, gI_sI, gI_sL, gL_sL, gL_sI, upd_at, updL_at, J_lit, J_add, J_mul, J_sub, J_lt, J_le, J_inj, J_ne, ne_J, m_lt, lt_m, m_le, le_m, J_cl, J_inB, if_true, if_false, ite_true, ite_false, reduceIte, isZ0, isZ1, J_and31, shrJ0, shlJ0, gI_sA, gL_sA, Nat.reduceEqDiff, Nat.reduceAdd, Nat.reduceMul, Nat.reduceLT, Nat.reduceLeDiff]
    unfold va_cpy
    rw [if_neg (by omega)]
  · intro j hj
    simp (decide := true) (disch := omega) only [letS_d, grd_t, bnd_d, bnd1_d, bndX_d, bndX_e, gI_sI, gI_sL, gL_sL, gL_sI, upd_at, updL_at, J_lit, J_add, J_mul, J_sub, J_lt, J_le, J_inj, J_ne, ne_J, m_lt, lt_m, m_le, le_m, J_cl, J_inB, if_true, if_false, ite_true, ite_false, reduceIte, isZ0, isZ1, J_and31, shrJ0, shlJ0, gI_sA, gL_sA, Nat.reduceEqDiff, Nat.reduceAdd, Nat.reduceMul, Nat.reduceLT, Nat.reduceLeDiff]
    unfold va_cpy
    rw [if_pos (by omega), show 0 + (w + j - w) = j from by omega]
/-- the bytes of a word, up to its end -/
def bys : Nat → Int64 → List Nat
  | 0, _ => []
  | f + 1, x => if lg_cmp x 0 = J 0 then [] else byt x 0 :: bys f (x >>> ((8 : Int32).toInt64 &&& 63))
def byE : Nat → Int64 → Bool
  | 0, x => decide (lg_cmp x 0 = J 0)
  | f + 1, x => if lg_cmp x 0 = J 0 then true else byE f (x >>> ((8 : Int32).toInt64 &&& 63))
theorem ref_tell {N w c : Nat} {σ : St} (hc : c < 128) (hw : w < 32) (h : gI σ 53 0 = J w) : fX9_tell N σ (J c) = some (sI (sI σ 52 w (J c)) 53 0 (J (w + 1))) := by
  unfold fX9_tell
  simp (decide := true) (disch := omega) only [letS_d, grd_t, bnd_d, bnd1_d, bndX_d, bndX_e, gI_sI, gI_sL, gL_sL, gL_sI, upd_at, updL_at, J_lit, J_add, J_mul, J_sub, J_lt, J_le, J_inj, J_ne, ne_J, m_lt, lt_m, m_le, le_m, J_cl, J_inB, if_true, if_false, ite_true, ite_false, reduceIte, isZ0, isZ1, J_and31, shrJ0, shlJ0, gI_sA, gL_sA, Nat.reduceEqDiff, Nat.reduceAdd, Nat.reduceMul, Nat.reduceLT, Nat.reduceLeDiff, h, nar_c (c := c) (by omega)]
theorem ref_bys {N : Nat} : ∀ f n x w (σ : St), f < n → byE f x = true → gI σ 53 0 = J w → w + (bys f x).length ≤ 32 → (∀ c ∈ bys f x, c < 128) → ∃ σ', fX9_tellWord_58 N n σ x = some σ' ∧ Fr [52, 53] σ σ' ∧ gI σ' 53 0 = J (w + (bys f x).length) ∧ (∀ i, i < w → gI σ' 52 i = gI σ 52 i) ∧ ∀ j, j < (bys f x).length → gI σ' 52 (w + j) = J ((bys f x).getD j 0) := by
  intro f
  induction f with
  | zero =>
    intro n x w σ hn he h1 h2 h3
    obtain ⟨n, rfl⟩ : ∃ k, n = k + 1 := ⟨n - 1, by omega⟩
    have he' : lg_cmp x 0 = J 0 := of_decide_eq_true he
    unfold fX9_tellWord_58
    refine ⟨σ, by simp (decide := true) (disch := omega) only [letS_d, grd_t, bnd_d, bnd1_d, bndX_d, bndX_e, gI_sI, gI_sL, gL_sL, gL_sI, upd_at, updL_at, J_lit, J_add, J_mul, J_sub, J_lt, J_le, J_inj, J_ne, ne_J, m_lt, lt_m, m_le, le_m, J_cl, J_inB, if_true, if_false, ite_true, ite_false, reduceIte, isZ0, isZ1, J_and31, shrJ0, shlJ0, gI_sA, gL_sA, Nat.reduceEqDiff, Nat.reduceAdd, Nat.reduceMul, Nat.reduceLT, Nat.reduceLeDiff, he'], Fr.rf, h1, fun _ _ => rfl, fun j hj => ?_⟩
    simp [bys] at hj
  | succ f ih =>
    intro n x w σ hn he h1 h2 h3
    obtain ⟨n, rfl⟩ : ∃ k, n = k + 1 := ⟨n - 1, by omega⟩
    unfold fX9_tellWord_58
    unfold byE at he
    unfold bys at h2 h3 ⊢
    by_cases hz : lg_cmp x 0 = J 0
    · rw [if_pos hz]
      refine ⟨σ, by simp (decide := true) (disch := omega) only [letS_d, grd_t, bnd_d, bnd1_d, bndX_d, bndX_e, gI_sI, gI_sL, gL_sL, gL_sI, upd_at, updL_at, J_lit, J_add, J_mul, J_sub, J_lt, J_le, J_inj, J_ne, ne_J, m_lt, lt_m, m_le, le_m, J_cl, J_inB, if_true, if_false, ite_true, ite_false, reduceIte, isZ0, isZ1, J_and31, shrJ0, shlJ0, gI_sA, gL_sA, Nat.reduceEqDiff, Nat.reduceAdd, Nat.reduceMul, Nat.reduceLT, Nat.reduceLeDiff, hz], Fr.rf, h1, fun _ _ => rfl, fun j hj => ?_⟩
      simp at hj
    · rw [if_neg hz] at he h2 h3 ⊢
      have hb := h3 _ (List.mem_cons_self ..)
      rw [List.length_cons] at h2
      obtain ⟨σ', e1, e2, e3, e4, e5⟩ := ih n (x >>> ((8 : Int32).toInt64 &&& 63)) (w + 1) (sI (sI σ 52 w (J (byt x 0))) 53 0 (J (w + 1))) (by omega) he (by simp (decide := true) (disch := omega) only [letS_d, grd_t, bnd_d, bnd1_d, bndX_d, bndX_e, gI_sI, gI_sL, gL_sL, gL_sI, upd_at, updL_at, J_lit, J_add, J_mul, J_sub, J_lt, J_le, J_inj, J_ne, ne_J, m_lt, lt_m, m_le, le_m, J_cl, J_inB, if_true, if_false, ite_true, ite_false, reduceIte, isZ0, isZ1, J_and31, shrJ0, shlJ0, gI_sA, gL_sA, Nat.reduceEqDiff, Nat.reduceAdd, Nat.reduceMul, Nat.reduceLT, Nat.reduceLeDiff]) (by omega) (fun c hc => h3 c (List.mem_cons_of_mem _ hc))
      have e9 : (((x &&& (255 : Int64)).toInt32).toUInt32 % 65536).toInt32 = J (byt x 0) := by
        rw [ref_byte0, l2i (byt_lt x 0), i2c (by omega)]
      refine ⟨σ', ?_, (((Fr.i (by decide)).tr (Fr.i (by decide))).tr e2), ?_, fun i hi => ?_, fun j hj => ?_⟩
      · rw [e9, ref_tell hb (by omega) h1]
        show (if lg_cmp x 0 = J 0 then some σ else fX9_tellWord_58 N n _ _) = _
        rw [if_neg hz]
        exact e1
      · rw [e3, List.length_cons]
        congr 1
        omega
      · rw [e4 i (by omega)]
        have h9 : ¬ i = w := by omega
        simp (decide := true) (disch := omega) only [letS_d, grd_t, bnd_d, bnd1_d, bndX_d, bndX_e, gI_sI, gI_sL, gL_sL, gL_sI, upd_at, updL_at, J_lit, J_add, J_mul, J_sub, J_lt, J_le, J_inj, J_ne, ne_J, m_lt, lt_m, m_le, le_m, J_cl, J_inB, if_true, if_false, ite_true, ite_false, reduceIte, isZ0, isZ1, J_and31, shrJ0, shlJ0, gI_sA, gL_sA, Nat.reduceEqDiff, Nat.reduceAdd, Nat.reduceMul, Nat.reduceLT, Nat.reduceLeDiff, h9]
      · cases j with
        | zero =>
          rw [Nat.add_zero, e4 w (by omega)]
          simp (decide := true) (disch := omega) only [letS_d, grd_t, bnd_d, bnd1_d, bndX_d, bndX_e, gI_sI, gI_sL, gL_sL, gL_sI, upd_at, updL_at, J_lit, J_add, J_mul, J_sub, J_lt, J_le, J_inj, J_ne, ne_J, m_lt, lt_m, m_le, le_m, J_cl, J_inB, if_true, if_false, ite_true, ite_false, reduceIte, isZ0, isZ1, J_and31, shrJ0, shlJ0, gI_sA, gL_sA, Nat.reduceEqDiff, Nat.reduceAdd, Nat.reduceMul, Nat.reduceLT, Nat.reduceLeDiff]
          rfl
        | succ j =>
          rw [List.length_cons] at hj
          have := e5 j (by omega)
          rw [show w + (j + 1) = w + 1 + j from by omega, this]
          rfl
/-- one word more -/
theorem both_word {N w k : Nat} {τ σ : St} {x : Int64} (hN : 100 ≤ N) (hk : k < 7) (h : Wr w τ σ) (hw : w + sLen.getD k 0 ≤ 16) (hx : byE 8 x = true) (hb : bys 8 x = ((sByt.getD k []).map (fun c => c.toNatClampNeg)) ∧ ((sByt.getD k []).length = sLen.getD k 0) ∧ ∀ c ∈ sByt.getD k [], c = J c.toNatClampNeg ∧ c.toNatClampNeg < 128) : ∃ τ' σ', fJ4_append_15ec4 N τ k = some τ' ∧ fX9_tellWord_57 N σ x = some σ' ∧ Fr [100, 103] τ τ' ∧ Fr [52, 53] σ σ' ∧ Wr (w + sLen.getD k 0) τ' σ' := by
  obtain ⟨h1, h2, h3, h4⟩ := h
  obtain ⟨b1, b2, b3⟩ := hb
  obtain ⟨τ', c1, c2, c3, c4, c5, c6⟩ := cls_app (N := N) hk h3 h1 hw
  have hlen : (bys 8 x).length = sLen.getD k 0 := by rw [b1, List.length_map, b2]
  obtain ⟨σ', d1, d2, d3, d4, d5⟩ := ref_bys (N := N) 8 N x w σ (by omega) hx h2 (by omega) (fun c hc => by
    rw [b1] at hc
    obtain ⟨y, y1, rfl⟩ := List.mem_map.mp hc
    exact (b3 y y1).2)
  refine ⟨τ', σ', c1, d1, c2, d2, c3, by rw [d3, hlen], c4, fun i hi => ?_⟩
  by_cases hi1 : i < w
  · obtain ⟨c, q1, q2, q3⟩ := h4 i hi1
    exact ⟨c, q1, by rw [c5 i hi1]; exact q2, by rw [d4 i hi1]; exact q3⟩
  · obtain ⟨j, rfl⟩ : ∃ j, i = w + j := ⟨i - w, by omega⟩
    have hj : j < (sByt.getD k []).length := by omega
    have c6' := c6 j (by omega)
    have d5' := d5 j (by omega)
    rw [b1] at d5'
    generalize sByt.getD k [] = Y at *
    have hm : Y.getD j 0 = Y[j] := by
      rw [List.getD_eq_getElem?_getD, List.getElem?_eq_getElem hj]
      rfl
    have hm2 : (Y.map (fun c => c.toNatClampNeg)).getD j 0 = Y[j].toNatClampNeg := by
      rw [List.getD_eq_getElem?_getD, List.getElem?_map, List.getElem?_eq_getElem hj]
      rfl
    obtain ⟨z1, z2⟩ := b3 _ (List.getElem_mem hj)
    exact ⟨Y[j].toNatClampNeg, z2, by rw [c6', hm]; exact z1, by rw [d5', hm2]⟩
/-- how many digits a number has -/
def dg (n : Nat) : Nat := if n ≤ 9 then 1 else 2
theorem ref_num {N w n : Nat} {σ : St} (hn : n < 100) (h : gI σ 53 0 = J w) (hw : w + dg n ≤ 32) : ∃ σ', fX9_tellNumber N σ (J n) = some σ' ∧ Fr [52, 53] σ σ' ∧ gI σ' 53 0 = J (w + dg n) ∧ (∀ i, i < w → gI σ' 52 i = gI σ 52 i) ∧ gI σ' 52 (w + dg n - 1) = J (48 + n % 10) ∧ (¬ n ≤ 9 → gI σ' 52 w = J (48 + n / 10)) := by
  unfold dg at hw ⊢
  unfold fX9_tellNumber fX9_tellNumber_18
  have hm : n - n / 10 * 10 = n % 10 := by omega
  have hm2 : n / 10 * 10 ≤ n := by omega
  have hi1 := i2c (c := 48 + n % 10) (by omega)
  have hi2 := i2c (c := 48 + n / 10) (by omega)
  by_cases h9 : n ≤ 9
  · rw [if_pos h9] at hw ⊢
    have t1 := ref_tell (N := N) (w := w) (c := 48 + n % 10) (by omega) (by omega) h
    refine ⟨sI (sI σ 52 w (J (48 + n % 10))) 53 0 (J (w + 1)), by simp (decide := true) (disch := omega) only [letS_d, grd_t, bnd_d, bnd1_d, bndX_d, bndX_e, gI_sI, gI_sL, gL_sL, gL_sI, upd_at, updL_at, J_lit, J_add, J_mul, J_sub, J_lt, J_le, J_inj, J_ne, ne_J, m_lt, lt_m, m_le, le_m, J_cl, J_inB, if_true, if_false, ite_true, ite_false, reduceIte, isZ0, isZ1, J_and31, shrJ0, shlJ0, gI_sA, gL_sA, Nat.reduceEqDiff, Nat.reduceAdd, Nat.reduceMul, Nat.reduceLT, Nat.reduceLeDiff, h9, nz10, J_div10 hn, hm, hi1, t1], (Fr.i (by decide)).tr (Fr.i (by decide)), by simp (decide := true) (disch := omega) only [letS_d, grd_t, bnd_d, bnd1_d, bndX_d, bndX_e, gI_sI, gI_sL, gL_sL, gL_sI, upd_at, updL_at, J_lit, J_add, J_mul, J_sub, J_lt, J_le, J_inj, J_ne, ne_J, m_lt, lt_m, m_le, le_m, J_cl, J_inB, if_true, if_false, ite_true, ite_false, reduceIte, isZ0, isZ1, J_and31, shrJ0, shlJ0, gI_sA, gL_sA, Nat.reduceEqDiff, Nat.reduceAdd, Nat.reduceMul, Nat.reduceLT, Nat.reduceLeDiff], fun i hi => ?_, ?_, fun h => absurd h9 h⟩
    · have : ¬ i = w := by omega
      simp (decide := true) (disch := omega) only [letS_d, grd_t, bnd_d, bnd1_d, bndX_d, bndX_e, gI_sI, gI_sL, gL_sL, gL_sI, upd_at, updL_at, J_lit, J_add, J_mul, J_sub, J_lt, J_le, J_inj, J_ne, ne_J, m_lt, lt_m, m_le, le_m, J_cl, J_inB, if_true, if_false, ite_true, ite_false, reduceIte, isZ0, isZ1, J_and31, shrJ0, shlJ0, gI_sA, gL_sA, Nat.reduceEqDiff, Nat.reduceAdd, Nat.reduceMul, Nat.reduceLT, Nat.reduceLeDiff, this]
    · have : w + 1 - 1 = w := by omega
      simp (decide := true) (disch := omega) only [letS_d, grd_t, bnd_d, bnd1_d, bndX_d, bndX_e, gI_sI, gI_sL, gL_sL, gL_sI, upd_at, updL_at, J_lit, J_add, J_mul, J_sub, J_lt, J_le, J_inj, J_ne, ne_J, m_lt, lt_m, m_le, le_m, J_cl, J_inB, if_true, if_false, ite_true, ite_false, reduceIte, isZ0, isZ1, J_and31, shrJ0, shlJ0, gI_sA, gL_sA, Nat.reduceEqDiff, Nat.reduceAdd, Nat.reduceMul, Nat.reduceLT, Nat.reduceLeDiff, this]
  · rw [if_neg h9] at hw ⊢
    have t1 := ref_tell (N := N) (w := w) (c := 48 + n / 10) (by omega) (by omega) h
    have t2 := ref_tell (N := N) (σ := sI (sI σ 52 w (J (48 + n / 10))) 53 0 (J (w + 1))) (w := w + 1) (c := 48 + n % 10) (by omega) (by omega) (by simp (decide := true) (disch := omega) only [letS_d, grd_t, bnd_d, bnd1_d, bndX_d, bndX_e, gI_sI, gI_sL, gL_sL, gL_sI, upd_at, updL_at, J_lit, J_add, J_mul, J_sub, J_lt, J_le, J_inj, J_ne, ne_J, m_lt, lt_m, m_le, le_m, J_cl, J_inB, if_true, if_false, ite_true, ite_false, reduceIte, isZ0, isZ1, J_and31, shrJ0, shlJ0, gI_sA, gL_sA, Nat.reduceEqDiff, Nat.reduceAdd, Nat.reduceMul, Nat.reduceLT, Nat.reduceLeDiff])
    refine ⟨sI (sI (sI (sI σ 52 w (J (48 + n / 10))) 53 0 (J (w + 1))) 52 (w + 1) (J (48 + n % 10))) 53 0 (J (w + 1 + 1)), by simp (decide := true) (disch := omega) only [letS_d, grd_t, bnd_d, bnd1_d, bndX_d, bndX_e, gI_sI, gI_sL, gL_sL, gL_sI, upd_at, updL_at, J_lit, J_add, J_mul, J_sub, J_lt, J_le, J_inj, J_ne, ne_J, m_lt, lt_m, m_le, le_m, J_cl, J_inB, if_true, if_false, ite_true, ite_false, reduceIte, isZ0, isZ1, J_and31, shrJ0, shlJ0, gI_sA, gL_sA, Nat.reduceEqDiff, Nat.reduceAdd, Nat.reduceMul, Nat.reduceLT, Nat.reduceLeDiff, h9, nz10, J_div10 hn, hm, hi1, hi2, t1, t2], (((Fr.i (by decide)).tr (Fr.i (by decide))).tr (Fr.i (by decide))).tr (Fr.i (by decide)), by simp (decide := true) (disch := omega) only [letS_d, grd_t, bnd_d, bnd1_d, bndX_d, bndX_e, gI_sI, gI_sL, gL_sL, gL_sI, upd_at, updL_at, J_lit, J_add, J_mul, J_sub, J_lt, J_le, J_inj, J_ne, ne_J, m_lt, lt_m, m_le, le_m, J_cl, J_inB, if_true, if_false, ite_true, ite_false, reduceIte, isZ0, isZ1, J_and31, shrJ0, shlJ0, gI_sA, gL_sA, Nat.reduceEqDiff, Nat.reduceAdd, Nat.reduceMul, Nat.reduceLT, Nat.reduceLeDiff], fun i hi => ?_, ?_, fun _ => ?_⟩
    · have q1 : ¬ i = w := by omega
      have q2 : ¬ i = w + 1 := by omega
      simp (decide := true) (disch := omega) only [letS_d, grd_t, bnd_d, bnd1_d, bndX_d, bndX_e, gI_sI, gI_sL, gL_sL, gL_sI, upd_at, updL_at, J_lit, J_add, J_mul, J_sub, J_lt, J_le, J_inj, J_ne, ne_J, m_lt, lt_m, m_le, le_m, J_cl, J_inB, if_true, if_false, ite_true, ite_false, reduceIte, isZ0, isZ1, J_and31, shrJ0, shlJ0, gI_sA, gL_sA, Nat.reduceEqDiff, Nat.reduceAdd, Nat.reduceMul, Nat.reduceLT, Nat.reduceLeDiff, q1, q2]
    · have : w + 2 - 1 = w + 1 := by omega
      simp (decide := true) (disch := omega) only [letS_d, grd_t, bnd_d, bnd1_d, bndX_d, bndX_e, gI_sI, gI_sL, gL_sL, gL_sI, upd_at, updL_at, J_lit, J_add, J_mul, J_sub, J_lt, J_le, J_inj, J_ne, ne_J, m_lt, lt_m, m_le, le_m, J_cl, J_inB, if_true, if_false, ite_true, ite_false, reduceIte, isZ0, isZ1, J_and31, shrJ0, shlJ0, gI_sA, gL_sA, Nat.reduceEqDiff, Nat.reduceAdd, Nat.reduceMul, Nat.reduceLT, Nat.reduceLeDiff, this]
    · have : ¬ w = w + 1 := by omega
      simp (decide := true) (disch := omega) only [letS_d, grd_t, bnd_d, bnd1_d, bndX_d, bndX_e, gI_sI, gI_sL, gL_sL, gL_sI, upd_at, updL_at, J_lit, J_add, J_mul, J_sub, J_lt, J_le, J_inj, J_ne, ne_J, m_lt, lt_m, m_le, le_m, J_cl, J_inB, if_true, if_false, ite_true, ite_false, reduceIte, isZ0, isZ1, J_and31, shrJ0, shlJ0, gI_sA, gL_sA, Nat.reduceEqDiff, Nat.reduceAdd, Nat.reduceMul, Nat.reduceLT, Nat.reduceLeDiff, this]
theorem cls_size {N n : Nat} (hN : 100 ≤ N) {τ : St} (hn : n < 100) : fJ6_stringSize_0f7a4 N τ (J n) = some (J (dg n), τ) := by
  obtain ⟨N, rfl⟩ : ∃ k, N = k + 2 := ⟨N - 2, by omega⟩
  unfold fJ6_stringSize_0f7a4 fJ6_stringSize_0f7a4_11 dg
  unfold fJ6_stringSize_0f7a4_16
  by_cases h9 : n ≤ 9
  · have h10 : ¬ 10 ≤ n := by omega
    simp (decide := true) (disch := omega) only [letS_d, grd_t, bnd_d, bnd1_d, bndX_d, bndX_e, gI_sI, gI_sL, gL_sL, gL_sI, upd_at, updL_at, J_lit, J_add, J_mul, J_sub, J_lt, J_le, J_inj, J_ne, ne_J, m_lt, lt_m, m_le, le_m, J_cl, J_inB, if_true, if_false, ite_true, ite_false, reduceIte, isZ0, isZ1, J_and31, shrJ0, shlJ0, gI_sA, gL_sA, Nat.reduceEqDiff, Nat.reduceAdd, Nat.reduceMul, Nat.reduceLT, Nat.reduceLeDiff, Nat.not_lt_zero, nJ_le, h9, h10]
  · have h10 : 10 ≤ n := by omega
    have h11 : ¬ 100 ≤ n := by omega
    simp (decide := true) (disch := omega) only [letS_d, grd_t, bnd_d, bnd1_d, bndX_d, bndX_e, gI_sI, gI_sL, gL_sL, gL_sI, upd_at, updL_at, J_lit, J_add, J_mul, J_sub, J_lt, J_le, J_inj, J_ne, ne_J, m_lt, lt_m, m_le, le_m, J_cl, J_inB, if_true, if_false, ite_true, ite_false, reduceIte, isZ0, isZ1, J_and31, shrJ0, shlJ0, gI_sA, gL_sA, Nat.reduceEqDiff, Nat.reduceAdd, Nat.reduceMul, Nat.reduceLT, Nat.reduceLeDiff, Nat.not_lt_zero, nJ_le, h9, h10, J_mneg]
    unfold fJ6_stringSize_0f7a4_16
    simp (decide := true) (disch := omega) only [letS_d, grd_t, bnd_d, bnd1_d, bndX_d, bndX_e, gI_sI, gI_sL, gL_sL, gL_sI, upd_at, updL_at, J_lit, J_add, J_mul, J_sub, J_lt, J_le, J_inj, J_ne, ne_J, m_lt, lt_m, m_le, le_m, J_cl, J_inB, if_true, if_false, ite_true, ite_false, reduceIte, isZ0, isZ1, J_and31, shrJ0, shlJ0, gI_sA, gL_sA, Nat.reduceEqDiff, Nat.reduceAdd, Nat.reduceMul, Nat.reduceLT, Nat.reduceLeDiff, nJ_le, h11]
theorem inBneg {n : Nat} (h : n < 100) : inB (- -J n) 100 = true := by rw [nJ_neg]; exact J_inB h (by omega)
theorem cls_get1 {N M w n : Nat} {τ : St} (h9 : n ≤ 9) (hw : w + 1 ≤ 16) : fJ6_getChars_ba4f3_22 N (M + 1) τ (-J n) (J (w + 1)) (J 0) = some (J w, sI τ 100 w (J (48 + n % 10))) := by
  have o1 : cONES (- -J n).toNatClampNeg = J (48 + n % 10) := by rw [nJ_neg, J_cl (by omega)]; rfl
  have nb1 := nar_b (c := 48 + n % 10) (by omega)
  have e1 : J (w + 1) + (-1 : Int32) = J w := J_addm (a := w + 1) (b := 1) (by omega)
  have e2 : (-100 : Int32) < -J n := (nJ_lt (a := 100) (b := n) (by omega) (by omega)).mpr (by omega)
  have e3 : (-9 : Int32) ≤ -J n := (nJ_le (a := 9) (b := n) (by omega) (by omega)).mpr (by omega)
  have e4 : inB (J w) 16 = true := J_inB (by omega) (by omega)
  have e5 : (J w).toNatClampNeg = w := J_cl (by omega)
  unfold fJ6_getChars_ba4f3_22
  rw [if_pos e2, e1, letS_d, inBneg (by omega), e4, e5, o1, nb1, grd_t, grd_t, letS_d, if_pos e3]
  unfold fJ6_getChars_ba4f3_104
  rw [if_pos (show J 0 = (0 : Int32) from rfl)]
  rfl
theorem cls_get2 {N M w n : Nat} {τ : St} (h9 : ¬ n ≤ 9) (hn : n < 100) (hw : w + 2 ≤ 16) : fJ6_getChars_ba4f3_22 N (M + 1) τ (-J n) (J (w + 2)) (J 0) = some (J w, sI (sI τ 100 (w + 1) (J (48 + n % 10))) 100 w (J (48 + n / 10))) := by
  have o1 : cONES (- -J n).toNatClampNeg = J (48 + n % 10) := by rw [nJ_neg, J_cl (by omega)]; rfl
  have o2 : cTENS (- -J n).toNatClampNeg = J (48 + n / 10) := by rw [nJ_neg, J_cl (by omega)]; rfl
  have nb1 := nar_b (c := 48 + n % 10) (by omega)
  have nb2 := nar_b (c := 48 + n / 10) (by omega)
  have e0 : J (w + 2) + (-1 : Int32) = J (w + 1) := J_addm (a := w + 2) (b := 1) (by omega)
  have e1 : J (w + 1) + (-1 : Int32) = J w := J_addm (a := w + 1) (b := 1) (by omega)
  have e2 : (-100 : Int32) < -J n := (nJ_lt (a := 100) (b := n) (by omega) (by omega)).mpr (by omega)
  have e3 : ¬ (-9 : Int32) ≤ -J n := fun h => h9 ((nJ_le (a := 9) (b := n) (by omega) (by omega)).mp h)
  have e4 : inB (J w) 16 = true := J_inB (by omega) (by omega)
  have e7 : inB (J (w + 1)) 16 = true := J_inB (by omega) (by omega)
  have e5 : (J w).toNatClampNeg = w := J_cl (by omega)
  have e8 : (J (w + 1)).toNatClampNeg = w + 1 := J_cl (by omega)
  unfold fJ6_getChars_ba4f3_22
  rw [if_pos e2, e0, letS_d, inBneg hn, e7, e8, o1, nb1, grd_t, grd_t, letS_d, if_neg e3, e1, letS_d, grd_t, e4, e5, o2, nb2, grd_t, letS_d]
  unfold fJ6_getChars_ba4f3_104
  rw [if_pos (show J 0 = (0 : Int32) from rfl)]
  rfl
theorem cls_num {N w n : Nat} (hN : 100 ≤ N) {τ : St} (hn : n < 100) (h1 : gI τ 101 0 = J 0) (h : gI τ 103 0 = J w) (hw : w + dg n ≤ 16) : ∃ τ', fJ4_append_bf812 N τ (J n) = some τ' ∧ Fr [100, 103] τ τ' ∧ gI τ' 103 0 = J (w + dg n) ∧ gI τ' 101 0 = J 0 ∧ (∀ i, i < w → gI τ' 100 i = gI τ 100 i) ∧ gI τ' 100 (w + dg n - 1) = J (48 + n % 10) ∧ (¬ n ≤ 9 → gI τ' 100 w = J (48 + n / 10)) := by
  have hsz := cls_size (N := N) hN (τ := τ) hn
  have hcap := cap_ok (N := N) h1 hw
  have hla : fJ5_isLatin1_aae02 N τ = some (J 1, τ) := by
    unfold fJ5_isLatin1_aae02
    simp (decide := true) (disch := omega) only [letS_d, grd_t, bnd_d, bnd1_d, bndX_d, bndX_e, gI_sI, gI_sL, gL_sL, gL_sI, upd_at, updL_at, J_lit, J_add, J_mul, J_sub, J_lt, J_le, J_inj, J_ne, ne_J, m_lt, lt_m, m_le, le_m, J_cl, J_inB, if_true, if_false, ite_true, ite_false, reduceIte, isZ0, isZ1, J_and31, shrJ0, shlJ0, gI_sA, gL_sA, Nat.reduceEqDiff, Nat.reduceAdd, Nat.reduceMul, Nat.reduceLT, Nat.reduceLeDiff, h1]
  unfold fJ4_append_bf812 fJ5_append_c97b9 fJ5_append_c97b9_48 fJ6_getChars_ba4f3 fJ6_getChars_ba4f3_12
  unfold dg at hw hsz hcap ⊢
  by_cases h9 : n ≤ 9
  · rw [if_pos h9] at hw hsz hcap ⊢
    have hg : fJ6_getChars_ba4f3_22 N N τ (-J n) (J (w + 1)) (J 0) = some (J w, sI τ 100 w (J (48 + n % 10))) := by
      obtain ⟨M, e⟩ : ∃ k, N = k + 1 := ⟨N - 1, by omega⟩
      have := cls_get1 (N := N) (M := M) (τ := τ) h9 hw
      rw [← e] at this
      exact this
    refine ⟨sI (sI τ 100 w (J (48 + n % 10))) 103 0 (J (w + 1)), ?_, (Fr.i (by decide)).tr (Fr.i (by decide)), by simp (decide := true) (disch := omega) only [letS_d, grd_t, bnd_d, bnd1_d, bndX_d, bndX_e, gI_sI, gI_sL, gL_sL, gL_sI, upd_at, updL_at, J_lit, J_add, J_mul, J_sub, J_lt, J_le, J_inj, J_ne, ne_J, m_lt, lt_m, m_le, le_m, J_cl, J_inB, if_true, if_false, ite_true, ite_false, reduceIte, isZ0, isZ1, J_and31, shrJ0, shlJ0, gI_sA, gL_sA, Nat.reduceEqDiff, Nat.reduceAdd, Nat.reduceMul, Nat.reduceLT, Nat.reduceLeDiff], by simp (decide := true) (disch := omega) only [letS_d, grd_t, bnd_d, bnd1_d, bndX_d, bndX_e, gI_sI, gI_sL, gL_sL, gL_sI, upd_at, updL_at, J_lit, J_add, J_mul, J_sub, J_lt, J_le, J_inj, J_ne, ne_J, m_lt, lt_m, m_le, le_m, J_cl, J_inB, if_true, if_false, ite_true, ite_false, reduceIte, isZ0, isZ1, J_and31, shrJ0, shlJ0, gI_sA, gL_sA, Nat.reduceEqDiff, Nat.reduceAdd, Nat.reduceMul, Nat.reduceLT, Nat.reduceLeDiff]; exact h1, fun i hi => ?_, ?_, fun h => absurd h9 h⟩
    · simp (decide := true) (disch := omega) only [letS_d, grd_t, bnd_d, bnd1_d, bndX_d, bndX_e, gI_sI, gI_sL, gL_sL, gL_sI, upd_at, updL_at, J_lit, J_add, J_mul, J_sub, J_lt, J_le, J_inj, J_ne, ne_J, m_lt, lt_m, m_le, le_m, J_cl, J_inB, if_true, if_false, ite_true, ite_false, reduceIte, isZ0, isZ1, J_and31, shrJ0, shlJ0, gI_sA, gL_sA, Nat.reduceEqDiff, Nat.reduceAdd, Nat.reduceMul, Nat.reduceLT, Nat.reduceLeDiff, h, hsz, hcap, hla, Nat.zero_le, hg]
    · have : ¬ i = w := by omega
      simp (decide := true) (disch := omega) only [letS_d, grd_t, bnd_d, bnd1_d, bndX_d, bndX_e, gI_sI, gI_sL, gL_sL, gL_sI, upd_at, updL_at, J_lit, J_add, J_mul, J_sub, J_lt, J_le, J_inj, J_ne, ne_J, m_lt, lt_m, m_le, le_m, J_cl, J_inB, if_true, if_false, ite_true, ite_false, reduceIte, isZ0, isZ1, J_and31, shrJ0, shlJ0, gI_sA, gL_sA, Nat.reduceEqDiff, Nat.reduceAdd, Nat.reduceMul, Nat.reduceLT, Nat.reduceLeDiff, this]
    · have e1 : w + 1 - 1 = w := by omega
      simp (decide := true) (disch := omega) only [letS_d, grd_t, bnd_d, bnd1_d, bndX_d, bndX_e, gI_sI, gI_sL, gL_sL, gL_sI, upd_at, updL_at, J_lit, J_add, J_mul, J_sub, J_lt, J_le, J_inj, J_ne, ne_J, m_lt, lt_m, m_le, le_m, J_cl, J_inB, if_true, if_false, ite_true, ite_false, reduceIte, isZ0, isZ1, J_and31, shrJ0, shlJ0, gI_sA, gL_sA, Nat.reduceEqDiff, Nat.reduceAdd, Nat.reduceMul, Nat.reduceLT, Nat.reduceLeDiff, e1]
  · rw [if_neg h9] at hw hsz hcap ⊢
    have hg : fJ6_getChars_ba4f3_22 N N τ (-J n) (J (w + 2)) (J 0) = some (J w, sI (sI τ 100 (w + 1) (J (48 + n % 10))) 100 w (J (48 + n / 10))) := by
      obtain ⟨M, e⟩ : ∃ k, N = k + 1 := ⟨N - 1, by omega⟩
      have := cls_get2 (N := N) (M := M) (τ := τ) h9 hn hw
      rw [← e] at this
      exact this
    refine ⟨sI (sI (sI τ 100 (w + 1) (J (48 + n % 10))) 100 w (J (48 + n / 10))) 103 0 (J (w + 2)), ?_, ((Fr.i (by decide)).tr (Fr.i (by decide))).tr (Fr.i (by decide)), by simp (decide := true) (disch := omega) only [letS_d, grd_t, bnd_d, bnd1_d, bndX_d, bndX_e, gI_sI, gI_sL, gL_sL, gL_sI, upd_at, updL_at, J_lit, J_add, J_mul, J_sub, J_lt, J_le, J_inj, J_ne, ne_J, m_lt, lt_m, m_le, le_m, J_cl, J_inB, if_true, if_false, ite_true, ite_false, reduceIte, isZ0, isZ1, J_and31, shrJ0, shlJ0, gI_sA, gL_sA, Nat.reduceEqDiff, Nat.reduceAdd, Nat.reduceMul, Nat.reduceLT, Nat.reduceLeDiff], by simp (decide := true) (disch := omega) only [letS_d, grd_t, bnd_d, bnd1_d, bndX_d, bndX_e, gI_sI, gI_sL, gL_sL, gL_sI, upd_at, updL_at, J_lit, J_add, J_mul, J_sub, J_lt, J_le, J_inj, J_ne, ne_J, m_lt, lt_m, m_le, le_m, J_cl, J_inB, if_true, if_false, ite_true, ite_false, reduceIte, isZ0, isZ1, J_and31, shrJ0, shlJ0, gI_sA, gL_sA, Nat.reduceEqDiff, Nat.reduceAdd, Nat.reduceMul, Nat.reduceLT, Nat.reduceLeDiff]; exact h1, fun i hi => ?_, ?_, fun _ => ?_⟩
    · simp (decide := true) (disch := omega) only [letS_d, grd_t, bnd_d, bnd1_d, bndX_d, bndX_e, gI_sI, gI_sL, gL_sL, gL_sI, upd_at, updL_at, J_lit, J_add, J_mul, J_sub, J_lt, J_le, J_inj, J_ne, ne_J, m_lt, lt_m, m_le, le_m, J_cl, J_inB, if_true, if_false, ite_true, ite_false, reduceIte, isZ0, isZ1, J_and31, shrJ0, shlJ0, gI_sA, gL_sA, Nat.reduceEqDiff, Nat.reduceAdd, Nat.reduceMul, Nat.reduceLT, Nat.reduceLeDiff, h, hsz, hcap, hla, Nat.zero_le, hg]
    · have q1 : ¬ i = w := by omega
      have q2 : ¬ i = w + 1 := by omega
      simp (decide := true) (disch := omega) only [letS_d, grd_t, bnd_d, bnd1_d, bndX_d, bndX_e, gI_sI, gI_sL, gL_sL, gL_sI, upd_at, updL_at, J_lit, J_add, J_mul, J_sub, J_lt, J_le, J_inj, J_ne, ne_J, m_lt, lt_m, m_le, le_m, J_cl, J_inB, if_true, if_false, ite_true, ite_false, reduceIte, isZ0, isZ1, J_and31, shrJ0, shlJ0, gI_sA, gL_sA, Nat.reduceEqDiff, Nat.reduceAdd, Nat.reduceMul, Nat.reduceLT, Nat.reduceLeDiff, q1, q2]
    · have e1 : w + 2 - 1 = w + 1 := by omega
      have e2 : ¬ w + 1 = w := by omega
      simp (decide := true) (disch := omega) only [letS_d, grd_t, bnd_d, bnd1_d, bndX_d, bndX_e, gI_sI, gI_sL, gL_sL, gL_sI, upd_at, updL_at, J_lit, J_add, J_mul, J_sub, J_lt, J_le, J_inj, J_ne, ne_J, m_lt, lt_m, m_le, le_m, J_cl, J_inB, if_true, if_false, ite_true, ite_false, reduceIte, isZ0, isZ1, J_and31, shrJ0, shlJ0, gI_sA, gL_sA, Nat.reduceEqDiff, Nat.reduceAdd, Nat.reduceMul, Nat.reduceLT, Nat.reduceLeDiff, e1, e2]
    · simp (decide := true) (disch := omega) only [letS_d, grd_t, bnd_d, bnd1_d, bndX_d, bndX_e, gI_sI, gI_sL, gL_sL, gL_sI, upd_at, updL_at, J_lit, J_add, J_mul, J_sub, J_lt, J_le, J_inj, J_ne, ne_J, m_lt, lt_m, m_le, le_m, J_cl, J_inB, if_true, if_false, ite_true, ite_false, reduceIte, isZ0, isZ1, J_and31, shrJ0, shlJ0, gI_sA, gL_sA, Nat.reduceEqDiff, Nat.reduceAdd, Nat.reduceMul, Nat.reduceLT, Nat.reduceLeDiff]
theorem both_num {N w n : Nat} {τ σ : St} (hN : 100 ≤ N) (hn : n < 100) (h : Wr w τ σ) (hw : w + dg n ≤ 16) : ∃ τ' σ', fJ4_append_bf812 N τ (J n) = some τ' ∧ fX9_tellNumber N σ (J n) = some σ' ∧ Fr [100, 103] τ τ' ∧ Fr [52, 53] σ σ' ∧ Wr (w + dg n) τ' σ' := by
  obtain ⟨h1, h2, h3, h4⟩ := h
  obtain ⟨τ', c1, c2, c3, c4, c5, c6, c7⟩ := cls_num hN hn h3 h1 hw
  obtain ⟨σ', d1, d2, d3, d4, d5, d6⟩ := ref_num (N := N) hn h2 (by omega)
  refine ⟨τ', σ', c1, d1, c2, d2, c3, d3, c4, fun i hi => ?_⟩
  by_cases hi1 : i < w
  · obtain ⟨c, q1, q2, q3⟩ := h4 i hi1
    exact ⟨c, q1, by rw [c5 i hi1]; exact q2, by rw [d4 i hi1]; exact q3⟩
  · by_cases hl : i = w + dg n - 1
    · subst hl
      exact ⟨48 + n % 10, by omega, c6, d5⟩
    · unfold dg at hi hl
      by_cases h9 : n ≤ 9
      · rw [if_pos h9] at hi hl
        omega
      · rw [if_neg h9] at hi hl
        obtain rfl : i = w := by omega
        exact ⟨48 + n / 10, by omega, c7 h9, d6 h9⟩
theorem dg_le (n : Nat) : dg n ≤ 2 := by
  unfold dg
  split <;> omega
theorem wd1 : byE 8 1701736302 = true ∧ bys 8 1701736302 = ((sByt.getD 1 []).map (fun c => c.toNatClampNeg)) ∧ ((sByt.getD 1 []).length = sLen.getD 1 0) ∧ ∀ c ∈ sByt.getD 1 [], c = J c.toNatClampNeg ∧ c.toNatClampNeg < 128 := by decide +kernel
theorem wd2 : byE 8 35705747236210 = true ∧ bys 8 35705747236210 = ((sByt.getD 2 []).map (fun c => c.toNatClampNeg)) ∧ ((sByt.getD 2 []).length = sLen.getD 2 0) ∧ ∀ c ∈ sByt.getD 2 [], c = J c.toNatClampNeg ∧ c.toNatClampNeg < 128 := by decide +kernel
theorem wd5 : byE 8 544109938 = true ∧ bys 8 544109938 = ((sByt.getD 5 []).map (fun c => c.toNatClampNeg)) ∧ ((sByt.getD 5 []).length = sLen.getD 5 0) ∧ ∀ c ∈ sByt.getD 5 [], c = J c.toNatClampNeg ∧ c.toNatClampNeg < 128 := by decide +kernel
theorem wd3 : byE 8 9117586028061030 = true ∧ bys 8 9117586028061030 = ((sByt.getD 3 []).map (fun c => c.toNatClampNeg)) ∧ ((sByt.getD 3 []).length = sLen.getD 3 0) ∧ ∀ c ∈ sByt.getD 3 [], c = J c.toNatClampNeg ∧ c.toNatClampNeg < 128 := by decide +kernel
theorem wd6 : byE 8 544106784 = true ∧ bys 8 544106784 = ((sByt.getD 6 []).map (fun c => c.toNatClampNeg)) ∧ ((sByt.getD 6 []).length = sLen.getD 6 0) ∧ ∀ c ∈ sByt.getD 6 [], c = J c.toNatClampNeg ∧ c.toNatClampNeg < 128 := by decide +kernel
theorem wd4 : byE 8 544825888 = true ∧ bys 8 544825888 = ((sByt.getD 4 []).map (fun c => c.toNatClampNeg)) ∧ ((sByt.getD 4 []).length = sLen.getD 4 0) ∧ ∀ c ∈ sByt.getD 4 [], c = J c.toNatClampNeg ∧ c.toNatClampNeg < 128 := by decide +kernel
theorem Rn.fr {S S' : List Nat} {τ τ' σ σ' : St} {s t : Nat} (h : Rn s t τ σ) (f : Fr S τ τ') (f' : Fr S' σ σ') (d : ∀ k ∈ [71, 72, 91, 93], k ∉ S) (d' : ∀ k ∈ [40, 45, 49, 51], k ∉ S') : Rn s t τ' σ' := by
  unfold Rn
  rw [f.gi (d 71 (by decide)), f.gi (d 72 (by decide)), f.gi (d 91 (by decide)), f.gi (d 93 (by decide)), f'.gi (d' 40 (by decide)), f'.gi (d' 45 (by decide)), f'.gi (d' 49 (by decide)), f'.gi (d' 51 (by decide))]
  exact h
/-- a text and a number, on the class's side -/
theorem both_wn {N w k n : Nat} {τ σ : St} {x : Int64} (hN : 100 ≤ N) (hk : k < 7) (h : Wr w τ σ) (hw : w + sLen.getD k 0 + dg n ≤ 16) (hn : n < 100) (hb : byE 8 x = true ∧ bys 8 x = ((sByt.getD k []).map (fun c => c.toNatClampNeg)) ∧ ((sByt.getD k []).length = sLen.getD k 0) ∧ ∀ c ∈ sByt.getD k [], c = J c.toNatClampNeg ∧ c.toNatClampNeg < 128) : ∃ τ' σ1 σ', fX8_write N τ k (J n) = some τ' ∧ fX9_tellWord_57 N σ x = some σ1 ∧ fX9_tellNumber N σ1 (J n) = some σ' ∧ Fr [100, 103] τ τ' ∧ Fr [52, 53] σ σ1 ∧ Fr [52, 53] σ1 σ' ∧ Wr (w + sLen.getD k 0 + dg n) τ' σ' := by
  obtain ⟨τ1, σ1, a1, a2, a3, a4, a5⟩ := both_word hN hk h (by omega) hb.1 hb.2
  obtain ⟨τ2, σ2, b1, b2, b3, b4, b5⟩ := both_num hN hn a5 hw
  refine ⟨τ2, σ1, σ2, ?_, a2, b2, a3.tr b3, a4, b4, b5⟩
  unfold fX8_write
  simp (decide := true) (disch := omega) only [letS_d, grd_t, bnd_d, bnd1_d, bndX_d, bndX_e, gI_sI, gI_sL, gL_sL, gL_sI, upd_at, updL_at, J_lit, J_add, J_mul, J_sub, J_lt, J_le, J_inj, J_ne, ne_J, m_lt, lt_m, m_le, le_m, J_cl, J_inB, if_true, if_false, ite_true, ite_false, reduceIte, isZ0, isZ1, J_and31, shrJ0, shlJ0, gI_sA, gL_sA, Nat.reduceEqDiff, Nat.reduceAdd, Nat.reduceMul, Nat.reduceLT, Nat.reduceLeDiff, a1, b1]
