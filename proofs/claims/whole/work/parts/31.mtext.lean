/-! promise 2: text -/
def byt (w : Int64) (i : Nat) : Nat := (w.toBitVec.toNat >>> (8 * i)) % 256
theorem byt_lt (w : Int64) (i : Nat) : byt w i < 256 := Nat.mod_lt _ (by omega)
theorem byt_bit (w : Int64) (i k : Nat) : (byt w i).testBit k = (decide (k < 8) && w.toBitVec.getLsbD (8 * i + k)) := by
  unfold byt
  rw [show (256 : Nat) = 2 ^ 8 from rfl, Nat.testBit_mod_two_pow, Nat.testBit_shiftRight]
  rfl
theorem sh64 {i : Nat} (hi : i < 8) : ((J (8 * i)).toInt64 &&& 63) = Int64.ofNat (8 * i) := by
  have : ∀ i < 8, ((J (8 * i)).toInt64 &&& 63) = Int64.ofNat (8 * i) := by decide +kernel
  exact this i hi
theorem sm64 {i : Nat} (hi : i < 8) : ((Int64.ofNat (8 * i)).toBitVec.smod 64 : BitVec 64).toNat = 8 * i := by
  have : ∀ i < 8, ((Int64.ofNat (8 * i)).toBitVec.smod 64 : BitVec 64).toNat = 8 * i := by decide +kernel
  exact this i hi
theorem ref_byte (w : Int64) {i : Nat} (hi : i < 8) : ((w >>> ((J (8 * i)).toInt64 &&& 63)) &&& (255 : Int64)) = Int64.ofNat (byt w i) := by
  rw [sh64 hi]
  refine bl_ext fun k hk => ?_
  rw [bl_and]
  have h1 : bl (w >>> Int64.ofNat (8 * i)) k = (w.toBitVec.sshiftRight (8 * i)).getLsbD k := by
    show (w.toBitVec.sshiftRight ((Int64.ofNat (8 * i)).toBitVec.smod 64).toNat).getLsbD k = _
    rw [sm64 hi]
  have h2 : bl (Int64.ofNat (byt w i)) k = (byt w i).testBit k := by
    show (BitVec.ofNat 64 (byt w i)).getLsbD k = _
    rw [BitVec.getLsbD_ofNat]
    simp [hk]
  have h3 : ∀ k < 64, bl 255 k = decide (k < 8) := by decide +kernel
  rw [h1, h2, h3 k hk, byt_bit, BitVec.getLsbD_sshiftRight]
  by_cases h8 : k < 8
  · have : 8 * i + k < 64 := by omega
    simp [h8, this, Nat.not_le.mpr hk]
  · simp [h8]
theorem cls_byte (w : Int64) {i : Nat} (hi : i < 8) : ((((w.toUInt64 >>> ((J (8 * i)).toInt64.toUInt64 &&& Int64.toUInt64 63)).toInt64).toInt32) &&& J 255) = J (byt w i) := by
  have e : ∀ i < 8, ((J (8 * i)).toInt64.toUInt64 &&& Int64.toUInt64 63).toBitVec.toNat % 64 = 8 * i := by decide +kernel
  refine bt_ext fun k hk => ?_
  rw [bt_and, J_bits (n := byt w i) k hk, byt_bit]
  have h3 : ∀ k < 32, bt (J 255) k = decide (k < 8) := by decide +kernel
  rw [h3 k hk]
  have h1 : bt (((w.toUInt64 >>> ((J (8 * i)).toInt64.toUInt64 &&& Int64.toUInt64 63)).toInt64).toInt32) k = w.toBitVec.getLsbD (8 * i + k) := by
    have e1 := e i hi
    show ((w.toUInt64 >>> ((J (8 * i)).toInt64.toUInt64 &&& Int64.toUInt64 63)).toBitVec.signExtend 32).getLsbD k = _
    rw [BitVec.getLsbD_signExtend, UInt64.toBitVec_shiftRight]
    generalize hz : ((J (8 * i)).toInt64.toUInt64 &&& Int64.toUInt64 63) = z at e1 ⊢
    have h9 : (z.toBitVec % 64#64).toNat = 8 * i := by
      rw [BitVec.toNat_umod]
      exact e1
    have hk64 : k < 64 := by omega
    show (decide (k < 32) && if k < 64 then (w.toBitVec >>> (z.toBitVec % 64#64)).getLsbD k else _) = _
    rw [if_pos hk64, BitVec.ushiftRight_eq', BitVec.getLsbD_ushiftRight, h9]
    simp [hk]
  rw [h1]
  by_cases h8 : k < 8 <;> simp [h8]
theorem lgc0 {b : Nat} (hb : b < 256) : (lg_cmp (Int64.ofNat b) 0 = J 0) = (b = 0) := by
  have h : ∀ b < 256, decide (lg_cmp (Int64.ofNat b) 0 = J 0) = decide (b = 0) := by decide +kernel
  exact propext (decide_eq_decide.mp (h b hb))
theorem l2i {b : Nat} (hb : b < 256) : (Int64.ofNat b).toInt32 = J b := by
  have h : ∀ b < 256, (Int64.ofNat b).toInt32 = J b := by decide +kernel
  exact h b hb
theorem ref_byte0 (w : Int64) : (w &&& (255 : Int64)) = Int64.ofNat (byt w 0) := by
  rw [← ref_byte w (by omega)]
  refine bl_ext fun k hk => ?_
  rw [bl_and, bl_and]
  congr 1
  show _ = (w.toBitVec.sshiftRight (((J (8 * 0)).toInt64 &&& 63).toBitVec.smod 64).toNat).getLsbD k
  have : (((J (8 * 0)).toInt64 &&& 63).toBitVec.smod 64 : BitVec 64).toNat = 0 := by decide +kernel
  rw [this]
  simp [bl]
/-- how many bytes there are before the first 0, from one on -/
def lead (w : Int64) : Nat → Nat → Nat
  | 0, i => i
  | f + 1, i => if byt w i = 0 then i else lead w f (i + 1)
/-- whether those are characters of a text -/
def fine (w : Int64) : Nat → Nat → Bool
  | 0, _ => true
  | f + 1, i => if byt w i = 0 then true else decide (33 ≤ byt w i) && decide (byt w i ≤ 126) && fine w f (i + 1)
theorem lead_le (w : Int64) : ∀ f i, lead w f i ≤ i + f := by
  intro f
  induction f with
  | zero => intro i; exact Nat.le_refl _
  | succ f ih =>
    intro i
    unfold lead
    split
    · omega
    · have := ih (i + 1)
      omega
theorem lead_ge (w : Int64) : ∀ f i, i ≤ lead w f i := by
  intro f
  induction f with
  | zero => intro i; exact Nat.le_refl _
  | succ f ih =>
    intro i
    unfold lead
    split
    · omega
    · have := ih (i + 1)
      omega
theorem fine_at (w : Int64) : ∀ f i, fine w f i = true → ∀ j, i ≤ j → j < lead w f i → 33 ≤ byt w j ∧ byt w j ≤ 126 := by
  intro f
  induction f with
  | zero =>
    intro i h j h1 h2
    unfold lead at h2
    omega
  | succ f ih =>
    intro i h j h1 h2
    unfold lead at h2
    unfold fine at h
    split at h2
    · omega
    · rename_i h0
      rw [if_neg h0] at h
      simp only [Bool.and_eq_true, decide_eq_true_eq] at h
      by_cases hj : j = i
      · subst hj
        exact h.1
      · exact ih (i + 1) h.2 j (by omega) h2
theorem cls_chars {N : Nat} (σ : St) (w : Int64) : ∀ f i n, i + f = 8 → f < n → fX8_charactersIn_2 N n σ w (J i) = some (if fine w f i then J (lead w f i) else -J 1, σ) := by
  intro f
  induction f with
  | zero =>
    intro i n hi hn
    obtain ⟨n, rfl⟩ : ∃ k, n = k + 1 := ⟨n - 1, by omega⟩
    obtain rfl : i = 8 := by omega
    unfold fX8_charactersIn_2
    simp (decide := true) (disch := omega) only [letS_d, grd_t, bnd_d, bnd1_d, bndX_d, bndX_e, gI_sI, gI_sL, gL_sL, gL_sI, upd_at, updL_at, J_lit, J_add, J_mul, J_sub, J_lt, J_le, J_inj, J_ne, ne_J, m_lt, lt_m, m_le, le_m, J_cl, J_inB, if_true, if_false, ite_true, ite_false, reduceIte, isZ0, isZ1, J_and31, shrJ0, shlJ0, gI_sA, gL_sA, Nat.reduceEqDiff, Nat.reduceAdd, Nat.reduceMul, Nat.reduceLT, Nat.reduceLeDiff, fine, lead, Nat.le_refl]
  | succ f ih =>
    intro i n hi hn
    obtain ⟨n, rfl⟩ : ∃ k, n = k + 1 := ⟨n - 1, by omega⟩
    unfold fX8_charactersIn_2
    have hb := byt_lt w i
    have h8 : ¬ 8 ≤ i := by omega
    have hcb := cls_byte w (i := i) (by omega)
    simp (decide := true) (disch := omega) only [letS_d, grd_t, bnd_d, bnd1_d, bndX_d, bndX_e, gI_sI, gI_sL, gL_sL, gL_sI, upd_at, updL_at, J_lit, J_add, J_mul, J_sub, J_lt, J_le, J_inj, J_ne, ne_J, m_lt, lt_m, m_le, le_m, J_cl, J_inB, if_true, if_false, ite_true, ite_false, reduceIte, isZ0, isZ1, J_and31, shrJ0, shlJ0, gI_sA, gL_sA, Nat.reduceEqDiff, Nat.reduceAdd, Nat.reduceMul, Nat.reduceLT, Nat.reduceLeDiff, h8, fX8_byteOf, hcb]
    unfold fine lead
    by_cases h0 : byt w i = 0
    · simp (decide := true) (disch := omega) only [letS_d, grd_t, bnd_d, bnd1_d, bndX_d, bndX_e, gI_sI, gI_sL, gL_sL, gL_sI, upd_at, updL_at, J_lit, J_add, J_mul, J_sub, J_lt, J_le, J_inj, J_ne, ne_J, m_lt, lt_m, m_le, le_m, J_cl, J_inB, if_true, if_false, ite_true, ite_false, reduceIte, isZ0, isZ1, J_and31, shrJ0, shlJ0, gI_sA, gL_sA, Nat.reduceEqDiff, Nat.reduceAdd, Nat.reduceMul, Nat.reduceLT, Nat.reduceLeDiff, h0, fX8_charactersIn_32]
    · by_cases h1 : byt w i < 33
      · have h2 : ¬ 33 ≤ byt w i := by omega
        simp (decide := true) (disch := omega) only [letS_d, grd_t, bnd_d, bnd1_d, bndX_d, bndX_e, gI_sI, gI_sL, gL_sL, gL_sI, upd_at, updL_at, J_lit, J_add, J_mul, J_sub, J_lt, J_le, J_inj, J_ne, ne_J, m_lt, lt_m, m_le, le_m, J_cl, J_inB, if_true, if_false, ite_true, ite_false, reduceIte, isZ0, isZ1, J_and31, shrJ0, shlJ0, gI_sA, gL_sA, Nat.reduceEqDiff, Nat.reduceAdd, Nat.reduceMul, Nat.reduceLT, Nat.reduceLeDiff, h0, h1, h2, fX8_charactersIn_32, decide_false, Bool.false_and, Bool.false_eq_true]
      · have h2 : 33 ≤ byt w i := by omega
        by_cases h3 : byt w i ≤ 126
        · simp (decide := true) (disch := omega) only [letS_d, grd_t, bnd_d, bnd1_d, bndX_d, bndX_e, gI_sI, gI_sL, gL_sL, gL_sI, upd_at, updL_at, J_lit, J_add, J_mul, J_sub, J_lt, J_le, J_inj, J_ne, ne_J, m_lt, lt_m, m_le, le_m, J_cl, J_inB, if_true, if_false, ite_true, ite_false, reduceIte, isZ0, isZ1, J_and31, shrJ0, shlJ0, gI_sA, gL_sA, Nat.reduceEqDiff, Nat.reduceAdd, Nat.reduceMul, Nat.reduceLT, Nat.reduceLeDiff, h0, h1, h2, h3, decide_true, Bool.true_and]
          exact ih (i + 1) n (by omega) (by omega)
        · simp (decide := true) (disch := omega) only [letS_d, grd_t, bnd_d, bnd1_d, bndX_d, bndX_e, gI_sI, gI_sL, gL_sL, gL_sI, upd_at, updL_at, J_lit, J_add, J_mul, J_sub, J_lt, J_le, J_inj, J_ne, ne_J, m_lt, lt_m, m_le, le_m, J_cl, J_inB, if_true, if_false, ite_true, ite_false, reduceIte, isZ0, isZ1, J_and31, shrJ0, shlJ0, gI_sA, gL_sA, Nat.reduceEqDiff, Nat.reduceAdd, Nat.reduceMul, Nat.reduceLT, Nat.reduceLeDiff, h0, h1, h2, h3, fX8_charactersIn_32, decide_false, Bool.false_and, Bool.and_false, Bool.false_eq_true]
theorem ref_chars {N : Nat} (σ : St) (w : Int64) : ∀ f i n fl, i + f = 8 → f < n → fX9_text_24 N n σ w (J i) (if fl = true then J 1 else J 0) = fX9_text_90 N σ w (J (lead w f i)) (if (fl && fine w f i) = true then J 1 else J 0) := by
  intro f
  induction f with
  | zero =>
    intro i n fl hi hn
    obtain ⟨n, rfl⟩ : ∃ k, n = k + 1 := ⟨n - 1, by omega⟩
    obtain rfl : i = 8 := by omega
    unfold fX9_text_24
    simp (decide := true) (disch := omega) only [letS_d, grd_t, bnd_d, bnd1_d, bndX_d, bndX_e, gI_sI, gI_sL, gL_sL, gL_sI, upd_at, updL_at, J_lit, J_add, J_mul, J_sub, J_lt, J_le, J_inj, J_ne, ne_J, m_lt, lt_m, m_le, le_m, J_cl, J_inB, if_true, if_false, ite_true, ite_false, reduceIte, isZ0, isZ1, J_and31, shrJ0, shlJ0, gI_sA, gL_sA, Nat.reduceEqDiff, Nat.reduceAdd, Nat.reduceMul, Nat.reduceLT, Nat.reduceLeDiff, fine, lead, Nat.le_refl, Bool.and_true]
  | succ f ih =>
    intro i n fl hi hn
    obtain ⟨n, rfl⟩ : ∃ k, n = k + 1 := ⟨n - 1, by omega⟩
    unfold fX9_text_24
    have hb := byt_lt w i
    have h8 : ¬ 8 ≤ i := by omega
    have hrb := ref_byte w (i := i) (by omega)
    simp (decide := true) (disch := omega) only [letS_d, grd_t, bnd_d, bnd1_d, bndX_d, bndX_e, gI_sI, gI_sL, gL_sL, gL_sI, upd_at, updL_at, J_lit, J_add, J_mul, J_sub, J_lt, J_le, J_inj, J_ne, ne_J, m_lt, lt_m, m_le, le_m, J_cl, J_inB, if_true, if_false, ite_true, ite_false, reduceIte, isZ0, isZ1, J_and31, shrJ0, shlJ0, gI_sA, gL_sA, Nat.reduceEqDiff, Nat.reduceAdd, Nat.reduceMul, Nat.reduceLT, Nat.reduceLeDiff, h8, hrb, lgc0 hb, l2i hb]
    unfold fine lead
    by_cases h0 : byt w i = 0
    · simp (decide := true) (disch := omega) only [letS_d, grd_t, bnd_d, bnd1_d, bndX_d, bndX_e, gI_sI, gI_sL, gL_sL, gL_sI, upd_at, updL_at, J_lit, J_add, J_mul, J_sub, J_lt, J_le, J_inj, J_ne, ne_J, m_lt, lt_m, m_le, le_m, J_cl, J_inB, if_true, if_false, ite_true, ite_false, reduceIte, isZ0, isZ1, J_and31, shrJ0, shlJ0, gI_sA, gL_sA, Nat.reduceEqDiff, Nat.reduceAdd, Nat.reduceMul, Nat.reduceLT, Nat.reduceLeDiff, h0, Bool.and_true]
    · have i1 := ih (i + 1) n true (by omega) (by omega)
      have i0 := ih (i + 1) n false (by omega) (by omega)
      cases fl
      · simp (decide := true) (disch := omega) only [letS_d, grd_t, bnd_d, bnd1_d, bndX_d, bndX_e, gI_sI, gI_sL, gL_sL, gL_sI, upd_at, updL_at, J_lit, J_add, J_mul, J_sub, J_lt, J_le, J_inj, J_ne, ne_J, m_lt, lt_m, m_le, le_m, J_cl, J_inB, if_true, if_false, ite_true, ite_false, reduceIte, isZ0, isZ1, J_and31, shrJ0, shlJ0, gI_sA, gL_sA, Nat.reduceEqDiff, Nat.reduceAdd, Nat.reduceMul, Nat.reduceLT, Nat.reduceLeDiff, h0, fX9_text_81, fX9_text_82, Bool.false_and, Bool.false_eq_true]
        simp (decide := true) (disch := omega) only [letS_d, grd_t, bnd_d, bnd1_d, bndX_d, bndX_e, gI_sI, gI_sL, gL_sL, gL_sI, upd_at, updL_at, J_lit, J_add, J_mul, J_sub, J_lt, J_le, J_inj, J_ne, ne_J, m_lt, lt_m, m_le, le_m, J_cl, J_inB, if_true, if_false, ite_true, ite_false, reduceIte, isZ0, isZ1, J_and31, shrJ0, shlJ0, gI_sA, gL_sA, Nat.reduceEqDiff, Nat.reduceAdd, Nat.reduceMul, Nat.reduceLT, Nat.reduceLeDiff, Bool.false_and, Bool.false_eq_true] at i0
        exact i0
      · by_cases h1 : byt w i < 33
        · have h2 : ¬ 33 ≤ byt w i := by omega
          simp (decide := true) (disch := omega) only [letS_d, grd_t, bnd_d, bnd1_d, bndX_d, bndX_e, gI_sI, gI_sL, gL_sL, gL_sI, upd_at, updL_at, J_lit, J_add, J_mul, J_sub, J_lt, J_le, J_inj, J_ne, ne_J, m_lt, lt_m, m_le, le_m, J_cl, J_inB, if_true, if_false, ite_true, ite_false, reduceIte, isZ0, isZ1, J_and31, shrJ0, shlJ0, gI_sA, gL_sA, Nat.reduceEqDiff, Nat.reduceAdd, Nat.reduceMul, Nat.reduceLT, Nat.reduceLeDiff, h0, h1, h2, fX9_text_81, fX9_text_82, decide_false, Bool.false_and, Bool.and_false, Bool.false_eq_true]
          simp (decide := true) (disch := omega) only [letS_d, grd_t, bnd_d, bnd1_d, bndX_d, bndX_e, gI_sI, gI_sL, gL_sL, gL_sI, upd_at, updL_at, J_lit, J_add, J_mul, J_sub, J_lt, J_le, J_inj, J_ne, ne_J, m_lt, lt_m, m_le, le_m, J_cl, J_inB, if_true, if_false, ite_true, ite_false, reduceIte, isZ0, isZ1, J_and31, shrJ0, shlJ0, gI_sA, gL_sA, Nat.reduceEqDiff, Nat.reduceAdd, Nat.reduceMul, Nat.reduceLT, Nat.reduceLeDiff, Bool.false_and, Bool.false_eq_true] at i0
          exact i0
        · have h2 : 33 ≤ byt w i := by omega
          by_cases h3 : byt w i ≤ 126
          · have h4 : ¬ 126 < byt w i := by omega
            simp (decide := true) (disch := omega) only [letS_d, grd_t, bnd_d, bnd1_d, bndX_d, bndX_e, gI_sI, gI_sL, gL_sL, gL_sI, upd_at, updL_at, J_lit, J_add, J_mul, J_sub, J_lt, J_le, J_inj, J_ne, ne_J, m_lt, lt_m, m_le, le_m, J_cl, J_inB, if_true, if_false, ite_true, ite_false, reduceIte, isZ0, isZ1, J_and31, shrJ0, shlJ0, gI_sA, gL_sA, Nat.reduceEqDiff, Nat.reduceAdd, Nat.reduceMul, Nat.reduceLT, Nat.reduceLeDiff, h0, h1, h2, h3, h4, fX9_text_82, decide_true, Bool.true_and]
            simp (decide := true) (disch := omega) only [letS_d, grd_t, bnd_d, bnd1_d, bndX_d, bndX_e, gI_sI, gI_sL, gL_sL, gL_sI, upd_at, updL_at, J_lit, J_add, J_mul, J_sub, J_lt, J_le, J_inj, J_ne, ne_J, m_lt, lt_m, m_le, le_m, J_cl, J_inB, if_true, if_false, ite_true, ite_false, reduceIte, isZ0, isZ1, J_and31, shrJ0, shlJ0, gI_sA, gL_sA, Nat.reduceEqDiff, Nat.reduceAdd, Nat.reduceMul, Nat.reduceLT, Nat.reduceLeDiff, Bool.true_and] at i1
            exact i1
          · have h4 : 126 < byt w i := by omega
            simp (decide := true) (disch := omega) only [letS_d, grd_t, bnd_d, bnd1_d, bndX_d, bndX_e, gI_sI, gI_sL, gL_sL, gL_sI, upd_at, updL_at, J_lit, J_add, J_mul, J_sub, J_lt, J_le, J_inj, J_ne, ne_J, m_lt, lt_m, m_le, le_m, J_cl, J_inB, if_true, if_false, ite_true, ite_false, reduceIte, isZ0, isZ1, J_and31, shrJ0, shlJ0, gI_sA, gL_sA, Nat.reduceEqDiff, Nat.reduceAdd, Nat.reduceMul, Nat.reduceLT, Nat.reduceLeDiff, h0, h1, h2, h3, h4, fX9_text_81, fX9_text_82, decide_false, Bool.false_and, Bool.and_false, Bool.false_eq_true]
            simp (decide := true) (disch := omega) only [letS_d, grd_t, bnd_d, bnd1_d, bndX_d, bndX_e, gI_sI, gI_sL, gL_sL, gL_sI, upd_at, updL_at, J_lit, J_add, J_mul, J_sub, J_lt, J_le, J_inj, J_ne, ne_J, m_lt, lt_m, m_le, le_m, J_cl, J_inB, if_true, if_false, ite_true, ite_false, reduceIte, isZ0, isZ1, J_and31, shrJ0, shlJ0, gI_sA, gL_sA, Nat.reduceEqDiff, Nat.reduceAdd, Nat.reduceMul, Nat.reduceLT, Nat.reduceLeDiff, Bool.false_and, Bool.false_eq_true] at i0
            exact i0
theorem cls_copy {N L M : Nat} (w : Int64) (hLM : L + M ≤ 40) : ∀ f k n (τ : St), k + f = M → f < n → gI τ 1 0 = J L → (∀ j, j < M → 33 ≤ byt w j ∧ byt w j ≤ 126) → M ≤ 8 → ∃ τ', fX8_text_26 N n τ w (J M) (J k) = some (J (L + M), τ') ∧ Fr [0, 1] τ τ' ∧ gI τ' 1 0 = J (L + M) ∧ (∀ i, i < L + k → gI τ' 0 i = gI τ 0 i) ∧ ∀ j, k ≤ j → j < M → gI τ' 0 (L + j) = J (byt w j) := by
  intro f
  induction f with
  | zero =>
    intro k n τ hk hn hL hf hM
    obtain ⟨n, rfl⟩ : ∃ k, n = k + 1 := ⟨n - 1, by omega⟩
    obtain rfl : k = M := by omega
    unfold fX8_text_26
    refine ⟨sI τ 1 0 (J (L + k)), ?_, Fr.i (by decide), by simp (decide := true) (disch := omega) only [letS_d, grd_t, bnd_d, bnd1_d, bndX_d, bndX_e, gI_sI, gI_sL, gL_sL, gL_sI, upd_at, updL_at, J_lit, J_add, J_mul, J_sub, J_lt, J_le, J_inj, J_ne, ne_J, m_lt, lt_m, m_le, le_m, J_cl, J_inB, if_true, if_false, ite_true, ite_false, reduceIte, isZ0, isZ1, J_and31, shrJ0, shlJ0, gI_sA, gL_sA, Nat.reduceEqDiff, Nat.reduceAdd, Nat.reduceMul, Nat.reduceLT, Nat.reduceLeDiff], fun i hi => by simp (decide := true) (disch := omega) only [letS_d, grd_t, bnd_d, bnd1_d, bndX_d, bndX_e, gI_sI, gI_sL, gL_sL, gL_sI, upd_at, updL_at, J_lit, J_add, J_mul, J_sub, J_lt, J_le, J_inj, J_ne, ne_J, m_lt, lt_m, m_le, le_m, J_cl, J_inB, if_true, if_false, ite_true, ite_false, reduceIte, isZ0, isZ1, J_and31, shrJ0, shlJ0, gI_sA, gL_sA, Nat.reduceEqDiff, Nat.reduceAdd, Nat.reduceMul, Nat.reduceLT, Nat.reduceLeDiff], fun j h1 h2 => by omega⟩
    simp (decide := true) (disch := omega) only [letS_d, grd_t, bnd_d, bnd1_d, bndX_d, bndX_e, gI_sI, gI_sL, gL_sL, gL_sI, upd_at, updL_at, J_lit, J_add, J_mul, J_sub, J_lt, J_le, J_inj, J_ne, ne_J, m_lt, lt_m, m_le, le_m, J_cl, J_inB, if_true, if_false, ite_true, ite_false, reduceIte, isZ0, isZ1, J_and31, shrJ0, shlJ0, gI_sA, gL_sA, Nat.reduceEqDiff, Nat.reduceAdd, Nat.reduceMul, Nat.reduceLT, Nat.reduceLeDiff, Nat.le_refl, hL]
  | succ f ih =>
    intro k n τ hk hn hL hf hM
    obtain ⟨n, rfl⟩ : ∃ k, n = k + 1 := ⟨n - 1, by omega⟩
    unfold fX8_text_26
    have hb := byt_lt w k
    have h8 : ¬ M ≤ k := by omega
    have hcb := cls_byte w (i := k) (by omega)
    simp (decide := true) (disch := omega) only [letS_d, grd_t, bnd_d, bnd1_d, bndX_d, bndX_e, gI_sI, gI_sL, gL_sL, gL_sI, upd_at, updL_at, J_lit, J_add, J_mul, J_sub, J_lt, J_le, J_inj, J_ne, ne_J, m_lt, lt_m, m_le, le_m, J_cl, J_inB, if_true, if_false, ite_true, ite_false, reduceIte, isZ0, isZ1, J_and31, shrJ0, shlJ0, gI_sA, gL_sA, Nat.reduceEqDiff, Nat.reduceAdd, Nat.reduceMul, Nat.reduceLT, Nat.reduceLeDiff, h8, fX8_byteOf, hcb, hL, i2c (c := byt w k) (by omega), nar_c (c := byt w k) (by omega)]
    obtain ⟨τ', e1, e2, e3, e4, e5⟩ := ih (k + 1) n (sI τ 0 (L + k) (J (byt w k))) (by omega) (by omega) (by simp (decide := true) (disch := omega) only [letS_d, grd_t, bnd_d, bnd1_d, bndX_d, bndX_e, gI_sI, gI_sL, gL_sL, gL_sI, upd_at, updL_at, J_lit, J_add, J_mul, J_sub, J_lt, J_le, J_inj, J_ne, ne_J, m_lt, lt_m, m_le, le_m, J_cl, J_inB, if_true, if_false, ite_true, ite_false, reduceIte, isZ0, isZ1, J_and31, shrJ0, shlJ0, gI_sA, gL_sA, Nat.reduceEqDiff, Nat.reduceAdd, Nat.reduceMul, Nat.reduceLT, Nat.reduceLeDiff]; exact hL) hf hM
    refine ⟨τ', e1, (Fr.i (by decide)).tr e2, e3, fun i hi => ?_, fun j h1 h2 => ?_⟩
    · have h9 : ¬ i = L + k := by omega
      rw [e4 i (by omega)]
      simp (decide := true) (disch := omega) only [letS_d, grd_t, bnd_d, bnd1_d, bndX_d, bndX_e, gI_sI, gI_sL, gL_sL, gL_sI, upd_at, updL_at, J_lit, J_add, J_mul, J_sub, J_lt, J_le, J_inj, J_ne, ne_J, m_lt, lt_m, m_le, le_m, J_cl, J_inB, if_true, if_false, ite_true, ite_false, reduceIte, isZ0, isZ1, J_and31, shrJ0, shlJ0, gI_sA, gL_sA, Nat.reduceEqDiff, Nat.reduceAdd, Nat.reduceMul, Nat.reduceLT, Nat.reduceLeDiff, h9]
    · by_cases hj : j = k
      · subst hj
        rw [e4 (L + j) (by omega)]
        simp (decide := true) (disch := omega) only [letS_d, grd_t, bnd_d, bnd1_d, bndX_d, bndX_e, gI_sI, gI_sL, gL_sL, gL_sI, upd_at, updL_at, J_lit, J_add, J_mul, J_sub, J_lt, J_le, J_inj, J_ne, ne_J, m_lt, lt_m, m_le, le_m, J_cl, J_inB, if_true, if_false, ite_true, ite_false, reduceIte, isZ0, isZ1, J_and31, shrJ0, shlJ0, gI_sA, gL_sA, Nat.reduceEqDiff, Nat.reduceAdd, Nat.reduceMul, Nat.reduceLT, Nat.reduceLeDiff]
      · exact e5 j (by omega) h2
theorem ref_copy {N L M : Nat} (w : Int64) (hLM : L + M ≤ 40) : ∀ f k n (τ : St), k + f = M → f < n → gI τ 2 0 = J L → (∀ j, j < M → 33 ≤ byt w j ∧ byt w j ≤ 126) → M ≤ 8 → ∃ τ', fX9_text_111 N n τ w (J M) (J k) = some (J (L + M), τ') ∧ Fr [1, 2] τ τ' ∧ gI τ' 2 0 = J (L + M) ∧ (∀ i, i < L + k → gI τ' 1 i = gI τ 1 i) ∧ ∀ j, k ≤ j → j < M → gI τ' 1 (L + j) = J (byt w j) := by
  intro f
  induction f with
  | zero =>
    intro k n τ hk hn hL hf hM
    obtain ⟨n, rfl⟩ : ∃ k, n = k + 1 := ⟨n - 1, by omega⟩
    obtain rfl : k = M := by omega
    unfold fX9_text_111
    refine ⟨sI τ 2 0 (J (L + k)), ?_, Fr.i (by decide), by simp (decide := true) (disch := omega) only [letS_d, grd_t, bnd_d, bnd1_d, bndX_d, bndX_e, gI_sI, gI_sL, gL_sL, gL_sI, upd_at, updL_at, J_lit, J_add, J_mul, J_sub, J_lt, J_le, J_inj, J_ne, ne_J, m_lt, lt_m, m_le, le_m, J_cl, J_inB, if_true, if_false, ite_true, ite_false, reduceIte, isZ0, isZ1, J_and31, shrJ0, shlJ0, gI_sA, gL_sA, Nat.reduceEqDiff, Nat.reduceAdd, Nat.reduceMul, Nat.reduceLT, Nat.reduceLeDiff], fun i hi => by simp (decide := true) (disch := omega) only [letS_d, grd_t, bnd_d, bnd1_d, bndX_d, bndX_e, gI_sI, gI_sL, gL_sL, gL_sI, upd_at, updL_at, J_lit, J_add, J_mul, J_sub, J_lt, J_le, J_inj, J_ne, ne_J, m_lt, lt_m, m_le, le_m, J_cl, J_inB, if_true, if_false, ite_true, ite_false, reduceIte, isZ0, isZ1, J_and31, shrJ0, shlJ0, gI_sA, gL_sA, Nat.reduceEqDiff, Nat.reduceAdd, Nat.reduceMul, Nat.reduceLT, Nat.reduceLeDiff], fun j h1 h2 => by omega⟩
    simp (decide := true) (disch := omega) only [letS_d, grd_t, bnd_d, bnd1_d, bndX_d, bndX_e, gI_sI, gI_sL, gL_sL, gL_sI, upd_at, updL_at, J_lit, J_add, J_mul, J_sub, J_lt, J_le, J_inj, J_ne, ne_J, m_lt, lt_m, m_le, le_m, J_cl, J_inB, if_true, if_false, ite_true, ite_false, reduceIte, isZ0, isZ1, J_and31, shrJ0, shlJ0, gI_sA, gL_sA, Nat.reduceEqDiff, Nat.reduceAdd, Nat.reduceMul, Nat.reduceLT, Nat.reduceLeDiff, Nat.le_refl, hL]
  | succ f ih =>
    intro k n τ hk hn hL hf hM
    obtain ⟨n, rfl⟩ : ∃ k, n = k + 1 := ⟨n - 1, by omega⟩
    unfold fX9_text_111
    have hb := byt_lt w k
    have h8 : ¬ M ≤ k := by omega
    have hrb := ref_byte w (i := k) (by omega)
    simp (decide := true) (disch := omega) only [letS_d, grd_t, bnd_d, bnd1_d, bndX_d, bndX_e, gI_sI, gI_sL, gL_sL, gL_sI, upd_at, updL_at, J_lit, J_add, J_mul, J_sub, J_lt, J_le, J_inj, J_ne, ne_J, m_lt, lt_m, m_le, le_m, J_cl, J_inB, if_true, if_false, ite_true, ite_false, reduceIte, isZ0, isZ1, J_and31, shrJ0, shlJ0, gI_sA, gL_sA, Nat.reduceEqDiff, Nat.reduceAdd, Nat.reduceMul, Nat.reduceLT, Nat.reduceLeDiff, h8, hrb, l2i hb, hL, i2c (c := byt w k) (by omega), nar_c (c := byt w k) (by omega)]
    obtain ⟨τ', e1, e2, e3, e4, e5⟩ := ih (k + 1) n (sI τ 1 (L + k) (J (byt w k))) (by omega) (by omega) (by simp (decide := true) (disch := omega) only [letS_d, grd_t, bnd_d, bnd1_d, bndX_d, bndX_e, gI_sI, gI_sL, gL_sL, gL_sI, upd_at, updL_at, J_lit, J_add, J_mul, J_sub, J_lt, J_le, J_inj, J_ne, ne_J, m_lt, lt_m, m_le, le_m, J_cl, J_inB, if_true, if_false, ite_true, ite_false, reduceIte, isZ0, isZ1, J_and31, shrJ0, shlJ0, gI_sA, gL_sA, Nat.reduceEqDiff, Nat.reduceAdd, Nat.reduceMul, Nat.reduceLT, Nat.reduceLeDiff]; exact hL) hf hM
    refine ⟨τ', e1, (Fr.i (by decide)).tr e2, e3, fun i hi => ?_, fun j h1 h2 => ?_⟩
    · have h9 : ¬ i = L + k := by omega
      rw [e4 i (by omega)]
      simp (decide := true) (disch := omega) only [letS_d, grd_t, bnd_d, bnd1_d, bndX_d, bndX_e, gI_sI, gI_sL, gL_sL, gL_sI, upd_at, updL_at, J_lit, J_add, J_mul, J_sub, J_lt, J_le, J_inj, J_ne, ne_J, m_lt, lt_m, m_le, le_m, J_cl, J_inB, if_true, if_false, ite_true, ite_false, reduceIte, isZ0, isZ1, J_and31, shrJ0, shlJ0, gI_sA, gL_sA, Nat.reduceEqDiff, Nat.reduceAdd, Nat.reduceMul, Nat.reduceLT, Nat.reduceLeDiff, h9]
    · by_cases hj : j = k
      · subst hj
        rw [e4 (L + j) (by omega)]
        simp (decide := true) (disch := omega) only [letS_d, grd_t, bnd_d, bnd1_d, bndX_d, bndX_e, gI_sI, gI_sL, gL_sL, gL_sI, upd_at, updL_at, J_lit, J_add, J_mul, J_sub, J_lt, J_le, J_inj, J_ne, ne_J, m_lt, lt_m, m_le, le_m, J_cl, J_inB, if_true, if_false, ite_true, ite_false, reduceIte, isZ0, isZ1, J_and31, shrJ0, shlJ0, gI_sA, gL_sA, Nat.reduceEqDiff, Nat.reduceAdd, Nat.reduceMul, Nat.reduceLT, Nat.reduceLeDiff]
      · exact e5 j (by omega) h2
/-- the texts of both -/
def IvT (τ σ : St) : Prop := ∃ n, n ≤ 40 ∧ gI τ 1 0 = J n ∧ gI σ 2 0 = J n ∧ ∀ i, i < n → ∃ c, 33 ≤ c ∧ c ≤ 126 ∧ gI τ 0 i = J c ∧ gI σ 1 i = J c
theorem lead0 (w : Int64) : (lead w 8 0 = 0) = (byt w 0 = 0) := by
  have h1 := lead_ge w 7 1
  have h2 : lead w 8 0 = if byt w 0 = 0 then 0 else lead w 7 1 := rfl
  rw [h2]
  by_cases h : byt w 0 = 0
  · simp [h]
  · rw [if_neg h]
    refine propext ⟨fun h1 => by omega, fun h1 => absurd h1 h⟩
theorem op_text {N : Nat} (hN : 100 ≤ N) {τ σ : St} (h : IvT τ σ) (w : Int64) : ∃ r τ' σ', fX8_text N τ w = some (r, τ') ∧ fX9_text N σ w = some (r, σ') ∧ Fr [0, 1] τ τ' ∧ Fr [0, 1, 2] σ σ' ∧ IvT τ' σ' := by
  obtain ⟨n, hn, h1, h2, h3⟩ := h
  have hb := byt_lt w 0
  have hl := lead_le w 8 0
  have hcl : ∀ M, (lead w 8 0 = M) → M ≤ 8 := by omega
  unfold fX8_text fX9_text fX8_charactersIn
  have hc := cls_chars (N := N) τ w 8 0 N (by omega) (by omega)
  have hr := ref_chars (N := N) (sI σ 0 0 (J 0)) w 8 0 N (!decide (byt w 0 = 0)) (by omega) (by omega)
  have hr0 := ref_byte0 w
  simp (decide := true) (disch := omega) only [letS_d, grd_t, bnd_d, bnd1_d, bndX_d, bndX_e, gI_sI, gI_sL, gL_sL, gL_sI, upd_at, updL_at, J_lit, J_add, J_mul, J_sub, J_lt, J_le, J_inj, J_ne, ne_J, m_lt, lt_m, m_le, le_m, J_cl, J_inB, if_true, if_false, ite_true, ite_false, reduceIte, isZ0, isZ1, J_and31, shrJ0, shlJ0, gI_sA, gL_sA, Nat.reduceEqDiff, Nat.reduceAdd, Nat.reduceMul, Nat.reduceLT, Nat.reduceLeDiff, hc, hr0, lgc0 hb, fX9_text_22]
  have hx : (if byt w 0 = 0 then fX9_text_24 N N (sI σ 0 0 (J 0)) w (J 0) (J 0) else fX9_text_24 N N (sI σ 0 0 (J 0)) w (J 0) (J 1)) = fX9_text_90 N (sI σ 0 0 (J 0)) w (J (lead w 8 0)) (if ((!decide (byt w 0 = 0)) && fine w 8 0) = true then J 1 else J 0) := by
    rw [← hr]
    by_cases h0 : byt w 0 = 0 <;> simp [h0]
  rw [hx]
  have hI0 : IvT τ (sI σ 0 0 (J 0)) := ⟨n, hn, h1, by simp (decide := true) (disch := omega) only [letS_d, grd_t, bnd_d, bnd1_d, bndX_d, bndX_e, gI_sI, gI_sL, gL_sL, gL_sI, upd_at, updL_at, J_lit, J_add, J_mul, J_sub, J_lt, J_le, J_inj, J_ne, ne_J, m_lt, lt_m, m_le, le_m, J_cl, J_inB, if_true, if_false, ite_true, ite_false, reduceIte, isZ0, isZ1, J_and31, shrJ0, shlJ0, gI_sA, gL_sA, Nat.reduceEqDiff, Nat.reduceAdd, Nat.reduceMul, Nat.reduceLT, Nat.reduceLeDiff]; exact h2, fun i hi => by
    obtain ⟨c, c1, c2, c3, c4⟩ := h3 i hi
    exact ⟨c, c1, c2, c3, by simp (decide := true) (disch := omega) only [letS_d, grd_t, bnd_d, bnd1_d, bndX_d, bndX_e, gI_sI, gI_sL, gL_sL, gL_sI, upd_at, updL_at, J_lit, J_add, J_mul, J_sub, J_lt, J_le, J_inj, J_ne, ne_J, m_lt, lt_m, m_le, le_m, J_cl, J_inB, if_true, if_false, ite_true, ite_false, reduceIte, isZ0, isZ1, J_and31, shrJ0, shlJ0, gI_sA, gL_sA, Nat.reduceEqDiff, Nat.reduceAdd, Nat.reduceMul, Nat.reduceLT, Nat.reduceLeDiff]; exact c4⟩⟩
  have hFr : Fr [0, 1, 2] σ (sI σ 0 0 (J 0)) := Fr.i (by decide)
  have hbad : ∀ {x : Option (Int32 × St)} {y : Option (Int32 × St)}, x = some (-J 1, τ) → y = some (-J 1, sI σ 0 0 (J 0)) → ∃ r τ' σ', x = some (r, τ') ∧ y = some (r, σ') ∧ Fr [0, 1] τ τ' ∧ Fr [0, 1, 2] σ σ' ∧ IvT τ' σ' := fun hx hy => ⟨_, _, _, hx, hy, Fr.rf, hFr, hI0⟩
  have hl0 := lead0 w
  cases hf : fine w 8 0
  · refine hbad ?_ ?_
    · simp (decide := true) (disch := omega) only [letS_d, grd_t, bnd_d, bnd1_d, bndX_d, bndX_e, gI_sI, gI_sL, gL_sL, gL_sI, upd_at, updL_at, J_lit, J_add, J_mul, J_sub, J_lt, J_le, J_inj, J_ne, ne_J, m_lt, lt_m, m_le, le_m, J_cl, J_inB, if_true, if_false, ite_true, ite_false, reduceIte, isZ0, isZ1, J_and31, shrJ0, shlJ0, gI_sA, gL_sA, Nat.reduceEqDiff, Nat.reduceAdd, Nat.reduceMul, Nat.reduceLT, Nat.reduceLeDiff, Bool.false_eq_true, fX8_text_21]
    · simp (decide := true) (disch := omega) only [letS_d, grd_t, bnd_d, bnd1_d, bndX_d, bndX_e, gI_sI, gI_sL, gL_sL, gL_sI, upd_at, updL_at, J_lit, J_add, J_mul, J_sub, J_lt, J_le, J_inj, J_ne, ne_J, m_lt, lt_m, m_le, le_m, J_cl, J_inB, if_true, if_false, ite_true, ite_false, reduceIte, isZ0, isZ1, J_and31, shrJ0, shlJ0, gI_sA, gL_sA, Nat.reduceEqDiff, Nat.reduceAdd, Nat.reduceMul, Nat.reduceLT, Nat.reduceLeDiff, Bool.false_eq_true, Bool.and_false, fX9_text_90, fX9_text_106]
  · have hfa := fine_at w 8 0 hf
    by_cases h0 : byt w 0 = 0
    · have h00 : lead w 8 0 = 0 := hl0.mpr h0
      refine hbad ?_ ?_
      · simp (decide := true) (disch := omega) only [letS_d, grd_t, bnd_d, bnd1_d, bndX_d, bndX_e, gI_sI, gI_sL, gL_sL, gL_sI, upd_at, updL_at, J_lit, J_add, J_mul, J_sub, J_lt, J_le, J_inj, J_ne, ne_J, m_lt, lt_m, m_le, le_m, J_cl, J_inB, if_true, if_false, ite_true, ite_false, reduceIte, isZ0, isZ1, J_and31, shrJ0, shlJ0, gI_sA, gL_sA, Nat.reduceEqDiff, Nat.reduceAdd, Nat.reduceMul, Nat.reduceLT, Nat.reduceLeDiff, h00, fX8_text_21]
      · simp (decide := true) (disch := omega) only [letS_d, grd_t, bnd_d, bnd1_d, bndX_d, bndX_e, gI_sI, gI_sL, gL_sL, gL_sI, upd_at, updL_at, J_lit, J_add, J_mul, J_sub, J_lt, J_le, J_inj, J_ne, ne_J, m_lt, lt_m, m_le, le_m, J_cl, J_inB, if_true, if_false, ite_true, ite_false, reduceIte, isZ0, isZ1, J_and31, shrJ0, shlJ0, gI_sA, gL_sA, Nat.reduceEqDiff, Nat.reduceAdd, Nat.reduceMul, Nat.reduceLT, Nat.reduceLeDiff, h0, decide_true, Bool.not_true, Bool.false_and, Bool.false_eq_true, fX9_text_90, fX9_text_106]
    · have h01 : ¬ lead w 8 0 = 0 := fun h => h0 (hl0.mp h)
      generalize hM : lead w 8 0 = M at *
      have h1M : ¬ M < 1 := by omega
      by_cases h40 : n + M ≤ 40
      · obtain ⟨τ', a1, a2, a3, a4, a5⟩ := cls_copy (N := N) (L := n) (M := M) w h40 M 0 N τ (by omega) (by omega) h1 (fun j hj => hfa j (by omega) hj) (by omega)
        obtain ⟨σ', b1, b2, b3, b4, b5⟩ := ref_copy (N := N) (L := n) (M := M) w h40 M 0 N (sI σ 0 0 (J 0)) (by omega) (by omega) (by simp (decide := true) (disch := omega) only [letS_d, grd_t, bnd_d, bnd1_d, bndX_d, bndX_e, gI_sI, gI_sL, gL_sL, gL_sI, upd_at, updL_at, J_lit, J_add, J_mul, J_sub, J_lt, J_le, J_inj, J_ne, ne_J, m_lt, lt_m, m_le, le_m, J_cl, J_inB, if_true, if_false, ite_true, ite_false, reduceIte, isZ0, isZ1, J_and31, shrJ0, shlJ0, gI_sA, gL_sA, Nat.reduceEqDiff, Nat.reduceAdd, Nat.reduceMul, Nat.reduceLT, Nat.reduceLeDiff]; exact h2) (fun j hj => hfa j (by omega) hj) (by omega)
        refine ⟨J (n + M), τ', σ', ?_, ?_, a2, hFr.tr (b2.mono (by decide)), n + M, h40, a3, b3, fun i hi => ?_⟩
        · simp (decide := true) (disch := omega) only [letS_d, grd_t, bnd_d, bnd1_d, bndX_d, bndX_e, gI_sI, gI_sL, gL_sL, gL_sI, upd_at, updL_at, J_lit, J_add, J_mul, J_sub, J_lt, J_le, J_inj, J_ne, ne_J, m_lt, lt_m, m_le, le_m, J_cl, J_inB, if_true, if_false, ite_true, ite_false, reduceIte, isZ0, isZ1, J_and31, shrJ0, shlJ0, gI_sA, gL_sA, Nat.reduceEqDiff, Nat.reduceAdd, Nat.reduceMul, Nat.reduceLT, Nat.reduceLeDiff, h1M, h1, h40]
          exact a1
        · simp (decide := true) (disch := omega) only [letS_d, grd_t, bnd_d, bnd1_d, bndX_d, bndX_e, gI_sI, gI_sL, gL_sL, gL_sI, upd_at, updL_at, J_lit, J_add, J_mul, J_sub, J_lt, J_le, J_inj, J_ne, ne_J, m_lt, lt_m, m_le, le_m, J_cl, J_inB, if_true, if_false, ite_true, ite_false, reduceIte, isZ0, isZ1, J_and31, shrJ0, shlJ0, gI_sA, gL_sA, Nat.reduceEqDiff, Nat.reduceAdd, Nat.reduceMul, Nat.reduceLT, Nat.reduceLeDiff, h0, decide_false, Bool.not_false, Bool.true_and, fX9_text_90, h2, h40]
          exact b1
        · by_cases hin : i < n
          · obtain ⟨c, c1, c2, c3, c4⟩ := h3 i hin
            refine ⟨c, c1, c2, by rw [a4 i (by omega)]; exact c3, ?_⟩
            rw [b4 i (by omega)]
            simp (decide := true) (disch := omega) only [letS_d, grd_t, bnd_d, bnd1_d, bndX_d, bndX_e, gI_sI, gI_sL, gL_sL, gL_sI, upd_at, updL_at, J_lit, J_add, J_mul, J_sub, J_lt, J_le, J_inj, J_ne, ne_J, m_lt, lt_m, m_le, le_m, J_cl, J_inB, if_true, if_false, ite_true, ite_false, reduceIte, isZ0, isZ1, J_and31, shrJ0, shlJ0, gI_sA, gL_sA, Nat.reduceEqDiff, Nat.reduceAdd, Nat.reduceMul, Nat.reduceLT, Nat.reduceLeDiff]
            exact c4
          · obtain ⟨j, rfl⟩ : ∃ j, i = n + j := ⟨i - n, by omega⟩
            obtain ⟨c1, c2⟩ := hfa j (by omega) (by omega)
            exact ⟨byt w j, c1, c2, a5 j (by omega) (by omega), b5 j (by omega) (by omega)⟩
      · refine hbad ?_ ?_
        · simp (decide := true) (disch := omega) only [letS_d, grd_t, bnd_d, bnd1_d, bndX_d, bndX_e, gI_sI, gI_sL, gL_sL, gL_sI, upd_at, updL_at, J_lit, J_add, J_mul, J_sub, J_lt, J_le, J_inj, J_ne, ne_J, m_lt, lt_m, m_le, le_m, J_cl, J_inB, if_true, if_false, ite_true, ite_false, reduceIte, isZ0, isZ1, J_and31, shrJ0, shlJ0, gI_sA, gL_sA, Nat.reduceEqDiff, Nat.reduceAdd, Nat.reduceMul, Nat.reduceLT, Nat.reduceLeDiff, h1M, h1, h40, fX8_text_21]
        · simp (decide := true) (disch := omega) only [letS_d, grd_t, bnd_d, bnd1_d, bndX_d, bndX_e, gI_sI, gI_sL, gL_sL, gL_sI, upd_at, updL_at, J_lit, J_add, J_mul, J_sub, J_lt, J_le, J_inj, J_ne, ne_J, m_lt, lt_m, m_le, le_m, J_cl, J_inB, if_true, if_false, ite_true, ite_false, reduceIte, isZ0, isZ1, J_and31, shrJ0, shlJ0, gI_sA, gL_sA, Nat.reduceEqDiff, Nat.reduceAdd, Nat.reduceMul, Nat.reduceLT, Nat.reduceLeDiff, h0, decide_false, Bool.not_false, Bool.true_and, fX9_text_90, h2, h40, fX9_text_106]
