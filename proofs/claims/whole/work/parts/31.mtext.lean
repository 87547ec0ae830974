/-! promise 2: text -/
def byt (w : Int64) (i : Nat) : Nat := (w.toBitVec.toNat >>> (8 * i)) % 256
theorem byt_lt (w : Int64) (i : Nat) : byt w i < 256 := Nat.mod_lt _ (by omega)
theorem byt_bit (w : Int64) (i k : Nat) : (byt w i).testBit k = (decide (k < 8) && w.toBitVec.getLsbD (8 * i + k)) := by
  unfold byt
  rw [show (256 : Nat) = 2 ^ 8 from rfl, Nat.testBit_mod_two_pow, Nat.testBit_shiftRight]
  rfl
theorem sh64 {i : Nat} (hi : i < 8) : ((J (8 * i)).toInt64 &&& 63) = Int64.ofNat (8 * i) := by
  have : ∀ i < 8, ((J (8 * i)).toInt64 &&& 63) = Int64.ofNat (8 * i) := by decide +kernel
  exact this i hi
theorem sm64 {i : Nat} (hi : i < 8) : ((Int64.ofNat (8 * i)).toBitVec.smod 64 : BitVec 64).toNat = 8 * i := by
  have : ∀ i < 8, ((Int64.ofNat (8 * i)).toBitVec.smod 64 : BitVec 64).toNat = 8 * i := by decide +kernel
  exact this i hi
theorem ref_byte (w : Int64) {i : Nat} (hi : i < 8) : ((w >>> ((J (8 * i)).toInt64 &&& 63)) &&& (255 : Int64)) = Int64.ofNat (byt w i) := by
  rw [sh64 hi]
  refine bl_ext fun k hk => ?_
  rw [bl_and]
  have h1 : bl (w >>> Int64.ofNat (8 * i)) k = (w.toBitVec.sshiftRight (8 * i)).getLsbD k := by
    show (w.toBitVec.sshiftRight ((Int64.ofNat (8 * i)).toBitVec.smod 64).toNat).getLsbD k = _
    rw [sm64 hi]
  have h2 : bl (Int64.ofNat (byt w i)) k = (byt w i).testBit k := by
    show (BitVec.ofNat 64 (byt w i)).getLsbD k = _
    rw [BitVec.getLsbD_ofNat]
    simp [hk]
  have h3 : ∀ k < 64, bl 255 k = decide (k < 8) := by decide +kernel
  rw [h1, h2, h3 k hk, byt_bit, BitVec.getLsbD_sshiftRight]
  by_cases h8 : k < 8
  · have : 8 * i + k < 64 := by omega
    simp [h8, this, Nat.not_le.mpr hk]
  · simp [h8]
theorem cls_byte (w : Int64) {i : Nat} (hi : i < 8) : ((((w.toUInt64 >>> ((J (8 * i)).toInt64.toUInt64 &&& Int64.toUInt64 63)).toInt64).toInt32) &&& (255 : Int32)) = J (byt w i) := by
  have e : ∀ i < 8, ((J (8 * i)).toInt64.toUInt64 &&& Int64.toUInt64 63).toBitVec.toNat % 64 = 8 * i := by decide +kernel
  refine bt_ext fun k hk => ?_
  rw [bt_and, J_bits k hk, byt_bit]
  have h3 : ∀ k < 32, bt 255 k = decide (k < 8) := by decide +kernel
  rw [h3 k hk]
  have h1 : bt (((w.toUInt64 >>> ((J (8 * i)).toInt64.toUInt64 &&& Int64.toUInt64 63)).toInt64).toInt32) k = w.toBitVec.getLsbD (8 * i + k) := by
    have e1 := e i hi
    show ((w.toUInt64 >>> ((J (8 * i)).toInt64.toUInt64 &&& Int64.toUInt64 63)).toBitVec.setWidth 32).getLsbD k = _
    rw [BitVec.getLsbD_setWidth, UInt64.toBitVec_shiftRight]
    generalize hz : ((J (8 * i)).toInt64.toUInt64 &&& Int64.toUInt64 63) = z at e1 ⊢
    have h9 : (z.toBitVec % 64#64).toNat = 8 * i := by
      rw [BitVec.toNat_umod]
      exact e1
    show (decide (k < 32) && (w.toBitVec >>> (z.toBitVec % 64#64)).getLsbD k) = _
    rw [BitVec.ushiftRight_eq', BitVec.getLsbD_ushiftRight, h9]
    simp [hk]
  rw [h1]
  by_cases h8 : k < 8 <;> simp [h8]
/-- how many bytes there are before the first 0, from one on -/
def lead (w : Int64) : Nat → Nat → Nat
  | 0, i => i
  | f + 1, i => if byt w i = 0 then i else lead w f (i + 1)
/-- whether those are characters of a text -/
def fine (w : Int64) : Nat → Nat → Bool
  | 0, _ => true
  | f + 1, i => if byt w i = 0 then true else decide (33 ≤ byt w i) && decide (byt w i ≤ 126) && fine w f (i + 1)
theorem lead_le (w : Int64) : ∀ f i, lead w f i ≤ i + f := by
  intro f
  induction f with
  | zero => intro i; exact Nat.le_refl _
  | succ f ih =>
    intro i
    unfold lead
    split
    · omega
    · have := ih (i + 1)
      omega
theorem lead_ge (w : Int64) : ∀ f i, i ≤ lead w f i := by
  intro f
  induction f with
  | zero => intro i; exact Nat.le_refl _
  | succ f ih =>
    intro i
    unfold lead
    split
    · omega
    · have := ih (i + 1)
      omega
theorem fine_at (w : Int64) : ∀ f i, fine w f i = true → ∀ j, i ≤ j → j < lead w f i → 33 ≤ byt w j ∧ byt w j ≤ 126 := by
  intro f
  induction f with
  | zero =>
    intro i h j h1 h2
    unfold lead at h2
    omega
  | succ f ih =>
    intro i h j h1 h2
    unfold lead at h2
    unfold fine at h
    split at h2
    · omega
    · rename_i h0
      rw [if_neg h0] at h
      simp only [Bool.and_eq_true, decide_eq_true_eq] at h
      by_cases hj : j = i
      · subst hj
        exact h.1
      · exact ih (i + 1) h.2 j (by omega) h2
theorem cls_chars {N : Nat} (σ : St) (w : Int64) : ∀ f i n, i + f = 8 → f < n → fX8_charactersIn_2 N n σ w (J i) = some (if fine w f i then J (lead w f i) else -J 1, σ) := by
  intro f
  induction f with
  | zero =>
    intro i n hi hn
    obtain ⟨n, rfl⟩ : ∃ k, n = k + 1 := ⟨n - 1, by omega⟩
    obtain rfl : i = 8 := by omega
    unfold fX8_charactersIn_2
    simp (disch := omega) only [letS_d, grd_t, bnd_d, bnd1_d, bndX_d, bndX_e, gI_sI, gI_sL, gL_sL, gL_sI, upd_at, updL_at, J_lit, J_add, J_mul, J_sub, J_lt, J_le, J_inj, J_ne, ne_J, m_lt, lt_m, m_le, le_m, J_cl, J_inB, if_true, if_false, ite_true, ite_false, reduceIte, isZ0, isZ1, fine, lead, Nat.le_refl]
  | succ f ih =>
    intro i n hi hn
    obtain ⟨n, rfl⟩ : ∃ k, n = k + 1 := ⟨n - 1, by omega⟩
    unfold fX8_charactersIn_2
    have hb := byt_lt w i
    have h8 : ¬ 8 ≤ i := by omega
    simp (disch := omega) only [letS_d, grd_t, bnd_d, bnd1_d, bndX_d, bndX_e, gI_sI, gI_sL, gL_sL, gL_sI, upd_at, updL_at, J_lit, J_add, J_mul, J_sub, J_lt, J_le, J_inj, J_ne, ne_J, m_lt, lt_m, m_le, le_m, J_cl, J_inB, if_true, if_false, ite_true, ite_false, reduceIte, isZ0, isZ1, h8, fX8_byteOf]
    rw [cls_byte w (by omega)]
    unfold fine lead
    by_cases h0 : byt w i = 0
    · simp (disch := omega) only [letS_d, grd_t, bnd_d, bnd1_d, bndX_d, bndX_e, gI_sI, gI_sL, gL_sL, gL_sI, upd_at, updL_at, J_lit, J_add, J_mul, J_sub, J_lt, J_le, J_inj, J_ne, ne_J, m_lt, lt_m, m_le, le_m, J_cl, J_inB, if_true, if_false, ite_true, ite_false, reduceIte, isZ0, isZ1, h0, fX8_charactersIn_32]
    · simp (disch := omega) only [letS_d, grd_t, bnd_d, bnd1_d, bndX_d, bndX_e, gI_sI, gI_sL, gL_sL, gL_sI, upd_at, updL_at, J_lit, J_add, J_mul, J_sub, J_lt, J_le, J_inj, J_ne, ne_J, m_lt, lt_m, m_le, le_m, J_cl, J_inB, if_true, if_false, ite_true, ite_false, reduceIte, isZ0, isZ1, h0, fX8_charactersIn_32]
      by_cases h1 : byt w i < 33
      · have : ¬ 33 ≤ byt w i := by omega
        simp [h1, this]
        rfl
      · by_cases h2 : byt w i ≤ 126
        · rw [ih (i + 1) n (by omega) (by omega)]
          have : 33 ≤ byt w i := by omega
          simp [h1, h2, this]
        · simp [h1, h2]
          rfl
