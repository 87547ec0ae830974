/-! longs as rows of bits -/
theorem lgc_eq (x y : Int64) : (lg_cmp x y = J 0) = (x = y) := by
  unfold lg_cmp
  refine propext ⟨fun h => ?_, fun h => ?_⟩
  · split at h
    · exact absurd h (by decide)
    · split at h
      · rename_i h2
        exact h2
      · exact absurd h (by decide)
  · subst h
    have : ¬ x > x := by
      intro h
      rw [gt_iff_lt, Int64.lt_iff_toInt_lt] at h
      omega
    rw [if_neg this, if_pos rfl]
    rfl
theorem bl_m1 {i : Nat} (hi : i < 64) : bl (-1) i = true := by
  have : ∀ i < 64, bl (-1) i = true := by decide +kernel
  exact this i hi
theorem bl_not (x : Int64) {i : Nat} (hi : i < 64) : bl (x ^^^ (-1)) i = !bl x i := by
  have h : bl (-1) i = true := bl_m1 hi
  show (x.toBitVec ^^^ (-1 : Int64).toBitVec).getLsbD i = _
  rw [BitVec.getLsbD_xor]
  unfold bl at h
  rw [h]
  simp [bl]
theorem bl_iff {x y : Int64} : x = y ↔ ∀ i, i < 64 → bl x i = bl y i := ⟨fun h i _ => by rw [h], fun h => bl_ext h⟩
theorem k63 {k : Nat} (hk : k < 64) : ((J k).toInt64 &&& 63) = Int64.ofNat k := by
  have : ∀ k < 64, ((J k).toInt64 &&& 63) = Int64.ofNat k := by decide +kernel
  exact this k hk
theorem k63s {k : Nat} (hk : k < 64) : ((Int64.ofNat k).toBitVec.smod 64 : BitVec 64).toNat = k := by
  have : ∀ k < 64, ((Int64.ofNat k).toBitVec.smod 64 : BitVec 64).toNat = k := by decide +kernel
  exact this k hk
theorem bl_shl (x : Int64) {k : Nat} (hk : k < 64) {i : Nat} (hi : i < 64) : bl (x <<< ((J k).toInt64 &&& 63)) i = (decide (k ≤ i) && bl x (i - k)) := by
  rw [k63 hk]
  show (x.toBitVec <<< ((Int64.ofNat k).toBitVec.smod 64)).getLsbD i = _
  rw [BitVec.shiftLeft_eq', k63s hk, BitVec.getLsbD_shiftLeft]
  by_cases h : i < k
  · simp [h, hi, Nat.not_le.mpr h]
  · simp [h, hi, Nat.not_lt.mp h]
    rfl
theorem bl_shr (x : Int64) {k : Nat} (hk : k < 64) {i : Nat} (hi : k + i < 64) : bl (x >>> ((J k).toInt64 &&& 63)) i = bl x (k + i) := by
  rw [k63 hk]
  show (x.toBitVec.sshiftRight ((Int64.ofNat k).toBitVec.smod 64).toNat).getLsbD i = _
  rw [k63s hk, BitVec.getLsbD_sshiftRight]
  have : ¬ 64 ≤ i := by omega
  simp [this, hi]
  rfl
theorem bl_one {i : Nat} (hi : i < 64) : bl 1 i = decide (i = 0) := by
  have : ∀ i < 64, bl 1 i = decide (i = 0) := by decide +kernel
  exact this i hi
theorem and1 (x : Int64) : (x &&& 1) = if bl x 0 = true then 1 else 0 := by
  refine bl_ext fun i hi => ?_
  rw [bl_and, bl_one hi]
  by_cases h : i = 0
  · subst h
    cases hx : bl x 0
    · simp [bl0]
    · simp [bl_one]
  · cases hx : bl x 0
    · simp [h, bl0]
    · simp [h, bl_one hi]
theorem one_bl (x : Int64) {k : Nat} (hk : k < 64) : ((x >>> ((J k).toInt64 &&& 63)) &&& 1 = 1) = (bl x k = true) := by
  rw [and1, bl_shr x hk (by omega), Nat.add_zero]
  cases bl x k <;> simp
theorem u63 {k : Nat} (hk : k < 64) : ((J k).toInt64.toUInt64 &&& Int64.toUInt64 63).toBitVec.toNat % 64 = k := by
  have : ∀ k < 64, ((J k).toInt64.toUInt64 &&& Int64.toUInt64 63).toBitVec.toNat % 64 = k := by decide +kernel
  exact this k hk
theorem bl_ushr (x : Int64) {k : Nat} (hk : k < 64) (i : Nat) : bl ((x.toUInt64 >>> ((J k).toInt64.toUInt64 &&& Int64.toUInt64 63)).toInt64) i = bl x (k + i) := by
  have e1 := u63 hk
  show ((x.toUInt64 >>> ((J k).toInt64.toUInt64 &&& Int64.toUInt64 63)).toBitVec).getLsbD i = _
  rw [UInt64.toBitVec_shiftRight]
  generalize hz : ((J k).toInt64.toUInt64 &&& Int64.toUInt64 63) = z at e1 ⊢
  have h9 : (z.toBitVec % 64#64).toNat = k := by
    rw [BitVec.toNat_umod]
    exact e1
  show (x.toBitVec >>> (z.toBitVec % 64#64)).getLsbD i = _
  rw [BitVec.ushiftRight_eq', BitVec.getLsbD_ushiftRight, h9]
  rfl
theorem bl_hi (x : Int64) {i : Nat} (hi : 64 ≤ i) : bl x i = false := BitVec.getLsbD_of_ge _ _ hi
theorem u_one (x : Int64) {k : Nat} (hk : k < 64) : (((x.toUInt64 >>> ((J k).toInt64.toUInt64 &&& Int64.toUInt64 63)).toInt64) &&& 1 = 0) = (bl x k = false) := by
  rw [and1, bl_ushr x hk, Nat.add_zero]
  cases bl x k <;> simp
theorem u_zero (x : Int64) {k : Nat} (hk : k < 64) : ((x.toUInt64 >>> ((J k).toInt64.toUInt64 &&& Int64.toUInt64 63)).toInt64 = 0) = (∀ i, k ≤ i → i < 64 → bl x i = false) := by
  refine propext ⟨fun h i h1 h2 => ?_, fun h => bl_ext fun i hi => ?_⟩
  · have := bl_ushr x hk (i - k)
    rw [h, bl0, show k + (i - k) = i from by omega] at this
    exact this.symm
  · rw [bl_ushr x hk, bl0]
    by_cases h1 : k + i < 64
    · exact h (k + i) (by omega) h1
    · exact bl_hi x (by omega)
/-! sets of obligations as numbers -/
theorem tb64 {w j : Nat} (hj : j < 64) (o : Nat) : (64 * w + j).testBit o = if o < 6 then j.testBit o else w.testBit (o - 6) := Nat.testBit_two_pow_mul_add (i := 6) w hj o
theorem less {s p : Nat} (hs : s < 512) (hp : p < 9) (h : s.testBit p = true) : 2 ^ p ≤ s ∧ ∀ o, (s - 2 ^ p).testBit o = (s.testBit o && decide (o ≠ p)) := by
  have h1 : ∀ s < 512, ∀ p < 9, s.testBit p = true → 2 ^ p ≤ s ∧ ∀ o < 9, (s - 2 ^ p).testBit o = (s.testBit o && decide (o ≠ p)) := by decide +kernel
  obtain ⟨h2, h3⟩ := h1 s hs p hp h
  refine ⟨h2, fun o => ?_⟩
  by_cases ho : o < 9
  · exact h3 o ho
  · have h9 : 512 ≤ 2 ^ o := Nat.pow_le_pow_right (n := 2) (by omega) (show 9 ≤ o by omega)
    have h8 : s - 2 ^ p ≤ s := Nat.sub_le _ _
    rw [Nat.testBit_lt_two_pow (show s < 2 ^ o by omega), Nat.testBit_lt_two_pow (show s - 2 ^ p < 2 ^ o from Nat.lt_of_le_of_lt h8 (by omega))]
    rfl
theorem J_and63 {s : Nat} (hs : s < 512) : (J s &&& J 63) = J (s % 64) := by
  have : ∀ s < 512, (J s &&& J 63) = J (s % 64) := by decide +kernel
  exact this s hs
theorem J_shr6 {s : Nat} (hs : s < 512) : J s >>> J 6 = J (s / 64) := J_shr (b := 6) hs (by omega)
theorem bl_with {o j : Nat} (ho : o < 6) (hj : j < 64) : bl (cWITH o) j = j.testBit o := by
  have : ∀ o < 6, ∀ j < 64, bl (cWITH o) j = j.testBit o := by decide +kernel
  exact this o ho j hj
/-- a mask of what holds below a bound -/
def msk (f : Nat → Bool) : Nat → Nat
  | 0 => 0
  | n + 1 => msk f n + (if f n = true then 2 ^ n else 0)
theorem msk_lt (f : Nat → Bool) : ∀ n, msk f n < 2 ^ n := by
  intro n
  induction n with
  | zero => exact Nat.one_pos
  | succ n ih =>
    unfold msk
    rw [Nat.pow_succ]
    split <;> omega
theorem msk_bit (f : Nat → Bool) : ∀ n o, (msk f n).testBit o = (decide (o < n) && f o) := by
  intro n
  induction n with
  | zero => intro o; simp [msk]
  | succ n ih =>
    intro o
    unfold msk
    have hl := msk_lt f n
    by_cases hf : f n = true
    · rw [if_pos hf, Nat.add_comm, show 2 ^ n + msk f n = 2 ^ n * 1 + msk f n from by omega, Nat.testBit_two_pow_mul_add 1 hl o, ih]
      by_cases ho : o < n
      · rw [if_pos ho]
        have : o < n + 1 := by omega
        simp [ho, this]
      · rw [if_neg ho]
        by_cases hon : o = n
        · subst hon
          simp [hf]
        · have h1 : ¬ o < n + 1 := by omega
          have h2 : o - n ≠ 0 := by omega
          have h3 : Nat.testBit 1 (o - n) = false := by
            cases hx : Nat.testBit 1 (o - n)
            · rfl
            · exact absurd (Nat.testBit_one_eq_true_iff_self_eq_zero.mp hx) h2
          simp [h1, h3]
    · rw [if_neg hf, Nat.add_zero, ih]
      by_cases ho : o < n
      · have : o < n + 1 := by omega
        simp [ho, this]
      · by_cases hon : o = n
        · subst hon
          have : f o = false := by
            cases h : f o
            · rfl
            · exact absurd h hf
          simp [this]
        · have h1 : ¬ o < n + 1 := by omega
          simp [ho, h1]
