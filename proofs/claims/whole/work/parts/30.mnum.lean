/-! the machine's ints as naturals -/
def J (n : Nat) : Int32 := Int32.ofNat n
theorem J_lit (n : Nat) : (OfNat.ofNat n : Int32) = J n := rfl
theorem J_toInt {a : Nat} (h : a < 2147483648) : (J a).toInt = (a : Int) := Int32.toInt_ofNat_of_lt h
theorem J_cl {a : Nat} (h : a < 2147483648) : (J a).toNatClampNeg = a := Int32.toNatClampNeg_ofNat_of_lt h
theorem J_add (a b : Nat) : J a + J b = J (a + b) := (Int32.ofNat_add a b).symm
theorem J_mul (a b : Nat) : J a * J b = J (a * b) := (Int32.ofNat_mul a b).symm
theorem J_sub {a b : Nat} (h : b ≤ a) : J a - J b = J (a - b) := by
  have e : J a = J (a - b) + J b := by rw [J_add, Nat.sub_add_cancel h]
  rw [e, Int32.add_sub_cancel]
theorem J_lt {a b : Nat} (ha : a < 2147483648) (hb : b < 2147483648) : (J a < J b) = (a < b) := by
  rw [Int32.lt_iff_toInt_lt, J_toInt ha, J_toInt hb, Int.ofNat_lt]
theorem J_le {a b : Nat} (ha : a < 2147483648) (hb : b < 2147483648) : (J a ≤ J b) = (a ≤ b) := by
  rw [Int32.le_iff_toInt_le, J_toInt ha, J_toInt hb, Int.ofNat_le]
theorem J_inj {a b : Nat} (ha : a < 2147483648) (hb : b < 2147483648) : (J a = J b) = (a = b) := by
  refine propext ⟨fun h => ?_, fun h => by rw [h]⟩
  have h1 := congrArg Int32.toInt h
  rw [J_toInt ha, J_toInt hb] at h1
  omega
theorem J_ne {a : Nat} (ha : a < 2147483648) : (J a = -J 1) = False := by
  refine propext ⟨fun h => ?_, fun h => h.elim⟩
  have h1 := congrArg Int32.toInt h
  rw [J_toInt ha, show (-J 1).toInt = -1 from rfl] at h1
  omega
theorem ne_J {a : Nat} (ha : a < 2147483648) : (-J 1 = J a) = False := by
  refine propext ⟨fun h => ?_, fun h => h.elim⟩
  have h1 := congrArg Int32.toInt h
  rw [J_toInt ha, show (-J 1).toInt = -1 from rfl] at h1
  omega
theorem m_lt {a : Nat} (ha : a < 2147483648) : (-J 1 < J a) = True := by
  rw [Int32.lt_iff_toInt_lt, J_toInt ha, show (-J 1).toInt = -1 from rfl]
  exact propext ⟨fun _ => trivial, fun _ => by omega⟩
theorem lt_m {a : Nat} (ha : a < 2147483648) : (J a < -J 1) = False := by
  rw [Int32.lt_iff_toInt_lt, J_toInt ha, show (-J 1).toInt = -1 from rfl]
  exact propext ⟨fun _ => by omega, fun h => h.elim⟩
theorem m_le {a : Nat} (ha : a < 2147483648) : (-J 1 ≤ J a) = True := by
  rw [Int32.le_iff_toInt_le, J_toInt ha, show (-J 1).toInt = -1 from rfl]
  exact propext ⟨fun _ => trivial, fun _ => by omega⟩
theorem le_m {a : Nat} (ha : a < 2147483648) : (J a ≤ -J 1) = False := by
  rw [Int32.le_iff_toInt_le, J_toInt ha, show (-J 1).toInt = -1 from rfl]
  exact propext ⟨fun _ => by omega, fun h => h.elim⟩
theorem J_inB {a n : Nat} (h : a < n) (hn : n ≤ 2147483648) : inB (J a) n = true := by
  have h3 : ¬ (J a < 0) := by
    rw [show (0 : Int32) = J 0 from rfl, J_lt (by omega) (by omega)]
    omega
  unfold inB
  rw [J_cl (by omega), decide_eq_false h3, decide_eq_false (by omega)]
  rfl
/-- an Int32 that is not negative is a J -/
theorem J_of {x : Int32} (h : 0 ≤ x) : ∃ n : Nat, n < 2147483648 ∧ x = J n := ⟨x.toNatClampNeg, Int32.toNatClampNeg_lt x, (Int32.ofNat_toNatClampNeg x h).symm⟩
theorem neg_or (x : Int32) : x < 0 ∨ ∃ n : Nat, n < 2147483648 ∧ x = J n := by
  by_cases h : 0 ≤ x
  · exact Or.inr (J_of h)
  · left
    rw [Int32.le_iff_toInt_le] at h
    rw [Int32.lt_iff_toInt_lt]
    omega
theorem neg_lt {x : Int32} (h : x < 0) {a : Nat} (ha : a < 2147483648) : x < J a := by
  rw [Int32.lt_iff_toInt_lt, J_toInt ha]
  rw [Int32.lt_iff_toInt_lt, show (0 : Int32).toInt = 0 from rfl] at h
  omega
/-! the parts of the pure functions -/
theorem grd_t {α : Type} {x : Option α} : grd true x = x := rfl
theorem letS_d {α β : Type} (v : α) (f : α → β) : letS v f = f v := rfl
theorem bnd_d {α β γ : Type} (a : α) (b : β) (f : α → β → Option γ) : bnd (some (a, b)) f = f a b := rfl
theorem bnd1_d {β γ : Type} (b : β) (f : β → Option γ) : bnd1 (some b) f = f b := rfl
theorem gI_sI (σ : St) (k j : Nat) (v : Int32) (q : Nat) : gI (sI σ k j v) q = if q = k then upd (gI σ k) j v else gI σ q := rfl
theorem gI_sL (σ : St) (k j : Nat) (v : Int64) (q : Nat) : gI (sL σ k j v) q = gI σ q := rfl
theorem gL_sL (σ : St) (k j : Nat) (v : Int64) (q : Nat) : gL (sL σ k j v) q = if q = k then vp_updL (gL σ k) j v else gL σ q := rfl
theorem gL_sI (σ : St) (k j : Nat) (v : Int32) (q : Nat) : gL (sI σ k j v) q = gL σ q := rfl
theorem upd_at (f : Nat → Int32) (j : Nat) (v : Int32) (i : Nat) : upd f j v i = if i = j then v else f i := rfl
theorem updL_at (f : Nat → Int64) (j : Nat) (v : Int64) (i : Nat) : vp_updL f j v i = if i = j then v else f i := rfl
/-- nothing but the variables of a list has changed -/
def Fr (S : List Nat) (σ σ' : St) : Prop := ∀ k, k ∉ S → σ'.1 k = σ.1 k ∧ σ'.2 k = σ.2 k
theorem Fr.rf {S : List Nat} {σ : St} : Fr S σ σ := fun _ _ => ⟨rfl, rfl⟩
theorem Fr.tr {S : List Nat} {σ1 σ2 σ3 : St} (h : Fr S σ1 σ2) (h2 : Fr S σ2 σ3) : Fr S σ1 σ3 := fun k hk => ⟨(h2 k hk).1.trans (h k hk).1, (h2 k hk).2.trans (h k hk).2⟩
theorem Fr.mono {S S' : List Nat} {σ1 σ2 : St} (h : Fr S σ1 σ2) (hs : ∀ k ∈ S, k ∈ S') : Fr S' σ1 σ2 := fun k hk => h k (fun h1 => hk (hs k h1))
theorem Fr.i {S : List Nat} {σ : St} {k j : Nat} {v : Int32} (h : k ∈ S) : Fr S σ (sI σ k j v) := fun q hq => ⟨by
  show (if q = k then _ else _) = _
  rw [if_neg (fun (e : q = k) => hq (by rw [e]; exact h))], rfl⟩
theorem Fr.l {S : List Nat} {σ : St} {k j : Nat} {v : Int64} (h : k ∈ S) : Fr S σ (sL σ k j v) := fun q hq => ⟨rfl, by
  show (if q = k then _ else _) = _
  rw [if_neg (fun (e : q = k) => hq (by rw [e]; exact h))]⟩
theorem Fr.gi {S : List Nat} {σ σ' : St} (h : Fr S σ σ') {k : Nat} (hk : k ∉ S) : gI σ' k = gI σ k := (h k hk).1
theorem Fr.gl {S : List Nat} {σ σ' : St} (h : Fr S σ σ') {k : Nat} (hk : k ∉ S) : gL σ' k = gL σ k := (h k hk).2
/-! bits -/
def bt (x : Int32) (k : Nat) : Bool := x.toBitVec.getLsbD k
def bl (x : Int64) (k : Nat) : Bool := x.toBitVec.getLsbD k
theorem bt_or (x y : Int32) (k : Nat) : bt (x ||| y) k = (bt x k || bt y k) := BitVec.getLsbD_or
theorem bt_and (x y : Int32) (k : Nat) : bt (x &&& y) k = (bt x k && bt y k) := BitVec.getLsbD_and
theorem bl_or (x y : Int64) (k : Nat) : bl (x ||| y) k = (bl x k || bl y k) := BitVec.getLsbD_or
theorem bl_and (x y : Int64) (k : Nat) : bl (x &&& y) k = (bl x k && bl y k) := BitVec.getLsbD_and
theorem bt_ext {x y : Int32} (h : ∀ k, k < 32 → bt x k = bt y k) : x = y := Int32.toBitVec.inj (BitVec.eq_of_getLsbD_eq h)
theorem bl_ext {x y : Int64} (h : ∀ k, k < 64 → bl x k = bl y k) : x = y := Int64.toBitVec.inj (BitVec.eq_of_getLsbD_eq h)
theorem J_bits {n : Nat} (k : Nat) (hk : k < 32) : bt (J n) k = n.testBit k := by
  show (BitVec.ofNat 32 n).getLsbD k = _
  rw [BitVec.getLsbD_ofNat]
  simp [hk]
theorem bt0 (k : Nat) : bt 0 k = false := by
  show (0#32).getLsbD k = false
  simp
theorem bl0 (k : Nat) : bl 0 k = false := by
  show (0#64).getLsbD k = false
  simp
theorem sh31 {k : Nat} (hk : k < 32) : (J k &&& 31) = J k := by
  refine bt_ext fun i hi => ?_
  rw [bt_and, show (31 : Int32) = J 31 from rfl, J_bits i hi, J_bits i hi]
  have : ∀ k < 32, ∀ i < 32, (k.testBit i && (31 : Nat).testBit i) = k.testBit i := by decide +kernel
  exact this k hk i hi
theorem shr_toB (x : Int32) {k : Nat} (hk : k < 32) : (x >>> (J k &&& 31)).toBitVec = x.toBitVec.sshiftRight k := by
  rw [sh31 hk]
  show x.toBitVec.sshiftRight' ((J k).toBitVec.smod 32) = _
  have : ∀ k < 32, (((J k).toBitVec.smod 32 : BitVec 32)).toNat = k := by decide +kernel
  show x.toBitVec.sshiftRight ((J k).toBitVec.smod 32).toNat = _
  rw [this k hk]
theorem bt_shr0 (x : Int32) {k : Nat} (hk : k < 32) : bt (x >>> (J k &&& 31)) 0 = bt x k := by
  unfold bt
  rw [shr_toB x hk, BitVec.getLsbD_sshiftRight]
  simp [hk]
theorem one_bit (x : Int32) : (x &&& 1) = if bt x 0 then 1 else 0 := by
  refine bt_ext fun i hi => ?_
  rw [bt_and]
  have h1 : ∀ i < 32, bt 1 i = decide (i = 0) := by decide +kernel
  rw [h1 i hi]
  by_cases h : i = 0
  · subst h
    cases hx : bt x 0
    · simp [bt0]
    · simp [h1 0 (by omega)]
  · cases hx : bt x 0
    · simp [h, bt0]
    · simp [h, h1 i hi]
theorem has_eq (x : Int32) {k : Nat} (hk : k < 32) : (((x >>> (J k &&& 31)) &&& 1) = 1) = (bt x k = true) := by
  rw [one_bit, bt_shr0 x hk]
  cases bt x k <;> simp
theorem has_z (x : Int32) {k : Nat} (hk : k < 32) : (((x >>> (J k &&& 31)) &&& 1) = 0) = (bt x k = false) := by
  rw [one_bit, bt_shr0 x hk]
  cases bt x k <;> simp
theorem shl_toB (x : Int32) {k : Nat} (hk : k < 32) : (x <<< (J k &&& 31)).toBitVec = x.toBitVec <<< k := by
  rw [sh31 hk]
  have : ∀ k < 32, (((J k).toBitVec.smod 32 : BitVec 32)).toNat = k := by decide +kernel
  show x.toBitVec <<< ((J k).toBitVec.smod 32) = _
  rw [BitVec.shiftLeft_eq', this k hk]
theorem bt_shl (x : Int32) {k : Nat} (hk : k < 32) {i : Nat} (hi : i < 32) : bt (x <<< (J k &&& 31)) i = (decide (k ≤ i) && bt x (i - k)) := by
  unfold bt
  rw [shl_toB x hk, BitVec.getLsbD_shiftLeft]
  by_cases h : i < k
  · simp [h, hi, Nat.not_le.mpr h]
  · simp [h, hi, Nat.not_lt.mp h]
theorem bt_one {i : Nat} (hi : i < 32) : bt 1 i = decide (i = 0) := by
  have h1 : ∀ i < 32, bt 1 i = decide (i = 0) := by decide +kernel
  exact h1 i hi
theorem bt_set {k : Nat} (hk : k < 32) {i : Nat} (hi : i < 32) : bt (1 <<< (J k &&& 31)) i = decide (i = k) := by
  rw [bt_shl 1 hk hi]
  by_cases h : k ≤ i
  · rw [bt_one (by omega)]
    by_cases h2 : i = k
    · simp [h2]
    · have : ¬ (i - k = 0) := by omega
      simp [h, h2, this]
  · have : ¬ i = k := by omega
    simp [h, this]
theorem bt_not (x : Int32) {i : Nat} (hi : i < 32) : bt (x ^^^ (-1)) i = !bt x i := by
  show (x.toBitVec ^^^ (-1 : Int32).toBitVec).getLsbD i = _
  rw [BitVec.getLsbD_xor]
  have : ∀ i < 32, (-1 : Int32).toBitVec.getLsbD i = true := by decide +kernel
  rw [this i hi]
  simp [bt]
theorem sub_z (x y : Int32) : ((x &&& (y ^^^ (-1))) = 0) = (∀ k, k < 32 → bt x k = true → bt y k = true) := by
  refine propext ⟨fun h k hk hx => ?_, fun h => bt_ext fun k hk => ?_⟩
  · have h1 : bt (x &&& (y ^^^ (-1))) k = bt 0 k := by rw [h]
    rw [bt_and, bt_not y hk, bt0, hx] at h1
    simpa using h1
  · rw [bt_and, bt_not y hk, bt0]
    cases hx : bt x k
    · rfl
    · rw [h k hk hx]
      rfl
theorem bndX_d (r : Int32) (σ : St) (f : Int32 → St → Option (Int32 × Int32 × St)) : bndX (some (J 0, r, σ)) f = f r σ := rfl
theorem bndX_e {x : Int32} (hx : ¬ x = 0) (r : Int32) (σ : St) (f : Int32 → St → Option (Int32 × Int32 × St)) : bndX (some (x, r, σ)) f = some (x, 0, σ) := by
  unfold bndX
  simp [hx]
theorem isZ0 : isZ (J 0) = true := rfl
theorem isZ1 : isZ (J 1) = true := rfl
theorem nar_c {c : Nat} (h : c < 65536) : vp_nar .char (J c) = J c := by
  have h1 : narrow .char (.int (J c)) = .int (J c) := isC_n (decide_eq_true (by
    refine bt_ext fun k hk => ?_
    show ((((J c).toBitVec.setWidth 16).setWidth 32 : BitVec 32)).getLsbD k = (J c).toBitVec.getLsbD k
    rw [BitVec.getLsbD_setWidth, BitVec.getLsbD_setWidth]
    by_cases h2 : k < 16
    · simp [h2, hk]
    · have : (J c).toBitVec.getLsbD k = false := by
        have := J_bits (n := c) k hk
        unfold bt at this
        rw [this]
        have h16 : 2 ^ 16 ≤ 2 ^ k := Nat.pow_le_pow_right (by decide) (by omega)
        exact Nat.testBit_lt_two_pow (Nat.lt_of_lt_of_le (show c < 2 ^ 16 from h) h16)
      simp [h2, this]))
  unfold vp_nar
  rw [h1]
theorem i2c {c : Nat} (h : c < 65536) : ((J c).toUInt32 % 65536).toInt32 = J c := by
  have h1 : ((J c).toUInt32 % 65536) = (J c).toUInt32 := by
    apply UInt32.toNat_inj.mp
    rw [UInt32.toNat_mod]
    have : (J c).toUInt32.toNat = c := by
      show (BitVec.ofNat 32 c).toNat = c
      rw [BitVec.toNat_ofNat]
      omega
    rw [this]
    show c % 65536 = c
    omega
  rw [h1]
  rfl
theorem J_isC {c : Nat} (h : c < 65536) : isC (J c) = true := by
  unfold isC
  refine decide_eq_true ?_
  have h1 := nar_c h
  unfold vp_nar at h1
  exact h1
theorem J_and31 {k : Nat} (hk : k < 32) : (J k &&& J 31) = J k := sh31 hk
theorem shrJ_toB (x : Int32) {k : Nat} (hk : k < 32) : (x >>> J k).toBitVec = x.toBitVec.sshiftRight k := by
  have := shr_toB x hk
  rw [sh31 hk] at this
  exact this
theorem shlJ_toB (x : Int32) {k : Nat} (hk : k < 32) : (x <<< J k).toBitVec = x.toBitVec <<< k := by
  have := shl_toB x hk
  rw [sh31 hk] at this
  exact this
theorem shrJ0 (x : Int32) : x >>> J 0 = x := Int32.toBitVec.inj (by rw [shrJ_toB x (by omega)]; simp)
theorem shlJ0 (x : Int32) : x <<< J 0 = x := Int32.toBitVec.inj (by rw [shlJ_toB x (by omega)]; simp)
theorem has_J1 (x : Int32) {k : Nat} (hk : k < 32) : ((x >>> J k) &&& J 1 = J 1) = (bt x k = true) := by
  have := has_eq x hk
  rw [sh31 hk] at this
  exact this
theorem has_J0 (x : Int32) {k : Nat} (hk : k < 32) : ((x >>> J k) &&& J 1 = J 0) = (bt x k = false) := by
  have := has_z x hk
  rw [sh31 hk] at this
  exact this
theorem bt_shlJ (x : Int32) {k : Nat} (hk : k < 32) {i : Nat} (hi : i < 32) : bt (x <<< J k) i = (decide (k ≤ i) && bt x (i - k)) := by
  have := bt_shl x hk hi
  rw [sh31 hk] at this
  exact this
theorem bt_setJ {k : Nat} (hk : k < 32) {i : Nat} (hi : i < 32) : bt (J 1 <<< J k) i = decide (i = k) := by
  have := bt_set hk hi
  rw [sh31 hk] at this
  exact this
theorem pow_J {k : Nat} (hk : k < 31) : J 1 <<< J k = J (2 ^ k) := by
  have : ∀ k < 31, J 1 <<< J k = J (2 ^ k) := by decide +kernel
  exact this k hk
theorem gI_sA (σ : St) (k : Nat) (f : Nat → Int32) (q : Nat) : gI (sA σ k f) q = if q = k then f else gI σ q := rfl
theorem gL_sA (σ : St) (k : Nat) (f : Nat → Int32) (q : Nat) : gL (sA σ k f) q = gL σ q := rfl
theorem Fr.a {S : List Nat} {σ : St} {k : Nat} {f : Nat → Int32} (h : k ∈ S) : Fr S σ (sA σ k f) := fun q hq => ⟨by
  show (if q = k then _ else _) = _
  rw [if_neg (fun (e : q = k) => hq (by rw [e]; exact h))], rfl⟩
