/-! the reference's conditions -/
section RC
variable {N k : Nat} {im : Nat → Nat → Nat}
def TR (σ : St) (r s : Nat) : Bool := bl (gL σ 35 (8 * r + s / 64)) (s % 64)
theorem ref_marked {σ : St} {r s : Nat} (hr : r ≤ 40) (hs : s < 512) : fX9_marked N σ (J r) (J s) = some (zb (TR σ r s), σ) := by
  unfold fX9_marked TR
  have h1 := one_bl (gL σ 35 (8 * r + s / 64)) (show s % 64 < 64 by omega)
  cases hb : bl (gL σ 35 (8 * r + s / 64)) (s % 64)
  · have h2 : ¬ ((gL σ 35 (8 * r + s / 64) >>> ((J (s % 64)).toInt64 &&& 63)) &&& 1 = 1) := fun h => by
      rw [h1, hb] at h
      cases h
    simp (decide := true) (disch := omega) only [letS_d, grd_t, bnd_d, bnd1_d, bndX_d, bndX_e, gI_sI, gI_sL, gL_sL, gL_sI, upd_at, updL_at, J_lit, J_add, J_mul, J_sub, J_lt, J_le, J_inj, J_ne, ne_J, m_lt, lt_m, m_le, le_m, J_cl, J_inB, if_true, if_false, ite_true, ite_false, reduceIte, isZ0, isZ1, J_and31, shrJ0, shlJ0, gI_sA, gL_sA, Nat.reduceEqDiff, Nat.reduceAdd, Nat.reduceMul, Nat.reduceLT, Nat.reduceLeDiff, J_shr6 hs, J_and63 hs, lgc_eq, h2, zb_f]
  · have h2 := h1.mpr hb
    simp (decide := true) (disch := omega) only [letS_d, grd_t, bnd_d, bnd1_d, bndX_d, bndX_e, gI_sI, gI_sL, gL_sL, gL_sI, upd_at, updL_at, J_lit, J_add, J_mul, J_sub, J_lt, J_le, J_inj, J_ne, ne_J, m_lt, lt_m, m_le, le_m, J_cl, J_inB, if_true, if_false, ite_true, ite_false, reduceIte, isZ0, isZ1, J_and31, shrJ0, shlJ0, gI_sA, gL_sA, Nat.reduceEqDiff, Nat.reduceAdd, Nat.reduceMul, Nat.reduceLT, Nat.reduceLeDiff, J_shr6 hs, J_and63 hs, lgc_eq, h2, zb_t]
theorem ref_clear {n0 : Nat} (hn : n0 ≤ 40) (x1 x2 : Int32) : ∀ f i n (σ : St), i + f = 8 → f < n → ∃ σ', fX9_after_8 N n σ x1 x2 (J n0) (J i) = fX9_after_37 N N σ' x1 x2 (J n0) (J 0) ∧ Fr [35] σ σ' ∧ (∀ m, m < 8 * n0 + i → gL σ' 35 m = gL σ 35 m) ∧ ∀ w, i ≤ w → w < 8 → gL σ' 35 (8 * n0 + w) = 0 := by
  intro f
  induction f with
  | zero =>
    intro i n σ hi hn
    obtain ⟨n, rfl⟩ : ∃ k, n = k + 1 := ⟨n - 1, by omega⟩
    obtain rfl : i = 8 := by omega
    refine ⟨σ, ?_, Fr.rf, fun _ _ => rfl, fun w h1 h2 => by omega⟩
    unfold fX9_after_8
    simp (decide := true) (disch := omega) only [letS_d, grd_t, bnd_d, bnd1_d, bndX_d, bndX_e, gI_sI, gI_sL, gL_sL, gL_sI, upd_at, updL_at, J_lit, J_add, J_mul, J_sub, J_lt, J_le, J_inj, J_ne, ne_J, m_lt, lt_m, m_le, le_m, J_cl, J_inB, if_true, if_false, ite_true, ite_false, reduceIte, isZ0, isZ1, J_and31, shrJ0, shlJ0, gI_sA, gL_sA, Nat.reduceEqDiff, Nat.reduceAdd, Nat.reduceMul, Nat.reduceLT, Nat.reduceLeDiff, Nat.le_refl]
  | succ f ih =>
    intro i n σ hi hn
    obtain ⟨n, rfl⟩ : ∃ k, n = k + 1 := ⟨n - 1, by omega⟩
    have h1 : ¬ 8 ≤ i := by omega
    obtain ⟨σ', e1, e2, e3, e4⟩ := ih (i + 1) n (sL σ 35 (8 * n0 + i) 0) (by omega) (by omega)
    refine ⟨σ', ?_, (Fr.l (by decide)).tr e2, fun m hm => ?_, fun w w1 w2 => ?_⟩
    · rw [show fX9_after_8 N (n + 1) σ x1 x2 (J n0) (J i) = _ from by unfold fX9_after_8; rfl]
      simp (decide := true) (disch := omega) only [letS_d, grd_t, bnd_d, bnd1_d, bndX_d, bndX_e, gI_sI, gI_sL, gL_sL, gL_sI, upd_at, updL_at, J_lit, J_add, J_mul, J_sub, J_lt, J_le, J_inj, J_ne, ne_J, m_lt, lt_m, m_le, le_m, J_cl, J_inB, if_true, if_false, ite_true, ite_false, reduceIte, isZ0, isZ1, J_and31, shrJ0, shlJ0, gI_sA, gL_sA, Nat.reduceEqDiff, Nat.reduceAdd, Nat.reduceMul, Nat.reduceLT, Nat.reduceLeDiff, h1]
      exact e1
    · rw [e3 m (by omega)]
      have : ¬ m = 8 * n0 + i := by omega
      simp (decide := true) (disch := omega) only [letS_d, grd_t, bnd_d, bnd1_d, bndX_d, bndX_e, gI_sI, gI_sL, gL_sL, gL_sI, upd_at, updL_at, J_lit, J_add, J_mul, J_sub, J_lt, J_le, J_inj, J_ne, ne_J, m_lt, lt_m, m_le, le_m, J_cl, J_inB, if_true, if_false, ite_true, ite_false, reduceIte, isZ0, isZ1, J_and31, shrJ0, shlJ0, gI_sA, gL_sA, Nat.reduceEqDiff, Nat.reduceAdd, Nat.reduceMul, Nat.reduceLT, Nat.reduceLeDiff, this]
    · by_cases hwi : w = i
      · subst hwi
        rw [e3 _ (by omega)]
        simp (decide := true) (disch := omega) only [letS_d, grd_t, bnd_d, bnd1_d, bndX_d, bndX_e, gI_sI, gI_sL, gL_sL, gL_sI, upd_at, updL_at, J_lit, J_add, J_mul, J_sub, J_lt, J_le, J_inj, J_ne, ne_J, m_lt, lt_m, m_le, le_m, J_cl, J_inB, if_true, if_false, ite_true, ite_false, reduceIte, isZ0, isZ1, J_and31, shrJ0, shlJ0, gI_sA, gL_sA, Nat.reduceEqDiff, Nat.reduceAdd, Nat.reduceMul, Nat.reduceLT, Nat.reduceLeDiff]
      · exact e4 w (by omega) w2
/-- the image of each set, as the reference holds it -/
def Img (k : Nat) (im : Nat → Nat → Nat) (σ : St) : Prop := gI σ 17 0 = J k ∧ ∀ l s, l < 8 → s < 2 ^ k → gI σ 31 (512 * l + s) = J (im l s) ∧ im l s < 2 ^ k
theorem Img.fr {σ σ' : St} {S : List Nat} (h : Img k im σ) (f : Fr S σ σ') (d : ∀ k ∈ [17, 31], k ∉ S) : Img k im σ' := by
  unfold Img
  rw [f.gi (d 17 (by decide)), f.gi (d 31 (by decide))]
  exact h
theorem TR_set {σ : St} {n0 s x : Nat} (hs : s < 512) (hx : x < 512) : TR (sL σ 35 (8 * n0 + s / 64) (gL σ 35 (8 * n0 + s / 64) ||| ((1 : Int64) <<< ((J (s % 64)).toInt64 &&& 63)))) n0 x = (TR σ n0 x || decide (x = s)) := by
  unfold TR
  by_cases h : x / 64 = s / 64
  · rw [h]
    have e : gL (sL σ 35 (8 * n0 + s / 64) (gL σ 35 (8 * n0 + s / 64) ||| ((1 : Int64) <<< ((J (s % 64)).toInt64 &&& 63)))) 35 (8 * n0 + s / 64) = (gL σ 35 (8 * n0 + s / 64) ||| ((1 : Int64) <<< ((J (s % 64)).toInt64 &&& 63))) := by simp (decide := true) (disch := omega) only [letS_d, grd_t, bnd_d, bnd1_d, bndX_d, bndX_e, gI_sI, gI_sL, gL_sL, gL_sI, upd_at, updL_at, J_lit, J_add, J_mul, J_sub, J_lt, J_le, J_inj, J_ne, ne_J, m_lt, lt_m, m_le, le_m, J_cl, J_inB, if_true, if_false, ite_true, ite_false, reduceIte, isZ0, isZ1, J_and31, shrJ0, shlJ0, gI_sA, gL_sA, Nat.reduceEqDiff, Nat.reduceAdd, Nat.reduceMul, Nat.reduceLT, Nat.reduceLeDiff]
    rw [e, bl_or, bl_shl 1 (by omega) (by omega)]
    congr 1
    by_cases hle : s % 64 ≤ x % 64
    · rw [bl_one (by omega), decide_eq_true hle, Bool.true_and, decide_eq_decide]
      omega
    · rw [decide_eq_false hle, Bool.false_and]
      symm
      rw [decide_eq_false_iff_not]
      omega
  · have hne : ¬ 8 * n0 + x / 64 = 8 * n0 + s / 64 := by omega
    have e : gL (sL σ 35 (8 * n0 + s / 64) (gL σ 35 (8 * n0 + s / 64) ||| ((1 : Int64) <<< ((J (s % 64)).toInt64 &&& 63)))) 35 (8 * n0 + x / 64) = gL σ 35 (8 * n0 + x / 64) := by simp (decide := true) (disch := omega) only [letS_d, grd_t, bnd_d, bnd1_d, bndX_d, bndX_e, gI_sI, gI_sL, gL_sL, gL_sI, upd_at, updL_at, J_lit, J_add, J_mul, J_sub, J_lt, J_le, J_inj, J_ne, ne_J, m_lt, lt_m, m_le, le_m, J_cl, J_inB, if_true, if_false, ite_true, ite_false, reduceIte, isZ0, isZ1, J_and31, shrJ0, shlJ0, gI_sA, gL_sA, Nat.reduceEqDiff, Nat.reduceAdd, Nat.reduceMul, Nat.reduceLT, Nat.reduceLeDiff, hne]
    rw [e]
    have : ¬ x = s := fun h9 => h (by rw [h9])
    rw [decide_eq_false this, Bool.or_false]
theorem ref_fill {n0 r l : Nat} (hk : k ≤ 9) (hn : n0 ≤ 40) (hr : r < n0) (hl : l < 8) : ∀ f s n (σ : St), s + f = 2 ^ k → f < n → Img k im σ → ∃ σ', fX9_after_37 N n σ (J r) (J l) (J n0) (J s) = (bnd (fX9_known N σ' (J n0)) fun r8 σ7 => some (r8, σ7)) ∧ Fr [35] σ σ' ∧ (∀ m, m < 8 * n0 → gL σ' 35 m = gL σ 35 m) ∧ ∀ x, x < 512 → TR σ' n0 x = (TR σ n0 x || (decide (s ≤ x) && decide (x < 2 ^ k) && TR σ r (im l x))) := by
  have hk9 : 2 ^ k ≤ 512 := Nat.le_trans (Nat.pow_le_pow_right (n := 2) (by omega) hk) (by decide)
  have hpw : J 1 <<< J k = J (2 ^ k) := pow_J (by omega)
  intro f
  induction f with
  | zero =>
    intro s n σ hs hn hI
    obtain ⟨n, rfl⟩ : ∃ k, n = k + 1 := ⟨n - 1, by omega⟩
    obtain rfl : s = 2 ^ k := by omega
    refine ⟨σ, ?_, Fr.rf, fun _ _ => rfl, fun x hx => ?_⟩
    · unfold fX9_after_37
      simp (decide := true) (disch := omega) only [letS_d, grd_t, bnd_d, bnd1_d, bndX_d, bndX_e, gI_sI, gI_sL, gL_sL, gL_sI, upd_at, updL_at, J_lit, J_add, J_mul, J_sub, J_lt, J_le, J_inj, J_ne, ne_J, m_lt, lt_m, m_le, le_m, J_cl, J_inB, if_true, if_false, ite_true, ite_false, reduceIte, isZ0, isZ1, J_and31, shrJ0, shlJ0, gI_sA, gL_sA, Nat.reduceEqDiff, Nat.reduceAdd, Nat.reduceMul, Nat.reduceLT, Nat.reduceLeDiff, hI.1, hpw, Nat.le_refl]
    · by_cases h : 2 ^ k ≤ x
      · have : ¬ x < 2 ^ k := by omega
        rw [decide_eq_false this, Bool.and_false, Bool.false_and, Bool.or_false]
      · rw [decide_eq_false h, Bool.false_and, Bool.false_and, Bool.or_false]
  | succ f ih =>
    intro s n σ hs hn hI
    obtain ⟨n, rfl⟩ : ∃ k, n = k + 1 := ⟨n - 1, by omega⟩
    have h1 : ¬ 2 ^ k ≤ s := by omega
    obtain ⟨i1, i2⟩ := hI.2 l s hl (by omega)
    have hmk := ref_marked (N := N) (σ := σ) (r := r) (s := im l s) (by omega) (by omega)
    rw [show fX9_after_37 N (n + 1) σ (J r) (J l) (J n0) (J s) = _ from by unfold fX9_after_37; rfl]
    cases hb : TR σ r (im l s)
    · rw [hb, zb_f] at hmk
      obtain ⟨σ', e1, e2, e3, e4⟩ := ih (s + 1) n σ (by omega) (by omega) hI
      refine ⟨σ', ?_, e2, e3, fun x hx => ?_⟩
      · simp (decide := true) (disch := omega) only [letS_d, grd_t, bnd_d, bnd1_d, bndX_d, bndX_e, gI_sI, gI_sL, gL_sL, gL_sI, upd_at, updL_at, J_lit, J_add, J_mul, J_sub, J_lt, J_le, J_inj, J_ne, ne_J, m_lt, lt_m, m_le, le_m, J_cl, J_inB, if_true, if_false, ite_true, ite_false, reduceIte, isZ0, isZ1, J_and31, shrJ0, shlJ0, gI_sA, gL_sA, Nat.reduceEqDiff, Nat.reduceAdd, Nat.reduceMul, Nat.reduceLT, Nat.reduceLeDiff, hI.1, hpw, h1, i1, hmk, fX9_after_94]
        exact e1
      · rw [e4 x hx]
        by_cases hxs : x = s
        · subst hxs
          rw [hb, Bool.and_false, Bool.and_false]
        · rw [show decide (s + 1 ≤ x) = decide (s ≤ x) from decide_eq_decide.mpr (by omega)]
    · rw [hb, zb_t] at hmk
      obtain ⟨σ', e1, e2, e3, e4⟩ := ih (s + 1) n (sL σ 35 (8 * n0 + s / 64) (gL σ 35 (8 * n0 + s / 64) ||| ((1 : Int64) <<< ((J (s % 64)).toInt64 &&& 63)))) (by omega) (by omega) (hI.fr (S := [35]) (Fr.l (by decide)) (by decide))
      refine ⟨σ', ?_, (Fr.l (by decide)).tr e2, fun m hm => ?_, fun x hx => ?_⟩
      · simp (decide := true) (disch := omega) only [letS_d, grd_t, bnd_d, bnd1_d, bndX_d, bndX_e, gI_sI, gI_sL, gL_sL, gL_sI, upd_at, updL_at, J_lit, J_add, J_mul, J_sub, J_lt, J_le, J_inj, J_ne, ne_J, m_lt, lt_m, m_le, le_m, J_cl, J_inB, if_true, if_false, ite_true, ite_false, reduceIte, isZ0, isZ1, J_and31, shrJ0, shlJ0, gI_sA, gL_sA, Nat.reduceEqDiff, Nat.reduceAdd, Nat.reduceMul, Nat.reduceLT, Nat.reduceLeDiff, hI.1, hpw, h1, i1, hmk, J_shr6 (show s < 512 by omega), J_and63 (show s < 512 by omega), fX9_after_94]
        exact e1
      · rw [e3 m hm]
        have : ¬ m = 8 * n0 + s / 64 := by omega
        simp (decide := true) (disch := omega) only [letS_d, grd_t, bnd_d, bnd1_d, bndX_d, bndX_e, gI_sI, gI_sL, gL_sL, gL_sI, upd_at, updL_at, J_lit, J_add, J_mul, J_sub, J_lt, J_le, J_inj, J_ne, ne_J, m_lt, lt_m, m_le, le_m, J_cl, J_inB, if_true, if_false, ite_true, ite_false, reduceIte, isZ0, isZ1, J_and31, shrJ0, shlJ0, gI_sA, gL_sA, Nat.reduceEqDiff, Nat.reduceAdd, Nat.reduceMul, Nat.reduceLT, Nat.reduceLeDiff, this]
      · have hr' : ∀ y, y < 512 → TR (sL σ 35 (8 * n0 + s / 64) (gL σ 35 (8 * n0 + s / 64) ||| ((1 : Int64) <<< ((J (s % 64)).toInt64 &&& 63)))) r y = TR σ r y := fun y hy => by
          unfold TR
          have : ¬ 8 * r + y / 64 = 8 * n0 + s / 64 := by omega
          simp (decide := true) (disch := omega) only [letS_d, grd_t, bnd_d, bnd1_d, bndX_d, bndX_e, gI_sI, gI_sL, gL_sL, gL_sI, upd_at, updL_at, J_lit, J_add, J_mul, J_sub, J_lt, J_le, J_inj, J_ne, ne_J, m_lt, lt_m, m_le, le_m, J_cl, J_inB, if_true, if_false, ite_true, ite_false, reduceIte, isZ0, isZ1, J_and31, shrJ0, shlJ0, gI_sA, gL_sA, Nat.reduceEqDiff, Nat.reduceAdd, Nat.reduceMul, Nat.reduceLT, Nat.reduceLeDiff, this]
        rw [e4 x hx, TR_set (by omega) hx]
        by_cases hxs : x = s
        · subst hxs
          rw [hb, decide_eq_true rfl, decide_eq_true (Nat.le_refl x), decide_eq_true (show x < 2 ^ k by omega), Bool.or_true, Bool.true_or]
          simp
        · rw [decide_eq_false hxs, Bool.or_false, show decide (s + 1 ≤ x) = decide (s ≤ x) from decide_eq_decide.mpr (by omega)]
          by_cases hxk : x < 2 ^ k
          · rw [hr' _ (by have := (hI.2 l x hl hxk).2; omega)]
          · rw [decide_eq_false hxk, Bool.and_false, Bool.false_and, Bool.false_and]
def sameR (σ : St) (a b : Nat) : Bool := (List.range 8).all (fun w => decide (gL σ 35 (8 * a + w) = gL σ 35 (8 * b + w)))
theorem sameR_iff {σ : St} {a b : Nat} : sameR σ a b = true ↔ ∀ s, s < 512 → TR σ a s = TR σ b s := by
  unfold sameR
  rw [List.all_eq_true]
  constructor
  · intro h s hs
    have := of_decide_eq_true (h (s / 64) (List.mem_range.mpr (by omega)))
    unfold TR
    rw [this]
  · intro h w hw
    rw [List.mem_range] at hw
    refine decide_eq_true (bl_ext fun j hj => ?_)
    have := h (64 * w + j) (by omega)
    unfold TR at this
    rw [show (64 * w + j) / 64 = w from by omega, show (64 * w + j) % 64 = j from by omega] at this
    exact this
theorem ref_eq {σ : St} {a b : Nat} (ha : a ≤ 40) (hb : b ≤ 40) (k4 : St → Int32 → Int32 → Int32 → Option (Int32 × St)) (x2 : Int32) : ∀ f w n (y : Bool), w + f = 8 → f < n → fX9_known_20 N k4 n σ (J b) x2 (J a) (zb y) (J w) = k4 σ (J b) (if (y && (List.range' w f).all (fun w => decide (gL σ 35 (8 * a + w) = gL σ 35 (8 * b + w)))) = true then J a else x2) (J (a + 1)) := by
  intro f
  induction f with
  | zero =>
    intro w n y hw hn
    obtain ⟨n, rfl⟩ : ∃ k, n = k + 1 := ⟨n - 1, by omega⟩
    obtain rfl : w = 8 := by omega
    unfold fX9_known_20
    cases y
    · simp (decide := true) (disch := omega) only [letS_d, grd_t, bnd_d, bnd1_d, bndX_d, bndX_e, gI_sI, gI_sL, gL_sL, gL_sI, upd_at, updL_at, J_lit, J_add, J_mul, J_sub, J_lt, J_le, J_inj, J_ne, ne_J, m_lt, lt_m, m_le, le_m, J_cl, J_inB, if_true, if_false, ite_true, ite_false, reduceIte, isZ0, isZ1, J_and31, shrJ0, shlJ0, gI_sA, gL_sA, Nat.reduceEqDiff, Nat.reduceAdd, Nat.reduceMul, Nat.reduceLT, Nat.reduceLeDiff, Nat.le_refl, zb_f, fX9_known_83, Bool.false_and, Bool.false_eq_true]
    · simp (decide := true) (disch := omega) only [letS_d, grd_t, bnd_d, bnd1_d, bndX_d, bndX_e, gI_sI, gI_sL, gL_sL, gL_sI, upd_at, updL_at, J_lit, J_add, J_mul, J_sub, J_lt, J_le, J_inj, J_ne, ne_J, m_lt, lt_m, m_le, le_m, J_cl, J_inB, if_true, if_false, ite_true, ite_false, reduceIte, isZ0, isZ1, J_and31, shrJ0, shlJ0, gI_sA, gL_sA, Nat.reduceEqDiff, Nat.reduceAdd, Nat.reduceMul, Nat.reduceLT, Nat.reduceLeDiff, Nat.le_refl, zb_t, fX9_known_83, Bool.true_and, List.range'_zero, List.all_nil]
  | succ f ih =>
    intro w n y hw hn
    obtain ⟨n, rfl⟩ : ∃ k, n = k + 1 := ⟨n - 1, by omega⟩
    have h8 : ¬ 8 ≤ w := by omega
    rw [show fX9_known_20 N k4 (n + 1) σ (J b) x2 (J a) (zb y) (J w) = _ from by unfold fX9_known_20; rfl]
    rw [List.range'_succ, List.all_cons]
    cases y
    · have := ih (w + 1) n false (by omega) (by omega)
      rw [Bool.false_and, zb_f] at this
      simp (decide := true) (disch := omega) only [letS_d, grd_t, bnd_d, bnd1_d, bndX_d, bndX_e, gI_sI, gI_sL, gL_sL, gL_sI, upd_at, updL_at, J_lit, J_add, J_mul, J_sub, J_lt, J_le, J_inj, J_ne, ne_J, m_lt, lt_m, m_le, le_m, J_cl, J_inB, if_true, if_false, ite_true, ite_false, reduceIte, isZ0, isZ1, J_and31, shrJ0, shlJ0, gI_sA, gL_sA, Nat.reduceEqDiff, Nat.reduceAdd, Nat.reduceMul, Nat.reduceLT, Nat.reduceLeDiff, h8, zb_f, fX9_known_64, fX9_known_65, Bool.false_and]
      exact this
    · by_cases hz : gL σ 35 (8 * a + w) = gL σ 35 (8 * b + w)
      · have := ih (w + 1) n true (by omega) (by omega)
        rw [Bool.true_and, zb_t] at this
        rw [decide_eq_true hz]
        simp (decide := true) (disch := omega) only [letS_d, grd_t, bnd_d, bnd1_d, bndX_d, bndX_e, gI_sI, gI_sL, gL_sL, gL_sI, upd_at, updL_at, J_lit, J_add, J_mul, J_sub, J_lt, J_le, J_inj, J_ne, ne_J, m_lt, lt_m, m_le, le_m, J_cl, J_inB, if_true, if_false, ite_true, ite_false, reduceIte, isZ0, isZ1, J_and31, shrJ0, shlJ0, gI_sA, gL_sA, Nat.reduceEqDiff, Nat.reduceAdd, Nat.reduceMul, Nat.reduceLT, Nat.reduceLeDiff, h8, zb_t, lgc_eq, hz, fX9_known_65, Bool.true_and]
        exact this
      · have := ih (w + 1) n false (by omega) (by omega)
        rw [Bool.false_and, zb_f] at this
        rw [decide_eq_false hz]
        simp (decide := true) (disch := omega) only [letS_d, grd_t, bnd_d, bnd1_d, bndX_d, bndX_e, gI_sI, gI_sL, gL_sL, gL_sI, upd_at, updL_at, J_lit, J_add, J_mul, J_sub, J_lt, J_le, J_inj, J_ne, ne_J, m_lt, lt_m, m_le, le_m, J_cl, J_inB, if_true, if_false, ite_true, ite_false, reduceIte, isZ0, isZ1, J_and31, shrJ0, shlJ0, gI_sA, gL_sA, Nat.reduceEqDiff, Nat.reduceAdd, Nat.reduceMul, Nat.reduceLT, Nat.reduceLeDiff, h8, zb_t, lgc_eq, hz, fX9_known_64, fX9_known_65, Bool.false_and, Bool.and_false]
        exact this
theorem ref_known4 (hN : 100 ≤ N) {σ : St} {c : Nat} (hc : c ≤ 40) : ∀ f i n, i + f = c → f + 1 < n → fX9_known_4 N n σ (J c) (J c) (J i) = fX9_known_90 N σ (J c) (J (fst1 (fun a => sameR σ a c) f i)) := by
  intro f
  induction f with
  | zero =>
    intro i n hi hn
    obtain ⟨n, rfl⟩ : ∃ k, n = k + 1 := ⟨n - 1, by omega⟩
    obtain rfl : i = c := by omega
    unfold fX9_known_4 fst1
    simp (decide := true) (disch := omega) only [letS_d, grd_t, bnd_d, bnd1_d, bndX_d, bndX_e, gI_sI, gI_sL, gL_sL, gL_sI, upd_at, updL_at, J_lit, J_add, J_mul, J_sub, J_lt, J_le, J_inj, J_ne, ne_J, m_lt, lt_m, m_le, le_m, J_cl, J_inB, if_true, if_false, ite_true, ite_false, reduceIte, isZ0, isZ1, J_and31, shrJ0, shlJ0, gI_sA, gL_sA, Nat.reduceEqDiff, Nat.reduceAdd, Nat.reduceMul, Nat.reduceLT, Nat.reduceLeDiff, Nat.le_refl]
  | succ f ih =>
    intro i n hi hn
    obtain ⟨n, rfl⟩ : ∃ k, n = k + 1 := ⟨n - 1, by omega⟩
    have h1 : ¬ c ≤ i := by omega
    have hs := ref_eq (N := N) (σ := σ) (a := i) (b := c) (by omega) hc (fX9_known_4 N n) (J c) 8 0 N true (by omega) (by omega)
    rw [Bool.true_and, zb_t, ← List.range_eq_range'] at hs
    have hd : (List.range 8).all (fun w => decide (gL σ 35 (8 * i + w) = gL σ 35 (8 * c + w))) = sameR σ i c := rfl
    rw [hd] at hs
    rw [show fX9_known_4 N (n + 1) σ (J c) (J c) (J i) = _ from by unfold fX9_known_4; rfl]
    unfold fst1
    cases hx : sameR σ i c
    · rw [hx, if_neg (by decide)] at hs
      have := ih (i + 1) n (by omega) (by omega)
      simp (decide := true) (disch := omega) only [letS_d, grd_t, bnd_d, bnd1_d, bndX_d, bndX_e, gI_sI, gI_sL, gL_sL, gL_sI, upd_at, updL_at, J_lit, J_add, J_mul, J_sub, J_lt, J_le, J_inj, J_ne, ne_J, m_lt, lt_m, m_le, le_m, J_cl, J_inB, if_true, if_false, ite_true, ite_false, reduceIte, isZ0, isZ1, J_and31, shrJ0, shlJ0, gI_sA, gL_sA, Nat.reduceEqDiff, Nat.reduceAdd, Nat.reduceMul, Nat.reduceLT, Nat.reduceLeDiff, h1, Bool.false_eq_true]
      exact hs.trans this
    · rw [hx, if_pos rfl] at hs
      simp (decide := true) (disch := omega) only [letS_d, grd_t, bnd_d, bnd1_d, bndX_d, bndX_e, gI_sI, gI_sL, gL_sL, gL_sI, upd_at, updL_at, J_lit, J_add, J_mul, J_sub, J_lt, J_le, J_inj, J_ne, ne_J, m_lt, lt_m, m_le, le_m, J_cl, J_inB, if_true, if_false, ite_true, ite_false, reduceIte, isZ0, isZ1, J_and31, shrJ0, shlJ0, gI_sA, gL_sA, Nat.reduceEqDiff, Nat.reduceAdd, Nat.reduceMul, Nat.reduceLT, Nat.reduceLeDiff, h1]
      rw [hs]
      obtain ⟨n, rfl⟩ : ∃ k, n = k + 1 := ⟨n - 1, by omega⟩
      unfold fX9_known_4
      have hne : ¬ i = c := by omega
      by_cases h9 : c ≤ i + 1
      · simp (decide := true) (disch := omega) only [letS_d, grd_t, bnd_d, bnd1_d, bndX_d, bndX_e, gI_sI, gI_sL, gL_sL, gL_sI, upd_at, updL_at, J_lit, J_add, J_mul, J_sub, J_lt, J_le, J_inj, J_ne, ne_J, m_lt, lt_m, m_le, le_m, J_cl, J_inB, if_true, if_false, ite_true, ite_false, reduceIte, isZ0, isZ1, J_and31, shrJ0, shlJ0, gI_sA, gL_sA, Nat.reduceEqDiff, Nat.reduceAdd, Nat.reduceMul, Nat.reduceLT, Nat.reduceLeDiff, h9]
      · simp (decide := true) (disch := omega) only [letS_d, grd_t, bnd_d, bnd1_d, bndX_d, bndX_e, gI_sI, gI_sL, gL_sL, gL_sI, upd_at, updL_at, J_lit, J_add, J_mul, J_sub, J_lt, J_le, J_inj, J_ne, ne_J, m_lt, lt_m, m_le, le_m, J_cl, J_inB, if_true, if_false, ite_true, ite_false, reduceIte, isZ0, isZ1, J_and31, shrJ0, shlJ0, gI_sA, gL_sA, Nat.reduceEqDiff, Nat.reduceAdd, Nat.reduceMul, Nat.reduceLT, Nat.reduceLeDiff, h9, hne]
theorem ref_known (hN : 100 ≤ N) {σ : St} {c : Nat} (hc : c ≤ 40) (h34 : gI σ 34 0 = J c) : fX9_known N σ (J c) = (if fst1 (fun a => sameR σ a c) c 0 = c ∧ c = 40 then some (-J 1, σ) else some (J (fst1 (fun a => sameR σ a c) c 0), sI σ 34 0 (J (c + (if fst1 (fun a => sameR σ a c) c 0 = c then 1 else 0))))) := by
  unfold fX9_known
  rw [show (0 : Int32) = J 0 from rfl, ref_known4 hN hc c 0 N (by omega) (by omega)]
  have hle := (fst1_spec (fun a => sameR σ a c) c 0).2.1
  generalize fst1 (fun a => sameR σ a c) c 0 = f at *
  unfold fX9_known_90 fX9_known_103 fX9_known_118
  by_cases hf : f = c
  · by_cases h40 : c = 40
    · subst hf h40
      simp (decide := true) (disch := omega) only [letS_d, grd_t, bnd_d, bnd1_d, bndX_d, bndX_e, gI_sI, gI_sL, gL_sL, gL_sI, upd_at, updL_at, J_lit, J_add, J_mul, J_sub, J_lt, J_le, J_inj, J_ne, ne_J, m_lt, lt_m, m_le, le_m, J_cl, J_inB, if_true, if_false, ite_true, ite_false, reduceIte, isZ0, isZ1, J_and31, shrJ0, shlJ0, gI_sA, gL_sA, Nat.reduceEqDiff, Nat.reduceAdd, Nat.reduceMul, Nat.reduceLT, Nat.reduceLeDiff, true_and, and_true]
    · subst hf
      simp (decide := true) (disch := omega) only [letS_d, grd_t, bnd_d, bnd1_d, bndX_d, bndX_e, gI_sI, gI_sL, gL_sL, gL_sI, upd_at, updL_at, J_lit, J_add, J_mul, J_sub, J_lt, J_le, J_inj, J_ne, ne_J, m_lt, lt_m, m_le, le_m, J_cl, J_inB, if_true, if_false, ite_true, ite_false, reduceIte, isZ0, isZ1, J_and31, shrJ0, shlJ0, gI_sA, gL_sA, Nat.reduceEqDiff, Nat.reduceAdd, Nat.reduceMul, Nat.reduceLT, Nat.reduceLeDiff, h40, and_false, h34]
  · simp (decide := true) (disch := omega) only [letS_d, grd_t, bnd_d, bnd1_d, bndX_d, bndX_e, gI_sI, gI_sL, gL_sL, gL_sI, upd_at, updL_at, J_lit, J_add, J_mul, J_sub, J_lt, J_le, J_inj, J_ne, ne_J, m_lt, lt_m, m_le, le_m, J_cl, J_inB, if_true, if_false, ite_true, ite_false, reduceIte, isZ0, isZ1, J_and31, shrJ0, shlJ0, gI_sA, gL_sA, Nat.reduceEqDiff, Nat.reduceAdd, Nat.reduceMul, Nat.reduceLT, Nat.reduceLeDiff, hf, false_and, h34, Nat.add_zero]
end RC
