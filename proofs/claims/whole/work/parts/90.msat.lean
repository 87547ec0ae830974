/-! what the reference finds asked -/
def pd : Nat → Int32
  | 0 => -J 1
  | i + 1 => J i
theorem pd_eq (i : Nat) : J i + (-1 : Int32) = pd i := by
  cases i with
  | zero => rfl
  | succ i =>
    show J (i + 1) + (-J 1) = J i
    rw [← Int32.sub_eq_add_neg, J_sub (by omega)]
    rfl
section SAT
variable {N n0 l s : Nat} {F : Nat → ND}
def Sat (N l s c i j : Nat) (σ σ' : St) : Prop := ∀ n, fX9_satisfied_7 N (n + c) σ (J l) (J s) (pd i) = fX9_satisfied_7 N n σ' (J l) (J s) (pd j)
theorem Sat.tr {a b i j k : Nat} {x y z : St} (h : Sat N l s a i j x y) (h2 : Sat N l s b j k y z) : Sat N l s (a + b) i k x z := fun n => by
  rw [show n + (a + b) = n + b + a from by omega, h, h2]
theorem s_step {x : Nat} {b : Bool} {σ σ1 : St} (hx : x < 150) (ha : fX9_asks N σ (J x) (J l) (J s) = some (zb b, σ1)) : Sat N l s 1 (x + 1) x σ (sI σ1 32 x (zb b)) := fun n => by
  show fX9_satisfied_7 N (n + 1) σ (J l) (J s) (J x) = _
  rw [show fX9_satisfied_7 N (n + 1) σ (J l) (J s) (J x) = _ from by unfold fX9_satisfied_7; rfl]
  have h0 : ¬ J x < (0 : Int32) := by
    show ¬ J x < J 0
    rw [J_lt (by omega) (by omega)]
    omega
  rw [if_neg h0, ha, bnd_d, J_inB (show x < 160 by omega) (by omega), grd_t, J_cl (by omega), letS_d, letS_d, nar_zb, pd_eq]
theorem zb_not (b : Bool) : (if zb b = (0 : Int32) then (zb true : Int32) else zb false) = zb (!b) := by
  cases b <;> rfl
theorem zb0 (b : Bool) : (zb b = (0 : Int32)) ↔ b = false := by
  cases b
  · exact ⟨fun _ => rfl, fun _ => rfl⟩
  · exact ⟨fun h => absurd h (by decide), fun h => by cases h⟩
/-- nodes that ask nothing of their own -/
theorem a_other {x v : Nat} {σ : St} (hn : nd σ = F) (hx : x < 150) (hk : nK (F x) = J v) (hv : 10 ≤ v) (hv2 : v ≤ 12) : fX9_asks N σ (J x) (J l) (J s) = some (zb false, σ) := by
  have h5 : gI σ 5 x = J v := by rw [← hk, ← hn]; rfl
  have n1 : ¬ v = 1 := by omega
  have n2 : ¬ v = 2 := by omega
  have n3 : ¬ v = 3 := by omega
  have n4 : ¬ v = 4 := by omega
  have n5 : ¬ v = 5 := by omega
  have n6 : ¬ v = 6 := by omega
  have n7 : ¬ v = 7 := by omega
  have n8 : ¬ v = 8 := by omega
  have n9 : ¬ v = 9 := by omega
  unfold fX9_asks
  simp (decide := true) (disch := omega) only [letS_d, grd_tt, bnd_d, bnd1_d, bndX_d, bndX_e, gI_at, gI_ne, gI_sL, gL_sL, gL_sI, upd_at, updL_at, J_lit, J_add, J_mul, J_sub, J_lt, J_le, J_inj, J_ne, ne_J, m_lt, lt_m, m_le, le_m, J_cl, J_inB, if_true, if_false, ite_true, ite_false, reduceIte, isZ0, isZ1, J_and31, shrJ0, shlJ0, gI_sA, gL_sA, Nat.reduceEqDiff, Nat.reduceAdd, Nat.reduceMul, Nat.reduceLT, Nat.reduceLeDiff, h5, n1, n2, n3, n4, n5, n6, n7, n8, n9]
  rfl
theorem lit_eq {v : Nat} {σ : St} (hv : v < 9) (hl : l < 8) : fX9_literally N σ (J v) (J l) = some (zb (bs (.index v) l), σ) := by
  have h1 : ∀ v < 9, ∀ l < 8, (if (J v : Int32) = (8 : Int32) then (1 : Int32) else if (J v &&& J l : Int32) = 0 then 0 else 1) = zb (bs (.index v) l) := by decide +kernel
  have := h1 v hv l hl
  rw [← this]
  unfold fX9_literally fX9_literally_12
  by_cases c1 : (J v : Int32) = (8 : Int32)
  · rw [if_pos c1, if_pos c1]
    rfl
  · rw [if_neg c1, if_neg c1]
    by_cases c2 : (J v &&& J l : Int32) = 0
    · rw [if_pos c2, if_pos c2]
      rfl
    · rw [if_neg c2, if_neg c2]
      rfl
theorem a_lit {x v : Nat} {σ : St} (hn : nd σ = F) (hx : x < 150) (hk : nK (F x) = J 1) (hL : nL (F x) = J v) (hv : v < 9) (hl : l < 8) : fX9_asks N σ (J x) (J l) (J s) = some (zb (bs (.index v) l), σ) := by
  have h5 : gI σ 5 x = J 1 := by rw [← hk, ← hn]; rfl
  have h9 : gI σ 9 x = J v := by rw [← hL, ← hn]; rfl
  have hz : isZ (zb (bs (.index v) l)) = true := by cases bs (.index v) l <;> rfl
  unfold fX9_asks
  have := lit_eq (N := N) (σ := σ) hv hl
  simp (decide := true) (disch := omega) only [letS_d, grd_tt, bnd_d, bnd1_d, bndX_d, bndX_e, gI_at, gI_ne, gI_sL, gL_sL, gL_sI, upd_at, updL_at, J_lit, J_add, J_mul, J_sub, J_lt, J_le, J_inj, J_ne, ne_J, m_lt, lt_m, m_le, le_m, J_cl, J_inB, if_true, if_false, ite_true, ite_false, reduceIte, isZ0, isZ1, J_and31, shrJ0, shlJ0, gI_sA, gL_sA, Nat.reduceEqDiff, Nat.reduceAdd, Nat.reduceMul, Nat.reduceLT, Nat.reduceLeDiff, h5, h9, this, hz]
theorem a_not {x : Nat} {b : Bool} {σ : St} (hn : nd σ = F) (hx : x + 1 < 150) (hk : nK (F x) = J 2) (hO : nO (F x) = J (x + 1)) (ht : gI σ 32 (x + 1) = zb b) : fX9_asks N σ (J x) (J l) (J s) = some (zb (!b), σ) := by
  have h5 : gI σ 5 x = J 2 := by rw [← hk, ← hn]; rfl
  have h6 : gI σ 6 x = J (x + 1) := by rw [← hO, ← hn]; rfl
  unfold fX9_asks
  cases b
  · rw [zb_f] at ht
    simp (decide := true) (disch := omega) only [letS_d, grd_tt, bnd_d, bnd1_d, bndX_d, bndX_e, gI_at, gI_ne, gI_sL, gL_sL, gL_sI, upd_at, updL_at, J_lit, J_add, J_mul, J_sub, J_lt, J_le, J_inj, J_ne, ne_J, m_lt, lt_m, m_le, le_m, J_cl, J_inB, if_true, if_false, ite_true, ite_false, reduceIte, isZ0, isZ1, J_and31, shrJ0, shlJ0, gI_sA, gL_sA, Nat.reduceEqDiff, Nat.reduceAdd, Nat.reduceMul, Nat.reduceLT, Nat.reduceLeDiff, h5, h6, ht]
    rfl
  · rw [zb_t] at ht
    simp (decide := true) (disch := omega) only [letS_d, grd_tt, bnd_d, bnd1_d, bndX_d, bndX_e, gI_at, gI_ne, gI_sL, gL_sL, gL_sI, upd_at, updL_at, J_lit, J_add, J_mul, J_sub, J_lt, J_le, J_inj, J_ne, ne_J, m_lt, lt_m, m_le, le_m, J_cl, J_inB, if_true, if_false, ite_true, ite_false, reduceIte, isZ0, isZ1, J_and31, shrJ0, shlJ0, gI_sA, gL_sA, Nat.reduceEqDiff, Nat.reduceAdd, Nat.reduceMul, Nat.reduceLT, Nat.reduceLeDiff, h5, h6, ht]
    rfl
theorem a_and {x y : Nat} {a b : Bool} {σ : St} (hn : nd σ = F) (hx : x + 1 < 150) (hy : y < 150) (hk : nK (F x) = J 3) (hO : nO (F x) = J (x + 1)) (hT : nT (F x) = J y) (h1 : gI σ 32 (x + 1) = zb a) (h2 : gI σ 32 y = zb b) : fX9_asks N σ (J x) (J l) (J s) = some (zb (a && b), σ) := by
  have h5 : gI σ 5 x = J 3 := by rw [← hk, ← hn]; rfl
  have h6 : gI σ 6 x = J (x + 1) := by rw [← hO, ← hn]; rfl
  have h7 : gI σ 7 x = J y := by rw [← hT, ← hn]; rfl
  unfold fX9_asks
  cases a
  · rw [zb_f] at h1
    simp (decide := true) (disch := omega) only [letS_d, grd_tt, bnd_d, bnd1_d, bndX_d, bndX_e, gI_at, gI_ne, gI_sL, gL_sL, gL_sI, upd_at, updL_at, J_lit, J_add, J_mul, J_sub, J_lt, J_le, J_inj, J_ne, ne_J, m_lt, lt_m, m_le, le_m, J_cl, J_inB, if_true, if_false, ite_true, ite_false, reduceIte, isZ0, isZ1, J_and31, shrJ0, shlJ0, gI_sA, gL_sA, Nat.reduceEqDiff, Nat.reduceAdd, Nat.reduceMul, Nat.reduceLT, Nat.reduceLeDiff, h5, h6, h1, fX9_asks_119]
    rfl
  · rw [zb_t] at h1
    cases b
    · rw [zb_f] at h2
      simp (decide := true) (disch := omega) only [letS_d, grd_tt, bnd_d, bnd1_d, bndX_d, bndX_e, gI_at, gI_ne, gI_sL, gL_sL, gL_sI, upd_at, updL_at, J_lit, J_add, J_mul, J_sub, J_lt, J_le, J_inj, J_ne, ne_J, m_lt, lt_m, m_le, le_m, J_cl, J_inB, if_true, if_false, ite_true, ite_false, reduceIte, isZ0, isZ1, J_and31, shrJ0, shlJ0, gI_sA, gL_sA, Nat.reduceEqDiff, Nat.reduceAdd, Nat.reduceMul, Nat.reduceLT, Nat.reduceLeDiff, h5, h6, h7, h1, h2, fX9_asks_119]
      rfl
    · rw [zb_t] at h2
      simp (decide := true) (disch := omega) only [letS_d, grd_tt, bnd_d, bnd1_d, bndX_d, bndX_e, gI_at, gI_ne, gI_sL, gL_sL, gL_sI, upd_at, updL_at, J_lit, J_add, J_mul, J_sub, J_lt, J_le, J_inj, J_ne, ne_J, m_lt, lt_m, m_le, le_m, J_cl, J_inB, if_true, if_false, ite_true, ite_false, reduceIte, isZ0, isZ1, J_and31, shrJ0, shlJ0, gI_sA, gL_sA, Nat.reduceEqDiff, Nat.reduceAdd, Nat.reduceMul, Nat.reduceLT, Nat.reduceLeDiff, h5, h6, h7, h1, h2]
      rfl
theorem a_or {x y : Nat} {a b : Bool} {σ : St} (hn : nd σ = F) (hx : x + 1 < 150) (hy : y < 150) (hk : nK (F x) = J 4) (hO : nO (F x) = J (x + 1)) (hT : nT (F x) = J y) (h1 : gI σ 32 (x + 1) = zb a) (h2 : gI σ 32 y = zb b) : fX9_asks N σ (J x) (J l) (J s) = some (zb (a || b), σ) := by
  have h5 : gI σ 5 x = J 4 := by rw [← hk, ← hn]; rfl
  have h6 : gI σ 6 x = J (x + 1) := by rw [← hO, ← hn]; rfl
  have h7 : gI σ 7 x = J y := by rw [← hT, ← hn]; rfl
  unfold fX9_asks
  cases a
  · rw [zb_f] at h1
    cases b
    · rw [zb_f] at h2
      simp (decide := true) (disch := omega) only [letS_d, grd_tt, bnd_d, bnd1_d, bndX_d, bndX_e, gI_at, gI_ne, gI_sL, gL_sL, gL_sI, upd_at, updL_at, J_lit, J_add, J_mul, J_sub, J_lt, J_le, J_inj, J_ne, ne_J, m_lt, lt_m, m_le, le_m, J_cl, J_inB, if_true, if_false, ite_true, ite_false, reduceIte, isZ0, isZ1, J_and31, shrJ0, shlJ0, gI_sA, gL_sA, Nat.reduceEqDiff, Nat.reduceAdd, Nat.reduceMul, Nat.reduceLT, Nat.reduceLeDiff, h5, h6, h7, h1, h2]
      rfl
    · rw [zb_t] at h2
      simp (decide := true) (disch := omega) only [letS_d, grd_tt, bnd_d, bnd1_d, bndX_d, bndX_e, gI_at, gI_ne, gI_sL, gL_sL, gL_sI, upd_at, updL_at, J_lit, J_add, J_mul, J_sub, J_lt, J_le, J_inj, J_ne, ne_J, m_lt, lt_m, m_le, le_m, J_cl, J_inB, if_true, if_false, ite_true, ite_false, reduceIte, isZ0, isZ1, J_and31, shrJ0, shlJ0, gI_sA, gL_sA, Nat.reduceEqDiff, Nat.reduceAdd, Nat.reduceMul, Nat.reduceLT, Nat.reduceLeDiff, h5, h6, h7, h1, h2, fX9_asks_149]
      rfl
  · rw [zb_t] at h1
    simp (decide := true) (disch := omega) only [letS_d, grd_tt, bnd_d, bnd1_d, bndX_d, bndX_e, gI_at, gI_ne, gI_sL, gL_sL, gL_sI, upd_at, updL_at, J_lit, J_add, J_mul, J_sub, J_lt, J_le, J_inj, J_ne, ne_J, m_lt, lt_m, m_le, le_m, J_cl, J_inB, if_true, if_false, ite_true, ite_false, reduceIte, isZ0, isZ1, J_and31, shrJ0, shlJ0, gI_sA, gL_sA, Nat.reduceEqDiff, Nat.reduceAdd, Nat.reduceMul, Nat.reduceLT, Nat.reduceLeDiff, h5, h6, h1, fX9_asks_149]
    rfl
theorem has_b {y d : Nat} {σ : St} (hy : y < 150) (h18 : gI σ 18 y = J d) (hd : d < 16) : fX9_has N σ (J s) (J y) = some (zb (s.testBit d), σ) := by
  have hh := has_J1 (J s) (k := d) (by omega)
  rw [J_bits d (by omega)] at hh
  unfold fX9_has
  cases hb : s.testBit d
  · have hc : ¬ (J s >>> J d) &&& J 1 = J 1 := fun h9 => by
      have := hh.mp h9
      rw [hb] at this
      cases this
    simp (decide := true) (disch := omega) only [letS_d, grd_tt, bnd_d, bnd1_d, bndX_d, bndX_e, gI_at, gI_ne, gI_sL, gL_sL, gL_sI, upd_at, updL_at, J_lit, J_add, J_mul, J_sub, J_lt, J_le, J_inj, J_ne, ne_J, m_lt, lt_m, m_le, le_m, J_cl, J_inB, if_true, if_false, ite_true, ite_false, reduceIte, isZ0, isZ1, J_and31, shrJ0, shlJ0, gI_sA, gL_sA, Nat.reduceEqDiff, Nat.reduceAdd, Nat.reduceMul, Nat.reduceLT, Nat.reduceLeDiff, h18, hc]
    rfl
  · have hc := hh.mpr hb
    simp (decide := true) (disch := omega) only [letS_d, grd_tt, bnd_d, bnd1_d, bndX_d, bndX_e, gI_at, gI_ne, gI_sL, gL_sL, gL_sI, upd_at, updL_at, J_lit, J_add, J_mul, J_sub, J_lt, J_le, J_inj, J_ne, ne_J, m_lt, lt_m, m_le, le_m, J_cl, J_inB, if_true, if_false, ite_true, ite_false, reduceIte, isZ0, isZ1, J_and31, shrJ0, shlJ0, gI_sA, gL_sA, Nat.reduceEqDiff, Nat.reduceAdd, Nat.reduceMul, Nat.reduceLT, Nat.reduceLeDiff, h18, hc]
    rfl
theorem a_W {x y d : Nat} {a b : Bool} {σ : St} (hn : nd σ = F) (hx : x + 1 < 150) (hy : y < 150) (hk : nK (F x) = J 5) (hO : nO (F x) = J (x + 1)) (hT : nT (F x) = J y) (h1 : gI σ 32 (x + 1) = zb a) (h2 : gI σ 32 y = zb b) (h18 : gI σ 18 x = J d) (hd : d < 16) : fX9_asks N σ (J x) (J l) (J s) = some (zb (b || (a && s.testBit d)), σ) := by
  have h5 : gI σ 5 x = J 5 := by rw [← hk, ← hn]; rfl
  have h6 : gI σ 6 x = J (x + 1) := by rw [← hO, ← hn]; rfl
  have h7 : gI σ 7 x = J y := by rw [← hT, ← hn]; rfl
  have hh := has_b (N := N) (s := s) (show x < 150 by omega) h18 hd
  unfold fX9_asks
  cases b
  · rw [zb_f] at h2
    cases a
    · rw [zb_f] at h1
      simp (decide := true) (disch := omega) only [letS_d, grd_tt, bnd_d, bnd1_d, bndX_d, bndX_e, gI_at, gI_ne, gI_sL, gL_sL, gL_sI, upd_at, updL_at, J_lit, J_add, J_mul, J_sub, J_lt, J_le, J_inj, J_ne, ne_J, m_lt, lt_m, m_le, le_m, J_cl, J_inB, if_true, if_false, ite_true, ite_false, reduceIte, isZ0, isZ1, J_and31, shrJ0, shlJ0, gI_sA, gL_sA, Nat.reduceEqDiff, Nat.reduceAdd, Nat.reduceMul, Nat.reduceLT, Nat.reduceLeDiff, h5, h6, h7, h1, h2, fX9_asks_196]
      rfl
    · rw [zb_t] at h1
      cases hb : s.testBit d
      · rw [hb, zb_f] at hh
        simp (decide := true) (disch := omega) only [letS_d, grd_tt, bnd_d, bnd1_d, bndX_d, bndX_e, gI_at, gI_ne, gI_sL, gL_sL, gL_sI, upd_at, updL_at, J_lit, J_add, J_mul, J_sub, J_lt, J_le, J_inj, J_ne, ne_J, m_lt, lt_m, m_le, le_m, J_cl, J_inB, if_true, if_false, ite_true, ite_false, reduceIte, isZ0, isZ1, J_and31, shrJ0, shlJ0, gI_sA, gL_sA, Nat.reduceEqDiff, Nat.reduceAdd, Nat.reduceMul, Nat.reduceLT, Nat.reduceLeDiff, h5, h6, h7, h1, h2, hh, fX9_asks_196]
        rfl
      · rw [hb, zb_t] at hh
        simp (decide := true) (disch := omega) only [letS_d, grd_tt, bnd_d, bnd1_d, bndX_d, bndX_e, gI_at, gI_ne, gI_sL, gL_sL, gL_sI, upd_at, updL_at, J_lit, J_add, J_mul, J_sub, J_lt, J_le, J_inj, J_ne, ne_J, m_lt, lt_m, m_le, le_m, J_cl, J_inB, if_true, if_false, ite_true, ite_false, reduceIte, isZ0, isZ1, J_and31, shrJ0, shlJ0, gI_sA, gL_sA, Nat.reduceEqDiff, Nat.reduceAdd, Nat.reduceMul, Nat.reduceLT, Nat.reduceLeDiff, h5, h6, h7, h1, h2, hh, fX9_asks_192]
        rfl
  · rw [zb_t] at h2
    simp (decide := true) (disch := omega) only [letS_d, grd_tt, bnd_d, bnd1_d, bndX_d, bndX_e, gI_at, gI_ne, gI_sL, gL_sL, gL_sI, upd_at, updL_at, J_lit, J_add, J_mul, J_sub, J_lt, J_le, J_inj, J_ne, ne_J, m_lt, lt_m, m_le, le_m, J_cl, J_inB, if_true, if_false, ite_true, ite_false, reduceIte, isZ0, isZ1, J_and31, shrJ0, shlJ0, gI_sA, gL_sA, Nat.reduceEqDiff, Nat.reduceAdd, Nat.reduceMul, Nat.reduceLT, Nat.reduceLeDiff, h5, h6, h7, h2, fX9_asks_192]
    rfl
theorem a_G {x d : Nat} {a : Bool} {σ : St} (hn : nd σ = F) (hx : x + 1 < 150) (hk : nK (F x) = J 6) (hO : nO (F x) = J (x + 1)) (h1 : gI σ 32 (x + 1) = zb a) (h18 : gI σ 18 x = J d) (hd : d < 16) : fX9_asks N σ (J x) (J l) (J s) = some (zb (a && s.testBit d), σ) := by
  have h5 : gI σ 5 x = J 6 := by rw [← hk, ← hn]; rfl
  have h6 : gI σ 6 x = J (x + 1) := by rw [← hO, ← hn]; rfl
  have hh := has_b (N := N) (s := s) (show x < 150 by omega) h18 hd
  unfold fX9_asks
  cases a
  · rw [zb_f] at h1
    simp (decide := true) (disch := omega) only [letS_d, grd_tt, bnd_d, bnd1_d, bndX_d, bndX_e, gI_at, gI_ne, gI_sL, gL_sL, gL_sI, upd_at, updL_at, J_lit, J_add, J_mul, J_sub, J_lt, J_le, J_inj, J_ne, ne_J, m_lt, lt_m, m_le, le_m, J_cl, J_inB, if_true, if_false, ite_true, ite_false, reduceIte, isZ0, isZ1, J_and31, shrJ0, shlJ0, gI_sA, gL_sA, Nat.reduceEqDiff, Nat.reduceAdd, Nat.reduceMul, Nat.reduceLT, Nat.reduceLeDiff, h5, h6, h1, fX9_asks_225]
    rfl
  · rw [zb_t] at h1
    cases hb : s.testBit d
    · rw [hb, zb_f] at hh
      simp (decide := true) (disch := omega) only [letS_d, grd_tt, bnd_d, bnd1_d, bndX_d, bndX_e, gI_at, gI_ne, gI_sL, gL_sL, gL_sI, upd_at, updL_at, J_lit, J_add, J_mul, J_sub, J_lt, J_le, J_inj, J_ne, ne_J, m_lt, lt_m, m_le, le_m, J_cl, J_inB, if_true, if_false, ite_true, ite_false, reduceIte, isZ0, isZ1, J_and31, shrJ0, shlJ0, gI_sA, gL_sA, Nat.reduceEqDiff, Nat.reduceAdd, Nat.reduceMul, Nat.reduceLT, Nat.reduceLeDiff, h5, h6, h1, hh, fX9_asks_225]
      rfl
    · rw [hb, zb_t] at hh
      simp (decide := true) (disch := omega) only [letS_d, grd_tt, bnd_d, bnd1_d, bndX_d, bndX_e, gI_at, gI_ne, gI_sL, gL_sL, gL_sI, upd_at, updL_at, J_lit, J_add, J_mul, J_sub, J_lt, J_le, J_inj, J_ne, ne_J, m_lt, lt_m, m_le, le_m, J_cl, J_inB, if_true, if_false, ite_true, ite_false, reduceIte, isZ0, isZ1, J_and31, shrJ0, shlJ0, gI_sA, gL_sA, Nat.reduceEqDiff, Nat.reduceAdd, Nat.reduceMul, Nat.reduceLT, Nat.reduceLeDiff, h5, h6, h1, hh]
      rfl
theorem a_X {x d : Nat} {σ : St} (hn : nd σ = F) (hx : x + 1 < 150) (hk : nK (F x) = J 7) (hO : nO (F x) = J (x + 1)) (h18 : gI σ 18 (x + 1) = J d) (hd : d < 16) : fX9_asks N σ (J x) (J l) (J s) = some (zb (s.testBit d), σ) := by
  have h5 : gI σ 5 x = J 7 := by rw [← hk, ← hn]; rfl
  have h6 : gI σ 6 x = J (x + 1) := by rw [← hO, ← hn]; rfl
  have hh := has_b (N := N) (s := s) (show x + 1 < 150 by omega) h18 hd
  have hz := isZ_zb (s.testBit d)
  unfold fX9_asks
  simp (decide := true) (disch := omega) only [letS_d, grd_tt, bnd_d, bnd1_d, bndX_d, bndX_e, gI_at, gI_ne, gI_sL, gL_sL, gL_sI, upd_at, updL_at, J_lit, J_add, J_mul, J_sub, J_lt, J_le, J_inj, J_ne, ne_J, m_lt, lt_m, m_le, le_m, J_cl, J_inB, if_true, if_false, ite_true, ite_false, reduceIte, isZ0, isZ1, J_and31, shrJ0, shlJ0, gI_sA, gL_sA, Nat.reduceEqDiff, Nat.reduceAdd, Nat.reduceMul, Nat.reduceLT, Nat.reduceLeDiff, h5, h6, hh, hz]
/-- booleans -/
theorem s_bool (hl : l < 8) : ∀ b x σ, isBo b → RR F b x → nd σ = F → x + nN b ≤ 150 → ∃ σ', Sat N l s (nN b) (x + nN b) x σ σ' ∧ Fr [32] σ σ' ∧ (∀ i, (i < x ∨ x + nN b ≤ i) → gI σ' 32 i = gI σ 32 i) ∧ gI σ' 32 x = zb (bs b l) := by
  intro b
  induction b using tind with
  | h b ih =>
    intro x σ hb hR hn hx
    -- the last node, behind its parts
    have fin : ∀ (c : Nat) (v : Bool) (σ1 : St), nN b = 1 + c → Sat N l s c (x + nN b) (x + 1) σ σ1 → Fr [32] σ σ1 → (∀ i, (i < x + 1 ∨ x + nN b ≤ i) → gI σ1 32 i = gI σ 32 i) → fX9_asks N σ1 (J x) (J l) (J s) = some (zb v, σ1) → v = bs b l → ∃ σ', Sat N l s (nN b) (x + nN b) x σ σ' ∧ Fr [32] σ σ' ∧ (∀ i, (i < x ∨ x + nN b ≤ i) → gI σ' 32 i = gI σ 32 i) ∧ gI σ' 32 x = zb (bs b l) := by
      intro c v σ1 e h1 h2 h3 h4 h5
      have h6 := s_step (N := N) (l := l) (s := s) (show x < 150 by omega) h4
      refine ⟨sI σ1 32 x (zb v), ?_, h2.tr (Fr.i (by decide)), fun i hi => ?_, by rw [← h5]; simp (decide := true) (disch := omega) only [letS_d, grd_tt, bnd_d, bnd1_d, bndX_d, bndX_e, gI_at, gI_ne, gI_sL, gL_sL, gL_sI, upd_at, updL_at, J_lit, J_add, J_mul, J_sub, J_lt, J_le, J_inj, J_ne, ne_J, m_lt, lt_m, m_le, le_m, J_cl, J_inB, if_true, if_false, ite_true, ite_false, reduceIte, isZ0, isZ1, J_and31, shrJ0, shlJ0, gI_sA, gL_sA, Nat.reduceEqDiff, Nat.reduceAdd, Nat.reduceMul, Nat.reduceLT, Nat.reduceLeDiff]⟩
      · have := h1.tr h6
        rw [show c + 1 = nN b from by omega] at this
        exact this
      · have : ¬ i = x := by omega
        rw [← h3 i (by omega)]
        simp (decide := true) (disch := omega) only [letS_d, grd_tt, bnd_d, bnd1_d, bndX_d, bndX_e, gI_at, gI_ne, gI_sL, gL_sL, gL_sI, upd_at, updL_at, J_lit, J_add, J_mul, J_sub, J_lt, J_le, J_inj, J_ne, ne_J, m_lt, lt_m, m_le, le_m, J_cl, J_inB, if_true, if_false, ite_true, ite_false, reduceIte, isZ0, isZ1, J_and31, shrJ0, shlJ0, gI_sA, gL_sA, Nat.reduceEqDiff, Nat.reduceAdd, Nat.reduceMul, Nat.reduceLT, Nat.reduceLeDiff, this]
    cases b with
    | index v =>
      have e : nN (.index v) = 1 := rfl
      exact fin 0 _ σ e (fun n => by rw [e]; rfl) Fr.rf (fun _ _ => rfl) (a_lit (N := N) hn (by omega) hR.1 hR.2 hb hl) rfl
    | length y =>
      have e : nN (.length y) = 1 + nN y := rfl
      obtain ⟨σ1, a1, a2, a3, a4⟩ := ih y (by simp) (x + 1) σ hb hR.2 hn (by omega)
      rw [show x + 1 + nN y = x + nN (.length y) from by omega] at a1 a3
      have hy := RR_pos y _ hR.2
      exact fin (nN y) _ σ1 e a1 a2 a3 (a_not (N := N) ((nd_of a2 (by decide)).trans hn) (by omega) hR.1.1 hR.1.2 a4) rfl
    | add p q =>
      have e : nN (.add p q) = 1 + nN p + nN q := rfl
      obtain ⟨σ1, a1, a2, a3, a4⟩ := ih q (by simp; omega) (x + 1 + nN p) σ hb.2 hR.2.2 hn (by omega)
      obtain ⟨σ2, b1, b2, b3, b4⟩ := ih p (by simp; omega) (x + 1) σ1 hb.1 hR.2.1 ((nd_of a2 (by decide)).trans hn) (by omega)
      have hp := RR_pos p _ hR.2.1
      have hq := RR_pos q _ hR.2.2
      have h9 := a1.tr b1
      rw [show x + 1 + nN p + nN q = x + nN (.add p q) from by omega] at h9
      refine fin (nN q + nN p) _ σ2 (by omega) h9 (a2.tr b2) (fun i hi => by rw [b3 i (by omega), a3 i (by omega)]) (a_and (N := N) (y := x + 1 + nN p) ((nd_of b2 (by decide)).trans ((nd_of a2 (by decide)).trans hn)) (by omega) (by omega) hR.1.1 hR.1.2.1 hR.1.2.2 b4 (by rw [b3 _ (by omega)]; exact a4)) rfl
    | sub p q =>
      have e : nN (.sub p q) = 1 + nN p + nN q := rfl
      obtain ⟨σ1, a1, a2, a3, a4⟩ := ih q (by simp; omega) (x + 1 + nN p) σ hb.2 hR.2.2 hn (by omega)
      obtain ⟨σ2, b1, b2, b3, b4⟩ := ih p (by simp; omega) (x + 1) σ1 hb.1 hR.2.1 ((nd_of a2 (by decide)).trans hn) (by omega)
      have hp := RR_pos p _ hR.2.1
      have hq := RR_pos q _ hR.2.2
      have h9 := a1.tr b1
      rw [show x + 1 + nN p + nN q = x + nN (.sub p q) from by omega] at h9
      refine fin (nN q + nN p) _ σ2 (by omega) h9 (a2.tr b2) (fun i hi => by rw [b3 i (by omega), a3 i (by omega)]) (a_or (N := N) (y := x + 1 + nN p) ((nd_of b2 (by decide)).trans ((nd_of a2 (by decide)).trans hn)) (by omega) (by omega) hR.1.1 hR.1.2.1 hR.1.2.2 b4 (by rw [b3 _ (by omega)]; exact a4)) rfl
    | _ => exact hb.elim
theorem pn_in : ∀ u x j, ok u → RR F u x → j < len u → x ≤ pn u x j ∧ pn u x j < x + nN u := by
  intro u
  induction u using tind with
  | h u ih =>
    intro x j hok hR hj
    cases u with
    | field b x1 y1 z1 =>
      have := RR_pos b x hR.2
      show x ≤ x ∧ x < x + nN b
      omega
    | elem a w =>
      cases w with
      | index c =>
        have e : nN (.elem a (.index c)) = 1 + nN a := rfl
        have h1 : pn (.elem a (.index c)) x j = pn a (x + 1) (j % len a) := rfl
        have hlp := len_pos a hok.2 (by have := hok.1.1; omega)
        have := ih a (by simp; omega) (x + 1) (j % len a) hok.2 hR.2 (Nat.mod_lt _ hlp)
        rw [h1, e]
        omega
      | length t =>
        have e : nN (.elem a (.length t)) = nN a + nN t := rfl
        have hj : j < len a + len t := hj
        by_cases h1 : j < len a
        · have := ih a (by simp; omega) x j hok.2.1 hR.2.1 h1
          rw [show pn (.elem a (.length t)) x j = pn a x j from if_pos h1, e]
          omega
        · have := ih t (by simp; omega) (x + nN a) (j - len a) hok.2.2 hR.2.2 (by omega)
          rw [show pn (.elem a (.length t)) x j = pn t (x + nN a) (j - len a) from if_neg h1, e]
          omega
      | old t =>
        have e : nN (.elem a (.old t)) = nN a + 1 + nN t := rfl
        have hj : j < len a + len t := hj
        by_cases h1 : j < len a
        · have := ih a (by simp; omega) x j hok.2.1 hR.2.1 h1
          rw [show pn (.elem a (.old t)) x j = pn a x j from if_pos h1, e]
          omega
        · have := ih t (by simp; omega) (x + nN a + 1) (j - len a) hok.2.2 hR.2.2 (by omega)
          rw [show pn (.elem a (.old t)) x j = pn t (x + nN a + 1) (j - len a) from if_neg h1, e]
          omega
      | _ => exact hok.elim
    | _ => exact absurd hj (Nat.not_lt_zero _)
/-- sequences -/
theorem s_seq (hl : l < 8) : ∀ u x σ, ok u → 1 ≤ sh u → RR F u x → nd σ = F → x + nN u ≤ 150 → ∃ σ', Sat N l s (nN u) (x + nN u) x σ σ' ∧ Fr [32] σ σ' ∧ (∀ i, (i < x ∨ x + nN u ≤ i) → gI σ' 32 i = gI σ 32 i) ∧ ∀ j, j < len u → gI σ' 32 (pn u x j) = zb (bs (pl u j) l) := by
  -- a node in front of a piece
  have front : ∀ (u : Term) x v σ (P : St → Prop), (∃ σ', Sat N l s (nN u) (x + 1 + nN u) (x + 1) σ σ' ∧ Fr [32] σ σ' ∧ (∀ i, (i < x + 1 ∨ x + 1 + nN u ≤ i) → gI σ' 32 i = gI σ 32 i) ∧ P σ') → nd σ = F → x < 150 → nK (F x) = J v → 10 ≤ v → v ≤ 12 → (∀ σ1, P σ1 → P (sI σ1 32 x (zb false))) → ∃ σ', Sat N l s (1 + nN u) (x + 1 + nN u) x σ σ' ∧ Fr [32] σ σ' ∧ (∀ i, (i < x ∨ x + 1 + nN u ≤ i) → gI σ' 32 i = gI σ 32 i) ∧ P σ' := by
    rintro u x v σ P ⟨σ1, a1, a2, a3, a4⟩ hn hx hk hv hv2 hP
    have hs := s_step (N := N) (l := l) (s := s) hx (a_other (N := N) (l := l) (s := s) ((nd_of a2 (by decide)).trans hn) hx hk hv hv2)
    refine ⟨sI σ1 32 x (zb false), ?_, a2.tr (Fr.i (by decide)), fun i hi => ?_, hP σ1 a4⟩
    · have := a1.tr hs
      rw [Nat.add_comm (nN u) 1] at this
      exact this
    · have : ¬ i = x := by omega
      rw [← a3 i (by omega)]
      simp (decide := true) (disch := omega) only [letS_d, grd_tt, bnd_d, bnd1_d, bndX_d, bndX_e, gI_at, gI_ne, gI_sL, gL_sL, gL_sI, upd_at, updL_at, J_lit, J_add, J_mul, J_sub, J_lt, J_le, J_inj, J_ne, ne_J, m_lt, lt_m, m_le, le_m, J_cl, J_inB, if_true, if_false, ite_true, ite_false, reduceIte, isZ0, isZ1, J_and31, shrJ0, shlJ0, gI_sA, gL_sA, Nat.reduceEqDiff, Nat.reduceAdd, Nat.reduceMul, Nat.reduceLT, Nat.reduceLeDiff, this]
  intro u
  induction u using tind with
  | h u ih =>
    intro x σ hok hsh hR hn hx
    cases u with
    | field b x1 y1 z1 =>
      obtain ⟨σ1, a1, a2, a3, a4⟩ := s_bool (N := N) (l := l) (s := s) (F := F) hl b x σ hok.1 hR.2 hn hx
      exact ⟨σ1, a1, a2, a3, fun j hj => a4⟩
    | null =>
      have e : nN .null = 1 := rfl
      have hs := s_step (N := N) (l := l) (s := s) (σ := σ) (show x < 150 by omega) (a_other (N := N) (l := l) (s := s) (v := 12) hn (by omega) hR (by omega) (by omega))
      refine ⟨sI σ 32 x (zb false), hs, Fr.i (by decide), fun i hi => ?_, fun j hj => absurd hj (Nat.not_lt_zero _)⟩
      have : ¬ i = x := by omega
      simp (decide := true) (disch := omega) only [letS_d, grd_tt, bnd_d, bnd1_d, bndX_d, bndX_e, gI_at, gI_ne, gI_sL, gL_sL, gL_sI, upd_at, updL_at, J_lit, J_add, J_mul, J_sub, J_lt, J_le, J_inj, J_ne, ne_J, m_lt, lt_m, m_le, le_m, J_cl, J_inB, if_true, if_false, ite_true, ite_false, reduceIte, isZ0, isZ1, J_and31, shrJ0, shlJ0, gI_sA, gL_sA, Nat.reduceEqDiff, Nat.reduceAdd, Nat.reduceMul, Nat.reduceLT, Nat.reduceLeDiff, this]
    | elem a w =>
      cases w with
      | index c =>
        have e : nN (.elem a (.index c)) = 1 + nN a := rfl
        obtain ⟨σ1, a1, a2, a3, a4⟩ := ih a (by simp; omega) (x + 1) σ hok.2 (by have := hok.1.1; omega) hR.2 hn (by omega)
        have hlp := len_pos a hok.2 (by have := hok.1.1; omega)
        have := front a x 11 σ (fun σ' => ∀ j, j < len a → gI σ' 32 (pn a (x + 1) j) = zb (bs (pl a j) l)) ⟨σ1, a1, a2, a3, a4⟩ hn (by omega) hR.1.1 (by omega) (by omega) (fun σ2 h j hj => by
          have := (pn_in a (x + 1) j hok.2 hR.2 hj).1
          have hne : ¬ pn a (x + 1) j = x := by omega
          rw [← h j hj]
          simp (decide := true) (disch := omega) only [letS_d, grd_tt, bnd_d, bnd1_d, bndX_d, bndX_e, gI_at, gI_ne, gI_sL, gL_sL, gL_sI, upd_at, updL_at, J_lit, J_add, J_mul, J_sub, J_lt, J_le, J_inj, J_ne, ne_J, m_lt, lt_m, m_le, le_m, J_cl, J_inB, if_true, if_false, ite_true, ite_false, reduceIte, isZ0, isZ1, J_and31, shrJ0, shlJ0, gI_sA, gL_sA, Nat.reduceEqDiff, Nat.reduceAdd, Nat.reduceMul, Nat.reduceLT, Nat.reduceLeDiff, hne])
        obtain ⟨σ2, b1, b2, b3, b4⟩ := this
        rw [show x + 1 + nN a = x + nN (.elem a (.index c)) from by omega] at b1 b3
        exact ⟨σ2, b1, b2, b3, fun j hj => b4 (j % len a) (Nat.mod_lt _ hlp)⟩
      | length t =>
        have e : nN (.elem a (.length t)) = nN a + nN t := rfl
        obtain ⟨σ1, a1, a2, a3, a4⟩ := ih t (by simp; omega) (x + nN a) σ hok.2.2 (by have := hok.1.2; omega) hR.2.2 hn (by omega)
        obtain ⟨σ2, b1, b2, b3, b4⟩ := ih a (by simp; omega) x σ1 hok.2.1 (by have := hok.1.1; omega) hR.2.1 ((nd_of a2 (by decide)).trans hn) (by omega)
        have h9 := a1.tr b1
        rw [show x + nN a + nN t = x + nN (.elem a (.length t)) from by omega, show nN t + nN a = nN (.elem a (.length t)) from by omega] at h9
        refine ⟨σ2, h9, a2.tr b2, fun i hi => by rw [b3 i (by omega), a3 i (by omega)], fun j hj => ?_⟩
        have hj : j < len a + len t := hj
        by_cases h1 : j < len a
        · rw [show pn (.elem a (.length t)) x j = pn a x j from if_pos h1, show pl (.elem a (.length t)) j = pl a j from if_pos h1]
          exact b4 j h1
        · have := pn_in t (x + nN a) (j - len a) hok.2.2 hR.2.2 (by omega)
          rw [show pn (.elem a (.length t)) x j = pn t (x + nN a) (j - len a) from if_neg h1, show pl (.elem a (.length t)) j = pl t (j - len a) from if_neg h1, b3 _ (by omega)]
          exact a4 (j - len a) (by omega)
      | old t =>
        have e : nN (.elem a (.old t)) = nN a + 1 + nN t := rfl
        have h0 := ih t (by simp; omega) (x + nN a + 1) σ hok.2.2 (by have := hok.1.2; omega) hR.2.2 hn (by omega)
        have := front t (x + nN a) 10 σ (fun σ' => ∀ j, j < len t → gI σ' 32 (pn t (x + nN a + 1) j) = zb (bs (pl t j) l)) h0 hn (by omega) hR.1.1 (by omega) (by omega) (fun σ2 h j hj => by
          have := (pn_in t (x + nN a + 1) j hok.2.2 hR.2.2 hj).1
          have hne : ¬ pn t (x + nN a + 1) j = x + nN a := by omega
          rw [← h j hj]
          simp (decide := true) (disch := omega) only [letS_d, grd_tt, bnd_d, bnd1_d, bndX_d, bndX_e, gI_at, gI_ne, gI_sL, gL_sL, gL_sI, upd_at, updL_at, J_lit, J_add, J_mul, J_sub, J_lt, J_le, J_inj, J_ne, ne_J, m_lt, lt_m, m_le, le_m, J_cl, J_inB, if_true, if_false, ite_true, ite_false, reduceIte, isZ0, isZ1, J_and31, shrJ0, shlJ0, gI_sA, gL_sA, Nat.reduceEqDiff, Nat.reduceAdd, Nat.reduceMul, Nat.reduceLT, Nat.reduceLeDiff, hne])
        obtain ⟨σ1, a1, a2, a3, a4⟩ := this
        obtain ⟨σ2, b1, b2, b3, b4⟩ := ih a (by simp; omega) x σ1 hok.2.1 (by have := hok.1.1; omega) hR.2.1 ((nd_of a2 (by decide)).trans hn) (by omega)
        have h9 := a1.tr b1
        rw [show x + nN a + 1 + nN t = x + nN (.elem a (.old t)) from by omega, show 1 + nN t + nN a = nN (.elem a (.old t)) from by omega] at h9
        refine ⟨σ2, h9, a2.tr b2, fun i hi => by rw [b3 i (by omega), a3 i (by omega)], fun j hj => ?_⟩
        have hj : j < len a + len t := hj
        by_cases h1 : j < len a
        · rw [show pn (.elem a (.old t)) x j = pn a x j from if_pos h1, show pl (.elem a (.old t)) j = pl a j from if_pos h1]
          exact b4 j h1
        · have := pn_in t (x + nN a + 1) (j - len a) hok.2.2 hR.2.2 (by omega)
          rw [show pn (.elem a (.old t)) x j = pn t (x + nN a + 1) (j - len a) from if_neg h1, show pl (.elem a (.old t)) j = pl t (j - len a) from if_neg h1, b3 _ (by omega)]
          exact a4 (j - len a) (by omega)
      | _ => exact hok.elim
    | _ => exact absurd hsh (Nat.not_succ_le_zero 0)
end SAT
