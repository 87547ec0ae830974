/-! the gates -/
/-- the letter of three inputs -/
def rv (i : Nat) : Nat := 4 * (i % 2) + 2 * (i / 2 % 2) + i / 4
theorem rv_lt {i : Nat} (h : i < 8) : rv i < 8 := by
  have : ∀ i < 8, rv i < 8 := by decide
  exact this i h
theorem rv_cls {i : Nat} (h : i < 8) : (((J i &&& J 1) <<< J 2) ||| (J i &&& J 2)) ||| (J i >>> J 2) = J (rv i) := by
  have : ∀ i < 8, (((J i &&& J 1) <<< J 2) ||| (J i &&& J 2)) ||| (J i >>> J 2) = J (rv i) := by decide +kernel
  exact this i h
theorem rv_ref {i : Nat} (h : i < 8) : (((J i >>> J 2) &&& J 1) + (J i &&& J 2)) + ((J i &&& J 1) <<< J 2) = J (rv i) := by
  have : ∀ i < 8, (((J i >>> J 2) &&& J 1) + (J i &&& J 2)) + ((J i &&& J 1) <<< J 2) = J (rv i) := by decide +kernel
  exact this i h
/-- the cell of an output at an input -/
def w0 (T : Nat → Int32) (s b o x : Nat) : Nat := if ov T s b o (x % 2 ^ b) (rv (x / 2 ^ b)) = true then 1 else 0
theorem J_shr {x b : Nat} (hx : x < 512) (hb : b ≤ 6) : J x >>> J b = J (x / 2 ^ b) := by
  have : ∀ x < 512, ∀ b < 7, J x >>> J b = J (x / 2 ^ b) := by decide +kernel
  exact this x hx b (by omega)
theorem J_msk {x b : Nat} (hx : x < 512) (hb : b ≤ 6) : J x &&& J (2 ^ b - 1) = J (x % 2 ^ b) := by
  have : ∀ x < 512, ∀ b < 7, J x &&& J (2 ^ b - 1) = J (x % 2 ^ b) := by decide +kernel
  exact this x hx b (by omega)
theorem p2 {b : Nat} (hb : b ≤ 6) : 1 ≤ 2 ^ b ∧ 2 ^ b ≤ 64 ∧ 2 ^ (b + 3) = 8 * 2 ^ b := by
  have : ∀ b < 7, 1 ≤ 2 ^ b ∧ 2 ^ b ≤ 64 ∧ 2 ^ (b + 3) = 8 * 2 ^ b := by decide
  exact this b (by omega)
section GATE
variable {N s b : Nat} {T : Nat → Int32}
/-- what the class's counting takes as given -/
def Gc (s b : Nat) (T : Nat → Int32) (τ : St) : Prop := s ≤ 40 ∧ 1 ≤ b ∧ b ≤ 6 ∧ gI τ 71 0 = J s ∧ gI τ 81 0 = J b ∧ ∀ i, i < 8 * s → gI τ 72 i = T i ∧ Mx s (T i)
theorem Gc.fr {τ τ' : St} {S : List Nat} (h : Gc s b T τ) (f : Fr S τ τ') (d : ∀ k ∈ [71, 72, 81], k ∉ S) : Gc s b T τ' := by
  unfold Gc
  rw [f.gi (d 71 (by decide)), f.gi (d 72 (by decide)), f.gi (d 81 (by decide))]
  exact h
def Gr (s b : Nat) (T : Nat → Int32) (σ : St) : Prop := s ≤ 40 ∧ 1 ≤ b ∧ b ≤ 6 ∧ gI σ 40 0 = J s ∧ gI σ 41 0 = J b ∧ ∀ i, i < 8 * s → gI σ 45 i = T i ∧ Mx s (T i)
theorem Gr.fr {τ τ' : St} {S : List Nat} (h : Gr s b T τ) (f : Fr S τ τ') (d : ∀ k ∈ [40, 41, 45], k ∉ S) : Gr s b T τ' := by
  unfold Gr
  rw [f.gi (d 40 (by decide)), f.gi (d 41 (by decide)), f.gi (d 45 (by decide))]
  exact h
theorem w0_div {o i c : Nat} (hc : c < 2 ^ b) : w0 T s b o (2 ^ b * i + c) = if ov T s b o c (rv i) = true then 1 else 0 := by
  unfold w0
  have h1 : (2 ^ b * i + c) % 2 ^ b = c := by rw [Nat.mul_add_mod, Nat.mod_eq_of_lt hc]
  have h2 : (2 ^ b * i + c) / 2 ^ b = i := by
    rw [Nat.mul_add_div (by omega), Nat.div_eq_of_lt hc, Nat.add_zero]
  rw [h1, h2]
/-- the class fills a row of cells -/
theorem cls_fill0 {o i : Nat} (ho : o ≤ b) (hi : i < 8) (k4 : St → Int32 → Int32 → Option (Int32 × St)) (k14 : St → Int32 → Int32 → Int32 → Option (Int32 × St)) : ∀ f c n (τ : St), c + f = 2 ^ b → f < n → Gc s b T τ → ∃ τ', fX2_fillCells_38 N k4 k14 n τ (J (2 ^ b * (8 * o + i) + c)) (J o) (J i) (J (rv i)) (J c) = k14 τ' (J (2 ^ b * (8 * o + (i + 1)))) (J o) (J (i + 1)) ∧ Fr [83] τ τ' ∧ (∀ m, m < 2 ^ b * (8 * o + i) + c → gI τ' 83 m = gI τ 83 m) ∧ ∀ c', c ≤ c' → c' < 2 ^ b → gI τ' 83 (2 ^ b * (8 * o + i) + c') = J (w0 T s b o (2 ^ b * i + c')) := by
  intro f
  induction f with
  | zero =>
    intro c n τ hc hn hG
    obtain ⟨n, rfl⟩ : ∃ k, n = k + 1 := ⟨n - 1, by omega⟩
    obtain ⟨g1, g2, g3, g4, g5, g6⟩ := id hG
    obtain ⟨p1, p2', p3⟩ := p2 g3
    unfold fX2_fillCells_38
    have hcod : J 1 <<< J b = J (2 ^ b) := pow_J (by omega)
    have hle : 2 ^ b ≤ c := by omega
    refine ⟨τ, ?_, Fr.rf, fun _ _ => rfl, fun c' h1 h2 => by omega⟩
    have e : 2 ^ b * (8 * o + i) + c = 2 ^ b * (8 * o + (i + 1)) := by
      have : c = 2 ^ b := by omega
      rw [this, show 8 * o + (i + 1) = (8 * o + i) + 1 from by omega, Nat.mul_succ]
    simp (decide := true) (disch := omega) only [letS_d, grd_t, bnd_d, bnd1_d, bndX_d, bndX_e, gI_sI, gI_sL, gL_sL, gL_sI, upd_at, updL_at, J_lit, J_add, J_mul, J_sub, J_lt, J_le, J_inj, J_ne, ne_J, m_lt, lt_m, m_le, le_m, J_cl, J_inB, if_true, if_false, ite_true, ite_false, reduceIte, isZ0, isZ1, J_and31, shrJ0, shlJ0, gI_sA, gL_sA, Nat.reduceEqDiff, Nat.reduceAdd, Nat.reduceMul, Nat.reduceLT, Nat.reduceLeDiff, fX2_codes, g5, hcod, hle, e]
  | succ f ih =>
    intro c n τ hc hn hG
    obtain ⟨n, rfl⟩ : ∃ k, n = k + 1 := ⟨n - 1, by omega⟩
    obtain ⟨g1, g2, g3, g4, g5, g6⟩ := id hG
    obtain ⟨p1, p2', p3⟩ := p2 g3
    unfold fX2_fillCells_38
    have hcod : J 1 <<< J b = J (2 ^ b) := pow_J (by omega)
    have hle : ¬ 2 ^ b ≤ c := by omega
    have hb1 : 2 ^ b * (8 * o + i) ≤ 64 * (8 * o + i) := Nat.mul_le_mul_right _ p2'
    have hb2 : 2 ^ b * (8 * o + i) + 2 ^ b ≤ 3584 := by
      have : 2 ^ b * (8 * o + i) + 2 ^ b = 2 ^ b * (8 * o + i + 1) := (Nat.mul_succ _ _).symm
      rw [this]
      exact Nat.le_trans (Nat.mul_le_mul p2' (show 8 * o + i + 1 ≤ 56 by omega)) (by omega)
    have hon := cls_on (N := N) (τ := τ) g1 g3 g4 g5 g6 (o := o) (c := c) (l := rv i) ho (by omega) (rv_lt hi)
    obtain ⟨τ', e1, e2, e3, e4⟩ := ih (c + 1) n (sI τ 83 (2 ^ b * (8 * o + i) + c) (zb (ov T s b o c (rv i)))) (by omega) (by omega) (hG.fr (S := [83]) (Fr.i (by decide)) (by decide))
    have hbc : 2 ^ b * (8 * o + i) + c < 3584 := by omega
    refine ⟨τ', ?_, (Fr.i (by decide)).tr e2, fun m hm => ?_, fun c' h1 h2 => ?_⟩
    · rw [← e1]
      have q : 2 ^ b * (8 * o + i) + (c + 1) = 2 ^ b * (8 * o + i) + c + 1 := rfl
      rw [q]
      cases hov : ov T s b o c (rv i)
      · rw [hov] at hon
        simp (decide := true) (disch := omega) only [letS_d, grd_t, bnd_d, bnd1_d, bndX_d, bndX_e, gI_sI, gI_sL, gL_sL, gL_sI, upd_at, updL_at, J_lit, J_add, J_mul, J_sub, J_lt, J_le, J_inj, J_ne, ne_J, m_lt, lt_m, m_le, le_m, J_cl, J_inB, if_true, if_false, ite_true, ite_false, reduceIte, isZ0, isZ1, J_and31, shrJ0, shlJ0, gI_sA, gL_sA, Nat.reduceEqDiff, Nat.reduceAdd, Nat.reduceMul, Nat.reduceLT, Nat.reduceLeDiff, fX2_codes, g5, hcod, hle, hon, zb_f, fX2_fillCells_69]
      · rw [hov] at hon
        simp (decide := true) (disch := omega) only [letS_d, grd_t, bnd_d, bnd1_d, bndX_d, bndX_e, gI_sI, gI_sL, gL_sL, gL_sI, upd_at, updL_at, J_lit, J_add, J_mul, J_sub, J_lt, J_le, J_inj, J_ne, ne_J, m_lt, lt_m, m_le, le_m, J_cl, J_inB, if_true, if_false, ite_true, ite_false, reduceIte, isZ0, isZ1, J_and31, shrJ0, shlJ0, gI_sA, gL_sA, Nat.reduceEqDiff, Nat.reduceAdd, Nat.reduceMul, Nat.reduceLT, Nat.reduceLeDiff, fX2_codes, g5, hcod, hle, hon, zb_t, fX2_fillCells_69]
    · rw [e3 m (by omega)]
      have : ¬ m = 2 ^ b * (8 * o + i) + c := by omega
      simp (decide := true) (disch := omega) only [letS_d, grd_t, bnd_d, bnd1_d, bndX_d, bndX_e, gI_sI, gI_sL, gL_sL, gL_sI, upd_at, updL_at, J_lit, J_add, J_mul, J_sub, J_lt, J_le, J_inj, J_ne, ne_J, m_lt, lt_m, m_le, le_m, J_cl, J_inB, if_true, if_false, ite_true, ite_false, reduceIte, isZ0, isZ1, J_and31, shrJ0, shlJ0, gI_sA, gL_sA, Nat.reduceEqDiff, Nat.reduceAdd, Nat.reduceMul, Nat.reduceLT, Nat.reduceLeDiff, this]
    · by_cases hcc : c' = c
      · subst hcc
        rw [e3 _ (by omega), w0_div h2]
        cases hov : ov T s b o c' (rv i)
        · simp (decide := true) (disch := omega) only [letS_d, grd_t, bnd_d, bnd1_d, bndX_d, bndX_e, gI_sI, gI_sL, gL_sL, gL_sI, upd_at, updL_at, J_lit, J_add, J_mul, J_sub, J_lt, J_le, J_inj, J_ne, ne_J, m_lt, lt_m, m_le, le_m, J_cl, J_inB, if_true, if_false, ite_true, ite_false, reduceIte, isZ0, isZ1, J_and31, shrJ0, shlJ0, gI_sA, gL_sA, Nat.reduceEqDiff, Nat.reduceAdd, Nat.reduceMul, Nat.reduceLT, Nat.reduceLeDiff, Bool.false_eq_true, zb_f]
        · simp (decide := true) (disch := omega) only [letS_d, grd_t, bnd_d, bnd1_d, bndX_d, bndX_e, gI_sI, gI_sL, gL_sL, gL_sI, upd_at, updL_at, J_lit, J_add, J_mul, J_sub, J_lt, J_le, J_inj, J_ne, ne_J, m_lt, lt_m, m_le, le_m, J_cl, J_inB, if_true, if_false, ite_true, ite_false, reduceIte, isZ0, isZ1, J_and31, shrJ0, shlJ0, gI_sA, gL_sA, Nat.reduceEqDiff, Nat.reduceAdd, Nat.reduceMul, Nat.reduceLT, Nat.reduceLeDiff, zb_t]
      · exact e4 c' (by omega) h2
theorem cls_fill1 (hN : 100 ≤ N) {o : Nat} (ho : o ≤ b) (k4 : St → Int32 → Int32 → Option (Int32 × St)) : ∀ f i n (τ : St), i + f = 8 → f < n → Gc s b T τ → ∃ τ', fX2_fillCells_14 N k4 n τ (J (2 ^ b * (8 * o + i))) (J o) (J i) = k4 τ' (J (2 ^ b * (8 * (o + 1)))) (J (o + 1)) ∧ Fr [83] τ τ' ∧ (∀ m, m < 2 ^ b * (8 * o + i) → gI τ' 83 m = gI τ 83 m) ∧ ∀ x, 2 ^ b * i ≤ x → x < 2 ^ b * 8 → gI τ' 83 (2 ^ b * (8 * o) + x) = J (w0 T s b o x) := by
  intro f
  induction f with
  | zero =>
    intro i n τ hi hn hG
    obtain ⟨n, rfl⟩ : ∃ k, n = k + 1 := ⟨n - 1, by omega⟩
    obtain rfl : i = 8 := by omega
    unfold fX2_fillCells_14
    refine ⟨τ, ?_, Fr.rf, fun _ _ => rfl, fun x h1 h2 => by omega⟩
    simp (decide := true) (disch := omega) only [letS_d, grd_t, bnd_d, bnd1_d, bndX_d, bndX_e, gI_sI, gI_sL, gL_sL, gL_sI, upd_at, updL_at, J_lit, J_add, J_mul, J_sub, J_lt, J_le, J_inj, J_ne, ne_J, m_lt, lt_m, m_le, le_m, J_cl, J_inB, if_true, if_false, ite_true, ite_false, reduceIte, isZ0, isZ1, J_and31, shrJ0, shlJ0, gI_sA, gL_sA, Nat.reduceEqDiff, Nat.reduceAdd, Nat.reduceMul, Nat.reduceLT, Nat.reduceLeDiff, Nat.le_refl, show 8 * o + 8 = 8 * (o + 1) from by omega]
  | succ f ih =>
    intro i n τ hi hn hG
    obtain ⟨n, rfl⟩ : ∃ k, n = k + 1 := ⟨n - 1, by omega⟩
    obtain ⟨g1, g2, g3, g4, g5, g6⟩ := id hG
    obtain ⟨p1, p2', p3⟩ := p2 g3
    unfold fX2_fillCells_14
    have h8 : ¬ 8 ≤ i := by omega
    obtain ⟨τ1, a1, a2, a3, a4⟩ := cls_fill0 (N := N) (s := s) (T := T) ho (show i < 8 by omega) k4 (fX2_fillCells_14 N k4 n) (2 ^ b) 0 N τ (by omega) (by omega) hG
    obtain ⟨τ', e1, e2, e3, e4⟩ := ih (i + 1) n τ1 (by omega) (by omega) (hG.fr a2 (by decide))
    refine ⟨τ', ?_, a2.tr e2, fun m hm => ?_, fun x h1 h2 => ?_⟩
    · simp (decide := true) (disch := omega) only [letS_d, grd_t, bnd_d, bnd1_d, bndX_d, bndX_e, gI_sI, gI_sL, gL_sL, gL_sI, upd_at, updL_at, J_lit, J_add, J_mul, J_sub, J_lt, J_le, J_inj, J_ne, ne_J, m_lt, lt_m, m_le, le_m, J_cl, J_inB, if_true, if_false, ite_true, ite_false, reduceIte, isZ0, isZ1, J_and31, shrJ0, shlJ0, gI_sA, gL_sA, Nat.reduceEqDiff, Nat.reduceAdd, Nat.reduceMul, Nat.reduceLT, Nat.reduceLeDiff, h8, rv_cls (show i < 8 by omega)]
      rw [Nat.add_zero] at a1
      exact a1.trans e1
    · have hmm : 2 ^ b * (8 * o + i) ≤ 2 ^ b * (8 * o + (i + 1)) := Nat.mul_le_mul_left _ (by omega)
      rw [e3 m (by omega), a3 m (by omega)]
    · by_cases hx : x < 2 ^ b * (i + 1)
      · obtain ⟨c, rfl⟩ : ∃ c, x = 2 ^ b * i + c := ⟨x - 2 ^ b * i, by omega⟩
        rw [Nat.mul_succ] at hx
        have e9 : 2 ^ b * (8 * o) + (2 ^ b * i + c) = 2 ^ b * (8 * o + i) + c := by rw [Nat.mul_add]; omega
        have e10 : 2 ^ b * (8 * o + (i + 1)) = 2 ^ b * (8 * o + i) + 2 ^ b := by rw [show 8 * o + (i + 1) = (8 * o + i) + 1 from by omega, Nat.mul_succ]
        rw [e9, e3 _ (by omega)]
        exact a4 c (by omega) (by omega)
      · exact e4 x (by omega) h2
theorem cls_fill2 (hN : 100 ≤ N) : ∀ f o n (τ : St), o + f = b + 1 → f < n → Gc s b T τ → ∃ τ', fX2_fillCells_4 N n τ (J (2 ^ b * (8 * o))) (J o) = some (J (2 ^ b * (8 * (b + 1))), τ') ∧ Fr [83] τ τ' ∧ (∀ m, m < 2 ^ b * (8 * o) → gI τ' 83 m = gI τ 83 m) ∧ ∀ o' x, o ≤ o' → o' ≤ b → x < 2 ^ b * 8 → gI τ' 83 (2 ^ b * (8 * o') + x) = J (w0 T s b o' x) := by
  intro f
  induction f with
  | zero =>
    intro o n τ ho hn hG
    obtain ⟨n, rfl⟩ : ∃ k, n = k + 1 := ⟨n - 1, by omega⟩
    obtain ⟨g1, g2, g3, g4, g5, g6⟩ := id hG
    obtain rfl : o = b + 1 := by omega
    unfold fX2_fillCells_4
    refine ⟨τ, ?_, Fr.rf, fun _ _ => rfl, fun o' x h1 h2 => by omega⟩
    have : b < b + 1 := by omega
    simp (decide := true) (disch := omega) only [letS_d, grd_t, bnd_d, bnd1_d, bndX_d, bndX_e, gI_sI, gI_sL, gL_sL, gL_sI, upd_at, updL_at, J_lit, J_add, J_mul, J_sub, J_lt, J_le, J_inj, J_ne, ne_J, m_lt, lt_m, m_le, le_m, J_cl, J_inB, if_true, if_false, ite_true, ite_false, reduceIte, isZ0, isZ1, J_and31, shrJ0, shlJ0, gI_sA, gL_sA, Nat.reduceEqDiff, Nat.reduceAdd, Nat.reduceMul, Nat.reduceLT, Nat.reduceLeDiff, g5, this]
  | succ f ih =>
    intro o n τ ho hn hG
    obtain ⟨n, rfl⟩ : ∃ k, n = k + 1 := ⟨n - 1, by omega⟩
    obtain ⟨g1, g2, g3, g4, g5, g6⟩ := id hG
    unfold fX2_fillCells_4
    have hb : ¬ b < o := by omega
    obtain ⟨τ1, a1, a2, a3, a4⟩ := cls_fill1 (N := N) (s := s) (T := T) hN (show o ≤ b by omega) (fX2_fillCells_4 N n) 8 0 N τ (by omega) (by omega) hG
    obtain ⟨τ', e1, e2, e3, e4⟩ := ih (o + 1) n τ1 (by omega) (by omega) (hG.fr a2 (by decide))
    refine ⟨τ', ?_, a2.tr e2, fun m hm => ?_, fun o' x h1 h2 h3 => ?_⟩
    · simp (decide := true) (disch := omega) only [letS_d, grd_t, bnd_d, bnd1_d, bndX_d, bndX_e, gI_sI, gI_sL, gL_sL, gL_sI, upd_at, updL_at, J_lit, J_add, J_mul, J_sub, J_lt, J_le, J_inj, J_ne, ne_J, m_lt, lt_m, m_le, le_m, J_cl, J_inB, if_true, if_false, ite_true, ite_false, reduceIte, isZ0, isZ1, J_and31, shrJ0, shlJ0, gI_sA, gL_sA, Nat.reduceEqDiff, Nat.reduceAdd, Nat.reduceMul, Nat.reduceLT, Nat.reduceLeDiff, g5, hb]
      exact a1.trans e1
    · have hmm : 2 ^ b * (8 * o) ≤ 2 ^ b * (8 * (o + 1)) := Nat.mul_le_mul_left _ (by omega)
      rw [e3 m (by omega), a3 m (by omega)]
    · by_cases hoo : o' = o
      · subst hoo
        have e10 : 2 ^ b * (8 * (o' + 1)) = 2 ^ b * (8 * o') + 2 ^ b * 8 := by rw [show 8 * (o' + 1) = 8 * o' + 8 from by omega, Nat.mul_add]
        rw [e3 _ (by omega)]
        exact a4 x (by omega) h3
      · exact e4 o' x (by omega) h2 h3
/-- the reference fills its rows -/
theorem ref_fill0 {o : Nat} (ho : o ≤ b) (k40 : St → Int32 → Int32 → Option St) : ∀ f x n (σ : St), x + f = 2 ^ (b + 3) → f < n → Gr s b T σ → ∃ σ', fX9_count_50 N k40 n σ (J (b + 3)) (J o) (J x) = k40 σ' (J (b + 3)) (J (o + 1)) ∧ Fr [46] σ σ' ∧ (∀ m, m < 512 * o + x → gI σ' 46 m = gI σ 46 m) ∧ ∀ y, x ≤ y → y < 2 ^ (b + 3) → gI σ' 46 (512 * o + y) = J (w0 T s b o y) := by
  intro f
  induction f with
  | zero =>
    intro x n σ hx hn hG
    obtain ⟨n, rfl⟩ : ∃ k, n = k + 1 := ⟨n - 1, by omega⟩
    obtain ⟨g1, g2, g3, g4, g5, g6⟩ := id hG
    unfold fX9_count_50
    have hcod : J 1 <<< J (b + 3) = J (2 ^ (b + 3)) := pow_J (by omega)
    have hle : 2 ^ (b + 3) ≤ x := by omega
    have hx' : x < 1000 := by have := p2 g3; omega
    have hp : 2 ^ (b + 3) < 1000 := by have := p2 g3; omega
    refine ⟨σ, ?_, Fr.rf, fun _ _ => rfl, fun y h1 h2 => by omega⟩
    simp (decide := true) (disch := omega) only [letS_d, grd_t, bnd_d, bnd1_d, bndX_d, bndX_e, gI_sI, gI_sL, gL_sL, gL_sI, upd_at, updL_at, J_lit, J_add, J_mul, J_sub, J_lt, J_le, J_inj, J_ne, ne_J, m_lt, lt_m, m_le, le_m, J_cl, J_inB, if_true, if_false, ite_true, ite_false, reduceIte, isZ0, isZ1, J_and31, shrJ0, shlJ0, gI_sA, gL_sA, Nat.reduceEqDiff, Nat.reduceAdd, Nat.reduceMul, Nat.reduceLT, Nat.reduceLeDiff, hcod, hle]
  | succ f ih =>
    intro x n σ hx hn hG
    obtain ⟨n, rfl⟩ : ∃ k, n = k + 1 := ⟨n - 1, by omega⟩
    obtain ⟨g1, g2, g3, g4, g5, g6⟩ := id hG
    unfold fX9_count_50
    have hcod : J 1 <<< J (b + 3) = J (2 ^ (b + 3)) := pow_J (by omega)
    have hcod2 : J 1 <<< J b = J (2 ^ b) := pow_J (by omega)
    have hle : ¬ 2 ^ (b + 3) ≤ x := by omega
    have hp9 := p2 g3
    have hx512 : x < 512 := by omega
    have hp : 2 ^ (b + 3) < 1000 := by omega
    have hmod : x % 2 ^ b < 2 ^ b := Nat.mod_lt _ (by omega)
    have hdiv : x / 2 ^ b < 8 := by
      rw [Nat.div_lt_iff_lt_mul (by omega)]
      omega
    have hc := ref_code (N := N) (σ := σ) g1 g4 g6 (c := x % 2 ^ b) (l := rv (x / 2 ^ b)) (by omega) (rv_lt hdiv)
    have hcd := cd_le (T := T) (s := s) (fun i hi => (g6 i hi).2) g1 (c := x % 2 ^ b) (l := rv (x / 2 ^ b)) (rv_lt hdiv)
    have hwy : fX9_wayOf N σ (J o) (J x) = some (J (w0 T s b o x), σ) := by
      unfold fX9_wayOf w0 ov
      have h1 : 1 ≤ 2 ^ b := by omega
      simp (decide := true) (disch := omega) only [letS_d, grd_t, bnd_d, bnd1_d, bndX_d, bndX_e, gI_sI, gI_sL, gL_sL, gL_sI, upd_at, updL_at, J_lit, J_add, J_mul, J_sub, J_lt, J_le, J_inj, J_ne, ne_J, m_lt, lt_m, m_le, le_m, J_cl, J_inB, if_true, if_false, ite_true, ite_false, reduceIte, isZ0, isZ1, J_and31, shrJ0, shlJ0, gI_sA, gL_sA, Nat.reduceEqDiff, Nat.reduceAdd, Nat.reduceMul, Nat.reduceLT, Nat.reduceLeDiff, g5, hcod2, J_shr hx512 g3, rv_ref hdiv, J_msk hx512 g3, hc, g4]
      generalize cd T s (x % 2 ^ b) (rv (x / 2 ^ b)) = z
      by_cases hob : o = b
      · by_cases hz : z = s
        · simp [hob, hz]
        · simp [hob, hz]
      · have h32 : o < 32 := by omega
        rw [zb_and z h32]
        cases ht : z.testBit o
        · simp [hob, ht, zb]
        · simp [hob, ht, zb]
    obtain ⟨σ', e1, e2, e3, e4⟩ := ih (x + 1) n (sI σ 46 (512 * o + x) (J (w0 T s b o x))) (by omega) (by omega) (hG.fr (S := [46]) (Fr.i (by decide)) (by decide))
    refine ⟨σ', ?_, (Fr.i (by decide)).tr e2, fun m hm => ?_, fun y h1 h2 => ?_⟩
    · rw [← e1]
      simp (decide := true) (disch := omega) only [letS_d, grd_t, bnd_d, bnd1_d, bndX_d, bndX_e, gI_sI, gI_sL, gL_sL, gL_sI, upd_at, updL_at, J_lit, J_add, J_mul, J_sub, J_lt, J_le, J_inj, J_ne, ne_J, m_lt, lt_m, m_le, le_m, J_cl, J_inB, if_true, if_false, ite_true, ite_false, reduceIte, isZ0, isZ1, J_and31, shrJ0, shlJ0, gI_sA, gL_sA, Nat.reduceEqDiff, Nat.reduceAdd, Nat.reduceMul, Nat.reduceLT, Nat.reduceLeDiff, hcod, hle, hwy]
    · rw [e3 m (by omega)]
      have : ¬ m = 512 * o + x := by omega
      simp (decide := true) (disch := omega) only [letS_d, grd_t, bnd_d, bnd1_d, bndX_d, bndX_e, gI_sI, gI_sL, gL_sL, gL_sI, upd_at, updL_at, J_lit, J_add, J_mul, J_sub, J_lt, J_le, J_inj, J_ne, ne_J, m_lt, lt_m, m_le, le_m, J_cl, J_inB, if_true, if_false, ite_true, ite_false, reduceIte, isZ0, isZ1, J_and31, shrJ0, shlJ0, gI_sA, gL_sA, Nat.reduceEqDiff, Nat.reduceAdd, Nat.reduceMul, Nat.reduceLT, Nat.reduceLeDiff, this]
    · by_cases hxy : y = x
      · subst hxy
        rw [e3 _ (by omega)]
        simp (decide := true) (disch := omega) only [letS_d, grd_t, bnd_d, bnd1_d, bndX_d, bndX_e, gI_sI, gI_sL, gL_sL, gL_sI, upd_at, updL_at, J_lit, J_add, J_mul, J_sub, J_lt, J_le, J_inj, J_ne, ne_J, m_lt, lt_m, m_le, le_m, J_cl, J_inB, if_true, if_false, ite_true, ite_false, reduceIte, isZ0, isZ1, J_and31, shrJ0, shlJ0, gI_sA, gL_sA, Nat.reduceEqDiff, Nat.reduceAdd, Nat.reduceMul, Nat.reduceLT, Nat.reduceLeDiff]
      · exact e4 y (by omega) h2
theorem ref_fill1 (hN : 1000 ≤ N) : ∀ f o n (σ : St), o + f = b + 1 → f < n → Gr s b T σ → ∃ σ', fX9_count_40 N n σ (J (b + 3)) (J o) = fX9_count_96 N N (sI σ' 42 0 (J 0)) (J (b + 2)) ∧ Fr [46] σ σ' ∧ (∀ m, m < 512 * o → gI σ' 46 m = gI σ 46 m) ∧ ∀ o' x, o ≤ o' → o' ≤ b → x < 2 ^ (b + 3) → gI σ' 46 (512 * o' + x) = J (w0 T s b o' x) := by
  intro f
  induction f with
  | zero =>
    intro o n σ ho hn hG
    obtain ⟨n, rfl⟩ : ∃ k, n = k + 1 := ⟨n - 1, by omega⟩
    obtain ⟨g1, g2, g3, g4, g5, g6⟩ := id hG
    obtain rfl : o = b + 1 := by omega
    unfold fX9_count_40
    refine ⟨σ, ?_, Fr.rf, fun _ _ => rfl, fun o' x h1 h2 => by omega⟩
    have h1 : b < b + 1 := by omega
    have h2 : b + 3 - 1 = b + 2 := by omega
    simp (decide := true) (disch := omega) only [letS_d, grd_t, bnd_d, bnd1_d, bndX_d, bndX_e, gI_sI, gI_sL, gL_sL, gL_sI, upd_at, updL_at, J_lit, J_add, J_mul, J_sub, J_lt, J_le, J_inj, J_ne, ne_J, m_lt, lt_m, m_le, le_m, J_cl, J_inB, if_true, if_false, ite_true, ite_false, reduceIte, isZ0, isZ1, J_and31, shrJ0, shlJ0, gI_sA, gL_sA, Nat.reduceEqDiff, Nat.reduceAdd, Nat.reduceMul, Nat.reduceLT, Nat.reduceLeDiff, g5, h1, h2]
  | succ f ih =>
    intro o n σ ho hn hG
    obtain ⟨n, rfl⟩ : ∃ k, n = k + 1 := ⟨n - 1, by omega⟩
    obtain ⟨g1, g2, g3, g4, g5, g6⟩ := id hG
    have hp9 := p2 g3
    unfold fX9_count_40
    have hb : ¬ b < o := by omega
    obtain ⟨σ1, a1, a2, a3, a4⟩ := ref_fill0 (N := N) (s := s) (T := T) (show o ≤ b by omega) (fX9_count_40 N n) (2 ^ (b + 3)) 0 N σ (by omega) (by omega) hG
    obtain ⟨σ', e1, e2, e3, e4⟩ := ih (o + 1) n σ1 (by omega) (by omega) (hG.fr a2 (by decide))
    refine ⟨σ', ?_, a2.tr e2, fun m hm => ?_, fun o' x h1 h2 h3 => ?_⟩
    · simp (decide := true) (disch := omega) only [letS_d, grd_t, bnd_d, bnd1_d, bndX_d, bndX_e, gI_sI, gI_sL, gL_sL, gL_sI, upd_at, updL_at, J_lit, J_add, J_mul, J_sub, J_lt, J_le, J_inj, J_ne, ne_J, m_lt, lt_m, m_le, le_m, J_cl, J_inB, if_true, if_false, ite_true, ite_false, reduceIte, isZ0, isZ1, J_and31, shrJ0, shlJ0, gI_sA, gL_sA, Nat.reduceEqDiff, Nat.reduceAdd, Nat.reduceMul, Nat.reduceLT, Nat.reduceLeDiff, g5, hb]
      exact a1.trans e1
    · rw [e3 m (by omega), a3 m (by omega)]
    · by_cases hoo : o' = o
      · subst hoo
        rw [e3 _ (by omega)]
        exact a4 x (by omega) h3
      · exact e4 o' x (by omega) h2 h3
/-- the pairs that one level has joined so far -/
def Pr (V q pc : Nat) (τ σ : St) : Prop := gI τ 85 0 = J pc ∧ gI σ 42 0 = J (q + pc) ∧ (∀ j, j < pc → ∃ u v, u < V ∧ v < V ∧ u ≠ v ∧ gI σ 47 (q + j) = J u ∧ gI σ 48 (q + j) = J v ∧ gI τ 84 j = J (7168 * u + v)) ∧ ∀ i j, i < j → j < pc → gI τ 84 i ≠ gI τ 84 j
theorem Pr.fr {V q pc : Nat} {τ τ' σ σ' : St} {S S' : List Nat} (h : Pr V q pc τ σ) (f : Fr S τ τ') (f' : Fr S' σ σ') (d : ∀ k ∈ [84, 85], k ∉ S) (d' : ∀ k ∈ [42, 47, 48], k ∉ S') : Pr V q pc τ' σ' := by
  unfold Pr
  rw [f.gi (d 84 (by decide)), f.gi (d 85 (by decide)), f'.gi (d' 42 (by decide)), f'.gi (d' 47 (by decide)), f'.gi (d' 48 (by decide))]
  exact h
theorem both_find {V q pc : Nat} {τ σ : St} (hV : V ≤ 7000) (hq : q + pc < 1800) (hpc : pc < 1792) (h : Pr V q pc τ σ) {a c : Nat} (ha : a < V) (hc : c < V) (hac : a ≠ c) : ∀ f j n n', j + f = pc → f < n → f < n' → (∀ i, i < j → gI τ 84 i ≠ J (7168 * a + c)) → ∃ r pc' τ' σ', fX2_join_19 N n τ (J (q + 2)) (J (7168 * a + c)) (J j) = some (J r, τ') ∧ fX9_pair_10 N n' σ (J a) (J c) (J (q + j)) = some (J r, σ') ∧ Fr [84, 85] τ τ' ∧ Fr [42, 47, 48] σ σ' ∧ pc ≤ pc' ∧ pc' ≤ pc + 1 ∧ r < q + 2 + pc' ∧ Pr V q pc' τ' σ' := by
  obtain ⟨h1, h2, h3, h4⟩ := id h
  intro f
  induction f with
  | zero =>
    intro j n n' hj hn hn' hno
    obtain ⟨n, rfl⟩ : ∃ k, n = k + 1 := ⟨n - 1, by omega⟩
    obtain ⟨n', rfl⟩ : ∃ k, n' = k + 1 := ⟨n' - 1, by omega⟩
    obtain rfl : j = pc := by omega
    unfold fX2_join_19 fX9_pair_10
    have e1 : q + 2 + (j + 1) - 1 = q + 2 + j := by omega
    have e2 : 1 + (q + j + 1) = q + 2 + j := by omega
    refine ⟨q + 2 + j, j + 1, sI (sI τ 84 j (J (7168 * a + c))) 85 0 (J (j + 1)), sI (sI (sI σ 47 (q + j) (J a)) 48 (q + j) (J c)) 42 0 (J (q + j + 1)), ?_, ?_, (Fr.i (by decide)).tr (Fr.i (by decide)), ((Fr.i (by decide)).tr (Fr.i (by decide))).tr (Fr.i (by decide)), by omega, by omega, by omega, ?_, ?_, fun i hi => ?_, fun i i' hi hi' => ?_⟩
    · simp (decide := true) (disch := omega) only [letS_d, grd_t, bnd_d, bnd1_d, bndX_d, bndX_e, gI_sI, gI_sL, gL_sL, gL_sI, upd_at, updL_at, J_lit, J_add, J_mul, J_sub, J_lt, J_le, J_inj, J_ne, ne_J, m_lt, lt_m, m_le, le_m, J_cl, J_inB, if_true, if_false, ite_true, ite_false, reduceIte, isZ0, isZ1, J_and31, shrJ0, shlJ0, gI_sA, gL_sA, Nat.reduceEqDiff, Nat.reduceAdd, Nat.reduceMul, Nat.reduceLT, Nat.reduceLeDiff, h1, Nat.le_refl, e1]
    · simp (decide := true) (disch := omega) only [letS_d, grd_t, bnd_d, bnd1_d, bndX_d, bndX_e, gI_sI, gI_sL, gL_sL, gL_sI, upd_at, updL_at, J_lit, J_add, J_mul, J_sub, J_lt, J_le, J_inj, J_ne, ne_J, m_lt, lt_m, m_le, le_m, J_cl, J_inB, if_true, if_false, ite_true, ite_false, reduceIte, isZ0, isZ1, J_and31, shrJ0, shlJ0, gI_sA, gL_sA, Nat.reduceEqDiff, Nat.reduceAdd, Nat.reduceMul, Nat.reduceLT, Nat.reduceLeDiff, h2, Nat.le_refl, e2]
    · simp (decide := true) (disch := omega) only [letS_d, grd_t, bnd_d, bnd1_d, bndX_d, bndX_e, gI_sI, gI_sL, gL_sL, gL_sI, upd_at, updL_at, J_lit, J_add, J_mul, J_sub, J_lt, J_le, J_inj, J_ne, ne_J, m_lt, lt_m, m_le, le_m, J_cl, J_inB, if_true, if_false, ite_true, ite_false, reduceIte, isZ0, isZ1, J_and31, shrJ0, shlJ0, gI_sA, gL_sA, Nat.reduceEqDiff, Nat.reduceAdd, Nat.reduceMul, Nat.reduceLT, Nat.reduceLeDiff]
    · simp (decide := true) (disch := omega) only [letS_d, grd_t, bnd_d, bnd1_d, bndX_d, bndX_e, gI_sI, gI_sL, gL_sL, gL_sI, upd_at, updL_at, J_lit, J_add, J_mul, J_sub, J_lt, J_le, J_inj, J_ne, ne_J, m_lt, lt_m, m_le, le_m, J_cl, J_inB, if_true, if_false, ite_true, ite_false, reduceIte, isZ0, isZ1, J_and31, shrJ0, shlJ0, gI_sA, gL_sA, Nat.reduceEqDiff, Nat.reduceAdd, Nat.reduceMul, Nat.reduceLT, Nat.reduceLeDiff]
      rw [Nat.add_assoc]
    · by_cases hij : i = j
      · subst hij
        exact ⟨a, c, ha, hc, hac, by simp (decide := true) (disch := omega) only [letS_d, grd_t, bnd_d, bnd1_d, bndX_d, bndX_e, gI_sI, gI_sL, gL_sL, gL_sI, upd_at, updL_at, J_lit, J_add, J_mul, J_sub, J_lt, J_le, J_inj, J_ne, ne_J, m_lt, lt_m, m_le, le_m, J_cl, J_inB, if_true, if_false, ite_true, ite_false, reduceIte, isZ0, isZ1, J_and31, shrJ0, shlJ0, gI_sA, gL_sA, Nat.reduceEqDiff, Nat.reduceAdd, Nat.reduceMul, Nat.reduceLT, Nat.reduceLeDiff], by simp (decide := true) (disch := omega) only [letS_d, grd_t, bnd_d, bnd1_d, bndX_d, bndX_e, gI_sI, gI_sL, gL_sL, gL_sI, upd_at, updL_at, J_lit, J_add, J_mul, J_sub, J_lt, J_le, J_inj, J_ne, ne_J, m_lt, lt_m, m_le, le_m, J_cl, J_inB, if_true, if_false, ite_true, ite_false, reduceIte, isZ0, isZ1, J_and31, shrJ0, shlJ0, gI_sA, gL_sA, Nat.reduceEqDiff, Nat.reduceAdd, Nat.reduceMul, Nat.reduceLT, Nat.reduceLeDiff], by simp (decide := true) (disch := omega) only [letS_d, grd_t, bnd_d, bnd1_d, bndX_d, bndX_e, gI_sI, gI_sL, gL_sL, gL_sI, upd_at, updL_at, J_lit, J_add, J_mul, J_sub, J_lt, J_le, J_inj, J_ne, ne_J, m_lt, lt_m, m_le, le_m, J_cl, J_inB, if_true, if_false, ite_true, ite_false, reduceIte, isZ0, isZ1, J_and31, shrJ0, shlJ0, gI_sA, gL_sA, Nat.reduceEqDiff, Nat.reduceAdd, Nat.reduceMul, Nat.reduceLT, Nat.reduceLeDiff]⟩
      · obtain ⟨u, v, u1, u2, u3, u4, u5, u6⟩ := h3 i (by omega)
        have hne : ¬ q + i = q + j := by omega
        exact ⟨u, v, u1, u2, u3, by simp (decide := true) (disch := omega) only [letS_d, grd_t, bnd_d, bnd1_d, bndX_d, bndX_e, gI_sI, gI_sL, gL_sL, gL_sI, upd_at, updL_at, J_lit, J_add, J_mul, J_sub, J_lt, J_le, J_inj, J_ne, ne_J, m_lt, lt_m, m_le, le_m, J_cl, J_inB, if_true, if_false, ite_true, ite_false, reduceIte, isZ0, isZ1, J_and31, shrJ0, shlJ0, gI_sA, gL_sA, Nat.reduceEqDiff, Nat.reduceAdd, Nat.reduceMul, Nat.reduceLT, Nat.reduceLeDiff, hne]; exact u4, by simp (decide := true) (disch := omega) only [letS_d, grd_t, bnd_d, bnd1_d, bndX_d, bndX_e, gI_sI, gI_sL, gL_sL, gL_sI, upd_at, updL_at, J_lit, J_add, J_mul, J_sub, J_lt, J_le, J_inj, J_ne, ne_J, m_lt, lt_m, m_le, le_m, J_cl, J_inB, if_true, if_false, ite_true, ite_false, reduceIte, isZ0, isZ1, J_and31, shrJ0, shlJ0, gI_sA, gL_sA, Nat.reduceEqDiff, Nat.reduceAdd, Nat.reduceMul, Nat.reduceLT, Nat.reduceLeDiff, hne]; exact u5, by simp (decide := true) (disch := omega) only [letS_d, grd_t, bnd_d, bnd1_d, bndX_d, bndX_e, gI_sI, gI_sL, gL_sL, gL_sI, upd_at, updL_at, J_lit, J_add, J_mul, J_sub, J_lt, J_le, J_inj, J_ne, ne_J, m_lt, lt_m, m_le, le_m, J_cl, J_inB, if_true, if_false, ite_true, ite_false, reduceIte, isZ0, isZ1, J_and31, shrJ0, shlJ0, gI_sA, gL_sA, Nat.reduceEqDiff, Nat.reduceAdd, Nat.reduceMul, Nat.reduceLT, Nat.reduceLeDiff, hij]; exact u6⟩
    · by_cases hij : i' = j
      · subst hij
        have hne : ¬ i = i' := by omega
        simp (decide := true) (disch := omega) only [letS_d, grd_t, bnd_d, bnd1_d, bndX_d, bndX_e, gI_sI, gI_sL, gL_sL, gL_sI, upd_at, updL_at, J_lit, J_add, J_mul, J_sub, J_lt, J_le, J_inj, J_ne, ne_J, m_lt, lt_m, m_le, le_m, J_cl, J_inB, if_true, if_false, ite_true, ite_false, reduceIte, isZ0, isZ1, J_and31, shrJ0, shlJ0, gI_sA, gL_sA, Nat.reduceEqDiff, Nat.reduceAdd, Nat.reduceMul, Nat.reduceLT, Nat.reduceLeDiff, hne]
        exact hno i hi
      · have hne : ¬ i = j := by omega
        simp (decide := true) (disch := omega) only [letS_d, grd_t, bnd_d, bnd1_d, bndX_d, bndX_e, gI_sI, gI_sL, gL_sL, gL_sI, upd_at, updL_at, J_lit, J_add, J_mul, J_sub, J_lt, J_le, J_inj, J_ne, ne_J, m_lt, lt_m, m_le, le_m, J_cl, J_inB, if_true, if_false, ite_true, ite_false, reduceIte, isZ0, isZ1, J_and31, shrJ0, shlJ0, gI_sA, gL_sA, Nat.reduceEqDiff, Nat.reduceAdd, Nat.reduceMul, Nat.reduceLT, Nat.reduceLeDiff, hne, hij]
        exact h4 i i' hi (by omega)
  | succ f ih =>
    intro j n n' hj hn hn' hno
    obtain ⟨n, rfl⟩ : ∃ k, n = k + 1 := ⟨n - 1, by omega⟩
    obtain ⟨n', rfl⟩ : ∃ k, n' = k + 1 := ⟨n' - 1, by omega⟩
    unfold fX2_join_19 fX9_pair_10
    have n1 : ¬ pc ≤ j := by omega
    have n2 : ¬ q + pc ≤ q + j := by omega
    obtain ⟨u, v, u1, u2, u3, u4, u5, u6⟩ := h3 j (by omega)
    by_cases hm : 7168 * u + v = 7168 * a + c
    · have hua : u = a := by omega
      have hvc : v = c := by omega
      subst hua hvc
      refine ⟨q + 2 + j, pc, τ, σ, ?_, ?_, Fr.rf, Fr.rf, by omega, by omega, by omega, h⟩
      · simp (decide := true) (disch := omega) only [letS_d, grd_t, bnd_d, bnd1_d, bndX_d, bndX_e, gI_sI, gI_sL, gL_sL, gL_sI, upd_at, updL_at, J_lit, J_add, J_mul, J_sub, J_lt, J_le, J_inj, J_ne, ne_J, m_lt, lt_m, m_le, le_m, J_cl, J_inB, if_true, if_false, ite_true, ite_false, reduceIte, isZ0, isZ1, J_and31, shrJ0, shlJ0, gI_sA, gL_sA, Nat.reduceEqDiff, Nat.reduceAdd, Nat.reduceMul, Nat.reduceLT, Nat.reduceLeDiff, h1, n1, u6]
      · have e : 2 + (q + j) = q + 2 + j := by omega
        simp (decide := true) (disch := omega) only [letS_d, grd_t, bnd_d, bnd1_d, bndX_d, bndX_e, gI_sI, gI_sL, gL_sL, gL_sI, upd_at, updL_at, J_lit, J_add, J_mul, J_sub, J_lt, J_le, J_inj, J_ne, ne_J, m_lt, lt_m, m_le, le_m, J_cl, J_inB, if_true, if_false, ite_true, ite_false, reduceIte, isZ0, isZ1, J_and31, shrJ0, shlJ0, gI_sA, gL_sA, Nat.reduceEqDiff, Nat.reduceAdd, Nat.reduceMul, Nat.reduceLT, Nat.reduceLeDiff, h2, n2, u4, u5, e]
    · obtain ⟨r, pc', τ', σ', b1, b2, b3⟩ := ih (j + 1) n n' (by omega) (by omega) (by omega) (fun i hi => by
        by_cases hij : i = j
        · subst hij
          rw [u6]
          intro h9
          rw [J_inj (by omega) (by omega)] at h9
          exact hm h9
        · exact hno i (by omega))
      refine ⟨r, pc', τ', σ', ?_, ?_, b3⟩
      · simp (decide := true) (disch := omega) only [letS_d, grd_t, bnd_d, bnd1_d, bndX_d, bndX_e, gI_sI, gI_sL, gL_sL, gL_sI, upd_at, updL_at, J_lit, J_add, J_mul, J_sub, J_lt, J_le, J_inj, J_ne, ne_J, m_lt, lt_m, m_le, le_m, J_cl, J_inB, if_true, if_false, ite_true, ite_false, reduceIte, isZ0, isZ1, J_and31, shrJ0, shlJ0, gI_sA, gL_sA, Nat.reduceEqDiff, Nat.reduceAdd, Nat.reduceMul, Nat.reduceLT, Nat.reduceLeDiff, h1, n1, u6, hm]
        exact b1
      · have b2' : fX9_pair_46 N (fX9_pair_10 N n') σ (J a) (J c) (J (q + j)) = some (J r, σ') := by
          unfold fX9_pair_46
          simp (decide := true) (disch := omega) only [letS_d, grd_t, bnd_d, bnd1_d, bndX_d, bndX_e, gI_sI, gI_sL, gL_sL, gL_sI, upd_at, updL_at, J_lit, J_add, J_mul, J_sub, J_lt, J_le, J_inj, J_ne, ne_J, m_lt, lt_m, m_le, le_m, J_cl, J_inB, if_true, if_false, ite_true, ite_false, reduceIte, isZ0, isZ1, J_and31, shrJ0, shlJ0, gI_sA, gL_sA, Nat.reduceEqDiff, Nat.reduceAdd, Nat.reduceMul, Nat.reduceLT, Nat.reduceLeDiff]
          rw [Nat.add_assoc]
          exact b2
        by_cases hu : u = a
        · have hv : ¬ v = c := by
            intro h9
            subst hu h9
            exact hm rfl
          simp (decide := true) (disch := omega) only [letS_d, grd_t, bnd_d, bnd1_d, bndX_d, bndX_e, gI_sI, gI_sL, gL_sL, gL_sI, upd_at, updL_at, J_lit, J_add, J_mul, J_sub, J_lt, J_le, J_inj, J_ne, ne_J, m_lt, lt_m, m_le, le_m, J_cl, J_inB, if_true, if_false, ite_true, ite_false, reduceIte, isZ0, isZ1, J_and31, shrJ0, shlJ0, gI_sA, gL_sA, Nat.reduceEqDiff, Nat.reduceAdd, Nat.reduceMul, Nat.reduceLT, Nat.reduceLeDiff, h2, n2, u4, u5, hu, hv]
          exact b2'
        · simp (decide := true) (disch := omega) only [letS_d, grd_t, bnd_d, bnd1_d, bndX_d, bndX_e, gI_sI, gI_sL, gL_sL, gL_sI, upd_at, updL_at, J_lit, J_add, J_mul, J_sub, J_lt, J_le, J_inj, J_ne, ne_J, m_lt, lt_m, m_le, le_m, J_cl, J_inB, if_true, if_false, ite_true, ite_false, reduceIte, isZ0, isZ1, J_and31, shrJ0, shlJ0, gI_sA, gL_sA, Nat.reduceEqDiff, Nat.reduceAdd, Nat.reduceMul, Nat.reduceLT, Nat.reduceLeDiff, h2, n2, u4, hu]
          exact b2'
theorem both_join (hN : 2000 ≤ N) {V q pc : Nat} {τ σ : St} (hV : V ≤ 7000) (hVq : V ≤ q + 2) (hq : q + pc < 1800) (hpc : pc < 1792) (h : Pr V q pc τ σ) {a c : Nat} (ha : a < V) (hc : c < V) : ∃ r pc' τ' σ', fX2_join N τ (J a) (J c) (J (q + 2)) = some (J r, τ') ∧ fX9_pair N σ (J a) (J c) (J q) = some (J r, σ') ∧ Fr [84, 85] τ τ' ∧ Fr [42, 47, 48] σ σ' ∧ pc ≤ pc' ∧ pc' ≤ pc + 1 ∧ r < q + 2 + pc' ∧ Pr V q pc' τ' σ' := by
  unfold fX2_join fX9_pair
  by_cases hac : a = c
  · subst hac
    exact ⟨a, pc, τ, σ, by simp (decide := true) (disch := omega) only [letS_d, grd_t, bnd_d, bnd1_d, bndX_d, bndX_e, gI_sI, gI_sL, gL_sL, gL_sI, upd_at, updL_at, J_lit, J_add, J_mul, J_sub, J_lt, J_le, J_inj, J_ne, ne_J, m_lt, lt_m, m_le, le_m, J_cl, J_inB, if_true, if_false, ite_true, ite_false, reduceIte, isZ0, isZ1, J_and31, shrJ0, shlJ0, gI_sA, gL_sA, Nat.reduceEqDiff, Nat.reduceAdd, Nat.reduceMul, Nat.reduceLT, Nat.reduceLeDiff], by simp (decide := true) (disch := omega) only [letS_d, grd_t, bnd_d, bnd1_d, bndX_d, bndX_e, gI_sI, gI_sL, gL_sL, gL_sI, upd_at, updL_at, J_lit, J_add, J_mul, J_sub, J_lt, J_le, J_inj, J_ne, ne_J, m_lt, lt_m, m_le, le_m, J_cl, J_inB, if_true, if_false, ite_true, ite_false, reduceIte, isZ0, isZ1, J_and31, shrJ0, shlJ0, gI_sA, gL_sA, Nat.reduceEqDiff, Nat.reduceAdd, Nat.reduceMul, Nat.reduceLT, Nat.reduceLeDiff], Fr.rf, Fr.rf, by omega, by omega, by omega, h⟩
  · obtain ⟨r, pc', τ', σ', b1, b2, b3⟩ := both_find (N := N) hV hq hpc h ha hc hac pc 0 N N (by omega) (by omega) (by omega) (fun i hi => by omega)
    refine ⟨r, pc', τ', σ', ?_, ?_, b3⟩
    · have e : a * 7168 = 7168 * a := Nat.mul_comm _ _
      simp (decide := true) (disch := omega) only [letS_d, grd_t, bnd_d, bnd1_d, bndX_d, bndX_e, gI_sI, gI_sL, gL_sL, gL_sI, upd_at, updL_at, J_lit, J_add, J_mul, J_sub, J_lt, J_le, J_inj, J_ne, ne_J, m_lt, lt_m, m_le, le_m, J_cl, J_inB, if_true, if_false, ite_true, ite_false, reduceIte, isZ0, isZ1, J_and31, shrJ0, shlJ0, gI_sA, gL_sA, Nat.reduceEqDiff, Nat.reduceAdd, Nat.reduceMul, Nat.reduceLT, Nat.reduceLeDiff, hac, e]
      exact b1
    · simp (decide := true) (disch := omega) only [letS_d, grd_t, bnd_d, bnd1_d, bndX_d, bndX_e, gI_sI, gI_sL, gL_sL, gL_sI, upd_at, updL_at, J_lit, J_add, J_mul, J_sub, J_lt, J_le, J_inj, J_ne, ne_J, m_lt, lt_m, m_le, le_m, J_cl, J_inB, if_true, if_false, ite_true, ite_false, reduceIte, isZ0, isZ1, J_and31, shrJ0, shlJ0, gI_sA, gL_sA, Nat.reduceEqDiff, Nat.reduceAdd, Nat.reduceMul, Nat.reduceLT, Nat.reduceLeDiff, hac]
      exact b2
end GATE
