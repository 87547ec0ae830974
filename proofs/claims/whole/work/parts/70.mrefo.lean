/-! the reference's reader: what opens something -/
section OPN
variable {N ln : Nat} {ch : Nat → Nat}
/-- what is expected behind a beginning -/
def spK (N w dep c : Nat) (r22 : Int32) (σ25 : St) : Option St := if J c = (40 : Int32) then bnd1 (fX9_expect N σ25 (3 : Int32) (41 : Int32) (0 : Int32)) fun σ37 => bnd1 (fX9_expect N σ37 (J w) r22 (J dep + (1 : Int32))) fun σ38 => if J (wY w) = 0 then fX9_sprout_218 N σ38 (J w) (J dep) r22 (5 : Int32) else fX9_sprout_218 N σ38 (J w) (J dep) r22 (4 : Int32) else if J c = (123 : Int32) then bnd1 (fX9_expect N σ25 (1 : Int32) r22 (J dep + (1 : Int32))) fun σ30 => bnd1 (fX9_expect N σ30 (6 : Int32) r22 (0 : Int32)) fun σ31 => bnd1 (fX9_expect N σ31 (3 : Int32) (125 : Int32) (0 : Int32)) fun σ32 => bnd (fX9_node N σ32 (10 : Int32)) fun r34 σ33 => bnd1 (fX9_hang N σ33 r22 r34) fun σ35 => bnd1 (fX9_expect N σ35 (7 : Int32) r34 (J dep + (1 : Int32))) fun σ36 => some σ36 else if J c = (33 : Int32) then fX9_sprout_314 N σ25 (J dep) r22 (2 : Int32) else fX9_sprout_314 N σ25 (J dep) r22 (1 : Int32)
theorem ref_open {p x w dep c kd : Nat} {par : Option Nat} {L : List IT} {σ : St} (h : RQ ch ln p x ((J w, pI par, J dep) :: L) σ) (hw : w = 1 ∨ w = 2) (hdep : dep ≤ 12) (hx : x < 160) (hp : HO (nd σ) par) (hpx : ∀ k, par = some k → k < x) (hc : ch p = c) (hcs : (c = 33 ∧ kd = 2) ∨ (c = 40 ∧ kd = 3) ∨ (w = 1 ∧ ((c = 71 ∧ kd = 6) ∨ (c = 88 ∧ kd = 7) ∨ (c = 123 ∧ kd = 8)))) : ∃ σ', fX9_take N (sI σ 13 0 (J L.length)) (J w) (pI par) (J dep) = bnd1 (spK N w dep c (J x) σ') (fun σ53 => some σ53) ∧ RQ ch ln (p + 1) (x + 1) L σ' ∧ Fr RdL (sI σ 13 0 (J L.length)) σ' ∧ nd σ' x = (J kd, -J 1, -J 1, -J 1, -J 1, J 1) ∧ ∀ i, i < x → nd σ' i = hangF (nd σ) par x i := by
  have h1 := h.pop
  have hpl := h.lt (i := p) (by omega)
  have hc1 : c < 128 := by omega
  have hlit : litv c = none := by
    rcases hcs with ⟨rfl, _⟩ | ⟨rfl, _⟩ | ⟨_, ⟨rfl, _⟩ | ⟨rfl, _⟩ | ⟨rfl, _⟩⟩ <;> rfl
  obtain ⟨s1, s2, s3, s4⟩ := ref_sp76 (N := N) (x1 := J w) (x2 := pI par) (x3 := J dep) (x5 := J (wY w)) (x6 := -J 1) (c := c) h1 hpl hc1
  have hn1 : nd (sI σ 13 0 (J L.length)) = nd σ := nd_of (S := [13]) (Fr.i (by decide)) (by decide)
  rw [hn1] at s2
  obtain ⟨σ', t1, t2, t3, t4, t5⟩ := ref_sp (N := N) (k := kd) (par := par) (x6 := -J 1) s1 hx (by rw [s2]; exact hp) hpx
  rw [s2] at t5
  refine ⟨σ', ?_, t2, s3.tr t3, t4, t5⟩
  rw [ref_take_sp h1 hw, hc]
  unfold fX9_sprout_10
  rw [ref_lit hc1, bnd_d, hlit]
  have hkd : (if c = 33 then 2 else if c = 40 then 3 else if c = 71 then 6 else if c = 88 then 7 else 8) = kd := by
    rcases hcs with ⟨rfl, rfl⟩ | ⟨rfl, rfl⟩ | ⟨_, ⟨rfl, rfl⟩ | ⟨rfl, rfl⟩ | ⟨rfl, rfl⟩⟩ <;> rfl
  rw [hkd, if_pos (show -J 1 < (0 : Int32) by decide)] at s4
  have h155 := t1 (fun r22 σ25 => if -J 1 < (0 : Int32) then spK N w dep c r22 σ25 else some σ25)
  have s5 : fX9_sprout_71 N (sI σ 13 0 (J L.length)) (J w) (pI par) (J dep) (J c) (J (wY w)) (-J 1) = spK N w dep c (J x) σ' := by
    unfold fX9_sprout_71
    rw [show (1 : Int32) = J 1 from rfl, s4]
    exact h155.trans (if_pos (by decide))
  have hd : ¬ (12 : Int32) < J dep := by
    show ¬ J 12 < J dep
    rw [J_lt (by omega) (by omega)]
    omega
  have hm : ¬ (0 : Int32) ≤ -J 1 := by decide
  rw [if_neg hd, if_neg hm]
  rcases hcs with ⟨rfl, _⟩ | ⟨rfl, _⟩ | ⟨rfl, ⟨rfl, _⟩ | ⟨rfl, _⟩ | ⟨rfl, _⟩⟩
  · rw [← s5]
    rfl
  · rw [← s5]
    rfl
  · rw [← s5]
    rfl
  · rw [← s5]
    rfl
  · rw [← s5]
    rfl
/-- ! G X -/
theorem ref_one {p x w dep c kd w2 : Nat} {par : Option Nat} {L : List IT} {σ : St} (h : RQ ch ln p x ((J w, pI par, J dep) :: L) σ) (hL : L.length < 150) (hw : w = 1 ∨ w = 2) (hdep : dep ≤ 12) (hx : x < 160) (hp : HO (nd σ) par) (hpx : ∀ k, par = some k → k < x) (hc : ch p = c) (hcs : (c = 33 ∧ kd = 2 ∧ w2 = 2) ∨ (w = 1 ∧ w2 = 1 ∧ ((c = 71 ∧ kd = 6) ∨ (c = 88 ∧ kd = 7)))) : ∃ σ', Go N 1 σ σ' ∧ RQ ch ln (p + 1) (x + 1) ((J w2, J x, J (dep + 1)) :: L) σ' ∧ nd σ' x = (J kd, -J 1, -J 1, -J 1, -J 1, J 1) ∧ ∀ i, i < x → nd σ' i = hangF (nd σ) par x i := by
  obtain ⟨σ1, a1, a2, a3, a4, a5⟩ := ref_open (N := N) (c := c) (kd := kd) h hw hdep hx hp hpx hc (by
    rcases hcs with ⟨h1, h2, _⟩ | ⟨h1, _, ⟨h2, h3⟩ | ⟨h2, h3⟩⟩
    · exact Or.inl ⟨h1, h2⟩
    · exact Or.inr (Or.inr ⟨h1, Or.inl ⟨h2, h3⟩⟩)
    · exact Or.inr (Or.inr ⟨h1, Or.inr (Or.inl ⟨h2, h3⟩)⟩))
  obtain ⟨σ2, b1, b2, b3, b4⟩ := ref_expect (N := N) a2 (by omega) (J w2) (J x) (J (dep + 1))
  refine ⟨σ2, Go.step h (by omega) ?_ (a3.tr b3), b2, by rw [b4]; exact a4, fun i hi => by rw [b4]; exact a5 i hi⟩
  refine a1.trans ?_
  unfold spK fX9_sprout_314
  rw [show J dep + (1 : Int32) = J (dep + 1) from J_add _ _]
  rcases hcs with ⟨rfl, _, rfl⟩ | ⟨_, rfl, ⟨rfl, _⟩ | ⟨rfl, _⟩⟩
  · simp (decide := true) (disch := omega) only [letS_d, grd_tt, bnd_d, bnd1_d, bndX_d, bndX_e, gI_at, gI_ne, gI_sL, gL_sL, gL_sI, upd_at, updL_at, J_lit, J_add, J_mul, J_sub, J_lt, J_le, J_inj, J_ne, ne_J, m_lt, lt_m, m_le, le_m, J_cl, J_inB, if_true, if_false, ite_true, ite_false, reduceIte, isZ0, isZ1, J_and31, shrJ0, shlJ0, gI_sA, gL_sA, Nat.reduceEqDiff, Nat.reduceAdd, Nat.reduceMul, Nat.reduceLT, Nat.reduceLeDiff, b1]
  · simp (decide := true) (disch := omega) only [letS_d, grd_tt, bnd_d, bnd1_d, bndX_d, bndX_e, gI_at, gI_ne, gI_sL, gL_sL, gL_sI, upd_at, updL_at, J_lit, J_add, J_mul, J_sub, J_lt, J_le, J_inj, J_ne, ne_J, m_lt, lt_m, m_le, le_m, J_cl, J_inB, if_true, if_false, ite_true, ite_false, reduceIte, isZ0, isZ1, J_and31, shrJ0, shlJ0, gI_sA, gL_sA, Nat.reduceEqDiff, Nat.reduceAdd, Nat.reduceMul, Nat.reduceLT, Nat.reduceLeDiff, b1]
  · simp (decide := true) (disch := omega) only [letS_d, grd_tt, bnd_d, bnd1_d, bndX_d, bndX_e, gI_at, gI_ne, gI_sL, gL_sL, gL_sI, upd_at, updL_at, J_lit, J_add, J_mul, J_sub, J_lt, J_le, J_inj, J_ne, ne_J, m_lt, lt_m, m_le, le_m, J_cl, J_inB, if_true, if_false, ite_true, ite_false, reduceIte, isZ0, isZ1, J_and31, shrJ0, shlJ0, gI_sA, gL_sA, Nat.reduceEqDiff, Nat.reduceAdd, Nat.reduceMul, Nat.reduceLT, Nat.reduceLeDiff, b1]
/-- ( -/
theorem ref_paren {p x w dep : Nat} {par : Option Nat} {L : List IT} {σ : St} (h : RQ ch ln p x ((J w, pI par, J dep) :: L) σ) (hL : L.length < 150) (hw : w = 1 ∨ w = 2) (hdep : dep ≤ 12) (hx : x < 160) (hp : HO (nd σ) par) (hpx : ∀ k, par = some k → k < x) (hc : ch p = 40) : ∃ σ', Go N 1 σ σ' ∧ RQ ch ln (p + 1) (x + 1) ((J w, J x, J (dep + 1)) :: (J (if w = 1 then 4 else 5), J x, J 0) :: (J w, J x, J (dep + 1)) :: (J 3, J 41, J 0) :: L) σ' ∧ nd σ' x = (J 3, -J 1, -J 1, -J 1, -J 1, J 1) ∧ ∀ i, i < x → nd σ' i = hangF (nd σ) par x i := by
  obtain ⟨σ1, a1, a2, a3, a4, a5⟩ := ref_open (N := N) (c := 40) (kd := 3) h hw hdep hx hp hpx hc (Or.inr (Or.inl ⟨rfl, rfl⟩))
  obtain ⟨σ2, b1, b2, b3, b4⟩ := ref_expect (N := N) a2 (by omega) (J 3) (J 41) (J 0)
  obtain ⟨σ3, c1, c2, c3, c4⟩ := ref_expect (N := N) b2 (by simp only [List.length_cons]; omega) (J w) (J x) (J (dep + 1))
  obtain ⟨σ4, d1, d2, d3, d4⟩ := ref_expect (N := N) c2 (by simp only [List.length_cons]; omega) (J (if w = 1 then 4 else 5)) (J x) (J 0)
  obtain ⟨σ5, e1, e2, e3, e4⟩ := ref_expect (N := N) d2 (by simp only [List.length_cons]; omega) (J w) (J x) (J (dep + 1))
  have hn : nd σ5 = nd σ1 := by rw [e4, d4, c4, b4]
  refine ⟨σ5, Go.step h (by omega) ?_ ((((a3.tr b3).tr c3).tr d3).tr e3), e2, by rw [hn]; exact a4, fun i hi => by rw [hn]; exact a5 i hi⟩
  refine a1.trans ?_
  unfold spK fX9_sprout_218
  rw [show J dep + (1 : Int32) = J (dep + 1) from J_add _ _]
  rcases hw with rfl | rfl
  · have e : wY 1 = 1 := rfl
    rw [if_pos (show (1 : Nat) = 1 from rfl)] at d1
    simp (decide := true) (disch := omega) only [letS_d, grd_tt, bnd_d, bnd1_d, bndX_d, bndX_e, gI_at, gI_ne, gI_sL, gL_sL, gL_sI, upd_at, updL_at, J_lit, J_add, J_mul, J_sub, J_lt, J_le, J_inj, J_ne, ne_J, m_lt, lt_m, m_le, le_m, J_cl, J_inB, if_true, if_false, ite_true, ite_false, reduceIte, isZ0, isZ1, J_and31, shrJ0, shlJ0, gI_sA, gL_sA, Nat.reduceEqDiff, Nat.reduceAdd, Nat.reduceMul, Nat.reduceLT, Nat.reduceLeDiff, b1, c1, e, d1, e1]
  · have e : wY 2 = 0 := rfl
    rw [if_neg (show ¬ (2 : Nat) = 1 by decide)] at d1
    simp (decide := true) (disch := omega) only [letS_d, grd_tt, bnd_d, bnd1_d, bndX_d, bndX_e, gI_at, gI_ne, gI_sL, gL_sL, gL_sI, upd_at, updL_at, J_lit, J_add, J_mul, J_sub, J_lt, J_le, J_inj, J_ne, ne_J, m_lt, lt_m, m_le, le_m, J_cl, J_inB, if_true, if_false, ite_true, ite_false, reduceIte, isZ0, isZ1, J_and31, shrJ0, shlJ0, gI_sA, gL_sA, Nat.reduceEqDiff, Nat.reduceAdd, Nat.reduceMul, Nat.reduceLT, Nat.reduceLeDiff, b1, c1, e, d1, e1]
/-- { -/
theorem ref_brace {p x dep : Nat} {par : Option Nat} {L : List IT} {σ : St} (h : RQ ch ln p x ((J 1, pI par, J dep) :: L) σ) (hL : L.length < 150) (hdep : dep ≤ 12) (hx : x + 1 < 160) (hp : HO (nd σ) par) (hpx : ∀ k, par = some k → k < x) (hc : ch p = 123) : ∃ σ', Go N 1 σ σ' ∧ RQ ch ln (p + 1) (x + 2) ((J 7, J (x + 1), J (dep + 1)) :: (J 3, J 125, J 0) :: (J 6, J x, J 0) :: (J 1, J x, J (dep + 1)) :: L) σ' ∧ nd σ' x = (J 8, J (x + 1), -J 1, -J 1, -J 1, J 1) ∧ nd σ' (x + 1) = nN0 10 ∧ ∀ i, i < x → nd σ' i = hangF (nd σ) par x i := by
  obtain ⟨σ1, a1, a2, a3, a4, a5⟩ := ref_open (N := N) (c := 123) (kd := 8) h (Or.inl rfl) hdep (by omega) hp hpx hc (Or.inr (Or.inr ⟨rfl, Or.inr (Or.inr ⟨rfl, rfl⟩)⟩))
  obtain ⟨σ2, b1, b2, b3, b4⟩ := ref_expect (N := N) a2 (by omega) (J 1) (J x) (J (dep + 1))
  obtain ⟨σ3, c1, c2, c3, c4⟩ := ref_expect (N := N) b2 (by simp only [List.length_cons]; omega) (J 6) (J x) (J 0)
  obtain ⟨σ4, d1, d2, d3, d4⟩ := ref_expect (N := N) c2 (by simp only [List.length_cons]; omega) (J 3) (J 125) (J 0)
  obtain ⟨σ5, e1, e2, e3, e4⟩ := ref_node (N := N) (k := 10) d2 (by omega)
  have hn4 : nd σ4 = nd σ1 := by rw [d4, c4, b4]
  have hx5 : nd σ5 x = (J 8, -J 1, -J 1, -J 1, -J 1, J 1) := by rw [e4, if_neg (by omega), hn4]; exact a4
  obtain ⟨σ6, f1, f2, f3, f4⟩ := ref_hang (N := N) (par := some x) (x := x + 1) e2 (fun k hk => by
    cases hk
    exact ⟨by omega, Or.inl (by rw [hx5]; rfl)⟩)
  obtain ⟨σ7, g1, g2, g3, g4⟩ := ref_expect (N := N) f2 (by simp only [List.length_cons]; omega) (J 7) (J (x + 1)) (J (dep + 1))
  refine ⟨σ7, Go.step h (by omega) ?_ ((((((a3.tr b3).tr c3).tr d3).tr e3).tr f3).tr g3), g2, ?_, ?_, fun i hi => ?_⟩
  · refine a1.trans ?_
    unfold spK
    rw [show J dep + (1 : Int32) = J (dep + 1) from J_add _ _]
    have f1' : fX9_hang N σ5 (J x) (J (x + 1)) = some σ6 := f1
    simp (decide := true) (disch := omega) only [letS_d, grd_tt, bnd_d, bnd1_d, bndX_d, bndX_e, gI_at, gI_ne, gI_sL, gL_sL, gL_sI, upd_at, updL_at, J_lit, J_add, J_mul, J_sub, J_lt, J_le, J_inj, J_ne, ne_J, m_lt, lt_m, m_le, le_m, J_cl, J_inB, if_true, if_false, ite_true, ite_false, reduceIte, isZ0, isZ1, J_and31, shrJ0, shlJ0, gI_sA, gL_sA, Nat.reduceEqDiff, Nat.reduceAdd, Nat.reduceMul, Nat.reduceLT, Nat.reduceLeDiff, b1, c1, d1, e1, f1', g1]
  · rw [g4, f4, hangF_at0 (by rw [hx5]; rfl), hx5]
    rfl
  · rw [g4, f4, hangF_ne (by omega), e4, if_pos rfl]
  · rw [g4, f4, hangF_ne (by omega), e4, if_neg (by omega), hn4]
    exact a5 i hi
/-- & | W -/
theorem ref_link {p x k w : Nat} {L : List IT} {σ : St} (h : RQ ch ln p x ((J w, J k, J 0) :: L) σ) (hL : L.length < 200) (hk : k < 160) (hw : w = 4 ∨ w = 5) : ((ch p = 38 ∨ ch p = 124 ∨ (ch p = 87 ∧ w = 4)) → ∃ σ', Go N 1 σ σ' ∧ RQ ch ln (p + 1) x L σ' ∧ ∀ i, nd σ' i = if i = k then (J (if ch p = 38 then 3 else if ch p = 124 then 4 else 5), nO (nd σ i), nT (nd σ i), nB (nd σ i), nL (nd σ i), nM (nd σ i)) else nd σ i) ∧ (¬ (ch p = 38 ∨ ch p = 124 ∨ (ch p = 87 ∧ w = 4)) → Bd N 2 p σ) := by
  have h1 := h.pop
  have hc := h.ch_lt p
  have h11 := h1.1.1
  have hnow := ref_now (N := N) h1
  have hn1 : nd (sI σ 13 0 (J L.length)) = nd σ := nd_of (S := [13]) (Fr.i (by decide)) (by decide)
  have htake : fX9_take N (sI σ 13 0 (J L.length)) (J w) (J k) (J 0) = fX9_take_82 N (sI σ 13 0 (J L.length)) (J w) (J k) (J (ch p)) := by
    unfold fX9_take
    rw [hnow, bnd_d]
    rcases hw with rfl | rfl <;> rfl
  constructor
  · intro he
    have hpl := h.lt (i := p) (by omega)
    have f5 : Fr [5] (sI (sI σ 13 0 (J L.length)) 12 0 (J 1)) (sI (sI (sI σ 13 0 (J L.length)) 12 0 (J 1)) 5 k (J (if ch p = 38 then 3 else if ch p = 124 then 4 else 5))) := Fr.i (by decide)
    have f : Fr [5, 11, 12] (sI σ 13 0 (J L.length)) (sI (sI (sI (sI σ 13 0 (J L.length)) 12 0 (J 1)) 5 k (J (if ch p = 38 then 3 else if ch p = 124 then 4 else 5))) 11 0 (J (p + 1))) := ((Fr.i (by decide)).tr (Fr.i (by decide))).tr (Fr.i (by decide))
    refine ⟨_, Go.step h hL ?_ (f.mono (by decide)), (h1.good.fr f5 (by decide)).go (by omega), fun i => ?_⟩
    · refine htake.trans ?_
      generalize sI σ 13 0 (J L.length) = σ1 at *
      unfold fX9_take_82 fX9_take_109 fX9_take_114 fX9_take_152 fX9_take_153 fX9_take_170
      rcases he with he | he | ⟨he, rfl⟩
      · simp (decide := true) (disch := omega) only [letS_d, grd_tt, bnd_d, bnd1_d, bndX_d, bndX_e, gI_at, gI_ne, gI_sL, gL_sL, gL_sI, upd_at, updL_at, J_lit, J_add, J_mul, J_sub, J_lt, J_le, J_inj, J_ne, ne_J, m_lt, lt_m, m_le, le_m, J_cl, J_inB, if_true, if_false, ite_true, ite_false, reduceIte, isZ0, isZ1, J_and31, shrJ0, shlJ0, gI_sA, gL_sA, Nat.reduceEqDiff, Nat.reduceAdd, Nat.reduceMul, Nat.reduceLT, Nat.reduceLeDiff, he, h11]
      · simp (decide := true) (disch := omega) only [letS_d, grd_tt, bnd_d, bnd1_d, bndX_d, bndX_e, gI_at, gI_ne, gI_sL, gL_sL, gL_sI, upd_at, updL_at, J_lit, J_add, J_mul, J_sub, J_lt, J_le, J_inj, J_ne, ne_J, m_lt, lt_m, m_le, le_m, J_cl, J_inB, if_true, if_false, ite_true, ite_false, reduceIte, isZ0, isZ1, J_and31, shrJ0, shlJ0, gI_sA, gL_sA, Nat.reduceEqDiff, Nat.reduceAdd, Nat.reduceMul, Nat.reduceLT, Nat.reduceLeDiff, he, h11]
      · simp (decide := true) (disch := omega) only [letS_d, grd_tt, bnd_d, bnd1_d, bndX_d, bndX_e, gI_at, gI_ne, gI_sL, gL_sL, gL_sI, upd_at, updL_at, J_lit, J_add, J_mul, J_sub, J_lt, J_le, J_inj, J_ne, ne_J, m_lt, lt_m, m_le, le_m, J_cl, J_inB, if_true, if_false, ite_true, ite_false, reduceIte, isZ0, isZ1, J_and31, shrJ0, shlJ0, gI_sA, gL_sA, Nat.reduceEqDiff, Nat.reduceAdd, Nat.reduceMul, Nat.reduceLT, Nat.reduceLeDiff, he, h11]
    · rw [show nd (sI (sI (sI (sI σ 13 0 (J L.length)) 12 0 (J 1)) 5 k (J (if ch p = 38 then 3 else if ch p = 124 then 4 else 5))) 11 0 (J (p + 1))) = nd (sI (sI (sI σ 13 0 (J L.length)) 12 0 (J 1)) 5 k (J (if ch p = 38 then 3 else if ch p = 124 then 4 else 5))) from nd_of (S := [11]) (Fr.i (by decide)) (by decide), nd5, show nd (sI (sI σ 13 0 (J L.length)) 12 0 (J 1)) = nd σ from (nd_of (S := [12]) (Fr.i (by decide)) (by decide)).trans hn1]
  · intro he
    have n1 : ¬ ch p = 38 := fun h => he (Or.inl h)
    have n2 : ¬ ch p = 124 := fun h => he (Or.inr (Or.inl h))
    have f : Fr [11, 12] (sI σ 13 0 (J L.length)) (sI (sI (sI σ 13 0 (J L.length)) 12 0 (J 0)) 11 0 (J p)) := (Fr.i (by decide)).tr (Fr.i (by decide))
    refine Bd.step (σ' := sI (sI (sI σ 13 0 (J L.length)) 12 0 (J 0)) 11 0 (J p)) h hL ?_ (f.mono (by decide)) (by simp (decide := true) (disch := omega) only [letS_d, grd_tt, bnd_d, bnd1_d, bndX_d, bndX_e, gI_at, gI_ne, gI_sL, gL_sL, gL_sI, upd_at, updL_at, J_lit, J_add, J_mul, J_sub, J_lt, J_le, J_inj, J_ne, ne_J, m_lt, lt_m, m_le, le_m, J_cl, J_inB, if_true, if_false, ite_true, ite_false, reduceIte, isZ0, isZ1, J_and31, shrJ0, shlJ0, gI_sA, gL_sA, Nat.reduceEqDiff, Nat.reduceAdd, Nat.reduceMul, Nat.reduceLT, Nat.reduceLeDiff]) (by simp (decide := true) (disch := omega) only [letS_d, grd_tt, bnd_d, bnd1_d, bndX_d, bndX_e, gI_at, gI_ne, gI_sL, gL_sL, gL_sI, upd_at, updL_at, J_lit, J_add, J_mul, J_sub, J_lt, J_le, J_inj, J_ne, ne_J, m_lt, lt_m, m_le, le_m, J_cl, J_inB, if_true, if_false, ite_true, ite_false, reduceIte, isZ0, isZ1, J_and31, shrJ0, shlJ0, gI_sA, gL_sA, Nat.reduceEqDiff, Nat.reduceAdd, Nat.reduceMul, Nat.reduceLT, Nat.reduceLeDiff])
    refine htake.trans ?_
    generalize sI σ 13 0 (J L.length) = σ1 at *
    unfold fX9_take_82 fX9_take_109 fX9_take_113 fX9_take_114 fX9_take_153 fX9_take_170
    rcases hw with rfl | rfl
    · have n3 : ¬ ch p = 87 := fun h => he (Or.inr (Or.inr ⟨h, rfl⟩))
      simp (decide := true) (disch := omega) only [letS_d, grd_tt, bnd_d, bnd1_d, bndX_d, bndX_e, gI_at, gI_ne, gI_sL, gL_sL, gL_sI, upd_at, updL_at, J_lit, J_add, J_mul, J_sub, J_lt, J_le, J_inj, J_ne, ne_J, m_lt, lt_m, m_le, le_m, J_cl, J_inB, if_true, if_false, ite_true, ite_false, reduceIte, isZ0, isZ1, J_and31, shrJ0, shlJ0, gI_sA, gL_sA, Nat.reduceEqDiff, Nat.reduceAdd, Nat.reduceMul, Nat.reduceLT, Nat.reduceLeDiff, n1, n2, n3, h11, Nat.add_zero]
    · by_cases n3 : ch p = 87
      · simp (decide := true) (disch := omega) only [letS_d, grd_tt, bnd_d, bnd1_d, bndX_d, bndX_e, gI_at, gI_ne, gI_sL, gL_sL, gL_sI, upd_at, updL_at, J_lit, J_add, J_mul, J_sub, J_lt, J_le, J_inj, J_ne, ne_J, m_lt, lt_m, m_le, le_m, J_cl, J_inB, if_true, if_false, ite_true, ite_false, reduceIte, isZ0, isZ1, J_and31, shrJ0, shlJ0, gI_sA, gL_sA, Nat.reduceEqDiff, Nat.reduceAdd, Nat.reduceMul, Nat.reduceLT, Nat.reduceLeDiff, n3, h11, Nat.add_zero]
      · simp (decide := true) (disch := omega) only [letS_d, grd_tt, bnd_d, bnd1_d, bndX_d, bndX_e, gI_at, gI_ne, gI_sL, gL_sL, gL_sI, upd_at, updL_at, J_lit, J_add, J_mul, J_sub, J_lt, J_le, J_inj, J_ne, ne_J, m_lt, lt_m, m_le, le_m, J_cl, J_inB, if_true, if_false, ite_true, ite_false, reduceIte, isZ0, isZ1, J_and31, shrJ0, shlJ0, gI_sA, gL_sA, Nat.reduceEqDiff, Nat.reduceAdd, Nat.reduceMul, Nat.reduceLT, Nat.reduceLeDiff, n1, n2, n3, h11, Nat.add_zero]
/-- > : -/
theorem ref_arrow {p x k : Nat} {L : List IT} {σ : St} (h : RQ ch ln p x ((J 6, J k, J 0) :: L) σ) (hL : L.length < 200) (hk : k < 160) : ((ch p = 62 ∨ ch p = 58) → ∃ σ', Go N 1 σ σ' ∧ RQ ch ln (p + 1) x L σ' ∧ ∀ i, nd σ' i = if i = k then (J (if ch p = 62 then 8 else 9), nO (nd σ i), nT (nd σ i), nB (nd σ i), nL (nd σ i), nM (nd σ i)) else nd σ i) ∧ (¬ (ch p = 62 ∨ ch p = 58) → Bd N 2 p σ) := by
  have h1 := h.pop
  have hc := h.ch_lt p
  have h11 := h1.1.1
  have hnow := ref_now (N := N) h1
  have hn1 : nd (sI σ 13 0 (J L.length)) = nd σ := nd_of (S := [13]) (Fr.i (by decide)) (by decide)
  constructor
  · intro he
    have hpl := h.lt (i := p) (by omega)
    have f5 : Fr [5] (sI (sI σ 13 0 (J L.length)) 12 0 (J 1)) (sI (sI (sI σ 13 0 (J L.length)) 12 0 (J 1)) 5 k (J (if ch p = 62 then 8 else 9))) := Fr.i (by decide)
    have f : Fr [5, 11, 12] (sI σ 13 0 (J L.length)) (sI (sI (sI (sI σ 13 0 (J L.length)) 12 0 (J 1)) 5 k (J (if ch p = 62 then 8 else 9))) 11 0 (J (p + 1))) := ((Fr.i (by decide)).tr (Fr.i (by decide))).tr (Fr.i (by decide))
    refine ⟨_, Go.step h hL ?_ (f.mono (by decide)), (h1.good.fr f5 (by decide)).go (by omega), fun i => ?_⟩
    · show fX9_take N (sI σ 13 0 (J L.length)) (J 6) (J k) (J 0) = _
      generalize sI σ 13 0 (J L.length) = σ1 at *
      unfold fX9_take fX9_take_198 fX9_take_203 fX9_take_225 fX9_take_243
      rcases he with he | he
      · simp (decide := true) (disch := omega) only [letS_d, grd_tt, bnd_d, bnd1_d, bndX_d, bndX_e, gI_at, gI_ne, gI_sL, gL_sL, gL_sI, upd_at, updL_at, J_lit, J_add, J_mul, J_sub, J_lt, J_le, J_inj, J_ne, ne_J, m_lt, lt_m, m_le, le_m, J_cl, J_inB, if_true, if_false, ite_true, ite_false, reduceIte, isZ0, isZ1, J_and31, shrJ0, shlJ0, gI_sA, gL_sA, Nat.reduceEqDiff, Nat.reduceAdd, Nat.reduceMul, Nat.reduceLT, Nat.reduceLeDiff, hnow, he, h11]
      · simp (decide := true) (disch := omega) only [letS_d, grd_tt, bnd_d, bnd1_d, bndX_d, bndX_e, gI_at, gI_ne, gI_sL, gL_sL, gL_sI, upd_at, updL_at, J_lit, J_add, J_mul, J_sub, J_lt, J_le, J_inj, J_ne, ne_J, m_lt, lt_m, m_le, le_m, J_cl, J_inB, if_true, if_false, ite_true, ite_false, reduceIte, isZ0, isZ1, J_and31, shrJ0, shlJ0, gI_sA, gL_sA, Nat.reduceEqDiff, Nat.reduceAdd, Nat.reduceMul, Nat.reduceLT, Nat.reduceLeDiff, hnow, he, h11]
    · rw [show nd (sI (sI (sI (sI σ 13 0 (J L.length)) 12 0 (J 1)) 5 k (J (if ch p = 62 then 8 else 9))) 11 0 (J (p + 1))) = nd (sI (sI (sI σ 13 0 (J L.length)) 12 0 (J 1)) 5 k (J (if ch p = 62 then 8 else 9))) from nd_of (S := [11]) (Fr.i (by decide)) (by decide), nd5, show nd (sI (sI σ 13 0 (J L.length)) 12 0 (J 1)) = nd σ from (nd_of (S := [12]) (Fr.i (by decide)) (by decide)).trans hn1]
  · intro he
    have n1 : ¬ ch p = 62 := fun h => he (Or.inl h)
    have n2 : ¬ ch p = 58 := fun h => he (Or.inr h)
    have f : Fr [5, 11, 12] (sI σ 13 0 (J L.length)) (sI (sI (sI (sI σ 13 0 (J L.length)) 12 0 (J 0)) 5 k (J 9)) 11 0 (J p)) := ((Fr.i (by decide)).tr (Fr.i (by decide))).tr (Fr.i (by decide))
    refine Bd.step (σ' := sI (sI (sI (sI σ 13 0 (J L.length)) 12 0 (J 0)) 5 k (J 9)) 11 0 (J p)) h hL ?_ (f.mono (by decide)) (by simp (decide := true) (disch := omega) only [letS_d, grd_tt, bnd_d, bnd1_d, bndX_d, bndX_e, gI_at, gI_ne, gI_sL, gL_sL, gL_sI, upd_at, updL_at, J_lit, J_add, J_mul, J_sub, J_lt, J_le, J_inj, J_ne, ne_J, m_lt, lt_m, m_le, le_m, J_cl, J_inB, if_true, if_false, ite_true, ite_false, reduceIte, isZ0, isZ1, J_and31, shrJ0, shlJ0, gI_sA, gL_sA, Nat.reduceEqDiff, Nat.reduceAdd, Nat.reduceMul, Nat.reduceLT, Nat.reduceLeDiff]) (by simp (decide := true) (disch := omega) only [letS_d, grd_tt, bnd_d, bnd1_d, bndX_d, bndX_e, gI_at, gI_ne, gI_sL, gL_sL, gL_sI, upd_at, updL_at, J_lit, J_add, J_mul, J_sub, J_lt, J_le, J_inj, J_ne, ne_J, m_lt, lt_m, m_le, le_m, J_cl, J_inB, if_true, if_false, ite_true, ite_false, reduceIte, isZ0, isZ1, J_and31, shrJ0, shlJ0, gI_sA, gL_sA, Nat.reduceEqDiff, Nat.reduceAdd, Nat.reduceMul, Nat.reduceLT, Nat.reduceLeDiff])
    show fX9_take N (sI σ 13 0 (J L.length)) (J 6) (J k) (J 0) = _
    generalize sI σ 13 0 (J L.length) = σ1 at *
    unfold fX9_take fX9_take_203 fX9_take_225 fX9_take_243
    simp (decide := true) (disch := omega) only [letS_d, grd_tt, bnd_d, bnd1_d, bndX_d, bndX_e, gI_at, gI_ne, gI_sL, gL_sL, gL_sI, upd_at, updL_at, J_lit, J_add, J_mul, J_sub, J_lt, J_le, J_inj, J_ne, ne_J, m_lt, lt_m, m_le, le_m, J_cl, J_inB, if_true, if_false, ite_true, ite_false, reduceIte, isZ0, isZ1, J_and31, shrJ0, shlJ0, gI_sA, gL_sA, Nat.reduceEqDiff, Nat.reduceAdd, Nat.reduceMul, Nat.reduceLT, Nat.reduceLeDiff, hnow, n1, n2, h11, Nat.add_zero]
end OPN
