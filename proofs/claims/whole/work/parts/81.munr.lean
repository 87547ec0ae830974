/-! the reference unrolls sequences -/
abbrev UL : List Nat := [17, 19, 20, 21, 24, 25, 26, 27, 28, 29, 30]
/-- the node of a place's boolean -/
def pn : Term → Nat → Nat → Nat
  | .field _ _ _ _, x, _ => x
  | .elem u (.index _), x, j => pn u (x + 1) (j % len u)
  | .elem s (.length t), x, j => if j < len s then pn s x j else pn t (x + nN s) (j - len s)
  | .elem g (.old s), x, j => if j < len g then pn g x j else pn s (x + nN g + 1) (j - len g)
  | _, _, _ => 0
/-- how many rounds it takes at most -/
def uc : Term → Nat
  | .field _ _ _ _ => 2
  | .elem u (.index c) => (uc u + 3) * cps c + 1
  | .elem s (.length t) => uc s + uc t + 3
  | .elem g (.old s) => uc g + uc s + 5
  | _ => 1
section UNR
variable {N P fr : Nat} {F : Nat → ND}
def Ur (N P fr c : Nat) (σ σ' : St) : Prop := ∀ n, fX9_unroll_25 N (n + c) σ (J P) (J fr) = fX9_unroll_25 N n σ' (J P) (J fr)
theorem Ur.tr {a b : Nat} {x y z : St} (h : Ur N P fr a x y) (h2 : Ur N P fr b y z) : Ur N P fr (a + b) x z := fun n => by
  rw [show n + (a + b) = n + b + a from by omega, h, h2]
/-- more than nine obligations -/
def Ovf (N P fr c : Nat) (σ : St) : Prop := ∃ σ', (∀ n, fX9_unroll_25 N (n + c) σ (J P) (J fr) = some σ') ∧ Fr UL σ σ' ∧ gI σ' 17 0 = J 10
theorem Ovf.pre {a b : Nat} {x y : St} (h : Ur N P fr a x y) (hf : Fr UL x y) (h2 : Ovf N P fr b y) : Ovf N P fr (a + b) x := by
  obtain ⟨σ', h1, h3, h4⟩ := h2
  exact ⟨σ', fun n => by rw [show n + (a + b) = n + b + a from by omega, h, h1], hf.tr h3, h4⟩
def US (F : Nat → ND) (S V K : Nat) (σ : St) : Prop := nd σ = F ∧ gI σ 24 0 = J S ∧ gI σ 27 0 = J V ∧ gI σ 17 0 = J K
/-- what lies below stays -/
def Blw (S V K : Nat) (σ σ' : St) : Prop := (∀ i, i < S → gI σ' 25 i = gI σ 25 i ∧ gI σ' 26 i = gI σ 26 i) ∧ (∀ i, i < V → gI σ' 28 i = gI σ 28 i ∧ gI σ' 29 i = gI σ 29 i ∧ gI σ' 30 i = gI σ 30 i) ∧ (∀ o, o < K → gI σ' 19 o = gI σ 19 o ∧ gI σ' 20 o = gI σ 20 o ∧ gI σ' 21 o = gI σ 21 o) ∧ Fr UL σ σ'
theorem Blw.tr {S V K : Nat} {x y z : St} (h : Blw S V K x y) (h2 : Blw S V K y z) : Blw S V K x z := by
  obtain ⟨a1, a2, a3, a4⟩ := h
  obtain ⟨b1, b2, b3, b4⟩ := h2
  exact ⟨fun i hi => ⟨(b1 i hi).1.trans (a1 i hi).1, (b1 i hi).2.trans (a1 i hi).2⟩, fun i hi => ⟨(b2 i hi).1.trans (a2 i hi).1, (b2 i hi).2.1.trans (a2 i hi).2.1, (b2 i hi).2.2.trans (a2 i hi).2.2⟩, fun i hi => ⟨(b3 i hi).1.trans (a3 i hi).1, (b3 i hi).2.1.trans (a3 i hi).2.1, (b3 i hi).2.2.trans (a3 i hi).2.2⟩, a4.tr b4⟩
theorem Blw.le {S V K S' V' K' : Nat} {x y : St} (h : Blw S V K x y) (h1 : S' ≤ S) (h2 : V' ≤ V) (h3 : K' ≤ K) : Blw S' V' K' x y := ⟨fun i hi => h.1 i (by omega), fun i hi => h.2.1 i (by omega), fun i hi => h.2.2.1 i (by omega), h.2.2.2⟩
theorem Blw.rf {S V K : Nat} {x : St} : Blw S V K x x := ⟨fun _ _ => ⟨rfl, rfl⟩, fun _ _ => ⟨rfl, rfl, rfl⟩, fun _ _ => ⟨rfl, rfl, rfl⟩, Fr.rf⟩
/-- the places of a piece, as the reference has them -/
def PlR (K : Nat) (s : Term) (x P : Nat) (σ : St) : Prop := ∀ j, j < len s → gI σ 19 (K + j) = J (pn s x j) ∧ gI σ 20 (K + j) = J P ∧ Mk (gI σ 21 (K + j)) K (fo s j)
/-- a piece's value -/
def Vl (i K : Nat) (s : Term) (σ : St) : Prop := Mk (gI σ 28 i) K (fi s) ∧ Mk (gI σ 29 i) K (la s)
theorem PlR.of {K K' : Nat} {s : Term} {x : Nat} {S V : Nat} {σ σ' : St} (h : PlR K s x P σ) (hb : Blw S V K' σ σ') (hk : K + len s ≤ K') : PlR K s x P σ' := fun j hj => by
  obtain ⟨a, b, c⟩ := hb.2.2.1 (K + j) (by omega)
  rw [a, b, c]
  exact h j hj
theorem Vl.of {i K : Nat} {s : Term} {S V K' : Nat} {σ σ' : St} (h : Vl i K s σ) (hb : Blw S V K' σ σ') (hi : i < V) : Vl i K s σ' := by
  obtain ⟨a, b, c⟩ := hb.2.1 i hi
  unfold Vl
  rw [a, b]
  exact h
/-- what a run of a piece comes to -/
def UO (N P fr : Nat) (F : Nat → ND) (s : Term) (x C S V K : Nat) (σ : St) : Prop := (K + len s ≤ 9 → ∃ c σ', c ≤ C ∧ Ur N P fr c σ σ' ∧ Blw S V K σ σ' ∧ US F S (V + 1) (K + len s) σ' ∧ Vl V K s σ' ∧ PlR K s x P σ') ∧ (9 < K + len s → ∃ c, c ≤ C ∧ Ovf N P fr c σ)
theorem u_step {S V K x : Nat} {σ : St} (h : US F (S + 1) V K σ) (hK : K ≤ 9) (hS : S < 64) (h25 : gI σ 25 S = J x) (hx : x < 160) (n : Nat) : ((nK (F x) = J 10 ∨ nK (F x) = J 12) → fX9_unroll_25 N (n + 1) σ (J P) (J fr) = bnd1 (fX9_list N σ (J x)) fun σ18 => fX9_unroll_25 N n σ18 (J P) (J fr)) ∧ (nK (F x) = J 11 → fX9_unroll_25 N (n + 1) σ (J P) (J fr) = bnd1 (fX9_copy N σ (J x)) fun σ18 => fX9_unroll_25 N n σ18 (J P) (J fr)) ∧ ((∃ v, v < 10 ∧ nK (F x) = J v) → fX9_unroll_25 N (n + 1) σ (J P) (J fr) = bnd1 (fX9_place N σ (J x) (J P)) fun σ18 => fX9_unroll_25 N n σ18 (J P) (J fr)) := by
  obtain ⟨h1, h2, h3, h4⟩ := h
  have h5 : gI σ 5 x = nK (F x) := by rw [← h1]; rfl
  have e1 : ¬ S + 1 ≤ 0 := by omega
  have e2 : ¬ 9 < K := by omega
  have e3 : S + 1 - 1 = S := by omega
  refine ⟨fun hk => ?_, fun hk => ?_, fun hk => ?_⟩
  · rw [show fX9_unroll_25 N (n + 1) σ (J P) (J fr) = _ from by unfold fX9_unroll_25; rfl]
    rcases hk with hk | hk
    · simp (decide := true) (disch := omega) only [letS_d, grd_tt, bnd_d, bnd1_d, bndX_d, bndX_e, gI_at, gI_ne, gI_sL, gL_sL, gL_sI, upd_at, updL_at, J_lit, J_add, J_mul, J_sub, J_lt, J_le, J_inj, J_ne, ne_J, m_lt, lt_m, m_le, le_m, J_cl, J_inB, if_true, if_false, ite_true, ite_false, reduceIte, isZ0, isZ1, J_and31, shrJ0, shlJ0, gI_sA, gL_sA, Nat.reduceEqDiff, Nat.reduceAdd, Nat.reduceMul, Nat.reduceLT, Nat.reduceLeDiff, h2, h4, e1, e2, e3, h25, h5, hk, fX9_unroll_75, fX9_unroll_108]
    · simp (decide := true) (disch := omega) only [letS_d, grd_tt, bnd_d, bnd1_d, bndX_d, bndX_e, gI_at, gI_ne, gI_sL, gL_sL, gL_sI, upd_at, updL_at, J_lit, J_add, J_mul, J_sub, J_lt, J_le, J_inj, J_ne, ne_J, m_lt, lt_m, m_le, le_m, J_cl, J_inB, if_true, if_false, ite_true, ite_false, reduceIte, isZ0, isZ1, J_and31, shrJ0, shlJ0, gI_sA, gL_sA, Nat.reduceEqDiff, Nat.reduceAdd, Nat.reduceMul, Nat.reduceLT, Nat.reduceLeDiff, h2, h4, e1, e2, e3, h25, h5, hk, fX9_unroll_75, fX9_unroll_108]
  · rw [show fX9_unroll_25 N (n + 1) σ (J P) (J fr) = _ from by unfold fX9_unroll_25; rfl]
    simp (decide := true) (disch := omega) only [letS_d, grd_tt, bnd_d, bnd1_d, bndX_d, bndX_e, gI_at, gI_ne, gI_sL, gL_sL, gL_sI, upd_at, updL_at, J_lit, J_add, J_mul, J_sub, J_lt, J_le, J_inj, J_ne, ne_J, m_lt, lt_m, m_le, le_m, J_cl, J_inB, if_true, if_false, ite_true, ite_false, reduceIte, isZ0, isZ1, J_and31, shrJ0, shlJ0, gI_sA, gL_sA, Nat.reduceEqDiff, Nat.reduceAdd, Nat.reduceMul, Nat.reduceLT, Nat.reduceLeDiff, h2, h4, e1, e2, e3, h25, h5, hk, fX9_unroll_108]
  · obtain ⟨v, hv, hk⟩ := hk
    rw [show fX9_unroll_25 N (n + 1) σ (J P) (J fr) = _ from by unfold fX9_unroll_25; rfl]
    have n1 : ¬ v = 10 := by omega
    have n2 : ¬ v = 12 := by omega
    have n3 : ¬ v = 11 := by omega
    simp (decide := true) (disch := omega) only [letS_d, grd_tt, bnd_d, bnd1_d, bndX_d, bndX_e, gI_at, gI_ne, gI_sL, gL_sL, gL_sI, upd_at, updL_at, J_lit, J_add, J_mul, J_sub, J_lt, J_le, J_inj, J_ne, ne_J, m_lt, lt_m, m_le, le_m, J_cl, J_inB, if_true, if_false, ite_true, ite_false, reduceIte, isZ0, isZ1, J_and31, shrJ0, shlJ0, gI_sA, gL_sA, Nat.reduceEqDiff, Nat.reduceAdd, Nat.reduceMul, Nat.reduceLT, Nat.reduceLeDiff, h2, h4, e1, e2, e3, h25, h5, hk, n1, n2, n3, fX9_unroll_108]
/-- it ends where there are too many -/
theorem u_over {σ : St} (h17 : gI σ 17 0 = J 10) (n : Nat) : fX9_unroll_25 N (n + 1) σ (J P) (J fr) = some σ := by
  have h111 : fX9_unroll_111 N σ (J P) (J fr) = some σ := by
    unfold fX9_unroll_111
    simp (decide := true) (disch := omega) only [letS_d, grd_tt, bnd_d, bnd1_d, bndX_d, bndX_e, gI_at, gI_ne, gI_sL, gL_sL, gL_sI, upd_at, updL_at, J_lit, J_add, J_mul, J_sub, J_lt, J_le, J_inj, J_ne, ne_J, m_lt, lt_m, m_le, le_m, J_cl, J_inB, if_true, if_false, ite_true, ite_false, reduceIte, isZ0, isZ1, J_and31, shrJ0, shlJ0, gI_sA, gL_sA, Nat.reduceEqDiff, Nat.reduceAdd, Nat.reduceMul, Nat.reduceLT, Nat.reduceLeDiff, h17]
  rw [show fX9_unroll_25 N (n + 1) σ (J P) (J fr) = _ from by unfold fX9_unroll_25; rfl]
  by_cases hz : gI σ 24 0 ≤ 0
  · rw [if_pos hz, h111]
  · rw [if_neg hz]
    simp (decide := true) (disch := omega) only [letS_d, grd_tt, bnd_d, bnd1_d, bndX_d, bndX_e, gI_at, gI_ne, gI_sL, gL_sL, gL_sI, upd_at, updL_at, J_lit, J_add, J_mul, J_sub, J_lt, J_le, J_inj, J_ne, ne_J, m_lt, lt_m, m_le, le_m, J_cl, J_inB, if_true, if_false, ite_true, ite_false, reduceIte, isZ0, isZ1, J_and31, shrJ0, shlJ0, gI_sA, gL_sA, Nat.reduceEqDiff, Nat.reduceAdd, Nat.reduceMul, Nat.reduceLT, Nat.reduceLeDiff, h17, h111]
theorem u_enter {S V K y : Nat} {σ : St} (h : US F S V K σ) (hS : S < 64) (hy : y < 160) : ∃ σ', fX9_enter N σ (J y) = some σ' ∧ Blw S V K σ σ' ∧ US F (S + 1) V K σ' ∧ gI σ' 25 S = J y ∧ gI σ' 26 S = (if nK (F y) = J 11 then J 0 else -J 1) ∧ (∀ i, gI σ' 28 i = gI σ 28 i ∧ gI σ' 29 i = gI σ 29 i ∧ gI σ' 30 i = gI σ 30 i) ∧ ∀ o, gI σ' 19 o = gI σ 19 o ∧ gI σ' 20 o = gI σ 20 o ∧ gI σ' 21 o = gI σ 21 o := by
  obtain ⟨h1, h2, h3, h4⟩ := h
  have h5 : gI σ 5 y = nK (F y) := by rw [← h1]; rfl
  have f : ∀ v, Fr [24, 25, 26] σ (sI (sI (sI σ 25 S (J y)) 26 S v) 24 0 (J (S + 1))) := fun v => ((Fr.i (by decide)).tr (Fr.i (by decide))).tr (Fr.i (by decide))
  have g : ∀ v, US F (S + 1) V K (sI (sI (sI σ 25 S (J y)) 26 S v) 24 0 (J (S + 1))) := fun v => ⟨(nd_of (f v) (by decide)).trans h1, by simp (decide := true) (disch := omega) only [letS_d, grd_tt, bnd_d, bnd1_d, bndX_d, bndX_e, gI_at, gI_ne, gI_sL, gL_sL, gL_sI, upd_at, updL_at, J_lit, J_add, J_mul, J_sub, J_lt, J_le, J_inj, J_ne, ne_J, m_lt, lt_m, m_le, le_m, J_cl, J_inB, if_true, if_false, ite_true, ite_false, reduceIte, isZ0, isZ1, J_and31, shrJ0, shlJ0, gI_sA, gL_sA, Nat.reduceEqDiff, Nat.reduceAdd, Nat.reduceMul, Nat.reduceLT, Nat.reduceLeDiff], by simp (decide := true) (disch := omega) only [letS_d, grd_tt, bnd_d, bnd1_d, bndX_d, bndX_e, gI_at, gI_ne, gI_sL, gL_sL, gL_sI, upd_at, updL_at, J_lit, J_add, J_mul, J_sub, J_lt, J_le, J_inj, J_ne, ne_J, m_lt, lt_m, m_le, le_m, J_cl, J_inB, if_true, if_false, ite_true, ite_false, reduceIte, isZ0, isZ1, J_and31, shrJ0, shlJ0, gI_sA, gL_sA, Nat.reduceEqDiff, Nat.reduceAdd, Nat.reduceMul, Nat.reduceLT, Nat.reduceLeDiff]; exact h3, by simp (decide := true) (disch := omega) only [letS_d, grd_tt, bnd_d, bnd1_d, bndX_d, bndX_e, gI_at, gI_ne, gI_sL, gL_sL, gL_sI, upd_at, updL_at, J_lit, J_add, J_mul, J_sub, J_lt, J_le, J_inj, J_ne, ne_J, m_lt, lt_m, m_le, le_m, J_cl, J_inB, if_true, if_false, ite_true, ite_false, reduceIte, isZ0, isZ1, J_and31, shrJ0, shlJ0, gI_sA, gL_sA, Nat.reduceEqDiff, Nat.reduceAdd, Nat.reduceMul, Nat.reduceLT, Nat.reduceLeDiff]; exact h4⟩
  have b : ∀ v, Blw S V K σ (sI (sI (sI σ 25 S (J y)) 26 S v) 24 0 (J (S + 1))) := fun v => ⟨fun i hi => by
    have : ¬ i = S := by omega
    exact ⟨by simp (decide := true) (disch := omega) only [letS_d, grd_tt, bnd_d, bnd1_d, bndX_d, bndX_e, gI_at, gI_ne, gI_sL, gL_sL, gL_sI, upd_at, updL_at, J_lit, J_add, J_mul, J_sub, J_lt, J_le, J_inj, J_ne, ne_J, m_lt, lt_m, m_le, le_m, J_cl, J_inB, if_true, if_false, ite_true, ite_false, reduceIte, isZ0, isZ1, J_and31, shrJ0, shlJ0, gI_sA, gL_sA, Nat.reduceEqDiff, Nat.reduceAdd, Nat.reduceMul, Nat.reduceLT, Nat.reduceLeDiff, this], by simp (decide := true) (disch := omega) only [letS_d, grd_tt, bnd_d, bnd1_d, bndX_d, bndX_e, gI_at, gI_ne, gI_sL, gL_sL, gL_sI, upd_at, updL_at, J_lit, J_add, J_mul, J_sub, J_lt, J_le, J_inj, J_ne, ne_J, m_lt, lt_m, m_le, le_m, J_cl, J_inB, if_true, if_false, ite_true, ite_false, reduceIte, isZ0, isZ1, J_and31, shrJ0, shlJ0, gI_sA, gL_sA, Nat.reduceEqDiff, Nat.reduceAdd, Nat.reduceMul, Nat.reduceLT, Nat.reduceLeDiff, this]⟩, fun i _ => ⟨by simp (decide := true) (disch := omega) only [letS_d, grd_tt, bnd_d, bnd1_d, bndX_d, bndX_e, gI_at, gI_ne, gI_sL, gL_sL, gL_sI, upd_at, updL_at, J_lit, J_add, J_mul, J_sub, J_lt, J_le, J_inj, J_ne, ne_J, m_lt, lt_m, m_le, le_m, J_cl, J_inB, if_true, if_false, ite_true, ite_false, reduceIte, isZ0, isZ1, J_and31, shrJ0, shlJ0, gI_sA, gL_sA, Nat.reduceEqDiff, Nat.reduceAdd, Nat.reduceMul, Nat.reduceLT, Nat.reduceLeDiff], by simp (decide := true) (disch := omega) only [letS_d, grd_tt, bnd_d, bnd1_d, bndX_d, bndX_e, gI_at, gI_ne, gI_sL, gL_sL, gL_sI, upd_at, updL_at, J_lit, J_add, J_mul, J_sub, J_lt, J_le, J_inj, J_ne, ne_J, m_lt, lt_m, m_le, le_m, J_cl, J_inB, if_true, if_false, ite_true, ite_false, reduceIte, isZ0, isZ1, J_and31, shrJ0, shlJ0, gI_sA, gL_sA, Nat.reduceEqDiff, Nat.reduceAdd, Nat.reduceMul, Nat.reduceLT, Nat.reduceLeDiff], by simp (decide := true) (disch := omega) only [letS_d, grd_tt, bnd_d, bnd1_d, bndX_d, bndX_e, gI_at, gI_ne, gI_sL, gL_sL, gL_sI, upd_at, updL_at, J_lit, J_add, J_mul, J_sub, J_lt, J_le, J_inj, J_ne, ne_J, m_lt, lt_m, m_le, le_m, J_cl, J_inB, if_true, if_false, ite_true, ite_false, reduceIte, isZ0, isZ1, J_and31, shrJ0, shlJ0, gI_sA, gL_sA, Nat.reduceEqDiff, Nat.reduceAdd, Nat.reduceMul, Nat.reduceLT, Nat.reduceLeDiff]⟩, fun i _ => ⟨by simp (decide := true) (disch := omega) only [letS_d, grd_tt, bnd_d, bnd1_d, bndX_d, bndX_e, gI_at, gI_ne, gI_sL, gL_sL, gL_sI, upd_at, updL_at, J_lit, J_add, J_mul, J_sub, J_lt, J_le, J_inj, J_ne, ne_J, m_lt, lt_m, m_le, le_m, J_cl, J_inB, if_true, if_false, ite_true, ite_false, reduceIte, isZ0, isZ1, J_and31, shrJ0, shlJ0, gI_sA, gL_sA, Nat.reduceEqDiff, Nat.reduceAdd, Nat.reduceMul, Nat.reduceLT, Nat.reduceLeDiff], by simp (decide := true) (disch := omega) only [letS_d, grd_tt, bnd_d, bnd1_d, bndX_d, bndX_e, gI_at, gI_ne, gI_sL, gL_sL, gL_sI, upd_at, updL_at, J_lit, J_add, J_mul, J_sub, J_lt, J_le, J_inj, J_ne, ne_J, m_lt, lt_m, m_le, le_m, J_cl, J_inB, if_true, if_false, ite_true, ite_false, reduceIte, isZ0, isZ1, J_and31, shrJ0, shlJ0, gI_sA, gL_sA, Nat.reduceEqDiff, Nat.reduceAdd, Nat.reduceMul, Nat.reduceLT, Nat.reduceLeDiff], by simp (decide := true) (disch := omega) only [letS_d, grd_tt, bnd_d, bnd1_d, bndX_d, bndX_e, gI_at, gI_ne, gI_sL, gL_sL, gL_sI, upd_at, updL_at, J_lit, J_add, J_mul, J_sub, J_lt, J_le, J_inj, J_ne, ne_J, m_lt, lt_m, m_le, le_m, J_cl, J_inB, if_true, if_false, ite_true, ite_false, reduceIte, isZ0, isZ1, J_and31, shrJ0, shlJ0, gI_sA, gL_sA, Nat.reduceEqDiff, Nat.reduceAdd, Nat.reduceMul, Nat.reduceLT, Nat.reduceLeDiff]⟩, (f v).mono (by decide)⟩
  refine ⟨sI (sI (sI σ 25 S (J y)) 26 S (if nK (F y) = J 11 then J 0 else -J 1)) 24 0 (J (S + 1)), ?_, b _, g _, by simp (decide := true) (disch := omega) only [letS_d, grd_tt, bnd_d, bnd1_d, bndX_d, bndX_e, gI_at, gI_ne, gI_sL, gL_sL, gL_sI, upd_at, updL_at, J_lit, J_add, J_mul, J_sub, J_lt, J_le, J_inj, J_ne, ne_J, m_lt, lt_m, m_le, le_m, J_cl, J_inB, if_true, if_false, ite_true, ite_false, reduceIte, isZ0, isZ1, J_and31, shrJ0, shlJ0, gI_sA, gL_sA, Nat.reduceEqDiff, Nat.reduceAdd, Nat.reduceMul, Nat.reduceLT, Nat.reduceLeDiff], by simp (decide := true) (disch := omega) only [letS_d, grd_tt, bnd_d, bnd1_d, bndX_d, bndX_e, gI_at, gI_ne, gI_sL, gL_sL, gL_sI, upd_at, updL_at, J_lit, J_add, J_mul, J_sub, J_lt, J_le, J_inj, J_ne, ne_J, m_lt, lt_m, m_le, le_m, J_cl, J_inB, if_true, if_false, ite_true, ite_false, reduceIte, isZ0, isZ1, J_and31, shrJ0, shlJ0, gI_sA, gL_sA, Nat.reduceEqDiff, Nat.reduceAdd, Nat.reduceMul, Nat.reduceLT, Nat.reduceLeDiff], fun i => ⟨by simp (decide := true) (disch := omega) only [letS_d, grd_tt, bnd_d, bnd1_d, bndX_d, bndX_e, gI_at, gI_ne, gI_sL, gL_sL, gL_sI, upd_at, updL_at, J_lit, J_add, J_mul, J_sub, J_lt, J_le, J_inj, J_ne, ne_J, m_lt, lt_m, m_le, le_m, J_cl, J_inB, if_true, if_false, ite_true, ite_false, reduceIte, isZ0, isZ1, J_and31, shrJ0, shlJ0, gI_sA, gL_sA, Nat.reduceEqDiff, Nat.reduceAdd, Nat.reduceMul, Nat.reduceLT, Nat.reduceLeDiff], by simp (decide := true) (disch := omega) only [letS_d, grd_tt, bnd_d, bnd1_d, bndX_d, bndX_e, gI_at, gI_ne, gI_sL, gL_sL, gL_sI, upd_at, updL_at, J_lit, J_add, J_mul, J_sub, J_lt, J_le, J_inj, J_ne, ne_J, m_lt, lt_m, m_le, le_m, J_cl, J_inB, if_true, if_false, ite_true, ite_false, reduceIte, isZ0, isZ1, J_and31, shrJ0, shlJ0, gI_sA, gL_sA, Nat.reduceEqDiff, Nat.reduceAdd, Nat.reduceMul, Nat.reduceLT, Nat.reduceLeDiff], by simp (decide := true) (disch := omega) only [letS_d, grd_tt, bnd_d, bnd1_d, bndX_d, bndX_e, gI_at, gI_ne, gI_sL, gL_sL, gL_sI, upd_at, updL_at, J_lit, J_add, J_mul, J_sub, J_lt, J_le, J_inj, J_ne, ne_J, m_lt, lt_m, m_le, le_m, J_cl, J_inB, if_true, if_false, ite_true, ite_false, reduceIte, isZ0, isZ1, J_and31, shrJ0, shlJ0, gI_sA, gL_sA, Nat.reduceEqDiff, Nat.reduceAdd, Nat.reduceMul, Nat.reduceLT, Nat.reduceLeDiff]⟩, fun i => ⟨by simp (decide := true) (disch := omega) only [letS_d, grd_tt, bnd_d, bnd1_d, bndX_d, bndX_e, gI_at, gI_ne, gI_sL, gL_sL, gL_sI, upd_at, updL_at, J_lit, J_add, J_mul, J_sub, J_lt, J_le, J_inj, J_ne, ne_J, m_lt, lt_m, m_le, le_m, J_cl, J_inB, if_true, if_false, ite_true, ite_false, reduceIte, isZ0, isZ1, J_and31, shrJ0, shlJ0, gI_sA, gL_sA, Nat.reduceEqDiff, Nat.reduceAdd, Nat.reduceMul, Nat.reduceLT, Nat.reduceLeDiff], by simp (decide := true) (disch := omega) only [letS_d, grd_tt, bnd_d, bnd1_d, bndX_d, bndX_e, gI_at, gI_ne, gI_sL, gL_sL, gL_sI, upd_at, updL_at, J_lit, J_add, J_mul, J_sub, J_lt, J_le, J_inj, J_ne, ne_J, m_lt, lt_m, m_le, le_m, J_cl, J_inB, if_true, if_false, ite_true, ite_false, reduceIte, isZ0, isZ1, J_and31, shrJ0, shlJ0, gI_sA, gL_sA, Nat.reduceEqDiff, Nat.reduceAdd, Nat.reduceMul, Nat.reduceLT, Nat.reduceLeDiff], by simp (decide := true) (disch := omega) only [letS_d, grd_tt, bnd_d, bnd1_d, bndX_d, bndX_e, gI_at, gI_ne, gI_sL, gL_sL, gL_sI, upd_at, updL_at, J_lit, J_add, J_mul, J_sub, J_lt, J_le, J_inj, J_ne, ne_J, m_lt, lt_m, m_le, le_m, J_cl, J_inB, if_true, if_false, ite_true, ite_false, reduceIte, isZ0, isZ1, J_and31, shrJ0, shlJ0, gI_sA, gL_sA, Nat.reduceEqDiff, Nat.reduceAdd, Nat.reduceMul, Nat.reduceLT, Nat.reduceLeDiff]⟩⟩
  unfold fX9_enter fX9_enter_34
  by_cases hk : nK (F y) = J 11
  · simp (decide := true) (disch := omega) only [letS_d, grd_tt, bnd_d, bnd1_d, bndX_d, bndX_e, gI_at, gI_ne, gI_sL, gL_sL, gL_sI, upd_at, updL_at, J_lit, J_add, J_mul, J_sub, J_lt, J_le, J_inj, J_ne, ne_J, m_lt, lt_m, m_le, le_m, J_cl, J_inB, if_true, if_false, ite_true, ite_false, reduceIte, isZ0, isZ1, J_and31, shrJ0, shlJ0, gI_sA, gL_sA, Nat.reduceEqDiff, Nat.reduceAdd, Nat.reduceMul, Nat.reduceLT, Nat.reduceLeDiff, h2, h5, hk]
  · have hk' : ¬ nK (F y) = J 11 := hk
    simp (decide := true) (disch := omega) only [letS_d, grd_tt, bnd_d, bnd1_d, bndX_d, bndX_e, gI_at, gI_ne, gI_sL, gL_sL, gL_sI, upd_at, updL_at, J_lit, J_add, J_mul, J_sub, J_lt, J_le, J_inj, J_ne, ne_J, m_lt, lt_m, m_le, le_m, J_cl, J_inB, if_true, if_false, ite_true, ite_false, reduceIte, isZ0, isZ1, J_and31, shrJ0, shlJ0, gI_sA, gL_sA, Nat.reduceEqDiff, Nat.reduceAdd, Nat.reduceMul, Nat.reduceLT, Nat.reduceLeDiff, h2, h5, hk']
/-- linking -/
theorem u_follow0 {K : Nat} (hK : K ≤ 10) (a b : Int32) : ∀ f o n (σ : St), o + f = K → f < n → gI σ 17 0 = J K → ∃ σ', fX9_follow_2 N n σ a b (J o) = some σ' ∧ Fr [21] σ σ' ∧ (∀ i, i < o → gI σ' 21 i = gI σ 21 i) ∧ (∀ i, K ≤ i → gI σ' 21 i = gI σ 21 i) ∧ ∀ i, o ≤ i → i < K → gI σ' 21 i = if bt a i = true then gI σ 21 i ||| b else gI σ 21 i := by
  intro f
  induction f with
  | zero =>
    intro o n σ ho hn h17
    obtain ⟨n, rfl⟩ : ∃ k, n = k + 1 := ⟨n - 1, by omega⟩
    obtain rfl : o = K := by omega
    refine ⟨σ, ?_, Fr.rf, fun _ _ => rfl, fun _ _ => rfl, fun i h1 h2 => by omega⟩
    unfold fX9_follow_2
    simp (decide := true) (disch := omega) only [letS_d, grd_tt, bnd_d, bnd1_d, bndX_d, bndX_e, gI_at, gI_ne, gI_sL, gL_sL, gL_sI, upd_at, updL_at, J_lit, J_add, J_mul, J_sub, J_lt, J_le, J_inj, J_ne, ne_J, m_lt, lt_m, m_le, le_m, J_cl, J_inB, if_true, if_false, ite_true, ite_false, reduceIte, isZ0, isZ1, J_and31, shrJ0, shlJ0, gI_sA, gL_sA, Nat.reduceEqDiff, Nat.reduceAdd, Nat.reduceMul, Nat.reduceLT, Nat.reduceLeDiff, h17, Nat.le_refl]
  | succ f ih =>
    intro o n σ ho hn h17
    obtain ⟨n, rfl⟩ : ∃ k, n = k + 1 := ⟨n - 1, by omega⟩
    have h1 : ¬ K ≤ o := by omega
    have hh := has_J1 a (k := o) (by omega)
    rw [show fX9_follow_2 N (n + 1) σ a b (J o) = _ from by unfold fX9_follow_2; rfl]
    by_cases hb : bt a o = true
    · have hc := hh.mpr hb
      obtain ⟨σ', e1, e2, e3, e4, e5⟩ := ih (o + 1) n (sI σ 21 o (gI σ 21 o ||| b)) (by omega) (by omega) (by simp (decide := true) (disch := omega) only [letS_d, grd_tt, bnd_d, bnd1_d, bndX_d, bndX_e, gI_at, gI_ne, gI_sL, gL_sL, gL_sI, upd_at, updL_at, J_lit, J_add, J_mul, J_sub, J_lt, J_le, J_inj, J_ne, ne_J, m_lt, lt_m, m_le, le_m, J_cl, J_inB, if_true, if_false, ite_true, ite_false, reduceIte, isZ0, isZ1, J_and31, shrJ0, shlJ0, gI_sA, gL_sA, Nat.reduceEqDiff, Nat.reduceAdd, Nat.reduceMul, Nat.reduceLT, Nat.reduceLeDiff]; exact h17)
      refine ⟨σ', ?_, (Fr.i (by decide)).tr e2, fun i hi => ?_, fun i hi => ?_, fun i i1 i2 => ?_⟩
      · simp (decide := true) (disch := omega) only [letS_d, grd_tt, bnd_d, bnd1_d, bndX_d, bndX_e, gI_at, gI_ne, gI_sL, gL_sL, gL_sI, upd_at, updL_at, J_lit, J_add, J_mul, J_sub, J_lt, J_le, J_inj, J_ne, ne_J, m_lt, lt_m, m_le, le_m, J_cl, J_inB, if_true, if_false, ite_true, ite_false, reduceIte, isZ0, isZ1, J_and31, shrJ0, shlJ0, gI_sA, gL_sA, Nat.reduceEqDiff, Nat.reduceAdd, Nat.reduceMul, Nat.reduceLT, Nat.reduceLeDiff, h17, h1, hc, fX9_follow_29]
        exact e1
      · rw [e3 i (by omega)]
        have : ¬ i = o := by omega
        simp (decide := true) (disch := omega) only [letS_d, grd_tt, bnd_d, bnd1_d, bndX_d, bndX_e, gI_at, gI_ne, gI_sL, gL_sL, gL_sI, upd_at, updL_at, J_lit, J_add, J_mul, J_sub, J_lt, J_le, J_inj, J_ne, ne_J, m_lt, lt_m, m_le, le_m, J_cl, J_inB, if_true, if_false, ite_true, ite_false, reduceIte, isZ0, isZ1, J_and31, shrJ0, shlJ0, gI_sA, gL_sA, Nat.reduceEqDiff, Nat.reduceAdd, Nat.reduceMul, Nat.reduceLT, Nat.reduceLeDiff, this]
      · rw [e4 i hi]
        have : ¬ i = o := by omega
        simp (decide := true) (disch := omega) only [letS_d, grd_tt, bnd_d, bnd1_d, bndX_d, bndX_e, gI_at, gI_ne, gI_sL, gL_sL, gL_sI, upd_at, updL_at, J_lit, J_add, J_mul, J_sub, J_lt, J_le, J_inj, J_ne, ne_J, m_lt, lt_m, m_le, le_m, J_cl, J_inB, if_true, if_false, ite_true, ite_false, reduceIte, isZ0, isZ1, J_and31, shrJ0, shlJ0, gI_sA, gL_sA, Nat.reduceEqDiff, Nat.reduceAdd, Nat.reduceMul, Nat.reduceLT, Nat.reduceLeDiff, this]
      · by_cases hio : i = o
        · subst hio
          rw [e3 i (by omega), if_pos hb]
          simp (decide := true) (disch := omega) only [letS_d, grd_tt, bnd_d, bnd1_d, bndX_d, bndX_e, gI_at, gI_ne, gI_sL, gL_sL, gL_sI, upd_at, updL_at, J_lit, J_add, J_mul, J_sub, J_lt, J_le, J_inj, J_ne, ne_J, m_lt, lt_m, m_le, le_m, J_cl, J_inB, if_true, if_false, ite_true, ite_false, reduceIte, isZ0, isZ1, J_and31, shrJ0, shlJ0, gI_sA, gL_sA, Nat.reduceEqDiff, Nat.reduceAdd, Nat.reduceMul, Nat.reduceLT, Nat.reduceLeDiff]
        · rw [e5 i (by omega) i2]
          have e : gI (sI σ 21 o (gI σ 21 o ||| b)) 21 i = gI σ 21 i := by simp (decide := true) (disch := omega) only [letS_d, grd_tt, bnd_d, bnd1_d, bndX_d, bndX_e, gI_at, gI_ne, gI_sL, gL_sL, gL_sI, upd_at, updL_at, J_lit, J_add, J_mul, J_sub, J_lt, J_le, J_inj, J_ne, ne_J, m_lt, lt_m, m_le, le_m, J_cl, J_inB, if_true, if_false, ite_true, ite_false, reduceIte, isZ0, isZ1, J_and31, shrJ0, shlJ0, gI_sA, gL_sA, Nat.reduceEqDiff, Nat.reduceAdd, Nat.reduceMul, Nat.reduceLT, Nat.reduceLeDiff, hio]
          rw [e]
    · have hc : ¬ (a >>> J o) &&& J 1 = J 1 := fun h9 => hb (hh.mp h9)
      obtain ⟨σ', e1, e2, e3, e4, e5⟩ := ih (o + 1) n σ (by omega) (by omega) h17
      refine ⟨σ', ?_, e2, fun i hi => e3 i (by omega), e4, fun i i1 i2 => ?_⟩
      · simp (decide := true) (disch := omega) only [letS_d, grd_tt, bnd_d, bnd1_d, bndX_d, bndX_e, gI_at, gI_ne, gI_sL, gL_sL, gL_sI, upd_at, updL_at, J_lit, J_add, J_mul, J_sub, J_lt, J_le, J_inj, J_ne, ne_J, m_lt, lt_m, m_le, le_m, J_cl, J_inB, if_true, if_false, ite_true, ite_false, reduceIte, isZ0, isZ1, J_and31, shrJ0, shlJ0, gI_sA, gL_sA, Nat.reduceEqDiff, Nat.reduceAdd, Nat.reduceMul, Nat.reduceLT, Nat.reduceLeDiff, h17, h1, hc, fX9_follow_29]
        exact e1
      · by_cases hio : i = o
        · subst hio
          rw [e3 i (by omega), if_neg hb]
        · exact e5 i (by omega) i2
theorem u_follow (hN : 100 ≤ N) {K : Nat} (hK : K ≤ 10) (a b : Int32) {σ : St} (h17 : gI σ 17 0 = J K) : ∃ σ', fX9_follow N σ a b = some σ' ∧ Fr [21] σ σ' ∧ (∀ i, K ≤ i → gI σ' 21 i = gI σ 21 i) ∧ ∀ i, i < K → gI σ' 21 i = if bt a i = true then gI σ 21 i ||| b else gI σ 21 i := by
  obtain ⟨σ', e1, e2, e3, e4, e5⟩ := u_follow0 (N := N) hK a b K 0 N σ (by omega) (by omega) h17
  refine ⟨σ', ?_, e2, e4, fun i hi => e5 i (by omega) hi⟩
  unfold fX9_follow
  exact e1
/-- a place -/
theorem u_place {b : Term} {x S V K : Nat} {σ : St} (h : US F (S + 1) V K σ) (hK : K ≤ 9) (hS : S < 64) (hV : V < 64) (hx : x < 160) (h25 : gI σ 25 S = J x) (hk : ∃ v, v < 10 ∧ nK (F x) = J v) : UO N P fr F (.field b "" "" "") x 2 S V K σ := by
  have hst := fun n => (u_step (N := N) (P := P) (fr := fr) h hK hS h25 hx n).2.2 hk
  obtain ⟨h1, h2, h3, h4⟩ := h
  have e3 : S + 1 - 1 = S := by omega
  have f : Fr UL σ (sI (sI (sI (sI (sI (sI (sI (sI (sI σ 24 0 (J S)) 19 K (J x)) 20 K (J P)) 21 K (J 0)) 28 V (J 1 <<< J K)) 29 V (J 1 <<< J K)) 30 V (J 1 <<< J K)) 27 0 (J (V + 1))) 17 0 (J (K + 1))) := ((((((((Fr.i (by decide)).tr (Fr.i (by decide))).tr (Fr.i (by decide))).tr (Fr.i (by decide))).tr (Fr.i (by decide))).tr (Fr.i (by decide))).tr (Fr.i (by decide))).tr (Fr.i (by decide))).tr (Fr.i (by decide))
  have hpl : fX9_place N σ (J x) (J P) = some (sI (sI (sI (sI (sI (sI (sI (sI (sI σ 24 0 (J S)) 19 K (J x)) 20 K (J P)) 21 K (J 0)) 28 V (J 1 <<< J K)) 29 V (J 1 <<< J K)) 30 V (J 1 <<< J K)) 27 0 (J (V + 1))) 17 0 (J (K + 1))) := by
    unfold fX9_place fX9_push
    simp (decide := true) (disch := omega) only [letS_d, grd_tt, bnd_d, bnd1_d, bndX_d, bndX_e, gI_at, gI_ne, gI_sL, gL_sL, gL_sI, upd_at, updL_at, J_lit, J_add, J_mul, J_sub, J_lt, J_le, J_inj, J_ne, ne_J, m_lt, lt_m, m_le, le_m, J_cl, J_inB, if_true, if_false, ite_true, ite_false, reduceIte, isZ0, isZ1, J_and31, shrJ0, shlJ0, gI_sA, gL_sA, Nat.reduceEqDiff, Nat.reduceAdd, Nat.reduceMul, Nat.reduceLT, Nat.reduceLeDiff, h2, e3, h4, h3]
  have g1 : gI (sI (sI (sI (sI (sI (sI (sI (sI (sI σ 24 0 (J S)) 19 K (J x)) 20 K (J P)) 21 K (J 0)) 28 V (J 1 <<< J K)) 29 V (J 1 <<< J K)) 30 V (J 1 <<< J K)) 27 0 (J (V + 1))) 17 0 (J (K + 1))) 17 0 = J (K + 1) := by simp (decide := true) (disch := omega) only [letS_d, grd_tt, bnd_d, bnd1_d, bndX_d, bndX_e, gI_at, gI_ne, gI_sL, gL_sL, gL_sI, upd_at, updL_at, J_lit, J_add, J_mul, J_sub, J_lt, J_le, J_inj, J_ne, ne_J, m_lt, lt_m, m_le, le_m, J_cl, J_inB, if_true, if_false, ite_true, ite_false, reduceIte, isZ0, isZ1, J_and31, shrJ0, shlJ0, gI_sA, gL_sA, Nat.reduceEqDiff, Nat.reduceAdd, Nat.reduceMul, Nat.reduceLT, Nat.reduceLeDiff]
  have g2 : gI (sI (sI (sI (sI (sI (sI (sI (sI (sI σ 24 0 (J S)) 19 K (J x)) 20 K (J P)) 21 K (J 0)) 28 V (J 1 <<< J K)) 29 V (J 1 <<< J K)) 30 V (J 1 <<< J K)) 27 0 (J (V + 1))) 17 0 (J (K + 1))) 24 0 = J S := by simp (decide := true) (disch := omega) only [letS_d, grd_tt, bnd_d, bnd1_d, bndX_d, bndX_e, gI_at, gI_ne, gI_sL, gL_sL, gL_sI, upd_at, updL_at, J_lit, J_add, J_mul, J_sub, J_lt, J_le, J_inj, J_ne, ne_J, m_lt, lt_m, m_le, le_m, J_cl, J_inB, if_true, if_false, ite_true, ite_false, reduceIte, isZ0, isZ1, J_and31, shrJ0, shlJ0, gI_sA, gL_sA, Nat.reduceEqDiff, Nat.reduceAdd, Nat.reduceMul, Nat.reduceLT, Nat.reduceLeDiff]
  have g3 : gI (sI (sI (sI (sI (sI (sI (sI (sI (sI σ 24 0 (J S)) 19 K (J x)) 20 K (J P)) 21 K (J 0)) 28 V (J 1 <<< J K)) 29 V (J 1 <<< J K)) 30 V (J 1 <<< J K)) 27 0 (J (V + 1))) 17 0 (J (K + 1))) 27 0 = J (V + 1) := by simp (decide := true) (disch := omega) only [letS_d, grd_tt, bnd_d, bnd1_d, bndX_d, bndX_e, gI_at, gI_ne, gI_sL, gL_sL, gL_sI, upd_at, updL_at, J_lit, J_add, J_mul, J_sub, J_lt, J_le, J_inj, J_ne, ne_J, m_lt, lt_m, m_le, le_m, J_cl, J_inB, if_true, if_false, ite_true, ite_false, reduceIte, isZ0, isZ1, J_and31, shrJ0, shlJ0, gI_sA, gL_sA, Nat.reduceEqDiff, Nat.reduceAdd, Nat.reduceMul, Nat.reduceLT, Nat.reduceLeDiff]
  have g4 : gI (sI (sI (sI (sI (sI (sI (sI (sI (sI σ 24 0 (J S)) 19 K (J x)) 20 K (J P)) 21 K (J 0)) 28 V (J 1 <<< J K)) 29 V (J 1 <<< J K)) 30 V (J 1 <<< J K)) 27 0 (J (V + 1))) 17 0 (J (K + 1))) 28 V = J 1 <<< J K := by simp (decide := true) (disch := omega) only [letS_d, grd_tt, bnd_d, bnd1_d, bndX_d, bndX_e, gI_at, gI_ne, gI_sL, gL_sL, gL_sI, upd_at, updL_at, J_lit, J_add, J_mul, J_sub, J_lt, J_le, J_inj, J_ne, ne_J, m_lt, lt_m, m_le, le_m, J_cl, J_inB, if_true, if_false, ite_true, ite_false, reduceIte, isZ0, isZ1, J_and31, shrJ0, shlJ0, gI_sA, gL_sA, Nat.reduceEqDiff, Nat.reduceAdd, Nat.reduceMul, Nat.reduceLT, Nat.reduceLeDiff]
  have g5 : gI (sI (sI (sI (sI (sI (sI (sI (sI (sI σ 24 0 (J S)) 19 K (J x)) 20 K (J P)) 21 K (J 0)) 28 V (J 1 <<< J K)) 29 V (J 1 <<< J K)) 30 V (J 1 <<< J K)) 27 0 (J (V + 1))) 17 0 (J (K + 1))) 29 V = J 1 <<< J K := by simp (decide := true) (disch := omega) only [letS_d, grd_tt, bnd_d, bnd1_d, bndX_d, bndX_e, gI_at, gI_ne, gI_sL, gL_sL, gL_sI, upd_at, updL_at, J_lit, J_add, J_mul, J_sub, J_lt, J_le, J_inj, J_ne, ne_J, m_lt, lt_m, m_le, le_m, J_cl, J_inB, if_true, if_false, ite_true, ite_false, reduceIte, isZ0, isZ1, J_and31, shrJ0, shlJ0, gI_sA, gL_sA, Nat.reduceEqDiff, Nat.reduceAdd, Nat.reduceMul, Nat.reduceLT, Nat.reduceLeDiff]
  have g6 : gI (sI (sI (sI (sI (sI (sI (sI (sI (sI σ 24 0 (J S)) 19 K (J x)) 20 K (J P)) 21 K (J 0)) 28 V (J 1 <<< J K)) 29 V (J 1 <<< J K)) 30 V (J 1 <<< J K)) 27 0 (J (V + 1))) 17 0 (J (K + 1))) 19 K = J x := by simp (decide := true) (disch := omega) only [letS_d, grd_tt, bnd_d, bnd1_d, bndX_d, bndX_e, gI_at, gI_ne, gI_sL, gL_sL, gL_sI, upd_at, updL_at, J_lit, J_add, J_mul, J_sub, J_lt, J_le, J_inj, J_ne, ne_J, m_lt, lt_m, m_le, le_m, J_cl, J_inB, if_true, if_false, ite_true, ite_false, reduceIte, isZ0, isZ1, J_and31, shrJ0, shlJ0, gI_sA, gL_sA, Nat.reduceEqDiff, Nat.reduceAdd, Nat.reduceMul, Nat.reduceLT, Nat.reduceLeDiff]
  have g7 : gI (sI (sI (sI (sI (sI (sI (sI (sI (sI σ 24 0 (J S)) 19 K (J x)) 20 K (J P)) 21 K (J 0)) 28 V (J 1 <<< J K)) 29 V (J 1 <<< J K)) 30 V (J 1 <<< J K)) 27 0 (J (V + 1))) 17 0 (J (K + 1))) 20 K = J P := by simp (decide := true) (disch := omega) only [letS_d, grd_tt, bnd_d, bnd1_d, bndX_d, bndX_e, gI_at, gI_ne, gI_sL, gL_sL, gL_sI, upd_at, updL_at, J_lit, J_add, J_mul, J_sub, J_lt, J_le, J_inj, J_ne, ne_J, m_lt, lt_m, m_le, le_m, J_cl, J_inB, if_true, if_false, ite_true, ite_false, reduceIte, isZ0, isZ1, J_and31, shrJ0, shlJ0, gI_sA, gL_sA, Nat.reduceEqDiff, Nat.reduceAdd, Nat.reduceMul, Nat.reduceLT, Nat.reduceLeDiff]
  have g8 : gI (sI (sI (sI (sI (sI (sI (sI (sI (sI σ 24 0 (J S)) 19 K (J x)) 20 K (J P)) 21 K (J 0)) 28 V (J 1 <<< J K)) 29 V (J 1 <<< J K)) 30 V (J 1 <<< J K)) 27 0 (J (V + 1))) 17 0 (J (K + 1))) 21 K = J 0 := by simp (decide := true) (disch := omega) only [letS_d, grd_tt, bnd_d, bnd1_d, bndX_d, bndX_e, gI_at, gI_ne, gI_sL, gL_sL, gL_sI, upd_at, updL_at, J_lit, J_add, J_mul, J_sub, J_lt, J_le, J_inj, J_ne, ne_J, m_lt, lt_m, m_le, le_m, J_cl, J_inB, if_true, if_false, ite_true, ite_false, reduceIte, isZ0, isZ1, J_and31, shrJ0, shlJ0, gI_sA, gL_sA, Nat.reduceEqDiff, Nat.reduceAdd, Nat.reduceMul, Nat.reduceLT, Nat.reduceLeDiff]
  have hb : Blw S V K σ (sI (sI (sI (sI (sI (sI (sI (sI (sI σ 24 0 (J S)) 19 K (J x)) 20 K (J P)) 21 K (J 0)) 28 V (J 1 <<< J K)) 29 V (J 1 <<< J K)) 30 V (J 1 <<< J K)) 27 0 (J (V + 1))) 17 0 (J (K + 1))) := ⟨fun i _ => ⟨by simp (decide := true) (disch := omega) only [letS_d, grd_tt, bnd_d, bnd1_d, bndX_d, bndX_e, gI_at, gI_ne, gI_sL, gL_sL, gL_sI, upd_at, updL_at, J_lit, J_add, J_mul, J_sub, J_lt, J_le, J_inj, J_ne, ne_J, m_lt, lt_m, m_le, le_m, J_cl, J_inB, if_true, if_false, ite_true, ite_false, reduceIte, isZ0, isZ1, J_and31, shrJ0, shlJ0, gI_sA, gL_sA, Nat.reduceEqDiff, Nat.reduceAdd, Nat.reduceMul, Nat.reduceLT, Nat.reduceLeDiff], by simp (decide := true) (disch := omega) only [letS_d, grd_tt, bnd_d, bnd1_d, bndX_d, bndX_e, gI_at, gI_ne, gI_sL, gL_sL, gL_sI, upd_at, updL_at, J_lit, J_add, J_mul, J_sub, J_lt, J_le, J_inj, J_ne, ne_J, m_lt, lt_m, m_le, le_m, J_cl, J_inB, if_true, if_false, ite_true, ite_false, reduceIte, isZ0, isZ1, J_and31, shrJ0, shlJ0, gI_sA, gL_sA, Nat.reduceEqDiff, Nat.reduceAdd, Nat.reduceMul, Nat.reduceLT, Nat.reduceLeDiff]⟩, fun i hi => by
    have : ¬ i = V := by omega
    exact ⟨by simp (decide := true) (disch := omega) only [letS_d, grd_tt, bnd_d, bnd1_d, bndX_d, bndX_e, gI_at, gI_ne, gI_sL, gL_sL, gL_sI, upd_at, updL_at, J_lit, J_add, J_mul, J_sub, J_lt, J_le, J_inj, J_ne, ne_J, m_lt, lt_m, m_le, le_m, J_cl, J_inB, if_true, if_false, ite_true, ite_false, reduceIte, isZ0, isZ1, J_and31, shrJ0, shlJ0, gI_sA, gL_sA, Nat.reduceEqDiff, Nat.reduceAdd, Nat.reduceMul, Nat.reduceLT, Nat.reduceLeDiff, this], by simp (decide := true) (disch := omega) only [letS_d, grd_tt, bnd_d, bnd1_d, bndX_d, bndX_e, gI_at, gI_ne, gI_sL, gL_sL, gL_sI, upd_at, updL_at, J_lit, J_add, J_mul, J_sub, J_lt, J_le, J_inj, J_ne, ne_J, m_lt, lt_m, m_le, le_m, J_cl, J_inB, if_true, if_false, ite_true, ite_false, reduceIte, isZ0, isZ1, J_and31, shrJ0, shlJ0, gI_sA, gL_sA, Nat.reduceEqDiff, Nat.reduceAdd, Nat.reduceMul, Nat.reduceLT, Nat.reduceLeDiff, this], by simp (decide := true) (disch := omega) only [letS_d, grd_tt, bnd_d, bnd1_d, bndX_d, bndX_e, gI_at, gI_ne, gI_sL, gL_sL, gL_sI, upd_at, updL_at, J_lit, J_add, J_mul, J_sub, J_lt, J_le, J_inj, J_ne, ne_J, m_lt, lt_m, m_le, le_m, J_cl, J_inB, if_true, if_false, ite_true, ite_false, reduceIte, isZ0, isZ1, J_and31, shrJ0, shlJ0, gI_sA, gL_sA, Nat.reduceEqDiff, Nat.reduceAdd, Nat.reduceMul, Nat.reduceLT, Nat.reduceLeDiff, this]⟩, fun i hi => by
    have : ¬ i = K := by omega
    exact ⟨by simp (decide := true) (disch := omega) only [letS_d, grd_tt, bnd_d, bnd1_d, bndX_d, bndX_e, gI_at, gI_ne, gI_sL, gL_sL, gL_sI, upd_at, updL_at, J_lit, J_add, J_mul, J_sub, J_lt, J_le, J_inj, J_ne, ne_J, m_lt, lt_m, m_le, le_m, J_cl, J_inB, if_true, if_false, ite_true, ite_false, reduceIte, isZ0, isZ1, J_and31, shrJ0, shlJ0, gI_sA, gL_sA, Nat.reduceEqDiff, Nat.reduceAdd, Nat.reduceMul, Nat.reduceLT, Nat.reduceLeDiff, this], by simp (decide := true) (disch := omega) only [letS_d, grd_tt, bnd_d, bnd1_d, bndX_d, bndX_e, gI_at, gI_ne, gI_sL, gL_sL, gL_sI, upd_at, updL_at, J_lit, J_add, J_mul, J_sub, J_lt, J_le, J_inj, J_ne, ne_J, m_lt, lt_m, m_le, le_m, J_cl, J_inB, if_true, if_false, ite_true, ite_false, reduceIte, isZ0, isZ1, J_and31, shrJ0, shlJ0, gI_sA, gL_sA, Nat.reduceEqDiff, Nat.reduceAdd, Nat.reduceMul, Nat.reduceLT, Nat.reduceLeDiff, this], by simp (decide := true) (disch := omega) only [letS_d, grd_tt, bnd_d, bnd1_d, bndX_d, bndX_e, gI_at, gI_ne, gI_sL, gL_sL, gL_sI, upd_at, updL_at, J_lit, J_add, J_mul, J_sub, J_lt, J_le, J_inj, J_ne, ne_J, m_lt, lt_m, m_le, le_m, J_cl, J_inB, if_true, if_false, ite_true, ite_false, reduceIte, isZ0, isZ1, J_and31, shrJ0, shlJ0, gI_sA, gL_sA, Nat.reduceEqDiff, Nat.reduceAdd, Nat.reduceMul, Nat.reduceLT, Nat.reduceLeDiff, this]⟩, f⟩
  have hn : nd (sI (sI (sI (sI (sI (sI (sI (sI (sI σ 24 0 (J S)) 19 K (J x)) 20 K (J P)) 21 K (J 0)) 28 V (J 1 <<< J K)) 29 V (J 1 <<< J K)) 30 V (J 1 <<< J K)) 27 0 (J (V + 1))) 17 0 (J (K + 1))) = F := (nd_of f (by decide)).trans h1
  generalize sI (sI (sI (sI (sI (sI (sI (sI (sI σ 24 0 (J S)) 19 K (J x)) 20 K (J P)) 21 K (J 0)) 28 V (J 1 <<< J K)) 29 V (J 1 <<< J K)) 30 V (J 1 <<< J K)) 27 0 (J (V + 1))) 17 0 (J (K + 1)) = σ' at *
  have hlen : len (.field b "" "" "") = 1 := rfl
  refine ⟨fun hle => ⟨1, σ', by omega, fun n => by rw [hst n, hpl, bnd1_d], hb, ⟨hn, g2, g3, by rw [hlen]; exact g1⟩, ⟨?_, ?_⟩, fun j hj => ?_⟩, fun hgt => ?_⟩
  · rw [g4]
    exact (Mk.one (by omega)).congr (fun _ _ => rfl)
  · rw [g5]
    exact (Mk.one (by omega)).congr (fun _ _ => rfl)
  · rw [hlen] at hj
    obtain rfl : j = 0 := by omega
    rw [Nat.add_zero, g6, g7, g8]
    exact ⟨rfl, rfl, Mk.zero.congr (fun _ _ => rfl)⟩
  · rw [hlen] at hgt
    obtain rfl : K = 9 := by omega
    refine ⟨2, Nat.le_refl _, σ', fun n => ?_, f, g1⟩
    rw [show n + 2 = n + 1 + 1 from rfl, hst (n + 1), hpl, bnd1_d]
    exact u_over g1 n
end UNR
