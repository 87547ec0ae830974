/-! the states' numbers -/
section NUM
variable {N c : Nat} {ld : Nat → Nat → Nat} {F : Nat → Bool}
theorem g40_le (i : Nat) : gk ld F 40 i ≤ i := rf_le (gk ld F 39) i
theorem g40_id (i : Nat) : gk ld F 40 (gk ld F 40 i) = gk ld F 40 i := rf_rf (gk ld F 39) i
/-- what stays while states are numbered -/
def Nc (c : Nat) (ld : Nat → Nat → Nat) (F : Nat → Bool) (τ σ : St) : Prop := Ls c ld τ σ ∧ (∀ i, i < c → F i = true → al ld F i = true) ∧ (∀ i, i < c → gI τ 73 i = zb (F i)) ∧ (∀ i, i < c → gI τ 74 i = J (gk ld F 40 i)) ∧ Sr c F (Sk ld F 40) σ
theorem Nc.fr {τ τ' σ σ' : St} {X X' : List Nat} (h : Nc c ld F τ σ) (f : Fr X τ τ') (f' : Fr X' σ σ') (d : ∀ k ∈ [62, 66, 73, 74], k ∉ X) (d' : ∀ k ∈ [34, 36, 37, 38], k ∉ X') : Nc c ld F τ' σ' := by
  obtain ⟨h1, h2, h3, h4, h5⟩ := h
  refine ⟨h1.fr f f' (fun k hk => d k (by simp at hk ⊢; omega)) (fun k hk => d' k (by simp at hk ⊢; omega)), h2, ?_, ?_, h5.fr f' (fun k hk => d' k (by simp at hk ⊢; omega))⟩
  · rw [f.gi (d 73 (by decide))]
    exact h3
  · rw [f.gi (d 74 (by decide))]
    exact h4
/-- the states met so far -/
def Ni (c : Nat) (ld : Nat → Nat → Nat) (F : Nat → Bool) (m : Nat) (rep : Nat → Nat) (τ σ : St) : Prop := (gI τ 71 0 = J m ∧ gI σ 40 0 = J m) ∧ (∀ s, s < m → gI τ 77 s = J (rep s) ∧ rep s < c ∧ F (rep s) = false ∧ gk ld F 40 (rep s) = rep s) ∧ (∀ s s', s < s' → s' < m → rep s ≠ rep s') ∧ ∀ i, i < c → F i = false → (∃ s, s < m ∧ rep s = gk ld F 40 i ∧ gI τ 76 (gk ld F 40 i) = J s ∧ gI σ 39 (Sk ld F 40 i) = J s) ∨ ((∀ s, s < m → rep s ≠ gk ld F 40 i) ∧ gI τ 76 (gk ld F 40 i) = -J 1 ∧ gI σ 39 (Sk ld F 40 i) = -J 1)
theorem Ni.fr {m : Nat} {rep : Nat → Nat} {τ τ' σ σ' : St} {X X' : List Nat} (h : Ni c ld F m rep τ σ) (f : Fr X τ τ') (f' : Fr X' σ σ') (d : ∀ k ∈ [71, 76, 77], k ∉ X) (d' : ∀ k ∈ [39, 40], k ∉ X') : Ni c ld F m rep τ' σ' := by
  unfold Ni
  rw [f.gi (d 71 (by decide)), f.gi (d 76 (by decide)), f.gi (d 77 (by decide)), f'.gi (d' 39 (by decide)), f'.gi (d' 40 (by decide))]
  exact h
theorem Ni_lt {m : Nat} {rep : Nat → Nat} {τ σ : St} (h : Ni c ld F m rep τ σ) {i : Nat} (hi : i < c) (hno : ∀ s, s < m → rep s ≠ gk ld F 40 i) : m < c := by
  rcases Nat.lt_or_ge m c with h1 | h1
  · exact h1
  · exfalso
    have hg := g40_le (ld := ld) (F := F) i
    obtain ⟨a, b, p1, p2, p3⟩ := php c (m + 1) (fun s => if s < m then rep s else gk ld F 40 i) (by omega) (fun s hs => by
      show (if s < m then rep s else gk ld F 40 i) < c
      split
      · rename_i h2
        exact (h.2.1 s h2).2.1
      · omega)
    have p3' : (if a < m then rep a else gk ld F 40 i) = (if b < m then rep b else gk ld F 40 i) := p3
    rw [if_pos (by omega)] at p3'
    by_cases hb : b < m
    · rw [if_pos hb] at p3'
      exact h.2.2.1 a b p1 hb p3'
    · rw [if_neg hb] at p3'
      exact hno a (by omega) p3'
theorem Ni_le {m : Nat} {rep : Nat → Nat} {τ σ : St} (h : Ni c ld F m rep τ σ) : m ≤ c := by
  rcases Nat.lt_or_ge c m with h1 | h1
  · exfalso
    obtain ⟨a, b, p1, p2, p3⟩ := php c m rep h1 (fun s hs => (h.2.1 s hs).2.1)
    exact h.2.2.1 a b p1 p2 p3
  · exact h1
/-- a state that is met for the first time -/
theorem Ni_new {m : Nat} {rep : Nat → Nat} {τ σ : St} (hC : Nc c ld F τ σ) (h : Ni c ld F m rep τ σ) {i : Nat} (hi : i < c) (fi : F i = false) (hno : ∀ s, s < m → rep s ≠ gk ld F 40 i) : Ni c ld F (m + 1) (fun s => if s < m then rep s else gk ld F 40 i) (sI (sI (sI τ 76 (gk ld F 40 i) (J m)) 77 m (J (gk ld F 40 i))) 71 0 (J (m + 1))) (sI (sI σ 39 (Sk ld F 40 i) (J m)) 40 0 (J (m + 1))) := by
  obtain ⟨h1, h2, h3, h4⟩ := h
  have hg := g40_le (ld := ld) (F := F) i
  have hld : ∀ i l, i < c → l < 8 → ld i l < c := fun i l hi hl => (hC.1.2.2.2.2 i l hi hl).1
  have hfg : F (gk ld F 40 i) = false := by
    rw [rf_F hC.2.1 hld 40 (show gk ld F 40 i < c by omega) hi (g40_id i)]
    exact fi
  refine ⟨⟨by simp (decide := true) (disch := omega) only [letS_d, grd_t, bnd_d, bnd1_d, bndX_d, bndX_e, gI_sI, gI_sL, gL_sL, gL_sI, upd_at, updL_at, J_lit, J_add, J_mul, J_sub, J_lt, J_le, J_inj, J_ne, ne_J, m_lt, lt_m, m_le, le_m, J_cl, J_inB, if_true, if_false, ite_true, ite_false, reduceIte, isZ0, isZ1, J_and31, shrJ0, shlJ0, gI_sA, gL_sA, Nat.reduceEqDiff, Nat.reduceAdd, Nat.reduceMul, Nat.reduceLT, Nat.reduceLeDiff], by simp (decide := true) (disch := omega) only [letS_d, grd_t, bnd_d, bnd1_d, bndX_d, bndX_e, gI_sI, gI_sL, gL_sL, gL_sI, upd_at, updL_at, J_lit, J_add, J_mul, J_sub, J_lt, J_le, J_inj, J_ne, ne_J, m_lt, lt_m, m_le, le_m, J_cl, J_inB, if_true, if_false, ite_true, ite_false, reduceIte, isZ0, isZ1, J_and31, shrJ0, shlJ0, gI_sA, gL_sA, Nat.reduceEqDiff, Nat.reduceAdd, Nat.reduceMul, Nat.reduceLT, Nat.reduceLeDiff]⟩, fun s hs => ?_, fun s s' hss hs' => ?_, fun j hj fj => ?_⟩
  · by_cases hsm : s < m
    · obtain ⟨a1, a2, a3, a4⟩ := h2 s hsm
      have : ¬ s = m := by omega
      show gI _ 77 s = J (if s < m then rep s else gk ld F 40 i) ∧ (if s < m then rep s else gk ld F 40 i) < c ∧ F (if s < m then rep s else gk ld F 40 i) = false ∧ gk ld F 40 (if s < m then rep s else gk ld F 40 i) = (if s < m then rep s else gk ld F 40 i)
      rw [if_pos hsm]
      exact ⟨by simp (decide := true) (disch := omega) only [letS_d, grd_t, bnd_d, bnd1_d, bndX_d, bndX_e, gI_sI, gI_sL, gL_sL, gL_sI, upd_at, updL_at, J_lit, J_add, J_mul, J_sub, J_lt, J_le, J_inj, J_ne, ne_J, m_lt, lt_m, m_le, le_m, J_cl, J_inB, if_true, if_false, ite_true, ite_false, reduceIte, isZ0, isZ1, J_and31, shrJ0, shlJ0, gI_sA, gL_sA, Nat.reduceEqDiff, Nat.reduceAdd, Nat.reduceMul, Nat.reduceLT, Nat.reduceLeDiff, this]; exact a1, a2, a3, a4⟩
    · obtain rfl : s = m := by omega
      show gI _ 77 s = J (if s < s then rep s else gk ld F 40 i) ∧ (if s < s then rep s else gk ld F 40 i) < c ∧ F (if s < s then rep s else gk ld F 40 i) = false ∧ gk ld F 40 (if s < s then rep s else gk ld F 40 i) = (if s < s then rep s else gk ld F 40 i)
      rw [if_neg hsm]
      exact ⟨by simp (decide := true) (disch := omega) only [letS_d, grd_t, bnd_d, bnd1_d, bndX_d, bndX_e, gI_sI, gI_sL, gL_sL, gL_sI, upd_at, updL_at, J_lit, J_add, J_mul, J_sub, J_lt, J_le, J_inj, J_ne, ne_J, m_lt, lt_m, m_le, le_m, J_cl, J_inB, if_true, if_false, ite_true, ite_false, reduceIte, isZ0, isZ1, J_and31, shrJ0, shlJ0, gI_sA, gL_sA, Nat.reduceEqDiff, Nat.reduceAdd, Nat.reduceMul, Nat.reduceLT, Nat.reduceLeDiff], by omega, hfg, g40_id i⟩
  · show (if s < m then rep s else gk ld F 40 i) ≠ (if s' < m then rep s' else gk ld F 40 i)
    rw [if_pos (by omega)]
    by_cases hsm : s' < m
    · rw [if_pos hsm]
      exact h3 s s' hss hsm
    · rw [if_neg hsm]
      exact hno s (by omega)
  · have hiff := Sk_iff hC.2.1 hld 40 hj hi fj fi
    by_cases he : gk ld F 40 j = gk ld F 40 i
    · left
      refine ⟨m, by omega, ?_, ?_, ?_⟩
      · show (if m < m then rep m else gk ld F 40 i) = gk ld F 40 j
        rw [if_neg (by omega), he]
      · simp (decide := true) (disch := omega) only [letS_d, grd_t, bnd_d, bnd1_d, bndX_d, bndX_e, gI_sI, gI_sL, gL_sL, gL_sI, upd_at, updL_at, J_lit, J_add, J_mul, J_sub, J_lt, J_le, J_inj, J_ne, ne_J, m_lt, lt_m, m_le, le_m, J_cl, J_inB, if_true, if_false, ite_true, ite_false, reduceIte, isZ0, isZ1, J_and31, shrJ0, shlJ0, gI_sA, gL_sA, Nat.reduceEqDiff, Nat.reduceAdd, Nat.reduceMul, Nat.reduceLT, Nat.reduceLeDiff, he]
      · have := hiff.mpr he
        simp (decide := true) (disch := omega) only [letS_d, grd_t, bnd_d, bnd1_d, bndX_d, bndX_e, gI_sI, gI_sL, gL_sL, gL_sI, upd_at, updL_at, J_lit, J_add, J_mul, J_sub, J_lt, J_le, J_inj, J_ne, ne_J, m_lt, lt_m, m_le, le_m, J_cl, J_inB, if_true, if_false, ite_true, ite_false, reduceIte, isZ0, isZ1, J_and31, shrJ0, shlJ0, gI_sA, gL_sA, Nat.reduceEqDiff, Nat.reduceAdd, Nat.reduceMul, Nat.reduceLT, Nat.reduceLeDiff, this]
    · have hne : ¬ Sk ld F 40 j = Sk ld F 40 i := fun h9 => he (hiff.mp h9)
      rcases h4 j hj fj with ⟨s, s1, s2, s3, s4⟩ | ⟨s1, s2, s3⟩
      · left
        refine ⟨s, by omega, ?_, by simp (decide := true) (disch := omega) only [letS_d, grd_t, bnd_d, bnd1_d, bndX_d, bndX_e, gI_sI, gI_sL, gL_sL, gL_sI, upd_at, updL_at, J_lit, J_add, J_mul, J_sub, J_lt, J_le, J_inj, J_ne, ne_J, m_lt, lt_m, m_le, le_m, J_cl, J_inB, if_true, if_false, ite_true, ite_false, reduceIte, isZ0, isZ1, J_and31, shrJ0, shlJ0, gI_sA, gL_sA, Nat.reduceEqDiff, Nat.reduceAdd, Nat.reduceMul, Nat.reduceLT, Nat.reduceLeDiff, he]; exact s3, by simp (decide := true) (disch := omega) only [letS_d, grd_t, bnd_d, bnd1_d, bndX_d, bndX_e, gI_sI, gI_sL, gL_sL, gL_sI, upd_at, updL_at, J_lit, J_add, J_mul, J_sub, J_lt, J_le, J_inj, J_ne, ne_J, m_lt, lt_m, m_le, le_m, J_cl, J_inB, if_true, if_false, ite_true, ite_false, reduceIte, isZ0, isZ1, J_and31, shrJ0, shlJ0, gI_sA, gL_sA, Nat.reduceEqDiff, Nat.reduceAdd, Nat.reduceMul, Nat.reduceLT, Nat.reduceLeDiff, hne]; exact s4⟩
        show (if s < m then rep s else gk ld F 40 i) = gk ld F 40 j
        rw [if_pos s1]
        exact s2
      · right
        refine ⟨fun s hs => ?_, by simp (decide := true) (disch := omega) only [letS_d, grd_t, bnd_d, bnd1_d, bndX_d, bndX_e, gI_sI, gI_sL, gL_sL, gL_sI, upd_at, updL_at, J_lit, J_add, J_mul, J_sub, J_lt, J_le, J_inj, J_ne, ne_J, m_lt, lt_m, m_le, le_m, J_cl, J_inB, if_true, if_false, ite_true, ite_false, reduceIte, isZ0, isZ1, J_and31, shrJ0, shlJ0, gI_sA, gL_sA, Nat.reduceEqDiff, Nat.reduceAdd, Nat.reduceMul, Nat.reduceLT, Nat.reduceLeDiff, he]; exact s2, by simp (decide := true) (disch := omega) only [letS_d, grd_t, bnd_d, bnd1_d, bndX_d, bndX_e, gI_sI, gI_sL, gL_sL, gL_sI, upd_at, updL_at, J_lit, J_add, J_mul, J_sub, J_lt, J_le, J_inj, J_ne, ne_J, m_lt, lt_m, m_le, le_m, J_cl, J_inB, if_true, if_false, ite_true, ite_false, reduceIte, isZ0, isZ1, J_and31, shrJ0, shlJ0, gI_sA, gL_sA, Nat.reduceEqDiff, Nat.reduceAdd, Nat.reduceMul, Nat.reduceLT, Nat.reduceLeDiff, hne]; exact s3⟩
        show (if s < m then rep s else gk ld F 40 i) ≠ gk ld F 40 j
        by_cases hsm : s < m
        · rw [if_pos hsm]
          exact s1 s hsm
        · rw [if_neg hsm]
          exact fun h9 => he h9.symm
/-- table entries so far -/
def Tb (d m : Nat) (τ σ : St) : Prop := ∀ i, i < d → gI τ 72 i = gI σ 45 i ∧ Mx m (gI σ 45 i)
theorem Mx.up {a b : Nat} {x : Int32} (h : Mx a x) (hab : a ≤ b) : Mx b x := by
  rcases h with h | ⟨t, t1, t2⟩
  · exact Or.inl h
  · exact Or.inr ⟨t, by omega, t2⟩
theorem Tb.step {d m m' : Nat} {τ τ' σ σ' : St} (h : Tb d m τ σ) (hm : m ≤ m') (f : Fr [71, 76, 77] τ τ') (f' : Fr [39, 40] σ σ') {r : Int32} (hr : Mx m' r) : Tb (d + 1) m' (sI τ' 72 d r) (sI σ' 45 d r) := by
  intro i hi
  by_cases hid : i = d
  · subst hid
    exact ⟨by simp (decide := true) (disch := omega) only [letS_d, grd_t, bnd_d, bnd1_d, bndX_d, bndX_e, gI_sI, gI_sL, gL_sL, gL_sI, upd_at, updL_at, J_lit, J_add, J_mul, J_sub, J_lt, J_le, J_inj, J_ne, ne_J, m_lt, lt_m, m_le, le_m, J_cl, J_inB, if_true, if_false, ite_true, ite_false, reduceIte, isZ0, isZ1, J_and31, shrJ0, shlJ0, gI_sA, gL_sA, Nat.reduceEqDiff, Nat.reduceAdd, Nat.reduceMul, Nat.reduceLT, Nat.reduceLeDiff], by simp (decide := true) (disch := omega) only [letS_d, grd_t, bnd_d, bnd1_d, bndX_d, bndX_e, gI_sI, gI_sL, gL_sL, gL_sI, upd_at, updL_at, J_lit, J_add, J_mul, J_sub, J_lt, J_le, J_inj, J_ne, ne_J, m_lt, lt_m, m_le, le_m, J_cl, J_inB, if_true, if_false, ite_true, ite_false, reduceIte, isZ0, isZ1, J_and31, shrJ0, shlJ0, gI_sA, gL_sA, Nat.reduceEqDiff, Nat.reduceAdd, Nat.reduceMul, Nat.reduceLT, Nat.reduceLeDiff]; exact hr⟩
  · obtain ⟨a1, a2⟩ := h i (by omega)
    refine ⟨?_, ?_⟩
    · simp (decide := true) (disch := omega) only [letS_d, grd_t, bnd_d, bnd1_d, bndX_d, bndX_e, gI_sI, gI_sL, gL_sL, gL_sI, upd_at, updL_at, J_lit, J_add, J_mul, J_sub, J_lt, J_le, J_inj, J_ne, ne_J, m_lt, lt_m, m_le, le_m, J_cl, J_inB, if_true, if_false, ite_true, ite_false, reduceIte, isZ0, isZ1, J_and31, shrJ0, shlJ0, gI_sA, gL_sA, Nat.reduceEqDiff, Nat.reduceAdd, Nat.reduceMul, Nat.reduceLT, Nat.reduceLeDiff, hid]
      rw [f.gi (by decide), f'.gi (by decide)]
      exact a1
    · simp (decide := true) (disch := omega) only [letS_d, grd_t, bnd_d, bnd1_d, bndX_d, bndX_e, gI_sI, gI_sL, gL_sL, gL_sI, upd_at, updL_at, J_lit, J_add, J_mul, J_sub, J_lt, J_le, J_inj, J_ne, ne_J, m_lt, lt_m, m_le, le_m, J_cl, J_inB, if_true, if_false, ite_true, ite_false, reduceIte, isZ0, isZ1, J_and31, shrJ0, shlJ0, gI_sA, gL_sA, Nat.reduceEqDiff, Nat.reduceAdd, Nat.reduceMul, Nat.reduceLT, Nat.reduceLeDiff, hid]
      rw [f'.gi (by decide)]
      exact a2.up hm
/-- the state that a condition belongs to, on both sides -/
theorem both_st {m : Nat} {rep : Nat → Nat} {τ σ : St} (hC : Nc c ld F τ σ) (h : Ni c ld F m rep τ σ) {i : Nat} (hi : i < c) : ∃ m' rep' τ' σ' r, fX4_stateOf N τ (J i) = some (r, τ') ∧ m ≤ m' ∧ Fr [71, 76, 77] τ τ' ∧ Fr [39, 40] σ σ' ∧ Ni c ld F m' rep' τ' σ' ∧ Mx m' r ∧ (∀ s, s < m → rep' s = rep s) ∧ (F i = false → m' ≥ 1) ∧ ∀ (k55 : St → Int32 → Option St) (k97 : St → Int32 → Int32 → Int32 → Option St) (s c0 l : Nat), s < 40 → l < 8 → (if F i = true then -J 1 else J (Sk ld F 40 i)) = (if F i = true then -J 1 else J (Sk ld F 40 i)) → (if (if F i = true then -J 1 else J (Sk ld F 40 i)) < J 0 then fX9_number_147 N k55 k97 σ (J s) (J c0) (J l) (if F i = true then -J 1 else J (Sk ld F 40 i)) else grd (inB (if F i = true then -J 1 else J (Sk ld F 40 i)) 40) (if J 0 ≤ (gI σ 39 (if F i = true then -J 1 else J (Sk ld F 40 i)).toNatClampNeg) then fX9_number_147 N k55 k97 σ (J s) (J c0) (J l) (if F i = true then -J 1 else J (Sk ld F 40 i)) else grd (inB (if F i = true then -J 1 else J (Sk ld F 40 i)) 40) (letS (sI σ 39 (if F i = true then -J 1 else J (Sk ld F 40 i)).toNatClampNeg (gI σ 40 0)) fun σ26 => letS (sI σ26 40 0 ((gI σ26 40 0) + J 1)) fun σ27 => fX9_number_147 N k55 k97 σ27 (J s) (J c0) (J l) (if F i = true then -J 1 else J (Sk ld F 40 i))))) = k97 (sI σ' 45 (8 * s + l) r) (J s) (J c0) (J (l + 1)) := by
  obtain ⟨hL, hF, hz, hgr, hS⟩ := id hC
  have hc40 := hL.2.1
  have hzi := hz i hi
  have hgi := hgr i hi
  have hg := g40_le (ld := ld) (F := F) i
  have hSl := Sk_le (ld := ld) (F := F) 40 (i := i)
  have hml := Ni_le h
  cases fi : F i
  · rw [fi, zb_f] at hzi
    rcases h.2.2.2 i hi fi with ⟨s, s1, s2, s3, s4⟩ | ⟨s1, s2, s3⟩
    · refine ⟨m, rep, τ, σ, J s, ?_, by omega, Fr.rf, Fr.rf, h, Or.inr ⟨s, s1, rfl⟩, fun _ _ => rfl, fun _ => by omega, fun k55 k97 s' c0 l hs' hl _ => ?_⟩
      · unfold fX4_stateOf
        simp (decide := true) (disch := omega) only [letS_d, grd_t, bnd_d, bnd1_d, bndX_d, bndX_e, gI_sI, gI_sL, gL_sL, gL_sI, upd_at, updL_at, J_lit, J_add, J_mul, J_sub, J_lt, J_le, J_inj, J_ne, ne_J, m_lt, lt_m, m_le, le_m, J_cl, J_inB, if_true, if_false, ite_true, ite_false, reduceIte, isZ0, isZ1, J_and31, shrJ0, shlJ0, gI_sA, gL_sA, Nat.reduceEqDiff, Nat.reduceAdd, Nat.reduceMul, Nat.reduceLT, Nat.reduceLeDiff, hzi, hgi, s3, fX4_stateOf_67]
      · simp (decide := true) (disch := omega) only [letS_d, grd_t, bnd_d, bnd1_d, bndX_d, bndX_e, gI_sI, gI_sL, gL_sL, gL_sI, upd_at, updL_at, J_lit, J_add, J_mul, J_sub, J_lt, J_le, J_inj, J_ne, ne_J, m_lt, lt_m, m_le, le_m, J_cl, J_inB, if_true, if_false, ite_true, ite_false, reduceIte, isZ0, isZ1, J_and31, shrJ0, shlJ0, gI_sA, gL_sA, Nat.reduceEqDiff, Nat.reduceAdd, Nat.reduceMul, Nat.reduceLT, Nat.reduceLeDiff, Bool.false_eq_true, Nat.not_lt_zero, s4, Nat.zero_le, fX9_number_147, fX9_number_173]
    · have hmc := Ni_lt h hi s1
      have hnew := Ni_new hC h hi fi s1
      refine ⟨m + 1, _, _, _, J m, ?_, by omega, ((Fr.i (by decide)).tr (Fr.i (by decide))).tr (Fr.i (by decide)), (Fr.i (by decide)).tr (Fr.i (by decide)), hnew, Or.inr ⟨m, by omega, rfl⟩, fun s hs => by show (if s < m then rep s else _) = rep s; rw [if_pos hs], fun _ => by omega, fun k55 k97 s' c0 l hs' hl _ => ?_⟩
      · unfold fX4_stateOf
        have h71 := h.1.1
        have hm40 : ¬ 40 ≤ m := by omega
        simp (decide := true) (disch := omega) only [letS_d, grd_t, bnd_d, bnd1_d, bndX_d, bndX_e, gI_sI, gI_sL, gL_sL, gL_sI, upd_at, updL_at, J_lit, J_add, J_mul, J_sub, J_lt, J_le, J_inj, J_ne, ne_J, m_lt, lt_m, m_le, le_m, J_cl, J_inB, if_true, if_false, ite_true, ite_false, reduceIte, isZ0, isZ1, J_and31, shrJ0, shlJ0, gI_sA, gL_sA, Nat.reduceEqDiff, Nat.reduceAdd, Nat.reduceMul, Nat.reduceLT, Nat.reduceLeDiff, hzi, hgi, s2, h71, hm40, fX4_stateOf_67]
      · have h40 := h.1.2
        simp (decide := true) (disch := omega) only [letS_d, grd_t, bnd_d, bnd1_d, bndX_d, bndX_e, gI_sI, gI_sL, gL_sL, gL_sI, upd_at, updL_at, J_lit, J_add, J_mul, J_sub, J_lt, J_le, J_inj, J_ne, ne_J, m_lt, lt_m, m_le, le_m, J_cl, J_inB, if_true, if_false, ite_true, ite_false, reduceIte, isZ0, isZ1, J_and31, shrJ0, shlJ0, gI_sA, gL_sA, Nat.reduceEqDiff, Nat.reduceAdd, Nat.reduceMul, Nat.reduceLT, Nat.reduceLeDiff, Bool.false_eq_true, Nat.not_lt_zero, s3, le_mz, h40, Nat.zero_le, fX9_number_147, fX9_number_173]
  · rw [fi, zb_t] at hzi
    refine ⟨m, rep, τ, σ, -J 1, ?_, by omega, Fr.rf, Fr.rf, h, Or.inl rfl, fun _ _ => rfl, (fun h9 => by cases h9), fun k55 k97 s' c0 l hs' hl _ => ?_⟩
    · unfold fX4_stateOf
      simp (decide := true) (disch := omega) only [letS_d, grd_t, bnd_d, bnd1_d, bndX_d, bndX_e, gI_sI, gI_sL, gL_sL, gL_sI, upd_at, updL_at, J_lit, J_add, J_mul, J_sub, J_lt, J_le, J_inj, J_ne, ne_J, m_lt, lt_m, m_le, le_m, J_cl, J_inB, if_true, if_false, ite_true, ite_false, reduceIte, isZ0, isZ1, J_and31, shrJ0, shlJ0, gI_sA, gL_sA, Nat.reduceEqDiff, Nat.reduceAdd, Nat.reduceMul, Nat.reduceLT, Nat.reduceLeDiff, hzi]
    · simp (decide := true) (disch := omega) only [letS_d, grd_t, bnd_d, bnd1_d, bndX_d, bndX_e, gI_sI, gI_sL, gL_sL, gL_sI, upd_at, updL_at, J_lit, J_add, J_mul, J_sub, J_lt, J_le, J_inj, J_ne, ne_J, m_lt, lt_m, m_le, le_m, J_cl, J_inB, if_true, if_false, ite_true, ite_false, reduceIte, isZ0, isZ1, J_and31, shrJ0, shlJ0, gI_sA, gL_sA, Nat.reduceEqDiff, Nat.reduceAdd, Nat.reduceMul, Nat.reduceLT, Nat.reduceLeDiff, lo_m, le_mz, fX9_number_147, fX9_number_173]
/-- one state's row of the table -/
theorem both_rowN {s : Nat} (hs : s < 40) (k39 : St → Int32 → Option St) (k55 : St → Int32 → Option St) : ∀ f l n n' (τ σ : St) m rep, l + f = 8 → f < n → f < n' → s < m → Nc c ld F τ σ → Ni c ld F m rep τ σ → Tb (8 * s + l) m τ σ → ∃ m' rep' τ' σ', fX4_numberStates_55 N k39 n τ (J s) (J l) = k39 τ' (J (s + 1)) ∧ fX9_number_97 N k55 n' σ (J s) (J (rep s)) (J l) = k55 σ' (J (s + 1)) ∧ m ≤ m' ∧ Fr [71, 72, 76, 77] τ τ' ∧ Fr [39, 40, 45] σ σ' ∧ Nc c ld F τ' σ' ∧ Ni c ld F m' rep' τ' σ' ∧ Tb (8 * (s + 1)) m' τ' σ' := by
  intro f
  induction f with
  | zero =>
    intro l n n' τ σ m rep hl hn hn' hsm hC hI hT
    obtain ⟨n, rfl⟩ : ∃ k, n = k + 1 := ⟨n - 1, by omega⟩
    obtain ⟨n', rfl⟩ : ∃ k, n' = k + 1 := ⟨n' - 1, by omega⟩
    obtain rfl : l = 8 := by omega
    refine ⟨m, rep, τ, σ, ?_, ?_, by omega, Fr.rf, Fr.rf, hC, hI, hT⟩
    · unfold fX4_numberStates_55
      simp (decide := true) (disch := omega) only [letS_d, grd_t, bnd_d, bnd1_d, bndX_d, bndX_e, gI_sI, gI_sL, gL_sL, gL_sI, upd_at, updL_at, J_lit, J_add, J_mul, J_sub, J_lt, J_le, J_inj, J_ne, ne_J, m_lt, lt_m, m_le, le_m, J_cl, J_inB, if_true, if_false, ite_true, ite_false, reduceIte, isZ0, isZ1, J_and31, shrJ0, shlJ0, gI_sA, gL_sA, Nat.reduceEqDiff, Nat.reduceAdd, Nat.reduceMul, Nat.reduceLT, Nat.reduceLeDiff, Nat.le_refl]
    · unfold fX9_number_97
      simp (decide := true) (disch := omega) only [letS_d, grd_t, bnd_d, bnd1_d, bndX_d, bndX_e, gI_sI, gI_sL, gL_sL, gL_sI, upd_at, updL_at, J_lit, J_add, J_mul, J_sub, J_lt, J_le, J_inj, J_ne, ne_J, m_lt, lt_m, m_le, le_m, J_cl, J_inB, if_true, if_false, ite_true, ite_false, reduceIte, isZ0, isZ1, J_and31, shrJ0, shlJ0, gI_sA, gL_sA, Nat.reduceEqDiff, Nat.reduceAdd, Nat.reduceMul, Nat.reduceLT, Nat.reduceLeDiff, Nat.le_refl]
  | succ f ih =>
    intro l n n' τ σ m rep hl hn hn' hsm hC hI hT
    obtain ⟨n, rfl⟩ : ∃ k, n = k + 1 := ⟨n - 1, by omega⟩
    obtain ⟨n', rfl⟩ : ∃ k, n' = k + 1 := ⟨n' - 1, by omega⟩
    obtain ⟨q1, q2, q3, q4⟩ := hI.2.1 s hsm
    have hc40 := hC.1.2.1
    obtain ⟨a1, a2, a3⟩ := hC.1.2.2.2.2 (rep s) l q2 (by omega)
    obtain ⟨m1, rep1, τ1, σ1, r, b1, b2, b3, b4, b5, b6, b7, b8, b9⟩ := both_st (N := N) hC hI a1
    have h8 : ¬ 8 ≤ l := by omega
    have e8 : s * 8 = 8 * s := Nat.mul_comm _ _
    have e9 : rep s * 8 = 8 * rep s := Nat.mul_comm _ _
    obtain ⟨m2, rep2, τ2, σ2, c1, c2, c3, c4, c5, c6⟩ := ih (l + 1) n n' (sI τ1 72 (8 * s + l) r) (sI σ1 45 (8 * s + l) r) m1 rep1 (by omega) (by omega) (by omega) (by omega) (hC.fr (X := [71, 72, 76, 77]) (X' := [39, 40, 45]) ((b3.mono (by decide)).tr (Fr.i (by decide))) ((b4.mono (by decide)).tr (Fr.i (by decide))) (by decide) (by decide)) (b5.fr (X := [72]) (X' := [45]) (Fr.i (by decide)) (Fr.i (by decide)) (by decide) (by decide)) (hT.step b2 b3 b4 b6)
    rw [b7 s hsm] at c2
    refine ⟨m2, rep2, τ2, σ2, ?_, ?_, by omega, ((b3.mono (by decide)).tr (Fr.i (by decide))).tr c4, ((b4.mono (by decide)).tr (Fr.i (by decide))).tr c5, c6⟩
    · rw [← c1]
      rw [show fX4_numberStates_55 N k39 (n + 1) τ (J s) (J l) = _ from by unfold fX4_numberStates_55; rfl]
      simp (decide := true) (disch := omega) only [letS_d, grd_t, bnd_d, bnd1_d, bndX_d, bndX_e, gI_sI, gI_sL, gL_sL, gL_sI, upd_at, updL_at, J_lit, J_add, J_mul, J_sub, J_lt, J_le, J_inj, J_ne, ne_J, m_lt, lt_m, m_le, le_m, J_cl, J_inB, if_true, if_false, ite_true, ite_false, reduceIte, isZ0, isZ1, J_and31, shrJ0, shlJ0, gI_sA, gL_sA, Nat.reduceEqDiff, Nat.reduceAdd, Nat.reduceMul, Nat.reduceLT, Nat.reduceLeDiff, h8, q1, fX3_lead, e8, e9, a2, b1]
    · rw [← c2, ← b9 k55 (fX9_number_97 N k55 n') s (rep s) l hs (by omega) rfl]
      rw [show fX9_number_97 N k55 (n' + 1) σ (J s) (J (rep s)) (J l) = _ from by unfold fX9_number_97; rfl]
      have hsa := ref_sortAt (N := N) hC.1 hC.2.2.2.2 q2 (show l < 8 by omega)
      unfold sv at hsa
      simp (decide := true) (disch := omega) only [letS_d, grd_t, bnd_d, bnd1_d, bndX_d, bndX_e, gI_sI, gI_sL, gL_sL, gL_sI, upd_at, updL_at, J_lit, J_add, J_mul, J_sub, J_lt, J_le, J_inj, J_ne, ne_J, m_lt, lt_m, m_le, le_m, J_cl, J_inB, if_true, if_false, ite_true, ite_false, reduceIte, isZ0, isZ1, J_and31, shrJ0, shlJ0, gI_sA, gL_sA, Nat.reduceEqDiff, Nat.reduceAdd, Nat.reduceMul, Nat.reduceLT, Nat.reduceLeDiff, h8]
      rw [hsa, bnd_d]
theorem ref_find {m : Nat} {rep : Nat → Nat} {τ σ : St} (hC : Nc c ld F τ σ) (hI : Ni c ld F m rep τ σ) {s : Nat} (hs : s < m) (k55 : St → Int32 → Option St) : ∀ f x n, x + f = rep s → f < n → fX9_number_65 N k55 n σ (J s) (J x) = fX9_number_97 N k55 N σ (J s) (J (rep s)) (J 0) := by
  obtain ⟨q1, q2, q3, q4⟩ := hI.2.1 s hs
  have hc40 := hC.1.2.1
  have hml := Ni_le hI
  intro f
  induction f with
  | zero =>
    intro x n hx hn
    obtain ⟨n, rfl⟩ : ∃ k, n = k + 1 := ⟨n - 1, by omega⟩
    obtain rfl : x = rep s := by omega
    have hz := hC.2.2.2.2.1 (rep s) q2
    rw [q3, zb_f] at hz
    obtain ⟨s1, s2⟩ := hC.2.2.2.2.2 (rep s) q2 q3
    have hSl := Sk_le (ld := ld) (F := F) 40 (i := rep s)
    have hv : gI σ 39 (Sk ld F 40 (rep s)) = J s := by
      rcases hI.2.2.2 (rep s) q2 q3 with ⟨s', t1, t2, t3, t4⟩ | ⟨t1, t2, t3⟩
      · rw [q4] at t2
        rcases Nat.lt_trichotomy s' s with h | h | h
        · exact absurd t2 (hI.2.2.1 s' s h hs)
        · rw [t4, h]
        · exact absurd t2.symm (hI.2.2.1 s s' h t1)
      · exact absurd q4.symm (t1 s hs)
    unfold fX9_number_65
    simp (decide := true) (disch := omega) only [letS_d, grd_t, bnd_d, bnd1_d, bndX_d, bndX_e, gI_sI, gI_sL, gL_sL, gL_sI, upd_at, updL_at, J_lit, J_add, J_mul, J_sub, J_lt, J_le, J_inj, J_ne, ne_J, m_lt, lt_m, m_le, le_m, J_cl, J_inB, if_true, if_false, ite_true, ite_false, reduceIte, isZ0, isZ1, J_and31, shrJ0, shlJ0, gI_sA, gL_sA, Nat.reduceEqDiff, Nat.reduceAdd, Nat.reduceMul, Nat.reduceLT, Nat.reduceLeDiff, hz, s1, hv]
  | succ f ih =>
    intro x n hx hn
    obtain ⟨n, rfl⟩ : ∃ k, n = k + 1 := ⟨n - 1, by omega⟩
    have hz := hC.2.2.2.2.1 x (by omega)
    have hnext := ih (x + 1) n (by omega) (by omega)
    rw [show fX9_number_65 N k55 (n + 1) σ (J s) (J x) = _ from by unfold fX9_number_65; rfl]
    cases fx : F x
    · rw [fx, zb_f] at hz
      obtain ⟨s1, s2⟩ := hC.2.2.2.2.2 x (by omega) fx
      have hSl := Sk_le (ld := ld) (F := F) 40 (i := x)
      have hgl := g40_le (ld := ld) (F := F) x
      rcases hI.2.2.2 x (by omega) fx with ⟨s', t1, t2, t3, t4⟩ | ⟨t1, t2, t3⟩
      · have hne : ¬ s' = s := fun h => by
          subst h
          omega
        simp (decide := true) (disch := omega) only [letS_d, grd_t, bnd_d, bnd1_d, bndX_d, bndX_e, gI_sI, gI_sL, gL_sL, gL_sI, upd_at, updL_at, J_lit, J_add, J_mul, J_sub, J_lt, J_le, J_inj, J_ne, ne_J, m_lt, lt_m, m_le, le_m, J_cl, J_inB, if_true, if_false, ite_true, ite_false, reduceIte, isZ0, isZ1, J_and31, shrJ0, shlJ0, gI_sA, gL_sA, Nat.reduceEqDiff, Nat.reduceAdd, Nat.reduceMul, Nat.reduceLT, Nat.reduceLeDiff, hz, s1, t4, hne, fX9_number_89]
        exact hnext
      · simp (decide := true) (disch := omega) only [letS_d, grd_t, bnd_d, bnd1_d, bndX_d, bndX_e, gI_sI, gI_sL, gL_sL, gL_sI, upd_at, updL_at, J_lit, J_add, J_mul, J_sub, J_lt, J_le, J_inj, J_ne, ne_J, m_lt, lt_m, m_le, le_m, J_cl, J_inB, if_true, if_false, ite_true, ite_false, reduceIte, isZ0, isZ1, J_and31, shrJ0, shlJ0, gI_sA, gL_sA, Nat.reduceEqDiff, Nat.reduceAdd, Nat.reduceMul, Nat.reduceLT, Nat.reduceLeDiff, hz, s1, t3, fX9_number_89]
        exact hnext
    · rw [fx, zb_t] at hz
      simp (decide := true) (disch := omega) only [letS_d, grd_t, bnd_d, bnd1_d, bndX_d, bndX_e, gI_sI, gI_sL, gL_sL, gL_sI, upd_at, updL_at, J_lit, J_add, J_mul, J_sub, J_lt, J_le, J_inj, J_ne, ne_J, m_lt, lt_m, m_le, le_m, J_cl, J_inB, if_true, if_false, ite_true, ite_false, reduceIte, isZ0, isZ1, J_and31, shrJ0, shlJ0, gI_sA, gL_sA, Nat.reduceEqDiff, Nat.reduceAdd, Nat.reduceMul, Nat.reduceLT, Nat.reduceLeDiff, hz, fX9_number_89]
      exact hnext
theorem both_number (hN : 100 ≤ N) : ∀ f s n n' (τ σ : St) m rep, s + f = 41 → f < n → f < n' → s ≤ m → Nc c ld F τ σ → Ni c ld F m rep τ σ → Tb (8 * s) m τ σ → ∃ m' rep' τ' σ', fX4_numberStates_39 N n τ (J s) = some τ' ∧ fX9_number_55 N n' σ (J s) = some σ' ∧ Fr [71, 72, 76, 77] τ τ' ∧ Fr [39, 40, 45] σ σ' ∧ Ni c ld F m' rep' τ' σ' ∧ Tb (8 * m') m' τ' σ' := by
  intro f
  induction f with
  | zero =>
    intro s n n' τ σ m rep hs hn hn' hsm hC hI hT
    have := Ni_le hI
    have := hC.1.2.1
    omega
  | succ f ih =>
    intro s n n' τ σ m rep hs hn hn' hsm hC hI hT
    obtain ⟨n, rfl⟩ : ∃ k, n = k + 1 := ⟨n - 1, by omega⟩
    obtain ⟨n', rfl⟩ : ∃ k, n' = k + 1 := ⟨n' - 1, by omega⟩
    have hml := Ni_le hI
    have hc40 := hC.1.2.1
    have h71 := hI.1.1
    have h40 := hI.1.2
    by_cases hlt : s < m
    · obtain ⟨q1, q2, q3, q4⟩ := hI.2.1 s hlt
      obtain ⟨m1, rep1, τ1, σ1, a1, a2, a3, a4, a5, a6, a7, a8⟩ := both_rowN (N := N) (c := c) (ld := ld) (F := F) (show s < 40 by omega) (fX4_numberStates_39 N n) (fX9_number_55 N n') 8 0 N N τ σ m rep (by omega) (by omega) (by omega) hlt hC hI hT
      have hfd := ref_find (N := N) hC hI hlt (fX9_number_55 N n') (rep s) 0 N (by omega) (by omega)
      obtain ⟨m2, rep2, τ2, σ2, b1, b2, b3, b4, b5, b6⟩ := ih (s + 1) n n' τ1 σ1 m1 rep1 (by omega) (by omega) (by omega) (by omega) a6 a7 a8
      have n1 : ¬ m ≤ s := by omega
      have n2 : ¬ 40 ≤ s := by omega
      refine ⟨m2, rep2, τ2, σ2, ?_, ?_, a4.tr b3, a5.tr b4, b5, b6⟩
      · rw [show fX4_numberStates_39 N (n + 1) τ (J s) = _ from by unfold fX4_numberStates_39; rfl]
        simp (decide := true) (disch := omega) only [letS_d, grd_t, bnd_d, bnd1_d, bndX_d, bndX_e, gI_sI, gI_sL, gL_sL, gL_sI, upd_at, updL_at, J_lit, J_add, J_mul, J_sub, J_lt, J_le, J_inj, J_ne, ne_J, m_lt, lt_m, m_le, le_m, J_cl, J_inB, if_true, if_false, ite_true, ite_false, reduceIte, isZ0, isZ1, J_and31, shrJ0, shlJ0, gI_sA, gL_sA, Nat.reduceEqDiff, Nat.reduceAdd, Nat.reduceMul, Nat.reduceLT, Nat.reduceLeDiff, h71, n1, n2]
        exact a1.trans b1
      · rw [show fX9_number_55 N (n' + 1) σ (J s) = _ from by unfold fX9_number_55; rfl]
        simp (decide := true) (disch := omega) only [letS_d, grd_t, bnd_d, bnd1_d, bndX_d, bndX_e, gI_sI, gI_sL, gL_sL, gL_sI, upd_at, updL_at, J_lit, J_add, J_mul, J_sub, J_lt, J_le, J_inj, J_ne, ne_J, m_lt, lt_m, m_le, le_m, J_cl, J_inB, if_true, if_false, ite_true, ite_false, reduceIte, isZ0, isZ1, J_and31, shrJ0, shlJ0, gI_sA, gL_sA, Nat.reduceEqDiff, Nat.reduceAdd, Nat.reduceMul, Nat.reduceLT, Nat.reduceLeDiff, h40, n1]
        exact hfd.trans (a2.trans b2)
    · obtain rfl : s = m := by omega
      refine ⟨s, rep, τ, σ, ?_, ?_, Fr.rf, Fr.rf, hI, hT⟩
      · unfold fX4_numberStates_39
        simp (decide := true) (disch := omega) only [letS_d, grd_t, bnd_d, bnd1_d, bndX_d, bndX_e, gI_sI, gI_sL, gL_sL, gL_sI, upd_at, updL_at, J_lit, J_add, J_mul, J_sub, J_lt, J_le, J_inj, J_ne, ne_J, m_lt, lt_m, m_le, le_m, J_cl, J_inB, if_true, if_false, ite_true, ite_false, reduceIte, isZ0, isZ1, J_and31, shrJ0, shlJ0, gI_sA, gL_sA, Nat.reduceEqDiff, Nat.reduceAdd, Nat.reduceMul, Nat.reduceLT, Nat.reduceLeDiff, h71, Nat.le_refl]
      · unfold fX9_number_55
        simp (decide := true) (disch := omega) only [letS_d, grd_t, bnd_d, bnd1_d, bndX_d, bndX_e, gI_sI, gI_sL, gL_sL, gL_sI, upd_at, updL_at, J_lit, J_add, J_mul, J_sub, J_lt, J_le, J_inj, J_ne, ne_J, m_lt, lt_m, m_le, le_m, J_cl, J_inB, if_true, if_false, ite_true, ite_false, reduceIte, isZ0, isZ1, J_and31, shrJ0, shlJ0, gI_sA, gL_sA, Nat.reduceEqDiff, Nat.reduceAdd, Nat.reduceMul, Nat.reduceLT, Nat.reduceLeDiff, h40, Nat.le_refl]
theorem cls_ninit {σ : St} : ∀ f i n (τ : St), i + f = c → f < n → Ls c ld τ σ → ∃ τ', fX4_numberStates_7 N n τ (J i) = (bnd (fX4_stateOf N τ' (J 0)) fun r4 σ3 => fX4_numberStates_39 N N σ3 (J 0)) ∧ Fr [76] τ τ' ∧ (∀ j, j < i → gI τ' 76 j = gI τ 76 j) ∧ ∀ j, i ≤ j → j < c → gI τ' 76 j = -J 1 := by
  intro f
  induction f with
  | zero =>
    intro i n τ hi hn hL
    obtain ⟨n, rfl⟩ : ∃ k, n = k + 1 := ⟨n - 1, by omega⟩
    obtain ⟨h1, h2, h3, h4, h5⟩ := id hL
    unfold fX4_numberStates_7
    have : c ≤ i := by omega
    exact ⟨τ, by simp (decide := true) (disch := omega) only [letS_d, grd_t, bnd_d, bnd1_d, bndX_d, bndX_e, gI_sI, gI_sL, gL_sL, gL_sI, upd_at, updL_at, J_lit, J_add, J_mul, J_sub, J_lt, J_le, J_inj, J_ne, ne_J, m_lt, lt_m, m_le, le_m, J_cl, J_inB, if_true, if_false, ite_true, ite_false, reduceIte, isZ0, isZ1, J_and31, shrJ0, shlJ0, gI_sA, gL_sA, Nat.reduceEqDiff, Nat.reduceAdd, Nat.reduceMul, Nat.reduceLT, Nat.reduceLeDiff, h3, this], Fr.rf, fun _ _ => rfl, fun j a b => by omega⟩
  | succ f ih =>
    intro i n τ hi hn hL
    obtain ⟨n, rfl⟩ : ∃ k, n = k + 1 := ⟨n - 1, by omega⟩
    obtain ⟨h1, h2, h3, h4, h5⟩ := id hL
    have hci : ¬ c ≤ i := by omega
    obtain ⟨τ', e1, e2, e3, e4⟩ := ih (i + 1) n (sI τ 76 i (-J 1)) (by omega) (by omega) (hL.fr (S := [76]) (S' := []) (Fr.i (by decide)) Fr.rf (by decide) (by decide))
    refine ⟨τ', ?_, (Fr.i (by decide)).tr e2, fun j hj => ?_, fun j h1 h2 => ?_⟩
    · rw [show fX4_numberStates_7 N (n + 1) τ (J i) = _ from by unfold fX4_numberStates_7; rfl]
      simp (decide := true) (disch := omega) only [letS_d, grd_t, bnd_d, bnd1_d, bndX_d, bndX_e, gI_sI, gI_sL, gL_sL, gL_sI, upd_at, updL_at, J_lit, J_add, J_mul, J_sub, J_lt, J_le, J_inj, J_ne, ne_J, m_lt, lt_m, m_le, le_m, J_cl, J_inB, if_true, if_false, ite_true, ite_false, reduceIte, isZ0, isZ1, J_and31, shrJ0, shlJ0, gI_sA, gL_sA, Nat.reduceEqDiff, Nat.reduceAdd, Nat.reduceMul, Nat.reduceLT, Nat.reduceLeDiff, h3, hci]
      exact e1
    · rw [e3 j (by omega)]
      have : ¬ j = i := by omega
      simp (decide := true) (disch := omega) only [letS_d, grd_t, bnd_d, bnd1_d, bndX_d, bndX_e, gI_sI, gI_sL, gL_sL, gL_sI, upd_at, updL_at, J_lit, J_add, J_mul, J_sub, J_lt, J_le, J_inj, J_ne, ne_J, m_lt, lt_m, m_le, le_m, J_cl, J_inB, if_true, if_false, ite_true, ite_false, reduceIte, isZ0, isZ1, J_and31, shrJ0, shlJ0, gI_sA, gL_sA, Nat.reduceEqDiff, Nat.reduceAdd, Nat.reduceMul, Nat.reduceLT, Nat.reduceLeDiff, this]
    · by_cases hji : j = i
      · subst hji
        rw [e3 j (by omega)]
        simp (decide := true) (disch := omega) only [letS_d, grd_t, bnd_d, bnd1_d, bndX_d, bndX_e, gI_sI, gI_sL, gL_sL, gL_sI, upd_at, updL_at, J_lit, J_add, J_mul, J_sub, J_lt, J_le, J_inj, J_ne, ne_J, m_lt, lt_m, m_le, le_m, J_cl, J_inB, if_true, if_false, ite_true, ite_false, reduceIte, isZ0, isZ1, J_and31, shrJ0, shlJ0, gI_sA, gL_sA, Nat.reduceEqDiff, Nat.reduceAdd, Nat.reduceMul, Nat.reduceLT, Nat.reduceLeDiff]
      · exact e4 j (by omega) h2
theorem ref_ninit : ∀ f i n (σ : St), i + f = 40 → f < n → ∃ σ', fX9_number_2 N n σ (J i) = fX9_number_2 N 1 σ' (J 40) ∧ Fr [39] σ σ' ∧ (∀ j, j < i → gI σ' 39 j = gI σ 39 j) ∧ ∀ j, i ≤ j → j < 40 → gI σ' 39 j = -J 1 := by
  intro f
  induction f with
  | zero =>
    intro i n σ hi hn
    obtain ⟨n, rfl⟩ : ∃ k, n = k + 1 := ⟨n - 1, by omega⟩
    obtain rfl : i = 40 := by omega
    refine ⟨σ, ?_, Fr.rf, fun _ _ => rfl, fun j a b => by omega⟩
    rw [show fX9_number_2 N (n + 1) σ (J 40) = _ from by unfold fX9_number_2; rfl, show fX9_number_2 N 1 σ (J 40) = _ from by unfold fX9_number_2; rfl]
    simp (decide := true) (disch := omega) only [letS_d, grd_t, bnd_d, bnd1_d, bndX_d, bndX_e, gI_sI, gI_sL, gL_sL, gL_sI, upd_at, updL_at, J_lit, J_add, J_mul, J_sub, J_lt, J_le, J_inj, J_ne, ne_J, m_lt, lt_m, m_le, le_m, J_cl, J_inB, if_true, if_false, ite_true, ite_false, reduceIte, isZ0, isZ1, J_and31, shrJ0, shlJ0, gI_sA, gL_sA, Nat.reduceEqDiff, Nat.reduceAdd, Nat.reduceMul, Nat.reduceLT, Nat.reduceLeDiff, Nat.le_refl]
  | succ f ih =>
    intro i n σ hi hn
    obtain ⟨n, rfl⟩ : ∃ k, n = k + 1 := ⟨n - 1, by omega⟩
    have hci : ¬ 40 ≤ i := by omega
    obtain ⟨σ', e1, e2, e3, e4⟩ := ih (i + 1) n (sI σ 39 i (-J 1)) (by omega) (by omega)
    refine ⟨σ', ?_, (Fr.i (by decide)).tr e2, fun j hj => ?_, fun j h1 h2 => ?_⟩
    · rw [← e1]
      rw [show fX9_number_2 N (n + 1) σ (J i) = _ from by unfold fX9_number_2; rfl]
      simp (decide := true) (disch := omega) only [letS_d, grd_t, bnd_d, bnd1_d, bndX_d, bndX_e, gI_sI, gI_sL, gL_sL, gL_sI, upd_at, updL_at, J_lit, J_add, J_mul, J_sub, J_lt, J_le, J_inj, J_ne, ne_J, m_lt, lt_m, m_le, le_m, J_cl, J_inB, if_true, if_false, ite_true, ite_false, reduceIte, isZ0, isZ1, J_and31, shrJ0, shlJ0, gI_sA, gL_sA, Nat.reduceEqDiff, Nat.reduceAdd, Nat.reduceMul, Nat.reduceLT, Nat.reduceLeDiff, hci]
    · rw [e3 j (by omega)]
      have : ¬ j = i := by omega
      simp (decide := true) (disch := omega) only [letS_d, grd_t, bnd_d, bnd1_d, bndX_d, bndX_e, gI_sI, gI_sL, gL_sL, gL_sI, upd_at, updL_at, J_lit, J_add, J_mul, J_sub, J_lt, J_le, J_inj, J_ne, ne_J, m_lt, lt_m, m_le, le_m, J_cl, J_inB, if_true, if_false, ite_true, ite_false, reduceIte, isZ0, isZ1, J_and31, shrJ0, shlJ0, gI_sA, gL_sA, Nat.reduceEqDiff, Nat.reduceAdd, Nat.reduceMul, Nat.reduceLT, Nat.reduceLeDiff, this]
    · by_cases hji : j = i
      · subst hji
        rw [e3 j (by omega)]
        simp (decide := true) (disch := omega) only [letS_d, grd_t, bnd_d, bnd1_d, bndX_d, bndX_e, gI_sI, gI_sL, gL_sL, gL_sI, upd_at, updL_at, J_lit, J_add, J_mul, J_sub, J_lt, J_le, J_inj, J_ne, ne_J, m_lt, lt_m, m_le, le_m, J_cl, J_inB, if_true, if_false, ite_true, ite_false, reduceIte, isZ0, isZ1, J_and31, shrJ0, shlJ0, gI_sA, gL_sA, Nat.reduceEqDiff, Nat.reduceAdd, Nat.reduceMul, Nat.reduceLT, Nat.reduceLeDiff]
      · exact e4 j (by omega) h2
/-- the states and the table, on both sides -/
theorem both_num2 (hN : 100 ≤ N) {τ σ : St} (hC : Nc c ld F τ σ) : ∃ m τ' σ', fX4_numberStates N τ = some τ' ∧ fX9_number N σ = some σ' ∧ Fr [71, 72, 76, 77] τ τ' ∧ Fr [39, 40, 45] σ σ' ∧ m ≤ 40 ∧ gI τ' 71 0 = J m ∧ gI σ' 40 0 = J m ∧ ∀ i, i < 8 * m → gI τ' 72 i = gI σ' 45 i ∧ Mx m (gI σ' 45 i) := by
  obtain ⟨hL, hF, hz, hgr, hS⟩ := id hC
  have hc1 := hL.1
  have hc40 := hL.2.1
  obtain ⟨τ1, a1, a2, a3, a4⟩ := cls_ninit (N := N) (ld := ld) (σ := σ) c 0 N (sI τ 71 0 (J 0)) (by omega) (by omega) (hL.fr (S := [71]) (S' := []) (Fr.i (by decide)) Fr.rf (by decide) (by decide))
  obtain ⟨σ1, b1, b2, b3, b4⟩ := ref_ninit (N := N) 40 0 N σ (by omega) (by omega)
  have fτ : Fr [71, 76] τ τ1 := (Fr.i (by decide)).tr (a2.mono (by decide))
  have fσ : Fr [39, 40] σ (sI σ1 40 0 (J 0)) := (b2.mono (by decide)).tr (Fr.i (by decide))
  have hC1 : Nc c ld F τ1 (sI σ1 40 0 (J 0)) := hC.fr fτ fσ (by decide) (by decide)
  have hI1 : Ni c ld F 0 (fun _ => 0) τ1 (sI σ1 40 0 (J 0)) := by
    refine ⟨⟨by rw [a2.gi (by decide)]; simp (decide := true) (disch := omega) only [letS_d, grd_t, bnd_d, bnd1_d, bndX_d, bndX_e, gI_sI, gI_sL, gL_sL, gL_sI, upd_at, updL_at, J_lit, J_add, J_mul, J_sub, J_lt, J_le, J_inj, J_ne, ne_J, m_lt, lt_m, m_le, le_m, J_cl, J_inB, if_true, if_false, ite_true, ite_false, reduceIte, isZ0, isZ1, J_and31, shrJ0, shlJ0, gI_sA, gL_sA, Nat.reduceEqDiff, Nat.reduceAdd, Nat.reduceMul, Nat.reduceLT, Nat.reduceLeDiff], by simp (decide := true) (disch := omega) only [letS_d, grd_t, bnd_d, bnd1_d, bndX_d, bndX_e, gI_sI, gI_sL, gL_sL, gL_sI, upd_at, updL_at, J_lit, J_add, J_mul, J_sub, J_lt, J_le, J_inj, J_ne, ne_J, m_lt, lt_m, m_le, le_m, J_cl, J_inB, if_true, if_false, ite_true, ite_false, reduceIte, isZ0, isZ1, J_and31, shrJ0, shlJ0, gI_sA, gL_sA, Nat.reduceEqDiff, Nat.reduceAdd, Nat.reduceMul, Nat.reduceLT, Nat.reduceLeDiff]⟩, fun s hs => by omega, fun s s' h1 h2 => by omega, fun i hi fi => Or.inr ⟨fun s hs => by omega, ?_, ?_⟩⟩
    · have := g40_le (ld := ld) (F := F) i
      exact a4 _ (by omega) (by omega)
    · have := Sk_le (ld := ld) (F := F) 40 (i := i)
      simp (decide := true) (disch := omega) only [letS_d, grd_t, bnd_d, bnd1_d, bndX_d, bndX_e, gI_sI, gI_sL, gL_sL, gL_sI, upd_at, updL_at, J_lit, J_add, J_mul, J_sub, J_lt, J_le, J_inj, J_ne, ne_J, m_lt, lt_m, m_le, le_m, J_cl, J_inB, if_true, if_false, ite_true, ite_false, reduceIte, isZ0, isZ1, J_and31, shrJ0, shlJ0, gI_sA, gL_sA, Nat.reduceEqDiff, Nat.reduceAdd, Nat.reduceMul, Nat.reduceLT, Nat.reduceLeDiff]
      exact b4 _ (by omega) (by omega)
  obtain ⟨m1, rep1, τ2, σ2, r, c1, c2, c3, c4, c5, c6, c7, c8, c9⟩ := both_st (N := N) hC1 hI1 (show 0 < c by omega)
  have hcls : fX4_numberStates N τ = fX4_numberStates_39 N N τ2 (J 0) := by
    unfold fX4_numberStates
    simp (decide := true) (disch := omega) only [letS_d, grd_t, bnd_d, bnd1_d, bndX_d, bndX_e, gI_sI, gI_sL, gL_sL, gL_sI, upd_at, updL_at, J_lit, J_add, J_mul, J_sub, J_lt, J_le, J_inj, J_ne, ne_J, m_lt, lt_m, m_le, le_m, J_cl, J_inB, if_true, if_false, ite_true, ite_false, reduceIte, isZ0, isZ1, J_and31, shrJ0, shlJ0, gI_sA, gL_sA, Nat.reduceEqDiff, Nat.reduceAdd, Nat.reduceMul, Nat.reduceLT, Nat.reduceLeDiff]
    rw [a1, c1, bnd_d]
  have hz0 := hS.1 0 (by omega)
  have h37 : gI σ1 37 = gI σ 37 := b2.gi (by decide)
  have h38 : gI σ1 38 = gI σ 38 := b2.gi (by decide)
  have href0 : fX9_number N σ = fX9_number_2 N 1 σ1 (J 40) := by
    unfold fX9_number
    simp (decide := true) (disch := omega) only [letS_d, grd_t, bnd_d, bnd1_d, bndX_d, bndX_e, gI_sI, gI_sL, gL_sL, gL_sI, upd_at, updL_at, J_lit, J_add, J_mul, J_sub, J_lt, J_le, J_inj, J_ne, ne_J, m_lt, lt_m, m_le, le_m, J_cl, J_inB, if_true, if_false, ite_true, ite_false, reduceIte, isZ0, isZ1, J_and31, shrJ0, shlJ0, gI_sA, gL_sA, Nat.reduceEqDiff, Nat.reduceAdd, Nat.reduceMul, Nat.reduceLT, Nat.reduceLeDiff]
    exact b1
  cases f0 : F 0
  · rw [f0, zb_f] at hz0
    obtain ⟨s1, s2⟩ := hS.2 0 (by omega) f0
    have hS0 : Sk ld F 40 0 = 0 := by
      have := Sk_le (ld := ld) (F := F) 40 (i := 0)
      omega
    rw [hS0] at s1
    have hno : ∀ s, s < 0 → (fun _ => 0) s ≠ gk ld F 40 0 := fun s hs => by omega
    have hnew := Ni_new hC1 hI1 (show 0 < c by omega) f0 hno
    have hg0 : gk ld F 40 0 = 0 := by
      have := g40_le (ld := ld) (F := F) 0
      omega
    rw [hS0] at hnew
    -- the class's own step is this one
    have hst : fX4_stateOf N τ1 (J 0) = some (J 0, sI (sI (sI τ1 76 (gk ld F 40 0) (J 0)) 77 0 (J (gk ld F 40 0))) 71 0 (J (0 + 1))) := by
      have q1 := hC1.2.2.1 0 (by omega)
      rw [f0, zb_f] at q1
      have q2 := hC1.2.2.2.1 0 (by omega)
      have q3 := hI1.1.1
      have q4 := a4 0 (by omega) (by omega)
      rw [hg0] at q2 ⊢
      unfold fX4_stateOf
      simp (decide := true) (disch := omega) only [letS_d, grd_t, bnd_d, bnd1_d, bndX_d, bndX_e, gI_sI, gI_sL, gL_sL, gL_sI, upd_at, updL_at, J_lit, J_add, J_mul, J_sub, J_lt, J_le, J_inj, J_ne, ne_J, m_lt, lt_m, m_le, le_m, J_cl, J_inB, if_true, if_false, ite_true, ite_false, reduceIte, isZ0, isZ1, J_and31, shrJ0, shlJ0, gI_sA, gL_sA, Nat.reduceEqDiff, Nat.reduceAdd, Nat.reduceMul, Nat.reduceLT, Nat.reduceLeDiff, q1, q2, q4, q3, fX4_stateOf_67]
    rw [c1] at hst
    have hτ2 := (Prod.mk.inj (Option.some.inj hst)).2
    have href : fX9_number N σ = fX9_number_55 N N (sI (sI (sI σ1 40 0 (J 0)) 39 0 (J 0)) 40 0 (J (0 + 1))) (J 0) := by
      rw [href0]
      rw [show fX9_number_2 N 1 σ1 (J 40) = _ from by unfold fX9_number_2; rfl]
      simp (decide := true) (disch := omega) only [letS_d, grd_t, bnd_d, bnd1_d, bndX_d, bndX_e, gI_sI, gI_sL, gL_sL, gL_sI, upd_at, updL_at, J_lit, J_add, J_mul, J_sub, J_lt, J_le, J_inj, J_ne, ne_J, m_lt, lt_m, m_le, le_m, J_cl, J_inB, if_true, if_false, ite_true, ite_false, reduceIte, isZ0, isZ1, J_and31, shrJ0, shlJ0, gI_sA, gL_sA, Nat.reduceEqDiff, Nat.reduceAdd, Nat.reduceMul, Nat.reduceLT, Nat.reduceLeDiff, Nat.le_refl, h37, hz0, h38, s1]
    rw [← hτ2] at hnew
    obtain ⟨m, rep, τ', σ', d1, d2, d3, d4, d5, d6⟩ := both_number (N := N) (c := c) (ld := ld) (F := F) hN 41 0 N N τ2 (sI (sI (sI σ1 40 0 (J 0)) 39 0 (J 0)) 40 0 (J (0 + 1))) (0 + 1) _ (by omega) (by omega) (by omega) (by omega) (hC1.fr (X' := [39, 40]) c3 ((Fr.i (by decide)).tr (Fr.i (by decide))) (by decide) (by decide)) hnew (fun i hi => by omega)
    have hml := Ni_le d5
    exact ⟨m, τ', σ', hcls.trans d1, href.trans d2, ((fτ.mono (by decide)).tr (c3.mono (by decide))).tr d3, ((fσ.mono (by decide)).tr ((Fr.i (by decide)).tr (Fr.i (by decide)))).tr d4, by omega, d5.1.1, d5.1.2, d6⟩
  · rw [f0, zb_t] at hz0
    have hst : fX4_stateOf N τ1 (J 0) = some (-J 1, τ1) := by
      have q1 := hC1.2.2.1 0 (by omega)
      rw [f0, zb_t] at q1
      unfold fX4_stateOf
      simp (decide := true) (disch := omega) only [letS_d, grd_t, bnd_d, bnd1_d, bndX_d, bndX_e, gI_sI, gI_sL, gL_sL, gL_sI, upd_at, updL_at, J_lit, J_add, J_mul, J_sub, J_lt, J_le, J_inj, J_ne, ne_J, m_lt, lt_m, m_le, le_m, J_cl, J_inB, if_true, if_false, ite_true, ite_false, reduceIte, isZ0, isZ1, J_and31, shrJ0, shlJ0, gI_sA, gL_sA, Nat.reduceEqDiff, Nat.reduceAdd, Nat.reduceMul, Nat.reduceLT, Nat.reduceLeDiff, q1]
    rw [c1] at hst
    have hτ2 := (Prod.mk.inj (Option.some.inj hst)).2
    subst hτ2
    refine ⟨0, τ2, sI σ1 40 0 (J 0), ?_, ?_, fτ.mono (by decide), fσ.mono (by decide), by omega, hI1.1.1, hI1.1.2, fun i hi => by omega⟩
    · rw [hcls]
      obtain ⟨M, hM⟩ : ∃ M, N = M + 1 := ⟨N - 1, by omega⟩
      rw [show fX4_numberStates_39 N N τ2 (J 0) = fX4_numberStates_39 N (M + 1) τ2 (J 0) from by rw [← hM]]
      unfold fX4_numberStates_39
      have := hI1.1.1
      simp (decide := true) (disch := omega) only [letS_d, grd_t, bnd_d, bnd1_d, bndX_d, bndX_e, gI_sI, gI_sL, gL_sL, gL_sI, upd_at, updL_at, J_lit, J_add, J_mul, J_sub, J_lt, J_le, J_inj, J_ne, ne_J, m_lt, lt_m, m_le, le_m, J_cl, J_inB, if_true, if_false, ite_true, ite_false, reduceIte, isZ0, isZ1, J_and31, shrJ0, shlJ0, gI_sA, gL_sA, Nat.reduceEqDiff, Nat.reduceAdd, Nat.reduceMul, Nat.reduceLT, Nat.reduceLeDiff, this, Nat.le_refl]
    · rw [href0]
      rw [show fX9_number_2 N 1 σ1 (J 40) = _ from by unfold fX9_number_2; rfl]
      simp (decide := true) (disch := omega) only [letS_d, grd_t, bnd_d, bnd1_d, bndX_d, bndX_e, gI_sI, gI_sL, gL_sL, gL_sI, upd_at, updL_at, J_lit, J_add, J_mul, J_sub, J_lt, J_le, J_inj, J_ne, ne_J, m_lt, lt_m, m_le, le_m, J_cl, J_inB, if_true, if_false, ite_true, ite_false, reduceIte, isZ0, isZ1, J_and31, shrJ0, shlJ0, gI_sA, gL_sA, Nat.reduceEqDiff, Nat.reduceAdd, Nat.reduceMul, Nat.reduceLT, Nat.reduceLeDiff, Nat.le_refl, h37, hz0]
end NUM
