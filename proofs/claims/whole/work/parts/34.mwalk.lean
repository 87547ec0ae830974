/-! promises 12 and 13: the run's trace walked again -/
/-- more pigeons than holes -/
theorem php : ∀ (n m : Nat) (f : Nat → Nat), n < m → (∀ i, i < m → f i < n) → ∃ i j, i < j ∧ j < m ∧ f i = f j := by
  intro n
  induction n with
  | zero =>
    intro m f hm h
    have := h 0 hm
    omega
  | succ n ih =>
    intro m f hm h
    by_cases hv : ∃ i, i < m - 1 ∧ f i = f (m - 1)
    · obtain ⟨i, h1, h2⟩ := hv
      exact ⟨i, m - 1, h1, by omega, h2⟩
    · have hv' : ∀ i, i < m - 1 → f i ≠ f (m - 1) := fun i h1 h2 => hv ⟨i, h1, h2⟩
      obtain ⟨i, j, h1, h2, h3⟩ := ih (m - 1) (fun i => if f (m - 1) < f i then f i - 1 else f i) (by omega) (fun i hi => by
        have a := h i (by omega)
        have b := h (m - 1) (by omega)
        have c := hv' i hi
        show (if f (m - 1) < f i then f i - 1 else f i) < n
        split <;> omega)
      refine ⟨i, j, h1, by omega, ?_⟩
      have c1 := hv' i (by omega)
      have c2 := hv' j (by omega)
      have h3' : (if f (m - 1) < f i then f i - 1 else f i) = (if f (m - 1) < f j then f j - 1 else f j) := h3
      split at h3' <;> split at h3' <;> omega
/-- where a state comes by the letters from a cycle on -/
def wk (T L : Nat → Int32) : Nat → Nat → Int32 → Int32
  | 0, _, x => x
  | f + 1, k, x => if x = -J 1 then -J 1 else wk T L f (k + 1) (T (8 * x.toNatClampNeg + (L k).toNatClampNeg))
def itw (T L : Nat → Int32) (g k : Nat) : Nat → Int32 → Int32
  | 0, x => x
  | f + 1, x => itw T L g k f (wk T L g k x)
theorem wk_m (T L : Nat → Int32) (f k : Nat) : wk T L f k (-J 1) = -J 1 := by
  cases f
  · rfl
  · unfold wk
    rw [if_pos rfl]
theorem itw_m (T L : Nat → Int32) (g k f : Nat) : itw T L g k f (-J 1) = -J 1 := by
  induction f with
  | zero => rfl
  | succ f ih =>
    unfold itw
    rw [wk_m]
    exact ih
theorem itw_add (T L : Nat → Int32) (g k a b : Nat) (x : Int32) : itw T L g k (a + b) x = itw T L g k b (itw T L g k a x) := by
  induction a generalizing x with
  | zero => rw [Nat.zero_add]; rfl
  | succ a ih =>
    rw [Nat.succ_add]
    show itw T L g k (a + b) (wk T L g k x) = itw T L g k b (itw T L g k a (wk T L g k x))
    exact ih _
section WALK
variable {N s t : Nat} {τ σ : St}
def Rn (s t : Nat) (τ σ : St) : Prop := s ≤ 40 ∧ t ≤ 60 ∧ gI τ 71 0 = J s ∧ gI σ 40 0 = J s ∧ gI τ 93 0 = J t ∧ gI σ 49 0 = J t ∧ (∀ i, i < 8 * s → gI τ 72 i = gI σ 45 i ∧ Mx s (gI σ 45 i)) ∧ ∀ i, i < t → ∃ l, l < 8 ∧ gI τ 91 i = J l ∧ gI σ 51 i = J l
theorem wk_Mx (h : Rn s t τ σ) : ∀ f k x, k + f ≤ t → Mx s x → Mx s (wk (gI σ 45) (gI σ 51) f k x) := by
  obtain ⟨h1, h2, h3, h4, h5, h6, h7, h8⟩ := h
  intro f
  induction f with
  | zero => intro k x _ hx; exact hx
  | succ f ih =>
    intro k x hk hx
    unfold wk
    split
    · exact Or.inl rfl
    · rename_i hn
      rcases hx with rfl | ⟨q, q1, rfl⟩
      · exact absurd rfl hn
      · obtain ⟨l, l1, l2, l3⟩ := h8 k (by omega)
        refine ih (k + 1) _ (by omega) ?_
        rw [l3, J_cl (by omega), J_cl (by omega)]
        exact (h7 _ (by omega)).2
theorem itw_Mx (h : Rn s t τ σ) {g k : Nat} (hg : k + g ≤ t) : ∀ f x, Mx s x → Mx s (itw (gI σ 45) (gI σ 51) g k f x) := by
  intro f
  induction f with
  | zero => intro x hx; exact hx
  | succ f ih => intro x hx; exact ih _ (wk_Mx h g k x hg hx)
theorem cls_walk (h : Rn s t τ σ) : ∀ f k n x, k + f = t → f < n → Mx s x → fX7_walk_5 N n τ x (J k) = some (wk (gI σ 45) (gI σ 51) f k x, τ) := by
  obtain ⟨h1, h2, h3, h4, h5, h6, h7, h8⟩ := id h
  intro f
  induction f with
  | zero =>
    intro k n x hk hn hx
    obtain ⟨n, rfl⟩ : ∃ k, n = k + 1 := ⟨n - 1, by omega⟩
    unfold fX7_walk_5
    have : t ≤ k := by omega
    simp (decide := true) (disch := omega) only [letS_d, grd_t, bnd_d, bnd1_d, bndX_d, bndX_e, gI_sI, gI_sL, gL_sL, gL_sI, upd_at, updL_at, J_lit, J_add, J_mul, J_sub, J_lt, J_le, J_inj, J_ne, ne_J, m_lt, lt_m, m_le, le_m, J_cl, J_inB, if_true, if_false, ite_true, ite_false, reduceIte, isZ0, isZ1, J_and31, shrJ0, shlJ0, gI_sA, gL_sA, Nat.reduceEqDiff, Nat.reduceAdd, Nat.reduceMul, Nat.reduceLT, Nat.reduceLeDiff, h5, this, wk]
  | succ f ih =>
    intro k n x hk hn hx
    obtain ⟨n, rfl⟩ : ∃ k, n = k + 1 := ⟨n - 1, by omega⟩
    unfold fX7_walk_5
    have hk' : ¬ t ≤ k := by omega
    obtain ⟨l, l1, l2, l3⟩ := h8 k (by omega)
    rcases hx.lt with ⟨q1, q2⟩ | ⟨q1, q, q2, q3⟩
    · subst q1
      have := ih (k + 1) n (-J 1) (by omega) (by omega) (Or.inl rfl)
      simp (decide := true) (disch := omega) only [letS_d, grd_t, bnd_d, bnd1_d, bndX_d, bndX_e, gI_sI, gI_sL, gL_sL, gL_sI, upd_at, updL_at, J_lit, J_add, J_mul, J_sub, J_lt, J_le, J_inj, J_ne, ne_J, m_lt, lt_m, m_le, le_m, J_cl, J_inB, if_true, if_false, ite_true, ite_false, reduceIte, isZ0, isZ1, J_and31, shrJ0, shlJ0, gI_sA, gL_sA, Nat.reduceEqDiff, Nat.reduceAdd, Nat.reduceMul, Nat.reduceLT, Nat.reduceLeDiff, h5, hk', l2, fX4_after, lo_m, fX4_after_12, this, wk_m]
    · subst q3
      have := ih (k + 1) n (gI τ 72 (8 * q + l)) (by omega) (by omega) (by rw [(h7 _ (by omega)).1]; exact (h7 _ (by omega)).2)
      rw [(h7 (8 * q + l) (by omega)).1] at this
      simp (decide := true) (disch := omega) only [letS_d, grd_t, bnd_d, bnd1_d, bndX_d, bndX_e, gI_sI, gI_sL, gL_sL, gL_sI, upd_at, updL_at, J_lit, J_add, J_mul, J_sub, J_lt, J_le, J_inj, J_ne, ne_J, m_lt, lt_m, m_le, le_m, J_cl, J_inB, if_true, if_false, ite_true, ite_false, reduceIte, isZ0, isZ1, J_and31, shrJ0, shlJ0, gI_sA, gL_sA, Nat.reduceEqDiff, Nat.reduceAdd, Nat.reduceMul, Nat.reduceLT, Nat.reduceLeDiff, h5, hk', l2, l3, fX4_after, Nat.not_lt_zero, h3, q2, Nat.mul_comm q 8, wk, (h7 (8 * q + l) (by omega)).1]
      exact this
theorem ref_fails (h : Rn s t τ σ) : ∀ f k n x, k + f = t → f < n → Mx s x → fX9_fails_20 N n σ x (J k) = some (if wk (gI σ 45) (gI σ 51) f k x = -J 1 then J 1 else J 0, σ) := by
  obtain ⟨h1, h2, h3, h4, h5, h6, h7, h8⟩ := id h
  intro f
  induction f with
  | zero =>
    intro k n x hk hn hx
    obtain ⟨n, rfl⟩ : ∃ k, n = k + 1 := ⟨n - 1, by omega⟩
    unfold fX9_fails_20
    have : t ≤ k := by omega
    rcases hx.lt with ⟨q1, q2⟩ | ⟨q1, q, q2, q3⟩
    · subst q1
      simp (decide := true) (disch := omega) only [letS_d, grd_t, bnd_d, bnd1_d, bndX_d, bndX_e, gI_sI, gI_sL, gL_sL, gL_sI, upd_at, updL_at, J_lit, J_add, J_mul, J_sub, J_lt, J_le, J_inj, J_ne, ne_J, m_lt, lt_m, m_le, le_m, J_cl, J_inB, if_true, if_false, ite_true, ite_false, reduceIte, isZ0, isZ1, J_and31, shrJ0, shlJ0, gI_sA, gL_sA, Nat.reduceEqDiff, Nat.reduceAdd, Nat.reduceMul, Nat.reduceLT, Nat.reduceLeDiff, h6, this, wk, fX9_fails_55, le_mz]
    · subst q3
      simp (decide := true) (disch := omega) only [letS_d, grd_t, bnd_d, bnd1_d, bndX_d, bndX_e, gI_sI, gI_sL, gL_sL, gL_sI, upd_at, updL_at, J_lit, J_add, J_mul, J_sub, J_lt, J_le, J_inj, J_ne, ne_J, m_lt, lt_m, m_le, le_m, J_cl, J_inB, if_true, if_false, ite_true, ite_false, reduceIte, isZ0, isZ1, J_and31, shrJ0, shlJ0, gI_sA, gL_sA, Nat.reduceEqDiff, Nat.reduceAdd, Nat.reduceMul, Nat.reduceLT, Nat.reduceLeDiff, h6, this, wk, fX9_fails_55, Nat.zero_le]
  | succ f ih =>
    intro k n x hk hn hx
    obtain ⟨n, rfl⟩ : ∃ k, n = k + 1 := ⟨n - 1, by omega⟩
    unfold fX9_fails_20
    have hk' : ¬ t ≤ k := by omega
    obtain ⟨l, l1, l2, l3⟩ := h8 k (by omega)
    rcases hx.lt with ⟨q1, q2⟩ | ⟨q1, q, q2, q3⟩
    · subst q1
      simp (decide := true) (disch := omega) only [letS_d, grd_t, bnd_d, bnd1_d, bndX_d, bndX_e, gI_sI, gI_sL, gL_sL, gL_sI, upd_at, updL_at, J_lit, J_add, J_mul, J_sub, J_lt, J_le, J_inj, J_ne, ne_J, m_lt, lt_m, m_le, le_m, J_cl, J_inB, if_true, if_false, ite_true, ite_false, reduceIte, isZ0, isZ1, J_and31, shrJ0, shlJ0, gI_sA, gL_sA, Nat.reduceEqDiff, Nat.reduceAdd, Nat.reduceMul, Nat.reduceLT, Nat.reduceLeDiff, h6, hk', lo_m, wk_m, fX9_fails_55, le_mz]
    · subst q3
      have := ih (k + 1) n (gI σ 45 (8 * q + l)) (by omega) (by omega) ((h7 _ (by omega)).2)
      simp (decide := true) (disch := omega) only [letS_d, grd_t, bnd_d, bnd1_d, bndX_d, bndX_e, gI_sI, gI_sL, gL_sL, gL_sI, upd_at, updL_at, J_lit, J_add, J_mul, J_sub, J_lt, J_le, J_inj, J_ne, ne_J, m_lt, lt_m, m_le, le_m, J_cl, J_inB, if_true, if_false, ite_true, ite_false, reduceIte, isZ0, isZ1, J_and31, shrJ0, shlJ0, gI_sA, gL_sA, Nat.reduceEqDiff, Nat.reduceAdd, Nat.reduceMul, Nat.reduceLT, Nat.reduceLeDiff, h6, hk', l3, Nat.not_lt_zero, this, wk]
/-- the shortest piece at the end that fails -/
def shx (T L : Nat → Int32) (t : Nat) (x : Int32) : Nat → Nat → Nat
  | 0, p => p
  | f + 1, p => if wk T L p (t - p) x = -J 1 then p else shx T L t x f (p + 1)
theorem shx_le (T L : Nat → Int32) (t : Nat) (x : Int32) : ∀ f p, shx T L t x f p ≤ p + f := by
  intro f
  induction f with
  | zero => intro p; exact Nat.le_refl _
  | succ f ih =>
    intro p
    unfold shx
    have := ih (p + 1)
    split <;> omega
def fs (s : Nat) : Int32 := if s = 0 then -J 1 else J 0
theorem fs_Mx : Mx s (fs s) := by
  unfold fs
  split
  · exact Or.inl rfl
  · exact Or.inr ⟨0, by omega, rfl⟩
theorem cls_first (h : Rn s t τ σ) : fX4_firstState N τ = some (fs s, τ) := by
  obtain ⟨h1, h2, h3, h4, h5, h6, h7, h8⟩ := id h
  unfold fX4_firstState fs
  by_cases hs : s = 0
  · subst hs
    simp (decide := true) (disch := omega) only [letS_d, grd_t, bnd_d, bnd1_d, bndX_d, bndX_e, gI_sI, gI_sL, gL_sL, gL_sI, upd_at, updL_at, J_lit, J_add, J_mul, J_sub, J_lt, J_le, J_inj, J_ne, ne_J, m_lt, lt_m, m_le, le_m, J_cl, J_inB, if_true, if_false, ite_true, ite_false, reduceIte, isZ0, isZ1, J_and31, shrJ0, shlJ0, gI_sA, gL_sA, Nat.reduceEqDiff, Nat.reduceAdd, Nat.reduceMul, Nat.reduceLT, Nat.reduceLeDiff, h3, Nat.le_refl]
  · have : ¬ s ≤ 0 := by omega
    simp (decide := true) (disch := omega) only [letS_d, grd_t, bnd_d, bnd1_d, bndX_d, bndX_e, gI_sI, gI_sL, gL_sL, gL_sI, upd_at, updL_at, J_lit, J_add, J_mul, J_sub, J_lt, J_le, J_inj, J_ne, ne_J, m_lt, lt_m, m_le, le_m, J_cl, J_inB, if_true, if_false, ite_true, ite_false, reduceIte, isZ0, isZ1, J_and31, shrJ0, shlJ0, gI_sA, gL_sA, Nat.reduceEqDiff, Nat.reduceAdd, Nat.reduceMul, Nat.reduceLT, Nat.reduceLeDiff, h3, this, hs]
theorem cls_short (hN : 100 ≤ N) (h : Rn s t τ σ) : ∀ f p n, p + f = t → f < n → fX7_shortestFailingEnd_2 N n τ (J p) = some (J (shx (gI σ 45) (gI σ 51) t (fs s) f p), τ) := by
  obtain ⟨h1, h2, h3, h4, h5, h6, h7, h8⟩ := id h
  intro f
  induction f with
  | zero =>
    intro p n hp hn
    obtain ⟨n, rfl⟩ : ∃ k, n = k + 1 := ⟨n - 1, by omega⟩
    unfold fX7_shortestFailingEnd_2
    have : t ≤ p := by omega
    obtain rfl : p = t := by omega
    simp (decide := true) (disch := omega) only [letS_d, grd_t, bnd_d, bnd1_d, bndX_d, bndX_e, gI_sI, gI_sL, gL_sL, gL_sI, upd_at, updL_at, J_lit, J_add, J_mul, J_sub, J_lt, J_le, J_inj, J_ne, ne_J, m_lt, lt_m, m_le, le_m, J_cl, J_inB, if_true, if_false, ite_true, ite_false, reduceIte, isZ0, isZ1, J_and31, shrJ0, shlJ0, gI_sA, gL_sA, Nat.reduceEqDiff, Nat.reduceAdd, Nat.reduceMul, Nat.reduceLT, Nat.reduceLeDiff, h5, this, shx]
  | succ f ih =>
    intro p n hp hn
    obtain ⟨n, rfl⟩ : ∃ k, n = k + 1 := ⟨n - 1, by omega⟩
    unfold fX7_shortestFailingEnd_2
    have hp' : ¬ t ≤ p := by omega
    have hw := cls_walk (N := N) h p (t - p) N (fs s) (by omega) (by omega) fs_Mx
    have hi := ih (p + 1) n (by omega) (by omega)
    simp (decide := true) (disch := omega) only [letS_d, grd_t, bnd_d, bnd1_d, bndX_d, bndX_e, gI_sI, gI_sL, gL_sL, gL_sI, upd_at, updL_at, J_lit, J_add, J_mul, J_sub, J_lt, J_le, J_inj, J_ne, ne_J, m_lt, lt_m, m_le, le_m, J_cl, J_inB, if_true, if_false, ite_true, ite_false, reduceIte, isZ0, isZ1, J_and31, shrJ0, shlJ0, gI_sA, gL_sA, Nat.reduceEqDiff, Nat.reduceAdd, Nat.reduceMul, Nat.reduceLT, Nat.reduceLeDiff, h5, hp', cls_first h, fX7_walk, hw]
    unfold shx
    by_cases hz : wk (gI σ 45) (gI σ 51) p (t - p) (fs s) = -J 1
    · simp (decide := true) (disch := omega) only [letS_d, grd_t, bnd_d, bnd1_d, bndX_d, bndX_e, gI_sI, gI_sL, gL_sL, gL_sI, upd_at, updL_at, J_lit, J_add, J_mul, J_sub, J_lt, J_le, J_inj, J_ne, ne_J, m_lt, lt_m, m_le, le_m, J_cl, J_inB, if_true, if_false, ite_true, ite_false, reduceIte, isZ0, isZ1, J_and31, shrJ0, shlJ0, gI_sA, gL_sA, Nat.reduceEqDiff, Nat.reduceAdd, Nat.reduceMul, Nat.reduceLT, Nat.reduceLeDiff, hz]
    · simp (decide := true) (disch := omega) only [letS_d, grd_t, bnd_d, bnd1_d, bndX_d, bndX_e, gI_sI, gI_sL, gL_sL, gL_sI, upd_at, updL_at, J_lit, J_add, J_mul, J_sub, J_lt, J_le, J_inj, J_ne, ne_J, m_lt, lt_m, m_le, le_m, J_cl, J_inB, if_true, if_false, ite_true, ite_false, reduceIte, isZ0, isZ1, J_and31, shrJ0, shlJ0, gI_sA, gL_sA, Nat.reduceEqDiff, Nat.reduceAdd, Nat.reduceMul, Nat.reduceLT, Nat.reduceLeDiff, hz, hi]
theorem ref_short (hN : 100 ≤ N) (h : Rn s t τ σ) : ∀ f p n, p + f = t → f < n → fX9_shortest_18 N n σ (J p) = some (J (shx (gI σ 45) (gI σ 51) t (fs s) f p), σ) := by
  obtain ⟨h1, h2, h3, h4, h5, h6, h7, h8⟩ := id h
  intro f
  induction f with
  | zero =>
    intro p n hp hn
    obtain ⟨n, rfl⟩ : ∃ k, n = k + 1 := ⟨n - 1, by omega⟩
    unfold fX9_shortest_18
    have : t ≤ p := by omega
    simp (decide := true) (disch := omega) only [letS_d, grd_t, bnd_d, bnd1_d, bndX_d, bndX_e, gI_sI, gI_sL, gL_sL, gL_sI, upd_at, updL_at, J_lit, J_add, J_mul, J_sub, J_lt, J_le, J_inj, J_ne, ne_J, m_lt, lt_m, m_le, le_m, J_cl, J_inB, if_true, if_false, ite_true, ite_false, reduceIte, isZ0, isZ1, J_and31, shrJ0, shlJ0, gI_sA, gL_sA, Nat.reduceEqDiff, Nat.reduceAdd, Nat.reduceMul, Nat.reduceLT, Nat.reduceLeDiff, h6, this, shx, fX9_shortest_40]
  | succ f ih =>
    intro p n hp hn
    obtain ⟨n, rfl⟩ : ∃ k, n = k + 1 := ⟨n - 1, by omega⟩
    unfold fX9_shortest_18
    have hp' : ¬ t ≤ p := by omega
    have hw := ref_fails (N := N) h p (t - p) N (fs s) (by omega) (by omega) fs_Mx
    have hi := ih (p + 1) n (by omega) (by omega)
    have hf : fX9_fails N σ (J p) = some (if wk (gI σ 45) (gI σ 51) p (t - p) (fs s) = -J 1 then J 1 else J 0, σ) := by
      rw [← hw]
      unfold fX9_fails fX9_fails_12 fs
      by_cases hs : s = 0
      · subst hs
        simp (decide := true) (disch := omega) only [letS_d, grd_t, bnd_d, bnd1_d, bndX_d, bndX_e, gI_sI, gI_sL, gL_sL, gL_sI, upd_at, updL_at, J_lit, J_add, J_mul, J_sub, J_lt, J_le, J_inj, J_ne, ne_J, m_lt, lt_m, m_le, le_m, J_cl, J_inB, if_true, if_false, ite_true, ite_false, reduceIte, isZ0, isZ1, J_and31, shrJ0, shlJ0, gI_sA, gL_sA, Nat.reduceEqDiff, Nat.reduceAdd, Nat.reduceMul, Nat.reduceLT, Nat.reduceLeDiff, h4, h6, Nat.le_refl]
      · have : ¬ s ≤ 0 := by omega
        simp (decide := true) (disch := omega) only [letS_d, grd_t, bnd_d, bnd1_d, bndX_d, bndX_e, gI_sI, gI_sL, gL_sL, gL_sI, upd_at, updL_at, J_lit, J_add, J_mul, J_sub, J_lt, J_le, J_inj, J_ne, ne_J, m_lt, lt_m, m_le, le_m, J_cl, J_inB, if_true, if_false, ite_true, ite_false, reduceIte, isZ0, isZ1, J_and31, shrJ0, shlJ0, gI_sA, gL_sA, Nat.reduceEqDiff, Nat.reduceAdd, Nat.reduceMul, Nat.reduceLT, Nat.reduceLeDiff, h4, h6, this, hs]
    simp (decide := true) (disch := omega) only [letS_d, grd_t, bnd_d, bnd1_d, bndX_d, bndX_e, gI_sI, gI_sL, gL_sL, gL_sI, upd_at, updL_at, J_lit, J_add, J_mul, J_sub, J_lt, J_le, J_inj, J_ne, ne_J, m_lt, lt_m, m_le, le_m, J_cl, J_inB, if_true, if_false, ite_true, ite_false, reduceIte, isZ0, isZ1, J_and31, shrJ0, shlJ0, gI_sA, gL_sA, Nat.reduceEqDiff, Nat.reduceAdd, Nat.reduceMul, Nat.reduceLT, Nat.reduceLeDiff, h6, hp', hf]
    unfold shx
    by_cases hz : wk (gI σ 45) (gI σ 51) p (t - p) (fs s) = -J 1
    · simp (decide := true) (disch := omega) only [letS_d, grd_t, bnd_d, bnd1_d, bndX_d, bndX_e, gI_sI, gI_sL, gL_sL, gL_sI, upd_at, updL_at, J_lit, J_add, J_mul, J_sub, J_lt, J_le, J_inj, J_ne, ne_J, m_lt, lt_m, m_le, le_m, J_cl, J_inB, if_true, if_false, ite_true, ite_false, reduceIte, isZ0, isZ1, J_and31, shrJ0, shlJ0, gI_sA, gL_sA, Nat.reduceEqDiff, Nat.reduceAdd, Nat.reduceMul, Nat.reduceLT, Nat.reduceLeDiff, hz, fX9_shortest_40]
    · simp (decide := true) (disch := omega) only [letS_d, grd_t, bnd_d, bnd1_d, bndX_d, bndX_e, gI_sI, gI_sL, gL_sL, gL_sI, upd_at, updL_at, J_lit, J_add, J_mul, J_sub, J_lt, J_le, J_inj, J_ne, ne_J, m_lt, lt_m, m_le, le_m, J_cl, J_inB, if_true, if_false, ite_true, ite_false, reduceIte, isZ0, isZ1, J_and31, shrJ0, shlJ0, gI_sA, gL_sA, Nat.reduceEqDiff, Nat.reduceAdd, Nat.reduceMul, Nat.reduceLT, Nat.reduceLeDiff, hz, hi]
theorem cls_hold (hN : 100 ≤ N) (h : Rn s t τ σ) {b : Nat} (hb : b ≤ t) : ∀ f r n x, r + f = s → f < n → Mx s x → fX7_holdsRepeating_7 N n τ (J b) x (J r) = some (if itw (gI σ 45) (gI σ 51) (t - b) b f x = -J 1 then J 0 else J 1, τ) := by
  obtain ⟨h1, h2, h3, h4, h5, h6, h7, h8⟩ := id h
  intro f
  induction f with
  | zero =>
    intro r n x hr hn hx
    obtain ⟨n, rfl⟩ : ∃ k, n = k + 1 := ⟨n - 1, by omega⟩
    unfold fX7_holdsRepeating_7
    have : s ≤ r := by omega
    by_cases hz : x = -J 1
    · subst hz
      simp (decide := true) (disch := omega) only [letS_d, grd_t, bnd_d, bnd1_d, bndX_d, bndX_e, gI_sI, gI_sL, gL_sL, gL_sI, upd_at, updL_at, J_lit, J_add, J_mul, J_sub, J_lt, J_le, J_inj, J_ne, ne_J, m_lt, lt_m, m_le, le_m, J_cl, J_inB, if_true, if_false, ite_true, ite_false, reduceIte, isZ0, isZ1, J_and31, shrJ0, shlJ0, gI_sA, gL_sA, Nat.reduceEqDiff, Nat.reduceAdd, Nat.reduceMul, Nat.reduceLT, Nat.reduceLeDiff, h3, this, fX7_holdsRepeating_36, itw]
    · simp (decide := true) (disch := omega) only [letS_d, grd_t, bnd_d, bnd1_d, bndX_d, bndX_e, gI_sI, gI_sL, gL_sL, gL_sI, upd_at, updL_at, J_lit, J_add, J_mul, J_sub, J_lt, J_le, J_inj, J_ne, ne_J, m_lt, lt_m, m_le, le_m, J_cl, J_inB, if_true, if_false, ite_true, ite_false, reduceIte, isZ0, isZ1, J_and31, shrJ0, shlJ0, gI_sA, gL_sA, Nat.reduceEqDiff, Nat.reduceAdd, Nat.reduceMul, Nat.reduceLT, Nat.reduceLeDiff, h3, this, fX7_holdsRepeating_36, itw, hz]
  | succ f ih =>
    intro r n x hr hn hx
    obtain ⟨n, rfl⟩ : ∃ k, n = k + 1 := ⟨n - 1, by omega⟩
    unfold fX7_holdsRepeating_7
    have hr' : ¬ s ≤ r := by omega
    by_cases hz : x = -J 1
    · subst hz
      simp (decide := true) (disch := omega) only [letS_d, grd_t, bnd_d, bnd1_d, bndX_d, bndX_e, gI_sI, gI_sL, gL_sL, gL_sI, upd_at, updL_at, J_lit, J_add, J_mul, J_sub, J_lt, J_le, J_inj, J_ne, ne_J, m_lt, lt_m, m_le, le_m, J_cl, J_inB, if_true, if_false, ite_true, ite_false, reduceIte, isZ0, isZ1, J_and31, shrJ0, shlJ0, gI_sA, gL_sA, Nat.reduceEqDiff, Nat.reduceAdd, Nat.reduceMul, Nat.reduceLT, Nat.reduceLeDiff, h3, hr', fX7_holdsRepeating_36, itw_m]
    · have hw := cls_walk (N := N) h (t - b) b N x (by omega) (by omega) hx
      have hi := ih (r + 1) n (wk (gI σ 45) (gI σ 51) (t - b) b x) (by omega) (by omega) (wk_Mx h _ _ _ (by omega) hx)
      rw [show itw (gI σ 45) (gI σ 51) (t - b) b (f + 1) x = itw (gI σ 45) (gI σ 51) (t - b) b f (wk (gI σ 45) (gI σ 51) (t - b) b x) from rfl]
      simp (decide := true) (disch := omega) only [letS_d, grd_t, bnd_d, bnd1_d, bndX_d, bndX_e, gI_sI, gI_sL, gL_sL, gL_sI, upd_at, updL_at, J_lit, J_add, J_mul, J_sub, J_lt, J_le, J_inj, J_ne, ne_J, m_lt, lt_m, m_le, le_m, J_cl, J_inB, if_true, if_false, ite_true, ite_false, reduceIte, isZ0, isZ1, J_and31, shrJ0, shlJ0, gI_sA, gL_sA, Nat.reduceEqDiff, Nat.reduceAdd, Nat.reduceMul, Nat.reduceLT, Nat.reduceLeDiff, h3, hr', hz, fX7_walk, hw]
      exact hi
theorem ref_turn (h : Rn s t τ σ) {b r : Nat} (k48 : St → Int32 → Int32 → Int32 → Option (Int32 × St)) : ∀ f k n x, k + f = t → f < n → Mx s x → fX9_loop_57 N k48 n σ (J b) x (J r) (J k) = k48 σ (J b) (wk (gI σ 45) (gI σ 51) f k x) (J (r + 1)) := by
  obtain ⟨h1, h2, h3, h4, h5, h6, h7, h8⟩ := id h
  intro f
  induction f with
  | zero =>
    intro k n x hk hn hx
    obtain ⟨n, rfl⟩ : ∃ k, n = k + 1 := ⟨n - 1, by omega⟩
    unfold fX9_loop_57
    have : t ≤ k := by omega
    simp (decide := true) (disch := omega) only [letS_d, grd_t, bnd_d, bnd1_d, bndX_d, bndX_e, gI_sI, gI_sL, gL_sL, gL_sI, upd_at, updL_at, J_lit, J_add, J_mul, J_sub, J_lt, J_le, J_inj, J_ne, ne_J, m_lt, lt_m, m_le, le_m, J_cl, J_inB, if_true, if_false, ite_true, ite_false, reduceIte, isZ0, isZ1, J_and31, shrJ0, shlJ0, gI_sA, gL_sA, Nat.reduceEqDiff, Nat.reduceAdd, Nat.reduceMul, Nat.reduceLT, Nat.reduceLeDiff, h6, this, wk, fX9_loop_94]
  | succ f ih =>
    intro k n x hk hn hx
    obtain ⟨n, rfl⟩ : ∃ k, n = k + 1 := ⟨n - 1, by omega⟩
    unfold fX9_loop_57
    have hk' : ¬ t ≤ k := by omega
    obtain ⟨l, l1, l2, l3⟩ := h8 k (by omega)
    rcases hx.lt with ⟨q1, q2⟩ | ⟨q1, q, q2, q3⟩
    · subst q1
      simp (decide := true) (disch := omega) only [letS_d, grd_t, bnd_d, bnd1_d, bndX_d, bndX_e, gI_sI, gI_sL, gL_sL, gL_sI, upd_at, updL_at, J_lit, J_add, J_mul, J_sub, J_lt, J_le, J_inj, J_ne, ne_J, m_lt, lt_m, m_le, le_m, J_cl, J_inB, if_true, if_false, ite_true, ite_false, reduceIte, isZ0, isZ1, J_and31, shrJ0, shlJ0, gI_sA, gL_sA, Nat.reduceEqDiff, Nat.reduceAdd, Nat.reduceMul, Nat.reduceLT, Nat.reduceLeDiff, h6, hk', lo_m, wk_m, fX9_loop_94]
    · subst q3
      have := ih (k + 1) n (gI σ 45 (8 * q + l)) (by omega) (by omega) ((h7 _ (by omega)).2)
      simp (decide := true) (disch := omega) only [letS_d, grd_t, bnd_d, bnd1_d, bndX_d, bndX_e, gI_sI, gI_sL, gL_sL, gL_sI, upd_at, updL_at, J_lit, J_add, J_mul, J_sub, J_lt, J_le, J_inj, J_ne, ne_J, m_lt, lt_m, m_le, le_m, J_cl, J_inB, if_true, if_false, ite_true, ite_false, reduceIte, isZ0, isZ1, J_and31, shrJ0, shlJ0, gI_sA, gL_sA, Nat.reduceEqDiff, Nat.reduceAdd, Nat.reduceMul, Nat.reduceLT, Nat.reduceLeDiff, h6, hk', l3, Nat.not_lt_zero, this, wk]
theorem ref_loop (hN : 100 ≤ N) (h : Rn s t τ σ) {b : Nat} (hb : b ≤ t) : ∀ f r n x, r + f = 41 → f < n → Mx s x → fX9_loop_48 N n σ (J b) x (J r) = some (if itw (gI σ 45) (gI σ 51) (t - b) b f x = -J 1 then J 0 else J 1, σ) := by
  obtain ⟨h1, h2, h3, h4, h5, h6, h7, h8⟩ := id h
  intro f
  induction f with
  | zero =>
    intro r n x hr hn hx
    obtain ⟨n, rfl⟩ : ∃ k, n = k + 1 := ⟨n - 1, by omega⟩
    unfold fX9_loop_48
    obtain rfl : r = 41 := by omega
    rcases hx.lt with ⟨q1, q2⟩ | ⟨q1, q, q2, q3⟩
    · subst q1
      simp (decide := true) (disch := omega) only [letS_d, grd_t, bnd_d, bnd1_d, bndX_d, bndX_e, gI_sI, gI_sL, gL_sL, gL_sI, upd_at, updL_at, J_lit, J_add, J_mul, J_sub, J_lt, J_le, J_inj, J_ne, ne_J, m_lt, lt_m, m_le, le_m, J_cl, J_inB, if_true, if_false, ite_true, ite_false, reduceIte, isZ0, isZ1, J_and31, shrJ0, shlJ0, gI_sA, gL_sA, Nat.reduceEqDiff, Nat.reduceAdd, Nat.reduceMul, Nat.reduceLT, Nat.reduceLeDiff, Nat.le_refl, itw, lo_m]
    · subst q3
      simp (decide := true) (disch := omega) only [letS_d, grd_t, bnd_d, bnd1_d, bndX_d, bndX_e, gI_sI, gI_sL, gL_sL, gL_sI, upd_at, updL_at, J_lit, J_add, J_mul, J_sub, J_lt, J_le, J_inj, J_ne, ne_J, m_lt, lt_m, m_le, le_m, J_cl, J_inB, if_true, if_false, ite_true, ite_false, reduceIte, isZ0, isZ1, J_and31, shrJ0, shlJ0, gI_sA, gL_sA, Nat.reduceEqDiff, Nat.reduceAdd, Nat.reduceMul, Nat.reduceLT, Nat.reduceLeDiff, Nat.le_refl, itw, Nat.not_lt_zero]
  | succ f ih =>
    intro r n x hr hn hx
    obtain ⟨n, rfl⟩ : ∃ k, n = k + 1 := ⟨n - 1, by omega⟩
    unfold fX9_loop_48
    have hr' : ¬ 41 ≤ r := by omega
    have hw := ref_turn (N := N) (b := b) (r := r) h (fX9_loop_48 N n) (t - b) b N x (by omega) (by omega) hx
    have hi := ih (r + 1) n (wk (gI σ 45) (gI σ 51) (t - b) b x) (by omega) (by omega) (wk_Mx h _ _ _ (by omega) hx)
    rw [show itw (gI σ 45) (gI σ 51) (t - b) b (f + 1) x = itw (gI σ 45) (gI σ 51) (t - b) b f (wk (gI σ 45) (gI σ 51) (t - b) b x) from rfl]
    simp (decide := true) (disch := omega) only [letS_d, grd_t, bnd_d, bnd1_d, bndX_d, bndX_e, gI_sI, gI_sL, gL_sL, gL_sI, upd_at, updL_at, J_lit, J_add, J_mul, J_sub, J_lt, J_le, J_inj, J_ne, ne_J, m_lt, lt_m, m_le, le_m, J_cl, J_inB, if_true, if_false, ite_true, ite_false, reduceIte, isZ0, isZ1, J_and31, shrJ0, shlJ0, gI_sA, gL_sA, Nat.reduceEqDiff, Nat.reduceAdd, Nat.reduceMul, Nat.reduceLT, Nat.reduceLeDiff, hr']
    exact hw.trans hi
/-- after as many rounds as there are states nothing new comes -/
theorem itw_sat (h : Rn s t τ σ) {g k : Nat} (hg : k + g ≤ t) {x : Int32} (hx : Mx s x) {m : Nat} (hm : s ≤ m) : (itw (gI σ 45) (gI σ 51) g k m x = -J 1) = (itw (gI σ 45) (gI σ 51) g k s x = -J 1) := by
  refine propext ⟨fun hm1 => ?_, fun hs1 => ?_⟩
  · by_cases hs : itw (gI σ 45) (gI σ 51) g k s x = -J 1
    · exact hs
    · exfalso
      have hno : ∀ i, i ≤ s → itw (gI σ 45) (gI σ 51) g k i x ≠ -J 1 := fun i hi he => hs (by
        obtain ⟨d, rfl⟩ : ∃ d, s = i + d := ⟨s - i, by omega⟩
        rw [itw_add, he, itw_m])
      have hv : ∀ i, i ≤ s → ∃ q, q < s ∧ itw (gI σ 45) (gI σ 51) g k i x = J q := fun i hi => by
        rcases itw_Mx h hg i x hx with h1 | h1
        · exact absurd h1 (hno i hi)
        · exact h1
      obtain ⟨i, j, p1, p2, p3⟩ := php s (s + 1) (fun i => (itw (gI σ 45) (gI σ 51) g k i x).toNatClampNeg) (by omega) (fun i hi => by
        obtain ⟨q, q1, q2⟩ := hv i (by omega)
        have hs40 := h.1
        show (itw (gI σ 45) (gI σ 51) g k i x).toNatClampNeg < s
        rw [q2, J_cl (by omega)]
        exact q1)
      have e : itw (gI σ 45) (gI σ 51) g k i x = itw (gI σ 45) (gI σ 51) g k j x := by
        obtain ⟨q, q1, q2⟩ := hv i (by omega)
        obtain ⟨q', q1', q2'⟩ := hv j (by omega)
        have hs40 := h.1
        have p3' : (itw (gI σ 45) (gI σ 51) g k i x).toNatClampNeg = (itw (gI σ 45) (gI σ 51) g k j x).toNatClampNeg := p3
        rw [q2, q2', J_cl (by omega), J_cl (by omega)] at p3'
        rw [q2, q2', p3']
      have hper : ∀ m, itw (gI σ 45) (gI σ 51) g k m x ≠ -J 1 := by
        intro m
        induction m using Nat.strongRecOn with
        | ind m ih =>
          by_cases hm : m ≤ s
          · exact hno m hm
          · have e2 : itw (gI σ 45) (gI σ 51) g k m x = itw (gI σ 45) (gI σ 51) g k (m - (j - i)) x := by
              have a1 : m = j + (m - j) := by omega
              have a2 : m - (j - i) = i + (m - j) := by omega
              rw [a2, itw_add, e, ← itw_add, ← a1]
            rw [e2]
            exact ih _ (by omega)
      exact hper m hm1
  · obtain ⟨d, rfl⟩ : ∃ d, m = s + d := ⟨m - s, by omega⟩
    rw [itw_add, hs1, itw_m]
end WALK
section OPS2
variable {N : Nat} {τ σ : St}
theorem Rn_of {s b t : Nat} (hM : IvM s b τ σ) (ht : t ≤ 60) (r3 : gI τ 93 0 = J t) (r4 : gI σ 49 0 = J t) (r7 : ∀ i, i < t → ∃ l, l < 8 ∧ gI τ 91 i = J l ∧ gI σ 51 i = J l) : Rn s t τ (sI σ 0 0 (J 0)) := by
  obtain ⟨⟨m1, m2, m3, m4⟩, ⟨m5, m6, m7, m8⟩, ⟨m9, m10⟩, m11⟩ := hM
  refine ⟨m1, ht, m5, by simp (decide := true) (disch := omega) only [letS_d, grd_t, bnd_d, bnd1_d, bndX_d, bndX_e, gI_sI, gI_sL, gL_sL, gL_sI, upd_at, updL_at, J_lit, J_add, J_mul, J_sub, J_lt, J_le, J_inj, J_ne, ne_J, m_lt, lt_m, m_le, le_m, J_cl, J_inB, if_true, if_false, ite_true, ite_false, reduceIte, isZ0, isZ1, J_and31, shrJ0, shlJ0, gI_sA, gL_sA, Nat.reduceEqDiff, Nat.reduceAdd, Nat.reduceMul, Nat.reduceLT, Nat.reduceLeDiff]; exact m6, r3, by simp (decide := true) (disch := omega) only [letS_d, grd_t, bnd_d, bnd1_d, bndX_d, bndX_e, gI_sI, gI_sL, gL_sL, gL_sI, upd_at, updL_at, J_lit, J_add, J_mul, J_sub, J_lt, J_le, J_inj, J_ne, ne_J, m_lt, lt_m, m_le, le_m, J_cl, J_inB, if_true, if_false, ite_true, ite_false, reduceIte, isZ0, isZ1, J_and31, shrJ0, shlJ0, gI_sA, gL_sA, Nat.reduceEqDiff, Nat.reduceAdd, Nat.reduceMul, Nat.reduceLT, Nat.reduceLeDiff]; exact r4, fun i hi => by simp (decide := true) (disch := omega) only [letS_d, grd_t, bnd_d, bnd1_d, bndX_d, bndX_e, gI_sI, gI_sL, gL_sL, gL_sI, upd_at, updL_at, J_lit, J_add, J_mul, J_sub, J_lt, J_le, J_inj, J_ne, ne_J, m_lt, lt_m, m_le, le_m, J_cl, J_inB, if_true, if_false, ite_true, ite_false, reduceIte, isZ0, isZ1, J_and31, shrJ0, shlJ0, gI_sA, gL_sA, Nat.reduceEqDiff, Nat.reduceAdd, Nat.reduceMul, Nat.reduceLT, Nat.reduceLeDiff]; exact m11 i hi, fun i hi => ?_⟩
  obtain ⟨l, l1, l2, l3⟩ := r7 i hi
  exact ⟨l, l1, l2, by simp (decide := true) (disch := omega) only [letS_d, grd_t, bnd_d, bnd1_d, bndX_d, bndX_e, gI_sI, gI_sL, gL_sL, gL_sI, upd_at, updL_at, J_lit, J_add, J_mul, J_sub, J_lt, J_le, J_inj, J_ne, ne_J, m_lt, lt_m, m_le, le_m, J_cl, J_inB, if_true, if_false, ite_true, ite_false, reduceIte, isZ0, isZ1, J_and31, shrJ0, shlJ0, gI_sA, gL_sA, Nat.reduceEqDiff, Nat.reduceAdd, Nat.reduceMul, Nat.reduceLT, Nat.reduceLeDiff]; exact l3⟩
theorem op_window (hN : 100 ≤ N) (h : Inv N τ σ) : ∃ r τ' σ', fX8_window N τ = some (r, τ') ∧ fX9_window N σ = some (r, σ') ∧ Inv N τ' σ' := by
  have hi : Inv N τ (sI σ 0 0 (J 0)) := h.fr (S := []) Fr.rf fr0 (by decide) (by decide)
  unfold fX8_window fX9_window
  rcases h.2.2.2 with ⟨h1, h2, h3, h4⟩ | ⟨h1, s, b, h2, h3, h4⟩
  · exact ⟨-J 1, τ, _, by simp (decide := true) (disch := omega) only [letS_d, grd_t, bnd_d, bnd1_d, bndX_d, bndX_e, gI_sI, gI_sL, gL_sL, gL_sI, upd_at, updL_at, J_lit, J_add, J_mul, J_sub, J_lt, J_le, J_inj, J_ne, ne_J, m_lt, lt_m, m_le, le_m, J_cl, J_inB, if_true, if_false, ite_true, ite_false, reduceIte, isZ0, isZ1, J_and31, shrJ0, shlJ0, gI_sA, gL_sA, Nat.reduceEqDiff, Nat.reduceAdd, Nat.reduceMul, Nat.reduceLT, Nat.reduceLeDiff, fX7_hasFailed, fX7_hasFailed_19, h3], by simp (decide := true) (disch := omega) only [letS_d, grd_t, bnd_d, bnd1_d, bndX_d, bndX_e, gI_sI, gI_sL, gL_sL, gL_sI, upd_at, updL_at, J_lit, J_add, J_mul, J_sub, J_lt, J_le, J_inj, J_ne, ne_J, m_lt, lt_m, m_le, le_m, J_cl, J_inB, if_true, if_false, ite_true, ite_false, reduceIte, isZ0, isZ1, J_and31, shrJ0, shlJ0, gI_sA, gL_sA, Nat.reduceEqDiff, Nat.reduceAdd, Nat.reduceMul, Nat.reduceLT, Nat.reduceLeDiff, fX9_shortest, fX9_shortest_14, h4, lo_m], hi⟩
  · rcases h4 with ⟨r1, r2⟩ | ⟨r1, t, r2, r3, r4, r5, r6, r7⟩
    · exact ⟨-J 1, τ, _, by simp (decide := true) (disch := omega) only [letS_d, grd_t, bnd_d, bnd1_d, bndX_d, bndX_e, gI_sI, gI_sL, gL_sL, gL_sI, upd_at, updL_at, J_lit, J_add, J_mul, J_sub, J_lt, J_le, J_inj, J_ne, ne_J, m_lt, lt_m, m_le, le_m, J_cl, J_inB, if_true, if_false, ite_true, ite_false, reduceIte, isZ0, isZ1, J_and31, shrJ0, shlJ0, gI_sA, gL_sA, Nat.reduceEqDiff, Nat.reduceAdd, Nat.reduceMul, Nat.reduceLT, Nat.reduceLeDiff, fX7_hasFailed, fX7_hasFailed_19, r1], by simp (decide := true) (disch := omega) only [letS_d, grd_t, bnd_d, bnd1_d, bndX_d, bndX_e, gI_sI, gI_sL, gL_sL, gL_sI, upd_at, updL_at, J_lit, J_add, J_mul, J_sub, J_lt, J_le, J_inj, J_ne, ne_J, m_lt, lt_m, m_le, le_m, J_cl, J_inB, if_true, if_false, ite_true, ite_false, reduceIte, isZ0, isZ1, J_and31, shrJ0, shlJ0, gI_sA, gL_sA, Nat.reduceEqDiff, Nat.reduceAdd, Nat.reduceMul, Nat.reduceLT, Nat.reduceLeDiff, fX9_shortest, fX9_shortest_14, r2, lo_m], hi⟩
    · have hR := Rn_of h2 r2 r3 r4 r7
      have hs40 := hR.1
      have c1 := cls_short hN hR t 0 N (by omega) (by omega)
      have c2 := ref_short hN hR t 0 N (by omega) (by omega)
      rcases r6.lt with ⟨q1, q2⟩ | ⟨q1, q, q2, q3⟩
      · exact ⟨J (shx (gI σ 45) (gI σ 51) t (fs s) t 0), τ, _, by simp (decide := true) (disch := omega) only [letS_d, grd_t, bnd_d, bnd1_d, bndX_d, bndX_e, gI_sI, gI_sL, gL_sL, gL_sI, upd_at, updL_at, J_lit, J_add, J_mul, J_sub, J_lt, J_le, J_inj, J_ne, ne_J, m_lt, lt_m, m_le, le_m, J_cl, J_inB, if_true, if_false, ite_true, ite_false, reduceIte, isZ0, isZ1, J_and31, shrJ0, shlJ0, gI_sA, gL_sA, Nat.reduceEqDiff, Nat.reduceAdd, Nat.reduceMul, Nat.reduceLT, Nat.reduceLeDiff, fX7_hasFailed, r1, r5, q1, fX7_shortestFailingEnd, c1], by simp (decide := true) (disch := omega) only [letS_d, grd_t, bnd_d, bnd1_d, bndX_d, bndX_e, gI_sI, gI_sL, gL_sL, gL_sI, upd_at, updL_at, J_lit, J_add, J_mul, J_sub, J_lt, J_le, J_inj, J_ne, ne_J, m_lt, lt_m, m_le, le_m, J_cl, J_inB, if_true, if_false, ite_true, ite_false, reduceIte, isZ0, isZ1, J_and31, shrJ0, shlJ0, gI_sA, gL_sA, Nat.reduceEqDiff, Nat.reduceAdd, Nat.reduceMul, Nat.reduceLT, Nat.reduceLeDiff, fX9_shortest, r4, q1, lo_m, Nat.not_lt_zero, c2], hi⟩
      · exact ⟨-J 1, τ, _, by simp (decide := true) (disch := omega) only [letS_d, grd_t, bnd_d, bnd1_d, bndX_d, bndX_e, gI_sI, gI_sL, gL_sL, gL_sI, upd_at, updL_at, J_lit, J_add, J_mul, J_sub, J_lt, J_le, J_inj, J_ne, ne_J, m_lt, lt_m, m_le, le_m, J_cl, J_inB, if_true, if_false, ite_true, ite_false, reduceIte, isZ0, isZ1, J_and31, shrJ0, shlJ0, gI_sA, gL_sA, Nat.reduceEqDiff, Nat.reduceAdd, Nat.reduceMul, Nat.reduceLT, Nat.reduceLeDiff, fX7_hasFailed, fX7_hasFailed_19, r1, r5, q3], by simp (decide := true) (disch := omega) only [letS_d, grd_t, bnd_d, bnd1_d, bndX_d, bndX_e, gI_sI, gI_sL, gL_sL, gL_sI, upd_at, updL_at, J_lit, J_add, J_mul, J_sub, J_lt, J_le, J_inj, J_ne, ne_J, m_lt, lt_m, m_le, le_m, J_cl, J_inB, if_true, if_false, ite_true, ite_false, reduceIte, isZ0, isZ1, J_and31, shrJ0, shlJ0, gI_sA, gL_sA, Nat.reduceEqDiff, Nat.reduceAdd, Nat.reduceMul, Nat.reduceLT, Nat.reduceLeDiff, fX9_shortest, fX9_shortest_14, r4, q3, Nat.not_lt_zero], hi⟩
theorem op_loop (hN : 100 ≤ N) (h : Inv N τ σ) (v : Int32) : ∃ x y r τ' σ', fX8_loop N τ v = some (x, y, τ') ∧ fX9_loop N σ v = some (r, σ') ∧ Oc 3 5 x y r σ' ∧ Inv N τ' σ' := by
  have hi : ∀ z, Inv N τ (sI σ 0 0 z) := fun z => h.fr (S := []) Fr.rf fr0 (by decide) (by decide)
  have bad : ∀ {a : Option (Int32 × Int32 × St)} {c : Option (Int32 × St)}, a = some (J 3, J 0, τ) → c = some (J 0, sI σ 0 0 (J 1)) → ∃ x y r τ' σ', a = some (x, y, τ') ∧ c = some (r, σ') ∧ Oc 3 5 x y r σ' ∧ Inv N τ' σ' := fun ha hc => ⟨_, _, _, _, _, ha, hc, Or.inr (Or.inl ⟨rfl, by simp (decide := true) (disch := omega) only [letS_d, grd_t, bnd_d, bnd1_d, bndX_d, bndX_e, gI_sI, gI_sL, gL_sL, gL_sI, upd_at, updL_at, J_lit, J_add, J_mul, J_sub, J_lt, J_le, J_inj, J_ne, ne_J, m_lt, lt_m, m_le, le_m, J_cl, J_inB, if_true, if_false, ite_true, ite_false, reduceIte, isZ0, isZ1, J_and31, shrJ0, shlJ0, gI_sA, gL_sA, Nat.reduceEqDiff, Nat.reduceAdd, Nat.reduceMul, Nat.reduceLT, Nat.reduceLeDiff]⟩), hi _⟩
  have bad2 : ∀ {a : Option (Int32 × Int32 × St)} {c : Option (Int32 × St)}, a = some (J 5, J 0, τ) → c = some (J 0, sI σ 0 0 (J 2)) → ∃ x y r τ' σ', a = some (x, y, τ') ∧ c = some (r, σ') ∧ Oc 3 5 x y r σ' ∧ Inv N τ' σ' := fun ha hc => ⟨_, _, _, _, _, ha, hc, Or.inr (Or.inr ⟨rfl, by simp (decide := true) (disch := omega) only [letS_d, grd_t, bnd_d, bnd1_d, bndX_d, bndX_e, gI_sI, gI_sL, gL_sL, gL_sI, upd_at, updL_at, J_lit, J_add, J_mul, J_sub, J_lt, J_le, J_inj, J_ne, ne_J, m_lt, lt_m, m_le, le_m, J_cl, J_inB, if_true, if_false, ite_true, ite_false, reduceIte, isZ0, isZ1, J_and31, shrJ0, shlJ0, gI_sA, gL_sA, Nat.reduceEqDiff, Nat.reduceAdd, Nat.reduceMul, Nat.reduceLT, Nat.reduceLeDiff]⟩), hi _⟩
  unfold fX8_loop fX9_loop
  rcases h.2.2.2 with ⟨h1, h2, h3, h4⟩ | ⟨h1, s, b, h2, h3, h4⟩
  · exact bad (by simp (decide := true) (disch := omega) only [letS_d, grd_t, bnd_d, bnd1_d, bndX_d, bndX_e, gI_sI, gI_sL, gL_sL, gL_sI, upd_at, updL_at, J_lit, J_add, J_mul, J_sub, J_lt, J_le, J_inj, J_ne, ne_J, m_lt, lt_m, m_le, le_m, J_cl, J_inB, if_true, if_false, ite_true, ite_false, reduceIte, isZ0, isZ1, J_and31, shrJ0, shlJ0, gI_sA, gL_sA, Nat.reduceEqDiff, Nat.reduceAdd, Nat.reduceMul, Nat.reduceLT, Nat.reduceLeDiff, h3]) (by simp (decide := true) (disch := omega) only [letS_d, grd_t, bnd_d, bnd1_d, bndX_d, bndX_e, gI_sI, gI_sL, gL_sL, gL_sI, upd_at, updL_at, J_lit, J_add, J_mul, J_sub, J_lt, J_le, J_inj, J_ne, ne_J, m_lt, lt_m, m_le, le_m, J_cl, J_inB, if_true, if_false, ite_true, ite_false, reduceIte, isZ0, isZ1, J_and31, shrJ0, shlJ0, gI_sA, gL_sA, Nat.reduceEqDiff, Nat.reduceAdd, Nat.reduceMul, Nat.reduceLT, Nat.reduceLeDiff, h4, le_mz, fX9_loop_29])
  · rcases h4 with ⟨r1, r2⟩ | ⟨r1, t, r2, r3, r4, r5, r6, r7⟩
    · exact bad (by simp (decide := true) (disch := omega) only [letS_d, grd_t, bnd_d, bnd1_d, bndX_d, bndX_e, gI_sI, gI_sL, gL_sL, gL_sI, upd_at, updL_at, J_lit, J_add, J_mul, J_sub, J_lt, J_le, J_inj, J_ne, ne_J, m_lt, lt_m, m_le, le_m, J_cl, J_inB, if_true, if_false, ite_true, ite_false, reduceIte, isZ0, isZ1, J_and31, shrJ0, shlJ0, gI_sA, gL_sA, Nat.reduceEqDiff, Nat.reduceAdd, Nat.reduceMul, Nat.reduceLT, Nat.reduceLeDiff, r1]) (by simp (decide := true) (disch := omega) only [letS_d, grd_t, bnd_d, bnd1_d, bndX_d, bndX_e, gI_sI, gI_sL, gL_sL, gL_sI, upd_at, updL_at, J_lit, J_add, J_mul, J_sub, J_lt, J_le, J_inj, J_ne, ne_J, m_lt, lt_m, m_le, le_m, J_cl, J_inB, if_true, if_false, ite_true, ite_false, reduceIte, isZ0, isZ1, J_and31, shrJ0, shlJ0, gI_sA, gL_sA, Nat.reduceEqDiff, Nat.reduceAdd, Nat.reduceMul, Nat.reduceLT, Nat.reduceLeDiff, r2, le_mz, fX9_loop_29])
    · have hR := Rn_of h2 r2 r3 r4 r7
      rcases cut3 v (b := t) (by omega) with ⟨d1, d2⟩ | ⟨l, d1, rfl⟩ | ⟨d1, d2, d3, d4, l, d5, d6, rfl⟩
      · exact bad2 (by simp (decide := true) (disch := omega) only [letS_d, grd_t, bnd_d, bnd1_d, bndX_d, bndX_e, gI_sI, gI_sL, gL_sL, gL_sI, upd_at, updL_at, J_lit, J_add, J_mul, J_sub, J_lt, J_le, J_inj, J_ne, ne_J, m_lt, lt_m, m_le, le_m, J_cl, J_inB, if_true, if_false, ite_true, ite_false, reduceIte, isZ0, isZ1, J_and31, shrJ0, shlJ0, gI_sA, gL_sA, Nat.reduceEqDiff, Nat.reduceAdd, Nat.reduceMul, Nat.reduceLT, Nat.reduceLeDiff, r1, d1, fX8_loop_35]) (by simp (decide := true) (disch := omega) only [letS_d, grd_t, bnd_d, bnd1_d, bndX_d, bndX_e, gI_sI, gI_sL, gL_sL, gL_sI, upd_at, updL_at, J_lit, J_add, J_mul, J_sub, J_lt, J_le, J_inj, J_ne, ne_J, m_lt, lt_m, m_le, le_m, J_cl, J_inB, if_true, if_false, ite_true, ite_false, reduceIte, isZ0, isZ1, J_and31, shrJ0, shlJ0, gI_sA, gL_sA, Nat.reduceEqDiff, Nat.reduceAdd, Nat.reduceMul, Nat.reduceLT, Nat.reduceLeDiff, r4, Nat.zero_le, d1, fX9_loop_24, fX9_loop_29])
      · have hs40 := hR.1
        have hg : ∀ k, gI (sI σ 0 0 (J 0)) (k + 1) = gI σ (k + 1) := fun _ => rfl
        have c1 := cls_hold hN hR (b := l) (by omega) s 0 N (gI σ 50 0) (by omega) (by omega) r6
        have c2 := ref_loop hN hR (b := l) (by omega) 41 0 N (gI σ 50 0) (by omega) (by omega) r6
        have hsat := itw_sat hR (g := t - l) (k := l) (by omega) r6 (m := 41) (by omega)
        have c3 : (if itw (gI (sI σ 0 0 (J 0)) 45) (gI (sI σ 0 0 (J 0)) 51) (t - l) l 41 (gI σ 50 0) = -J 1 then J 0 else J 1) = (if itw (gI (sI σ 0 0 (J 0)) 45) (gI (sI σ 0 0 (J 0)) 51) (t - l) l s (gI σ 50 0) = -J 1 then J 0 else J 1) := by
          by_cases hp : itw (gI (sI σ 0 0 (J 0)) 45) (gI (sI σ 0 0 (J 0)) 51) (t - l) l s (gI σ 50 0) = -J 1
          · rw [if_pos hp, if_pos (hsat.mpr hp)]
          · rw [if_neg hp, if_neg (fun h => hp (hsat.mp h))]
        rw [c3] at c2
        have hz : ∀ (p : Prop) [Decidable p], isZ (if p then J 0 else J 1) = true := fun p _ => by
          by_cases hp : p
          · rw [if_pos hp]; rfl
          · rw [if_neg hp]; rfl
        exact ⟨J 0, (if itw (gI σ 45) (gI σ 51) (t - l) l s (gI σ 50 0) = -J 1 then J 0 else J 1), (if itw (gI σ 45) (gI σ 51) (t - l) l s (gI σ 50 0) = -J 1 then J 0 else J 1), τ, sI σ 0 0 (J 0), by simp (decide := true) (disch := omega) only [letS_d, grd_t, bnd_d, bnd1_d, bndX_d, bndX_e, gI_sI, gI_sL, gL_sL, gL_sI, upd_at, updL_at, J_lit, J_add, J_mul, J_sub, J_lt, J_le, J_inj, J_ne, ne_J, m_lt, lt_m, m_le, le_m, J_cl, J_inB, if_true, if_false, ite_true, ite_false, reduceIte, isZ0, isZ1, J_and31, shrJ0, shlJ0, gI_sA, gL_sA, Nat.reduceEqDiff, Nat.reduceAdd, Nat.reduceMul, Nat.reduceLT, Nat.reduceLeDiff, r1, Nat.not_lt_zero, r3, d1, fX7_holdsRepeating, r5, c1, hz], by simp (decide := true) (disch := omega) only [letS_d, grd_t, bnd_d, bnd1_d, bndX_d, bndX_e, gI_sI, gI_sL, gL_sL, gL_sI, upd_at, updL_at, J_lit, J_add, J_mul, J_sub, J_lt, J_le, J_inj, J_ne, ne_J, m_lt, lt_m, m_le, le_m, J_cl, J_inB, if_true, if_false, ite_true, ite_false, reduceIte, isZ0, isZ1, J_and31, shrJ0, shlJ0, gI_sA, gL_sA, Nat.reduceEqDiff, Nat.reduceAdd, Nat.reduceMul, Nat.reduceLT, Nat.reduceLeDiff, r4, Nat.zero_le, Nat.not_lt_zero, d1, fX9_loop_29, Nat.le_refl, c2], Or.inl ⟨rfl, by simp (decide := true) (disch := omega) only [letS_d, grd_t, bnd_d, bnd1_d, bndX_d, bndX_e, gI_sI, gI_sL, gL_sL, gL_sI, upd_at, updL_at, J_lit, J_add, J_mul, J_sub, J_lt, J_le, J_inj, J_ne, ne_J, m_lt, lt_m, m_le, le_m, J_cl, J_inB, if_true, if_false, ite_true, ite_false, reduceIte, isZ0, isZ1, J_and31, shrJ0, shlJ0, gI_sA, gL_sA, Nat.reduceEqDiff, Nat.reduceAdd, Nat.reduceMul, Nat.reduceLT, Nat.reduceLeDiff], rfl⟩, hi _⟩
      · have d5' : ¬ l < t := by omega
        exact bad2 (by simp (decide := true) (disch := omega) only [letS_d, grd_t, bnd_d, bnd1_d, bndX_d, bndX_e, gI_sI, gI_sL, gL_sL, gL_sI, upd_at, updL_at, J_lit, J_add, J_mul, J_sub, J_lt, J_le, J_inj, J_ne, ne_J, m_lt, lt_m, m_le, le_m, J_cl, J_inB, if_true, if_false, ite_true, ite_false, reduceIte, isZ0, isZ1, J_and31, shrJ0, shlJ0, gI_sA, gL_sA, Nat.reduceEqDiff, Nat.reduceAdd, Nat.reduceMul, Nat.reduceLT, Nat.reduceLeDiff, r1, r3, Nat.not_lt_zero, d5', fX8_loop_35]) (by simp (decide := true) (disch := omega) only [letS_d, grd_t, bnd_d, bnd1_d, bndX_d, bndX_e, gI_sI, gI_sL, gL_sL, gL_sI, upd_at, updL_at, J_lit, J_add, J_mul, J_sub, J_lt, J_le, J_inj, J_ne, ne_J, m_lt, lt_m, m_le, le_m, J_cl, J_inB, if_true, if_false, ite_true, ite_false, reduceIte, isZ0, isZ1, J_and31, shrJ0, shlJ0, gI_sA, gL_sA, Nat.reduceEqDiff, Nat.reduceAdd, Nat.reduceMul, Nat.reduceLT, Nat.reduceLeDiff, r4, Nat.zero_le, Nat.not_lt_zero, d5', fX9_loop_24, fX9_loop_29])
end OPS2
