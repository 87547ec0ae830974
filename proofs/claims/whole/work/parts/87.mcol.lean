/-! the reference collects its obligations: all rules -/
/-- how many places a property has -/
def pC : Term → Nat
  | .add p q => pC p + pC q
  | .sub p q => pC p + pC q
  | .mul p q => pC p + pC q
  | .sum p => pC p
  | .old p => pC p
  | .div s p => len s + pC p
  | .rem s p => len s + pC p
  | _ => 0
/-- all rules of a property, collected -/
def RD (σ : St) : Term → Nat → Nat → Prop
  | .add p q, x, K => RD σ p (x + 1) K ∧ RD σ q (x + 1 + nN p) (K + pC p)
  | .sub p q, x, K => RD σ p (x + 1) K ∧ RD σ q (x + 1 + nN p) (K + pC p)
  | .mul p q, x, K => RD σ p (x + 1) K ∧ RD σ q (x + 1 + nN p) (K + pC p)
  | .sum p, x, K => RD σ p (x + 1) K
  | .old p, x, K => RD σ p (x + 1) K
  | .div s p, x, K => RuD σ s x K ∧ RD σ p (x + 2 + nN s) (K + len s)
  | .rem s p, x, K => RuD σ s x K ∧ RD σ p (x + 2 + nN s) (K + len s)
  | _, _, _ => True
theorem RuD.keep {σ σ' : St} {s : Term} {P K : Nat} (h : RuD σ s P K) (h1 : ∀ o, o < K + len s → gI σ' 19 o = gI σ 19 o ∧ gI σ' 20 o = gI σ 20 o ∧ gI σ' 21 o = gI σ 21 o ∧ gI σ' 22 o = gI σ 22 o) (h2 : gI σ' 23 P = gI σ 23 P) : RuD σ' s P K := by
  obtain ⟨a, b, c⟩ := h
  refine ⟨fun j hj => ?_, fun j hj => ?_, by rw [h2]; exact c⟩
  · obtain ⟨q1, q2, q3, _⟩ := h1 (K + j) (by omega)
    rw [q1, q2, q3]
    exact a j hj
  · rw [(h1 (K + j) (by omega)).2.2.2]
    exact b j hj
theorem RD_keep {σ σ' : St} : ∀ t x K, ok t → (∀ o, o < K + pC t → gI σ' 19 o = gI σ 19 o ∧ gI σ' 20 o = gI σ 20 o ∧ gI σ' 21 o = gI σ 21 o ∧ gI σ' 22 o = gI σ 22 o) → (∀ i, x ≤ i → i < x + nN t → gI σ' 23 i = gI σ 23 i) → RD σ t x K → RD σ' t x K := by
  have pair : ∀ (p q : Term) x K, (∀ x K, (∀ o, o < K + pC p → gI σ' 19 o = gI σ 19 o ∧ gI σ' 20 o = gI σ 20 o ∧ gI σ' 21 o = gI σ 21 o ∧ gI σ' 22 o = gI σ 22 o) → (∀ i, x ≤ i → i < x + nN p → gI σ' 23 i = gI σ 23 i) → RD σ p x K → RD σ' p x K) → (∀ x K, (∀ o, o < K + pC q → gI σ' 19 o = gI σ 19 o ∧ gI σ' 20 o = gI σ 20 o ∧ gI σ' 21 o = gI σ 21 o ∧ gI σ' 22 o = gI σ 22 o) → (∀ i, x ≤ i → i < x + nN q → gI σ' 23 i = gI σ 23 i) → RD σ q x K → RD σ' q x K) → (∀ o, o < K + (pC p + pC q) → gI σ' 19 o = gI σ 19 o ∧ gI σ' 20 o = gI σ 20 o ∧ gI σ' 21 o = gI σ 21 o ∧ gI σ' 22 o = gI σ 22 o) → (∀ i, x ≤ i → i < x + (1 + nN p + nN q) → gI σ' 23 i = gI σ 23 i) → RD σ p (x + 1) K ∧ RD σ q (x + 1 + nN p) (K + pC p) → RD σ' p (x + 1) K ∧ RD σ' q (x + 1 + nN p) (K + pC p) := by
    intro p q x K ip iq h1 h2 ⟨a, b⟩
    exact ⟨ip _ _ (fun o ho => h1 o (by omega)) (fun i i1 i2 => h2 i (by omega) (by omega)) a, iq _ _ (fun o ho => h1 o (by omega)) (fun i i1 i2 => h2 i (by omega) (by omega)) b⟩
  have rule : ∀ (s p : Term) x K, (∀ x K, (∀ o, o < K + pC p → gI σ' 19 o = gI σ 19 o ∧ gI σ' 20 o = gI σ 20 o ∧ gI σ' 21 o = gI σ 21 o ∧ gI σ' 22 o = gI σ 22 o) → (∀ i, x ≤ i → i < x + nN p → gI σ' 23 i = gI σ 23 i) → RD σ p x K → RD σ' p x K) → (∀ o, o < K + (len s + pC p) → gI σ' 19 o = gI σ 19 o ∧ gI σ' 20 o = gI σ 20 o ∧ gI σ' 21 o = gI σ 21 o ∧ gI σ' 22 o = gI σ 22 o) → (∀ i, x ≤ i → i < x + (2 + nN s + nN p) → gI σ' 23 i = gI σ 23 i) → RuD σ s x K ∧ RD σ p (x + 2 + nN s) (K + len s) → RuD σ' s x K ∧ RD σ' p (x + 2 + nN s) (K + len s) := by
    intro s p x K ip h1 h2 ⟨a, b⟩
    exact ⟨a.keep (fun o ho => h1 o (by omega)) (h2 x (by omega) (by omega)), ip _ _ (fun o ho => h1 o (by omega)) (fun i i1 i2 => h2 i (by omega) (by omega)) b⟩
  intro t
  induction t using tind with
  | h t ih =>
    intro x K hok h1 h2 h
    unfold ok at hok
    split at hok
    · exact trivial
    · exact trivial
    · rename_i p q
      exact pair p q x K (fun x K => ih p (by simp; omega) x K hok.2.1) (fun x K => ih q (by simp; omega) x K hok.2.2) h1 h2 h
    · rename_i p q
      exact pair p q x K (fun x K => ih p (by simp; omega) x K hok.2.1) (fun x K => ih q (by simp; omega) x K hok.2.2) h1 h2 h
    · rename_i p q
      exact pair p q x K (fun x K => ih p (by simp; omega) x K hok.2.1) (fun x K => ih q (by simp; omega) x K hok.2.2) h1 h2 h
    · rename_i p
      exact ih p (by simp) _ _ hok.2 h1 (fun i i1 i2 => h2 i (by omega) (by show i < x + (1 + nN p); omega)) h
    · rename_i p
      exact ih p (by simp) _ _ hok.2 h1 (fun i i1 i2 => h2 i (by omega) (by show i < x + (1 + nN p); omega)) h
    · rename_i s p
      exact rule s p x K (fun x K => ih p (by simp; omega) x K hok.2.2) h1 h2 h
    · rename_i s p
      exact rule s p x K (fun x K => ih p (by simp; omega) x K hok.2.2) h1 h2 h
    all_goals first | exact trivial | exact hok.elim
section CO
variable {N n0 : Nat} {F : Nat → ND}
/-- kinds within booleans and sequences -/
theorem bo_kinds : ∀ b x, isBo b → RR F b x → ∀ i, x ≤ i → i < x + nN b → ∃ v, v ≤ 4 ∧ nK (F i) = J v := by
  intro b
  induction b using tind with
  | h b ih =>
    intro x hb hR i i1 i2
    cases b with
    | index v =>
      have e : nN (.index v) = 1 := rfl
      obtain rfl : i = x := by omega
      exact ⟨1, by omega, hR.1⟩
    | length y =>
      have e : nN (.length y) = 1 + nN y := rfl
      by_cases hi : i = x
      · subst hi
        exact ⟨2, by omega, hR.1.1⟩
      · exact ih y (by simp) (x + 1) hb hR.2 i (by omega) (by omega)
    | add p q =>
      have e : nN (.add p q) = 1 + nN p + nN q := rfl
      by_cases hi : i = x
      · subst hi
        exact ⟨3, by omega, hR.1.1⟩
      · by_cases hp : i < x + 1 + nN p
        · exact ih p (by simp; omega) (x + 1) hb.1 hR.2.1 i (by omega) (by omega)
        · exact ih q (by simp; omega) (x + 1 + nN p) hb.2 hR.2.2 i (by omega) (by omega)
    | sub p q =>
      have e : nN (.sub p q) = 1 + nN p + nN q := rfl
      by_cases hi : i = x
      · subst hi
        exact ⟨4, by omega, hR.1.1⟩
      · by_cases hp : i < x + 1 + nN p
        · exact ih p (by simp; omega) (x + 1) hb.1 hR.2.1 i (by omega) (by omega)
        · exact ih q (by simp; omega) (x + 1 + nN p) hb.2 hR.2.2 i (by omega) (by omega)
    | _ => exact hb.elim
theorem seq_kinds : ∀ s x, ok s → (1 ≤ sh s) → RR F s x → ∀ i, x ≤ i → i < x + nN s → ∃ v, (v ≤ 4 ∨ 10 ≤ v) ∧ v ≤ 12 ∧ nK (F i) = J v := by
  intro s
  induction s using tind with
  | h s ih =>
    intro x hok hsh hR i i1 i2
    cases s with
    | field b x1 y1 z1 =>
      obtain ⟨v, hv, hk⟩ := bo_kinds b x hok.1 hR.2 i i1 i2
      exact ⟨v, by omega, by omega, hk⟩
    | null =>
      have e : nN .null = 1 := rfl
      obtain rfl : i = x := by omega
      exact ⟨12, by omega, by omega, hR⟩
    | elem a w =>
      cases w with
      | index c =>
        have e : nN (.elem a (.index c)) = 1 + nN a := rfl
        by_cases hi : i = x
        · subst hi
          exact ⟨11, by omega, by omega, hR.1.1⟩
        · exact ih a (by simp; omega) (x + 1) hok.2 (by have := hok.1.1; omega) hR.2 i (by omega) (by omega)
      | length t =>
        have e : nN (.elem a (.length t)) = nN a + nN t := rfl
        by_cases hp : i < x + nN a
        · exact ih a (by simp; omega) x hok.2.1 (by have := hok.1.1; omega) hR.2.1 i (by omega) (by omega)
        · exact ih t (by simp; omega) (x + nN a) hok.2.2 (by have := hok.1.2; omega) hR.2.2 i (by omega) (by omega)
      | old t =>
        have e : nN (.elem a (.old t)) = nN a + 1 + nN t := rfl
        by_cases hp : i < x + nN a
        · exact ih a (by simp; omega) x hok.2.1 (by have := hok.1.1; omega) hR.2.1 i (by omega) (by omega)
        · by_cases hz : i = x + nN a
          · subst hz
            exact ⟨10, by omega, by omega, hR.1.1⟩
          · exact ih t (by simp; omega) (x + nN a + 1) hok.2.2 (by have := hok.1.2; omega) hR.2.2 i (by omega) (by omega)
      | _ => exact hok.elim
    | _ => exact absurd hsh (Nat.not_succ_le_zero 0)
/-- the collector stands before a node -/
def CQ (F : Nat → ND) (n0 K : Nat) (σ : St) : Prop := nd σ = F ∧ gI σ 4 0 = J n0 ∧ gI σ 17 0 = J K
theorem c_skip {x K v n : Nat} {σ : St} (h : CQ F n0 K σ) (hn : n0 ≤ 150) (hK : K ≤ 9) (hx : x < n0) (hk : nK (F x) = J v) (hv : v ≤ 12) (h8 : ¬ v = 8) (h9 : ¬ v = 9) : fX9_collect_96 N (n + 1) σ (J x) = fX9_collect_96 N n σ (J (x + 1)) := by
  obtain ⟨h1, h2, h3⟩ := h
  have h5 : gI σ 5 x = J v := by rw [← hk, ← h1]; rfl
  have e1 : ¬ n0 ≤ x := by omega
  have e2 : ¬ 9 < K := by omega
  rw [show fX9_collect_96 N (n + 1) σ (J x) = _ from by unfold fX9_collect_96; rfl]
  simp (decide := true) (disch := omega) only [letS_d, grd_tt, bnd_d, bnd1_d, bndX_d, bndX_e, gI_at, gI_ne, gI_sL, gL_sL, gL_sI, upd_at, updL_at, J_lit, J_add, J_mul, J_sub, J_lt, J_le, J_inj, J_ne, ne_J, m_lt, lt_m, m_le, le_m, J_cl, J_inB, if_true, if_false, ite_true, ite_false, reduceIte, isZ0, isZ1, J_and31, shrJ0, shlJ0, gI_sA, gL_sA, Nat.reduceEqDiff, Nat.reduceAdd, Nat.reduceMul, Nat.reduceLT, Nat.reduceLeDiff, h2, h3, e1, e2, h5, h8, h9, fX9_collect_140]
theorem c_rule {x K n : Nat} {σ : St} (h : CQ F n0 K σ) (hn : n0 ≤ 150) (hK : K ≤ 9) (hx : x < n0) (hk : nK (F x) = J 8 ∨ nK (F x) = J 9) : fX9_collect_96 N (n + 1) σ (J x) = bnd1 (fX9_unroll N σ (J x)) fun σ25 => fX9_collect_96 N n σ25 (J (x + 1)) := by
  obtain ⟨h1, h2, h3⟩ := h
  have e1 : ¬ n0 ≤ x := by omega
  have e2 : ¬ 9 < K := by omega
  rw [show fX9_collect_96 N (n + 1) σ (J x) = _ from by unfold fX9_collect_96; rfl]
  rcases hk with hk | hk
  · have h5 : gI σ 5 x = J 8 := by rw [← hk, ← h1]; rfl
    simp (decide := true) (disch := omega) only [letS_d, grd_tt, bnd_d, bnd1_d, bndX_d, bndX_e, gI_at, gI_ne, gI_sL, gL_sL, gL_sI, upd_at, updL_at, J_lit, J_add, J_mul, J_sub, J_lt, J_le, J_inj, J_ne, ne_J, m_lt, lt_m, m_le, le_m, J_cl, J_inB, if_true, if_false, ite_true, ite_false, reduceIte, isZ0, isZ1, J_and31, shrJ0, shlJ0, gI_sA, gL_sA, Nat.reduceEqDiff, Nat.reduceAdd, Nat.reduceMul, Nat.reduceLT, Nat.reduceLeDiff, h2, h3, e1, e2, h5, fX9_collect_135, fX9_collect_140]
  · have h5 : gI σ 5 x = J 9 := by rw [← hk, ← h1]; rfl
    simp (decide := true) (disch := omega) only [letS_d, grd_tt, bnd_d, bnd1_d, bndX_d, bndX_e, gI_at, gI_ne, gI_sL, gL_sL, gL_sI, upd_at, updL_at, J_lit, J_add, J_mul, J_sub, J_lt, J_le, J_inj, J_ne, ne_J, m_lt, lt_m, m_le, le_m, J_cl, J_inB, if_true, if_false, ite_true, ite_false, reduceIte, isZ0, isZ1, J_and31, shrJ0, shlJ0, gI_sA, gL_sA, Nat.reduceEqDiff, Nat.reduceAdd, Nat.reduceMul, Nat.reduceLT, Nat.reduceLeDiff, h2, h3, e1, e2, h5, fX9_collect_135, fX9_collect_140]
theorem c_over {x n : Nat} {σ : St} (h4 : gI σ 4 0 = J n0) (hn : n0 ≤ 150) (hx : x ≤ 150) (h17 : gI σ 17 0 = J 10) : fX9_collect_96 N (n + 1) σ (J x) = some σ := by
  rw [show fX9_collect_96 N (n + 1) σ (J x) = _ from by unfold fX9_collect_96; rfl]
  by_cases e1 : n0 ≤ x
  · simp (decide := true) (disch := omega) only [letS_d, grd_tt, bnd_d, bnd1_d, bndX_d, bndX_e, gI_at, gI_ne, gI_sL, gL_sL, gL_sI, upd_at, updL_at, J_lit, J_add, J_mul, J_sub, J_lt, J_le, J_inj, J_ne, ne_J, m_lt, lt_m, m_le, le_m, J_cl, J_inB, if_true, if_false, ite_true, ite_false, reduceIte, isZ0, isZ1, J_and31, shrJ0, shlJ0, gI_sA, gL_sA, Nat.reduceEqDiff, Nat.reduceAdd, Nat.reduceMul, Nat.reduceLT, Nat.reduceLeDiff, h4, e1]
  · simp (decide := true) (disch := omega) only [letS_d, grd_tt, bnd_d, bnd1_d, bndX_d, bndX_e, gI_at, gI_ne, gI_sL, gL_sL, gL_sI, upd_at, updL_at, J_lit, J_add, J_mul, J_sub, J_lt, J_le, J_inj, J_ne, ne_J, m_lt, lt_m, m_le, le_m, J_cl, J_inB, if_true, if_false, ite_true, ite_false, reduceIte, isZ0, isZ1, J_and31, shrJ0, shlJ0, gI_sA, gL_sA, Nat.reduceEqDiff, Nat.reduceAdd, Nat.reduceMul, Nat.reduceLT, Nat.reduceLeDiff, h4, h17, e1]
theorem c_skips {K : Nat} {σ : St} (h : CQ F n0 K σ) (hn : n0 ≤ 150) (hK : K ≤ 9) : ∀ m x, x + m ≤ n0 → (∀ i, x ≤ i → i < x + m → ∃ v, (v ≤ 7 ∨ 10 ≤ v) ∧ v ≤ 12 ∧ nK (F i) = J v) → ∀ n, fX9_collect_96 N (n + m) σ (J x) = fX9_collect_96 N n σ (J (x + m)) := by
  intro m
  induction m with
  | zero => intro x _ _ n; rfl
  | succ m ih =>
    intro x hx hv n
    obtain ⟨v, v1, v2, v3⟩ := hv x (by omega) (by omega)
    rw [show n + (m + 1) = n + m + 1 from by omega, c_skip h hn hK (by omega) v3 v2 (by omega) (by omega), ih (x + 1) (by omega) (fun i i1 i2 => hv i (by omega) (by omega)), show x + 1 + m = x + (m + 1) from by omega]
/-- what collecting a property's rules comes to -/
def CO (N n0 : Nat) (t : Term) (x K : Nat) (σ : St) : Prop := (K + pC t ≤ 9 → ∃ σ', (∀ n, fX9_collect_96 N (n + nN t) σ (J x) = fX9_collect_96 N n σ' (J (x + nN t))) ∧ Kpt K x (x + nN t) σ σ' ∧ gI σ' 17 0 = J (K + pC t) ∧ RD σ' t x K) ∧ (9 < K + pC t → ∃ σ', (∀ n, fX9_collect_96 N (n + nN t + 1) σ (J x) = some σ') ∧ Fr CL σ σ' ∧ gI σ' 17 0 = J 10)
theorem CQ.fr {K K' : Nat} {σ σ' : St} (h : CQ F n0 K σ) (f : Fr CL σ σ') (h17 : gI σ' 17 0 = J K') : CQ F n0 K' σ' := ⟨(nd_of f (by decide)).trans h.1, by rw [f.gi (by decide)]; exact h.2.1, h17⟩
/-- a node, then a property -/
theorem CO_one {p t : Term} {x K v : Nat} {σ : St} (hQ : CQ F n0 K σ) (hn : n0 ≤ 150) (hK : K ≤ 9) (hx : x < n0) (hk : nK (F x) = J v) (hv : v ≤ 7) (hpC : pC t = pC p) (hnN : nN t = 1 + nN p) (hRD : ∀ σ', RD σ' p (x + 1) K → RD σ' t x K) (h : CO N n0 p (x + 1) K σ) : CO N n0 t x K σ := by
  obtain ⟨h1, h2⟩ := h
  have hs := fun n => c_skip (N := N) (n := n) hQ hn hK hx hk (by omega) (by omega) (by omega)
  unfold CO
  rw [hpC, hnN]
  refine ⟨fun hf => ?_, fun hf => ?_⟩
  · obtain ⟨σ', a1, a2, a3, a4⟩ := h1 hf
    refine ⟨σ', fun n => ?_, ⟨a2.1, fun i hi => a2.2.1 i (by omega), a2.2.2⟩, a3, hRD σ' a4⟩
    rw [show n + (1 + nN p) = n + nN p + 1 from by omega, hs, a1, ← Nat.add_assoc]
  · obtain ⟨σ', a1, a2⟩ := h2 hf
    refine ⟨σ', fun n => ?_, a2⟩
    rw [show n + (1 + nN p) + 1 = n + nN p + 1 + 1 from by omega, hs, a1]
theorem CO_two {p q t : Term} {x K v : Nat} {σ : St} (hQ : CQ F n0 K σ) (hn : n0 ≤ 150) (hK : K ≤ 9) (hx : x + nN t ≤ n0) (hk : nK (F x) = J v) (hv : v ≤ 7) (hpC : pC t = pC p + pC q) (hnN : nN t = 1 + nN p + nN q) (hok : ok p) (hRD : ∀ σ', RD σ' p (x + 1) K → RD σ' q (x + 1 + nN p) (K + pC p) → RD σ' t x K) (h : CO N n0 p (x + 1) K σ) (hq : ∀ σ1, CQ F n0 (K + pC p) σ1 → K + pC p ≤ 9 → CO N n0 q (x + 1 + nN p) (K + pC p) σ1) : CO N n0 t x K σ := by
  obtain ⟨h1, h2⟩ := h
  have hs := fun n => c_skip (N := N) (n := n) hQ hn hK (show x < n0 by omega) hk (by omega) (by omega) (by omega)
  unfold CO
  rw [hpC, hnN]
  by_cases hfp : K + pC p ≤ 9
  · obtain ⟨σ1, a1, a2, a3, a4⟩ := h1 hfp
    obtain ⟨i1, i2⟩ := hq σ1 (hQ.fr a2.2.2 a3) hfp
    refine ⟨fun hf => ?_, fun hf => ?_⟩
    · obtain ⟨σ2, b1, b2, b3, b4⟩ := i1 (by omega)
      refine ⟨σ2, fun n => ?_, ⟨fun o ho => ?_, fun i hi => ?_, a2.2.2.tr b2.2.2⟩, by rw [b3, Nat.add_assoc], hRD σ2 (RD_keep p _ _ hok (fun o ho => b2.1 o ho) (fun i i1 i2 => b2.2.1 i (by omega)) a4) b4⟩
      · rw [show n + (1 + nN p + nN q) = n + nN q + nN p + 1 from by omega, hs, a1, b1]
        congr 2
        omega
      · obtain ⟨q1, q2, q3, q4⟩ := a2.1 o ho
        obtain ⟨q5, q6, q7, q8⟩ := b2.1 o (by omega)
        exact ⟨q5.trans q1, q6.trans q2, q7.trans q3, q8.trans q4⟩
      · rw [b2.2.1 i (by omega), a2.2.1 i (by omega)]
    · obtain ⟨σ2, b1, b2, b3⟩ := i2 (by omega)
      refine ⟨σ2, fun n => ?_, a2.2.2.tr b2, b3⟩
      rw [show n + (1 + nN p + nN q) + 1 = n + nN q + 1 + nN p + 1 from by omega, hs, a1, b1]
  · obtain ⟨σ1, a1, a2⟩ := h2 (by omega)
    refine ⟨fun hf => by omega, fun _ => ⟨σ1, fun n => ?_, a2⟩⟩
    rw [show n + (1 + nN p + nN q) + 1 = n + nN q + nN p + 1 + 1 from by omega, hs, a1]
theorem CO_rule (hN : 20 ^ 130 ≤ N) {s p t : Term} {x K : Nat} {σ : St} (hQ : CQ F n0 K σ) (hn : n0 ≤ 120) (hK : K ≤ 9) (hx : x + nN t ≤ n0) (hoks : ok s) (hshs : sh s = 1 ∨ sh s = 2) (hht : ht s ≤ 40) (hkind : nK (F x) = J 8 ∨ nK (F x) = J 9) (hO : nO (F x) = J (x + 1)) (hk1 : nK (F (x + 1)) = J 10) (hO1 : nO (F (x + 1)) = J (x + 2)) (hB : nB (F (lastn s (x + 2))) = -J 1) (hR : RR F s (x + 2)) (hpC : pC t = len s + pC p) (hnN : nN t = 2 + nN s + nN p) (hRD : ∀ σ', RuD σ' s x K → RD σ' p (x + 2 + nN s) (K + len s) → RD σ' t x K) (hp : ∀ σ1, CQ F n0 (K + len s) σ1 → K + len s ≤ 9 → CO N n0 p (x + 2 + nN s) (K + len s) σ1) : CO N n0 t x K σ := by
  have hu := fun h17 => ref_unroll (N := N) (F := F) (s := s) (P := x) (K := K) (σ := σ) hN hoks hshs hht hR hO hk1 hO1 hB hQ.1 h17 hK (by omega)
  obtain ⟨u1, u2⟩ := hu hQ.2.2
  have hs := fun n => c_rule (N := N) (n := n) hQ (by omega) hK (show x < n0 by omega) hkind
  have hps := RR_pos s _ hR
  unfold CO
  rw [hpC, hnN]
  by_cases hfs : K + len s ≤ 9
  · obtain ⟨σ1, a1, a2, a3, a4⟩ := u1 hfs
    have hQ1 := hQ.fr a2.2.2 a3
    have hsk : ∀ n, fX9_collect_96 N (n + (1 + nN s)) σ1 (J (x + 1)) = fX9_collect_96 N n σ1 (J (x + 1 + (1 + nN s))) := c_skips (N := N) hQ1 (by omega) hfs (1 + nN s) (x + 1) (by omega) (fun i i1 i2 => by
      by_cases hi : i = x + 1
      · subst hi
        exact ⟨10, by omega, by omega, hk1⟩
      · obtain ⟨v, v1, v2, v3⟩ := seq_kinds s (x + 2) hoks (by omega) hR i (by omega) (by omega)
        exact ⟨v, by omega, v2, v3⟩)
    have hxx : x + 1 + (1 + nN s) = x + 2 + nN s := by omega
    rw [hxx] at hsk
    obtain ⟨i1, i2⟩ := hp σ1 hQ1 hfs
    refine ⟨fun hf => ?_, fun hf => ?_⟩
    · obtain ⟨σ2, b1, b2, b3, b4⟩ := i1 (by omega)
      refine ⟨σ2, fun n => ?_, ⟨fun o ho => ?_, fun i hi => ?_, a2.2.2.tr b2.2.2⟩, by rw [b3, Nat.add_assoc], hRD σ2 (a4.keep (fun o ho => b2.1 o ho) (b2.2.1 x (by omega))) b4⟩
      · rw [show n + (2 + nN s + nN p) = n + nN p + (1 + nN s) + 1 from by omega, hs, a1, bnd1_d, hsk, b1]
        congr 2
        omega
      · obtain ⟨q1, q2, q3, q4⟩ := a2.1 o ho
        obtain ⟨q5, q6, q7, q8⟩ := b2.1 o (by omega)
        exact ⟨q5.trans q1, q6.trans q2, q7.trans q3, q8.trans q4⟩
      · rw [b2.2.1 i (by omega), a2.2.1 i (by omega)]
    · obtain ⟨σ2, b1, b2, b3⟩ := i2 (by omega)
      refine ⟨σ2, fun n => ?_, a2.2.2.tr b2, b3⟩
      rw [show n + (2 + nN s + nN p) + 1 = n + nN p + 1 + (1 + nN s) + 1 from by omega, hs, a1, bnd1_d, hsk, b1]
  · obtain ⟨σ1, a1, a2, a3⟩ := u2 (by omega)
    refine ⟨fun hf => by omega, fun _ => ⟨σ1, fun n => ?_, a2, a3⟩⟩
    rw [show n + (2 + nN s + nN p) + 1 = n + (1 + nN s + nN p) + 1 + 1 from by omega, hs, a1, bnd1_d]
    exact c_over (n0 := n0) (by rw [a2.gi (by decide)]; exact hQ.2.1) (by omega) (by omega) a3
theorem CO_leaf {t : Term} {x K : Nat} {σ : St} (hQ : CQ F n0 K σ) (hn : n0 ≤ 150) (hK : K ≤ 9) (hx : x + nN t ≤ n0) (hpC : pC t = 0) (hRD : ∀ σ', RD σ' t x K) (hk : ∀ i, x ≤ i → i < x + nN t → ∃ v, v ≤ 4 ∧ nK (F i) = J v) : CO N n0 t x K σ := by
  unfold CO
  rw [hpC]
  refine ⟨fun _ => ⟨σ, c_skips hQ hn hK (nN t) x hx (fun i i1 i2 => by
    obtain ⟨v, v1, v2⟩ := hk i i1 i2
    exact ⟨v, by omega, by omega, v2⟩), ⟨fun _ _ => ⟨rfl, rfl, rfl, rfl⟩, fun _ _ => rfl, Fr.rf⟩, hQ.2.2, hRD σ⟩, fun h => by omega⟩
theorem CO_all (hN : 20 ^ 130 ≤ N) (hn : n0 ≤ 120) : ∀ t x K σ, ok t → sh t = 0 → ht t ≤ 40 → RR F t x → CQ F n0 K σ → K ≤ 9 → x + nN t ≤ n0 → CO N n0 t x K σ := by
  intro t
  induction t using tind with
  | h t ih =>
    intro x K σ hok hsh hht hR hQ hK hx
    cases t with
    | index v =>
      exact CO_leaf hQ (by omega) hK hx rfl (fun _ => trivial) (bo_kinds (.index v) x hok hR)
    | length b =>
      exact CO_leaf hQ (by omega) hK hx rfl (fun _ => trivial) (bo_kinds (.length b) x hok hR)
    | add p q =>
      have h1 : ht p ≤ ht (.add p q) := Nat.le_max_left _ _
      have h2 : ht q ≤ ht (.add p q) := Nat.le_max_right _ _
      have e : nN (.add p q) = 1 + nN p + nN q := rfl
      obtain ⟨⟨s1, s2⟩, o1, o2⟩ := hok
      exact CO_two hQ (by omega) hK hx hR.1.1 (by omega) rfl rfl o1 (fun σ' a b => ⟨a, b⟩) (ih p (by simp; omega) _ _ _ o1 s1 (by omega) hR.2.1 hQ hK (by omega)) (fun σ1 hQ1 hK1 => ih q (by simp; omega) _ _ _ o2 s2 (by omega) hR.2.2 hQ1 hK1 (by omega))
    | sub p q =>
      have h1 : ht p ≤ ht (.sub p q) := Nat.le_max_left _ _
      have h2 : ht q ≤ ht (.sub p q) := Nat.le_max_right _ _
      have e : nN (.sub p q) = 1 + nN p + nN q := rfl
      obtain ⟨⟨s1, s2⟩, o1, o2⟩ := hok
      exact CO_two hQ (by omega) hK hx hR.1.1 (by omega) rfl rfl o1 (fun σ' a b => ⟨a, b⟩) (ih p (by simp; omega) _ _ _ o1 s1 (by omega) hR.2.1 hQ hK (by omega)) (fun σ1 hQ1 hK1 => ih q (by simp; omega) _ _ _ o2 s2 (by omega) hR.2.2 hQ1 hK1 (by omega))
    | mul p q =>
      have h1 : ht p ≤ ht (.mul p q) := Nat.le_max_left _ _
      have h2 : ht q ≤ ht (.mul p q) := Nat.le_max_right _ _
      have e : nN (.mul p q) = 1 + nN p + nN q := rfl
      obtain ⟨⟨s1, s2⟩, o1, o2⟩ := hok
      exact CO_two hQ (by omega) hK hx hR.1.1 (by omega) rfl rfl o1 (fun σ' a b => ⟨a, b⟩) (ih p (by simp; omega) _ _ _ o1 s1 (by omega) hR.2.1 hQ hK (by omega)) (fun σ1 hQ1 hK1 => ih q (by simp; omega) _ _ _ o2 s2 (by omega) hR.2.2 hQ1 hK1 (by omega))
    | sum p =>
      have e : nN (.sum p) = 1 + nN p := rfl
      have h1 : ht p = ht (.sum p) := rfl
      exact CO_one (p := p) hQ (by omega) hK (by omega) hR.1.1 (by omega) rfl rfl (fun σ' a => a) (ih p (by simp) _ _ _ hok.2 hok.1 (by omega) hR.2 hQ hK (by omega))
    | old p =>
      have e : nN (.old p) = 1 + nN p := rfl
      have h1 : ht p = ht (.old p) := rfl
      exact CO_one (p := p) hQ (by omega) hK (by omega) hR.1.1 (by omega) rfl rfl (fun σ' a => a) (ih p (by simp) _ _ _ hok.2 hok.1 (by omega) hR.2 hQ hK (by omega))
    | div s p =>
      have h1 : ht s ≤ ht (.div s p) := Nat.le_max_left _ _
      have h2 : ht p ≤ ht (.div s p) := Nat.le_max_right _ _
      have e : nN (.div s p) = 2 + nN s + nN p := rfl
      obtain ⟨⟨s1, s2⟩, o1, o2⟩ := hok
      obtain ⟨⟨r1, r2, r3, r4, r5, r6⟩, r7, r8⟩ := hR
      exact CO_rule hN hQ hn hK hx o1 s1 (by omega) (Or.inl r1) r2 r4 r5 r6 r7 rfl rfl (fun σ' a b => ⟨a, b⟩) (fun σ1 hQ1 hK1 => ih p (by simp; omega) _ _ _ o2 s2 (by omega) r8 hQ1 hK1 (by omega))
    | rem s p =>
      have h1 : ht s ≤ ht (.rem s p) := Nat.le_max_left _ _
      have h2 : ht p ≤ ht (.rem s p) := Nat.le_max_right _ _
      have e : nN (.rem s p) = 2 + nN s + nN p := rfl
      obtain ⟨⟨s1, s2⟩, o1, o2⟩ := hok
      obtain ⟨⟨r1, r2, r3, r4, r5, r6⟩, r7, r8⟩ := hR
      exact CO_rule hN hQ hn hK hx o1 s1 (by omega) (Or.inr r1) r2 r4 r5 r6 r7 rfl rfl (fun σ' a b => ⟨a, b⟩) (fun σ1 hQ1 hK1 => ih p (by simp; omega) _ _ _ o2 s2 (by omega) r8 hQ1 hK1 (by omega))
    | elem a w => cases w <;> first | exact hok.elim | cases hsh
    | field b x y z => cases hsh
    | null => cases hsh
    | _ => exact hok.elim
end CO
