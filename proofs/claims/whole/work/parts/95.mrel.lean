/-! both numberings, both askings -/
section BITS
variable {N k : Nat}
/-- all that is satisfied, as a set -/
theorem s_bits {g : Nat → Bool} (hk : k ≤ 9) : ∀ f p n (σ : St), p + f = k → f < n → gI σ 17 0 = J k → (∀ i, i < k → ∃ z, z < 150 ∧ gI σ 19 i = J z ∧ ((gI σ 18 z = J i ∧ gI σ 32 z = zb (g i)) ∨ (gI σ 18 z = -J 1 ∧ gI σ 33 i = zb (g i)))) → fX9_satisfied_35 N n σ (J (msk g p)) (J p) = some (J (msk g k), σ) := by
  intro f
  induction f with
  | zero =>
    intro p n σ hp hn h17 h
    obtain ⟨n, rfl⟩ : ∃ k, n = k + 1 := ⟨n - 1, by omega⟩
    obtain rfl : p = k := by omega
    unfold fX9_satisfied_35
    simp (decide := true) (disch := omega) only [letS_d, grd_tt, bnd_d, bnd1_d, bndX_d, bndX_e, gI_at, gI_ne, gI_sL, gL_sL, gL_sI, upd_at, updL_at, J_lit, J_add, J_mul, J_sub, J_lt, J_le, J_inj, J_ne, ne_J, m_lt, lt_m, m_le, le_m, J_cl, J_inB, if_true, if_false, ite_true, ite_false, reduceIte, isZ0, isZ1, J_and31, shrJ0, shlJ0, gI_sA, gL_sA, Nat.reduceEqDiff, Nat.reduceAdd, Nat.reduceMul, Nat.reduceLT, Nat.reduceLeDiff, h17, Nat.le_refl]
  | succ f ih =>
    intro p n σ hp hn h17 h
    obtain ⟨n, rfl⟩ : ∃ k, n = k + 1 := ⟨n - 1, by omega⟩
    have hnl : ¬ k ≤ p := by omega
    have h75 : fX9_satisfied_75 N (fX9_satisfied_35 N n) σ (J (msk g p)) (J p) (zb (g p)) = some (J (msk g k), σ) := by
      have hnext := ih (p + 1) n σ (by omega) (by omega) h17 h
      unfold fX9_satisfied_75 fX9_satisfied_91
      have hor : ∀ y : Int32, (∀ i, i < 32 → bt y i = (decide (i = p) && g p)) → J (msk g p) ||| y = J (msk g (p + 1)) := fun y hy => by
        refine bt_ext fun i hi => ?_
        rw [bt_or, hy i hi, J_bits i hi, J_bits i hi, msk_bit, msk_bit]
        by_cases hip : i = p
        · subst hip
          rw [decide_eq_false (show ¬ i < i by omega), decide_eq_true rfl, decide_eq_true (show i < i + 1 by omega)]
          simp
        · rw [decide_eq_false hip, show decide (i < p + 1) = decide (i < p) from decide_eq_decide.mpr (by omega)]
          simp
      cases hg : g p
      · rw [zb_f, if_pos (show J 0 = (0 : Int32) from rfl), letS_d, letS_d, hor 0 (fun i hi => by rw [bt0, hg, Bool.and_false]), show J p + (1 : Int32) = J (p + 1) from J_add _ _]
        exact hnext
      · rw [zb_t, if_neg (show ¬ J 1 = (0 : Int32) by decide), letS_d, letS_d, hor ((1 : Int32) <<< (J p &&& 31)) (fun i hi => by rw [bt_set (show p < 32 by omega) hi, hg, Bool.and_true]), show J p + (1 : Int32) = J (p + 1) from J_add _ _]
        exact hnext
    obtain ⟨z, z1, z2, z3⟩ := h p (by omega)
    rw [show fX9_satisfied_35 N (n + 1) σ (J (msk g p)) (J p) = _ from by unfold fX9_satisfied_35; rfl]
    rw [h17, if_neg (show ¬ J k ≤ J p by rw [J_le (by omega) (by omega)]; exact hnl)]
    have hin : inB (J p) 16 = true := J_inB (by omega) (by omega)
    rcases z3 with ⟨z3, z4⟩ | ⟨z3, z4⟩
    · have hpl := isPl (N := N) (p := p) (by omega) z1 z2 z3
      rw [decide_eq_false (fun h => h rfl), zb_f] at hpl
      rw [hpl, bnd_d, if_pos (show J 0 = (0 : Int32) from rfl), hin, grd_t, J_cl (by omega), z2, J_inB (show z < 160 by omega) (by omega), grd_t, J_cl (by omega), z4]
      exact h75
    · have hpl := isPl (N := N) (p := p) (by omega) z1 z2 z3
      rw [decide_eq_true (show ¬ -J 1 = J p by rw [ne_J (by omega)]; exact id), zb_t] at hpl
      rw [hpl, bnd_d, if_neg (show ¬ J 1 = (0 : Int32) by decide), hin, grd_t, J_cl (by omega), z4]
      exact h75
/-- the images of all sets, by a letter -/
theorem g_sets {im : Nat → Nat → Nat} {l : Nat} {σ0 : St} (hk : k ≤ 9) (hl : l < 8) (h17 : gI σ0 17 0 = J k) (hsat : ∀ σ, Fr [31, 32, 33] σ0 σ → ∀ s, s < 2 ^ k → ∃ σ', fX9_satisfied N σ (J l) (J s) = some (J (im l s), σ') ∧ Fr [32, 33] σ σ') (k2 : St → Int32 → Option (Int32 × St)) : ∀ f s n (σ : St), s + f = 2 ^ k → f < n → Fr [31, 32, 33] σ0 σ → ∃ σ', fX9_gather_10 N k2 n σ (J l) (J s) = k2 σ' (J (l + 1)) ∧ Fr [31, 32, 33] σ σ' ∧ (∀ i, (i < 512 * l + s ∨ 512 * l + 2 ^ k ≤ i) → gI σ' 31 i = gI σ 31 i) ∧ ∀ s', s ≤ s' → s' < 2 ^ k → gI σ' 31 (512 * l + s') = J (im l s') := by
  have hk9 : 2 ^ k ≤ 512 := Nat.le_trans (Nat.pow_le_pow_right (n := 2) (by omega) hk) (by decide)
  intro f
  induction f with
  | zero =>
    intro s n σ hs hn hF
    obtain ⟨n, rfl⟩ : ∃ k, n = k + 1 := ⟨n - 1, by omega⟩
    obtain rfl : s = 2 ^ k := by omega
    refine ⟨σ, ?_, Fr.rf, fun _ _ => rfl, fun s' h1 h2 => by omega⟩
    have h17' : gI σ 17 0 = J k := by rw [hF.gi (by decide)]; exact h17
    have hp : J 1 <<< J k = J (2 ^ k) := pow_J (by omega)
    rw [show fX9_gather_10 N k2 (n + 1) σ (J l) (J (2 ^ k)) = _ from by unfold fX9_gather_10; rfl]
    simp (decide := true) (disch := omega) only [letS_d, grd_tt, bnd_d, bnd1_d, bndX_d, bndX_e, gI_at, gI_ne, gI_sL, gL_sL, gL_sI, upd_at, updL_at, J_lit, J_add, J_mul, J_sub, J_lt, J_le, J_inj, J_ne, ne_J, m_lt, lt_m, m_le, le_m, J_cl, J_inB, if_true, if_false, ite_true, ite_false, reduceIte, isZ0, isZ1, J_and31, shrJ0, shlJ0, gI_sA, gL_sA, Nat.reduceEqDiff, Nat.reduceAdd, Nat.reduceMul, Nat.reduceLT, Nat.reduceLeDiff, h17', hp, Nat.le_refl]
  | succ f ih =>
    intro s n σ hs hn hF
    obtain ⟨n, rfl⟩ : ∃ k, n = k + 1 := ⟨n - 1, by omega⟩
    have h17' : gI σ 17 0 = J k := by rw [hF.gi (by decide)]; exact h17
    have hp : J 1 <<< J k = J (2 ^ k) := pow_J (by omega)
    have hnl : ¬ 2 ^ k ≤ s := by omega
    obtain ⟨σ1, a1, a2⟩ := hsat σ hF s (by omega)
    have f31 : Fr [31, 32, 33] σ (sI σ1 31 (512 * l + s) (J (im l s))) := (a2.mono (by decide)).tr (Fr.i (by decide))
    obtain ⟨σ2, b1, b2, b3, b4⟩ := ih (s + 1) n (sI σ1 31 (512 * l + s) (J (im l s))) (by omega) (by omega) (hF.tr f31)
    refine ⟨σ2, ?_, f31.tr b2, fun i hi => ?_, fun s' h1 h2 => ?_⟩
    · rw [show fX9_gather_10 N k2 (n + 1) σ (J l) (J s) = _ from by unfold fX9_gather_10; rfl]
      simp (decide := true) (disch := omega) only [letS_d, grd_tt, bnd_d, bnd1_d, bndX_d, bndX_e, gI_at, gI_ne, gI_sL, gL_sL, gL_sI, upd_at, updL_at, J_lit, J_add, J_mul, J_sub, J_lt, J_le, J_inj, J_ne, ne_J, m_lt, lt_m, m_le, le_m, J_cl, J_inB, if_true, if_false, ite_true, ite_false, reduceIte, isZ0, isZ1, J_and31, shrJ0, shlJ0, gI_sA, gL_sA, Nat.reduceEqDiff, Nat.reduceAdd, Nat.reduceMul, Nat.reduceLT, Nat.reduceLeDiff, h17', hp, hnl, a1]
      exact b1
    · rw [b3 i (by omega), gI_at, upd_at, if_neg (by omega), a2.gi (by decide)]
    · by_cases h3 : s' = s
      · subst h3
        rw [b3 _ (by omega), gI_at, upd_at, if_pos rfl]
      · exact b4 s' (by omega) h2
theorem g_letters (hN : 1000 ≤ N) {im : Nat → Nat → Nat} {σ0 : St} (hk : k ≤ 9) (h17 : gI σ0 17 0 = J k) (hsat : ∀ σ, Fr [31, 32, 33] σ0 σ → ∀ l s, l < 8 → s < 2 ^ k → ∃ σ', fX9_satisfied N σ (J l) (J s) = some (J (im l s), σ') ∧ Fr [32, 33] σ σ') : ∀ f l n (σ : St), l + f = 8 → f < n → Fr [31, 32, 33] σ0 σ → (∀ l' s, l' < l → s < 2 ^ k → gI σ 31 (512 * l' + s) = J (im l' s)) → ∃ σ', fX9_gather_2 N n σ (J l) = fX9_gather_57 N N (sI σ' 34 0 (J 0)) (J 0) ∧ Fr [31, 32, 33] σ σ' ∧ ∀ l' s, l' < 8 → s < 2 ^ k → gI σ' 31 (512 * l' + s) = J (im l' s) := by
  have hk9 : 2 ^ k ≤ 512 := Nat.le_trans (Nat.pow_le_pow_right (n := 2) (by omega) hk) (by decide)
  intro f
  induction f with
  | zero =>
    intro l n σ hl hn hF hI
    obtain ⟨n, rfl⟩ : ∃ k, n = k + 1 := ⟨n - 1, by omega⟩
    obtain rfl : l = 8 := by omega
    refine ⟨σ, ?_, Fr.rf, hI⟩
    rw [show fX9_gather_2 N (n + 1) σ (J 8) = _ from by unfold fX9_gather_2; rfl]
    simp (decide := true) (disch := omega) only [letS_d, grd_tt, bnd_d, bnd1_d, bndX_d, bndX_e, gI_at, gI_ne, gI_sL, gL_sL, gL_sI, upd_at, updL_at, J_lit, J_add, J_mul, J_sub, J_lt, J_le, J_inj, J_ne, ne_J, m_lt, lt_m, m_le, le_m, J_cl, J_inB, if_true, if_false, ite_true, ite_false, reduceIte, isZ0, isZ1, J_and31, shrJ0, shlJ0, gI_sA, gL_sA, Nat.reduceEqDiff, Nat.reduceAdd, Nat.reduceMul, Nat.reduceLT, Nat.reduceLeDiff, Nat.le_refl]
  | succ f ih =>
    intro l n σ hl hn hF hI
    obtain ⟨n, rfl⟩ : ∃ k, n = k + 1 := ⟨n - 1, by omega⟩
    have hnl : ¬ 8 ≤ l := by omega
    obtain ⟨σ1, a1, a2, a3, a4⟩ := g_sets (N := N) (im := im) (l := l) hk (by omega) h17 (fun σ hσ s hs => hsat σ hσ l s (by omega) hs) (fX9_gather_2 N n) (2 ^ k) 0 N σ (by omega) (by omega) hF
    obtain ⟨σ2, b1, b2, b3⟩ := ih (l + 1) n σ1 (by omega) (by omega) (hF.tr a2) (fun l' s hl' hs => by
      by_cases h : l' = l
      · subst h
        exact a4 s (Nat.zero_le _) hs
      · rw [a3 _ (by omega)]
        exact hI l' s (by omega) hs)
    refine ⟨σ2, ?_, a2.tr b2, b3⟩
    rw [show fX9_gather_2 N (n + 1) σ (J l) = _ from by unfold fX9_gather_2; rfl]
    simp (decide := true) (disch := omega) only [letS_d, grd_tt, bnd_d, bnd1_d, bndX_d, bndX_e, gI_at, gI_ne, gI_sL, gL_sL, gL_sI, upd_at, updL_at, J_lit, J_add, J_mul, J_sub, J_lt, J_le, J_inj, J_ne, ne_J, m_lt, lt_m, m_le, le_m, J_cl, J_inB, if_true, if_false, ite_true, ite_false, reduceIte, isZ0, isZ1, J_and31, shrJ0, shlJ0, gI_sA, gL_sA, Nat.reduceEqDiff, Nat.reduceAdd, Nat.reduceMul, Nat.reduceLT, Nat.reduceLeDiff, hnl]
    exact a1.trans b1
end BITS
/-- a one-to-one map onto as many -/
theorem inj_onto {k : Nat} {f : Nat → Nat} (h1 : ∀ i, i < k → f i < k) (h2 : ∀ i j, i < k → j < k → f i = f j → i = j) {o : Nat} (ho : o < k) : ∃ q, q < k ∧ f q = o := by
  refine Classical.byContradiction fun hno => ?_
  have hno : ∀ q, q < k → ¬ f q = o := fun q hq h => hno ⟨q, hq, h⟩
  have := inj_le (a := k + 1) (b := k) (f := fun i => if i < k then f i else o) (fun i hi => by
    show (if i < k then f i else o) < k
    by_cases h : i < k
    · rw [if_pos h]; exact h1 i h
    · rw [if_neg h]; exact ho) (fun i j hi hj h => by
    have h : (if i < k then f i else o) = (if j < k then f j else o) := h
    by_cases hi' : i < k
    · rw [if_pos hi'] at h
      by_cases hj' : j < k
      · rw [if_pos hj'] at h
        exact h2 i j hi' hj' h
      · rw [if_neg hj'] at h
        exact absurd h (hno i hi')
    · rw [if_neg hi'] at h
      by_cases hj' : j < k
      · rw [if_pos hj'] at h
        exact absurd h.symm (hno j hj')
      · omega)
  omega
section REL
variable {N : Nat}
/-- what is known of the reference's obligations -/
def GH (t : Term) (dn : Nat → Nat) (σ : St) : Prop := (RR (nd σ) t 0 ∧ nN t ≤ 120 ∧ gI σ 4 0 = J (nN t)) ∧ (oT t true ≤ 9 ∧ gI σ 17 0 = J (oT t true)) ∧ RD σ t 0 (prW t) ∧ prW t + pC t = oT t true ∧ (∀ i, i < prW t → dn i < nN t ∧ gI σ 19 i = J (dn i) ∧ gI σ 18 (dn i) = J i) ∧ dn 0 = 0 ∧ 1 ≤ prW t ∧ (∀ y, y < nN t → gI σ 18 y = -J 1 ∨ ∃ i, i < prW t ∧ dn i = y) ∧ (∀ i, i < prW t → ∃ m, m < prW t ∧ kQW t m = dn i) ∧ ∀ m, m < prW t → ∃ i, i < prW t ∧ dn i = kQW t m
theorem GH.fr {t : Term} {dn : Nat → Nat} {σ σ' : St} (h : GH t dn σ) (f : Fr [31, 32, 33] σ σ') (hok : ok t) : GH t dn σ' := by
  obtain ⟨⟨h1, h2, h3⟩, ⟨h4, h5⟩, h6, h7, h8, h9, h10, h11, h12, h13⟩ := h
  refine ⟨⟨by rw [nd_of f (by decide)]; exact h1, h2, by rw [f.gi (by decide)]; exact h3⟩, ⟨h4, by rw [f.gi (by decide)]; exact h5⟩, RD_keep t _ _ hok (fun o _ => by rw [f.gi (by decide), f.gi (by decide), f.gi (by decide), f.gi (by decide)]; exact ⟨rfl, rfl, rfl, rfl⟩) (fun i _ _ => by rw [f.gi (by decide)]) h6, h7, fun i hi => ?_, h9, h10, fun y hy => ?_, h12, h13⟩
  · rw [f.gi (by decide), f.gi (by decide)]
    exact h8 i hi
  · rw [f.gi (by decide)]
    exact h11 y hy
/-- how both belong together -/
theorem both_rel (hN : 20 ^ 130 ≤ N) {t : Term} {dn : Nat → Nat} {σ : St} (hok : ok t) (hsh : sh t = 0) (hG : GH t dn σ) : ∃ (VC : Nat → Nat → Nat → Bool) (im : Nat → Nat → Nat) (π πi : Nat → Nat), (∀ s o, o < oC t → VC s (kC t 0 o).1 (kC t 0 o).2 = s.testBit o) ∧ Rel (oT t true) (oT t true - 6) (aC VC t) im π πi ∧ tob t 0 true = J (πi 0) ∧ ∀ σ', Fr [31, 32, 33] σ σ' → ∀ l s, l < 8 → s < 2 ^ (oT t true) → ∃ σ'', fX9_satisfied N σ' (J l) (J s) = some (J (im l s), σ'') ∧ Fr [32, 33] σ' σ'' := by
  have hN1 : 1000 ≤ N := Nat.le_trans (by decide) hN
  obtain ⟨⟨h1, h2, h3⟩, ⟨h4, h5⟩, h6, h7, h8, h9, h10, h11, h12, h13⟩ := id hG
  have hoTC : oC t ≤ oT t true := by unfold oT; omega
  generalize hk : oT t true = k at *
  generalize hc : prW t = c at *
  have dinj : ∀ i j, i < c → j < c → dn i = dn j → i = j := fun i j hi hj h => by
    have e1 := (h8 i hi).2.2
    have e2 := (h8 j hj).2.2
    rw [h, e2, J_inj (by omega) (by omega)] at e1
    exact e1.symm
  -- a property's number
  obtain ⟨du, hdu⟩ : ∃ du : Nat → Nat, ∀ i, i < c → du (dn i) = i := by
    refine ⟨fun y => if h : ∃ i, i < c ∧ dn i = y then Classical.choose h else 0, fun i hi => ?_⟩
    have hex : ∃ j, j < c ∧ dn j = dn i := ⟨i, hi, rfl⟩
    show (if h : ∃ j, j < c ∧ dn j = dn i then Classical.choose h else 0) = i
    rw [dif_pos hex]
    have := Classical.choose_spec hex
    exact dinj _ _ this.1 hi this.2
  have hdu18 : ∀ y, (∃ i, i < c ∧ dn i = y) → du y < c ∧ dn (du y) = y ∧ gI σ 18 y = J (du y) := by
    rintro y ⟨i, i1, rfl⟩
    rw [hdu i i1]
    exact ⟨i1, rfl, (h8 i i1).2.2⟩
  have hdu0 : du 0 = 0 := by
    have := hdu 0 (by omega)
    rw [h9] at this
    exact this
  -- property keys are noted
  have hprop : ∀ o, o < oC t → (kC t 0 o).2 = 0 → ∃ i, i < c ∧ dn i = (kC t 0 o).1 := fun o ho hz => by
    obtain ⟨m, m1, m2⟩ := kC_kQ t 0 o hok ho hz
    obtain ⟨i, i1, i2⟩ := h13 m (by rw [← hc]; unfold prW; omega)
    refine ⟨i, i1, ?_⟩
    rw [i2, ← m2]
    exact if_pos m1
  have hkT : ∀ o, o < oC t → kT t 0 o = kC t 0 o := fun o ho => if_pos ho
  have hkTt : ∀ o, ¬ o < oC t → kT t 0 o = (0, 0) := fun o ho => if_neg ho
  obtain ⟨π, hπ⟩ : ∃ π : Nat → Nat, ∀ o, π o = nrk du t 0 c (kT t 0 o) := ⟨_, fun _ => rfl⟩
  have hπC : ∀ o, o < oC t → π o = rn du t 0 c o := fun o ho => by rw [hπ, hkT o ho, rn_key t 0 c o hok hsh ho]
  have hπt : ∀ o, ¬ o < oC t → π o = 0 := fun o ho => by rw [hπ, hkTt o ho, nrk_prop, hdu0]
  have hπlt : ∀ o, o < k → π o < k := fun o ho => by
    by_cases h : o < oC t
    · rw [hπC o h]
      rcases rn_in (du := du) t 0 c o hok hsh h with ⟨e1, e2⟩ | ⟨_, _, e3⟩
      · rw [e2]
        have := (hdu18 _ (hprop o h e1)).1
        omega
      · omega
    · rw [hπt o h]
      omega
  have htop : ∃ o, o < k ∧ kT t 0 o = (0, 0) ∧ tob t 0 true = J o := by
    rcases tob_cases t 0 true 0 with ⟨t1, t2, t3⟩ | ⟨o, t1, t2, t3, _⟩
    · rw [oT_true, t3] at t2
      have t2 : oC t + 1 = oC t := t2
      omega
    · rw [Nat.zero_add] at t1
      exact ⟨o, by omega, t3, t1⟩
  have hsurj : ∀ q, q < k → ∃ o, o < k ∧ π o = q := fun q hq => by
    by_cases hqc : q < c
    · obtain ⟨m, m1, m2⟩ := h12 q hqc
      unfold kQW at m2
      by_cases hm : m < prC t
      · rw [if_pos hm] at m2
        obtain ⟨o, o1, o2⟩ := kQ_kC t 0 m hok hm
        exact ⟨o, by omega, by rw [hπ, hkT o o1, o2, nrk_prop, m2, hdu q hqc]⟩
      · rw [if_neg hm] at m2
        obtain ⟨o, o1, o2, _⟩ := htop
        exact ⟨o, o1, by rw [hπ, o2, nrk_prop, m2, hdu q hqc]⟩
    · obtain ⟨o, o1, o2⟩ := rn_surj (du := du) t 0 c q hok (by omega) (by omega)
      exact ⟨o, by omega, by rw [hπC o o1]; exact o2⟩
  obtain ⟨πi, hπi⟩ : ∃ πi : Nat → Nat, ∀ q, q < k → πi q < k ∧ π (πi q) = q := by
    refine ⟨fun q => if h : q < k then Classical.choose (hsurj q h) else 0, fun q hq => ?_⟩
    show (if h : q < k then Classical.choose (hsurj q h) else 0) < k ∧ π (if h : q < k then Classical.choose (hsurj q h) else 0) = q
    rw [dif_pos hq]
    exact Classical.choose_spec (hsurj q hq)
  have hππ : ∀ o, o < k → πi (π o) = o := fun o ho => by
    obtain ⟨q, q1, q2⟩ := inj_onto (f := πi) (fun i hi => (hπi i hi).1) (fun i j hi hj h => by
      have e1 := (hπi i hi).2
      have e2 := (hπi j hj).2
      rw [h, e2] at e1
      exact e1.symm) ho
    rw [← q2, (hπi q q1).2]
  have hkinj : ∀ o o', o < k → o' < k → kT t 0 o = kT t 0 o' → o = o' := fun o o' ho ho' h => by
    have : π o = π o' := by rw [hπ, hπ, h]
    rw [← hππ o ho, this, hππ o' ho']
  have hk1 : 1 ≤ k := by omega
  obtain ⟨ko, hko, hkolt⟩ : ∃ ko : Key → Nat, (∀ o, o < k → ko (kT t 0 o) = o) ∧ ∀ c, ko c < k := by
    refine ⟨fun c => if h : ∃ o, o < k ∧ kT t 0 o = c then Classical.choose h else 0, fun o ho => ?_, fun c => ?_⟩
    · have hex : ∃ o', o' < k ∧ kT t 0 o' = kT t 0 o := ⟨o, ho, rfl⟩
      show (if h : ∃ o', o' < k ∧ kT t 0 o' = kT t 0 o then Classical.choose h else 0) = o
      rw [dif_pos hex]
      have := Classical.choose_spec hex
      exact hkinj _ _ this.1 ho this.2
    · show (if h : ∃ o, o < k ∧ kT t 0 o = c then Classical.choose h else 0) < k
      by_cases hex : ∃ o, o < k ∧ kT t 0 o = c
      · rw [dif_pos hex]
        exact (Classical.choose_spec hex).1
      · rw [dif_neg hex]
        omega
  refine ⟨fun s y i => s.testBit (ko (y, i)), fun l s => msk (fun i => ev (fun y j => s.testBit (π (ko (y, j)))) l t 0 (kT t 0 (πi i))) k, π, πi, fun s o ho => ?_, ?_, ?_, ?_⟩
  · show s.testBit (ko ((kC t 0 o).1, (kC t 0 o).2)) = s.testBit o
    have := hko o (by omega)
    rw [hkT o ho] at this
    rw [show ((kC t 0 o).1, (kC t 0 o).2) = kC t 0 o from rfl, this]
  · refine ⟨⟨hk1, h4, by omega, by omega⟩, fun o ho => ⟨hπlt o ho, hππ o ho⟩, hπi, fun l o s hl ho hs => ?_, fun l s _ _ => msk_lt _ k, fun l s s' _ _ _ hss o hb => ?_⟩
    · rw [msk_bit, decide_eq_true (hπlt o ho), Bool.true_and, hππ o ho]
      have hV : (fun y j => (pm πi k s).testBit (π (ko (y, j)))) = (fun y i => s.testBit (ko (y, i))) := by
        funext y j
        rw [pm_bit, decide_eq_true (hπlt _ (hkolt (y, j))), Bool.true_and, hππ _ (hkolt (y, j))]
      rw [hV]
      rfl
    · rw [msk_bit, Bool.and_eq_true] at hb ⊢
      exact ⟨hb.1, ev_mono (fun y j h => hss _ h) t 0 _ hb.2⟩
  · obtain ⟨o, o1, o2, o3⟩ := htop
    have : π o = 0 := by rw [hπ, o2, nrk_prop, hdu0]
    rw [o3, ← this, hππ o o1]
  · intro σ' hF l s hl hs
    obtain ⟨⟨g1, g2, g3⟩, ⟨g4, g5⟩, g6, g7, g8, g9, g10, g11, g12, g13⟩ := hG.fr hF hok
    have hpos := ok_nN t hok
    have hsp : ∀ z, SeqPos t 0 z → gI σ' 18 z = -J 1 := fun z hz => by
      obtain ⟨q1, q2, q3⟩ := kQ_noseq t 0 z hok hsh hz
      rcases g11 z (by omega) with h | ⟨i, i1, i2⟩
      · exact h
      · exfalso
        obtain ⟨m, m1, m2⟩ := g12 i i1
        unfold kQW at m2
        by_cases hm : m < prC t
        · rw [if_pos hm] at m2
          exact q3 m hm (m2.trans i2)
        · rw [if_neg hm] at m2
          omega
    have hdu18' : ∀ y, (∃ i, i < c ∧ dn i = y) → gI σ' 18 y = J (du y) := fun y hy => by
      rw [hF.gi (by decide)]
      exact (hdu18 y hy).2.2
    have hSH : SHy (nd σ') (fun y j => s.testBit (π (ko (y, j)))) du k s t 0 c σ' := by
      refine ⟨⟨rfl, by rw [← hk]; exact g5, h4, by omega⟩, by rw [← hc]; exact g6, fun o ho hz => ⟨hdu18' _ (hprop o ho hz), by have := (hdu18 _ (hprop o ho hz)).1; omega⟩, fun o ho => ?_, hsp, fun q q1 q2 => ?_⟩
      · show s.testBit (π (ko ((kC t 0 o).1, (kC t 0 o).2))) = _
        have := hko o (by omega)
        rw [hkT o ho] at this
        rw [show ((kC t 0 o).1, (kC t 0 o).2) = kC t 0 o from rfl, this, hπC o ho]
      · have hqc : q < c := by omega
        have hh := g8 q (by omega)
        exact ⟨dn q, by omega, hh.2.1, Or.inl hh.2.2⟩
    obtain ⟨σ1, a1, a2, a3, a4, a5, a6⟩ := S_all (N := N) (l := l) (s := s) (by omega) hl t 0 c σ' hok hsh g1 (by omega) hSH
    refine ⟨σ1, ?_, a2⟩
    have h19' : ∀ i, gI σ1 19 i = gI σ' 19 i := fun i => by rw [a2.gi (by decide)]
    have h18' : ∀ i, gI σ1 18 i = gI σ' 18 i := fun i => by rw [a2.gi (by decide)]
    have hbits := s_bits (N := N) (k := k) (g := fun i => ev (fun y j => s.testBit (π (ko (y, j)))) l t 0 (kT t 0 (πi i))) h4 k 0 N σ1 (by omega) (by omega) (by rw [a2.gi (by decide), ← hk]; exact g5) (fun i hi => by
      obtain ⟨p1, p2⟩ := hπi i hi
      by_cases hic : i < c
      · have hh := g8 i (by omega)
        refine ⟨dn i, by omega, by rw [h19']; exact hh.2.1, Or.inl ⟨by rw [h18']; exact hh.2.2, ?_⟩⟩
        by_cases ho : πi i < oC t
        · rw [hπC _ ho] at p2
          rcases rn_in (du := du) t 0 c (πi i) hok hsh ho with ⟨e1, e2⟩ | ⟨_, e2, _⟩
          · rw [e2] at p2
            have hy := (hdu18 _ (hprop _ ho e1)).2.1
            rw [p2] at hy
            rw [hkT _ ho, hy]
            exact (a6 (πi i) ho).1 e1
          · omega
        · rw [hπt _ ho] at p2
          subst p2
          rw [hkTt _ ho, g9, ev_top]
          exact a5
      · have ho : πi i < oC t := by
          refine Classical.byContradiction fun h => ?_
          rw [hπt _ h] at p2
          omega
        rw [hπC _ ho] at p2
        rcases rn_in (du := du) t 0 c (πi i) hok hsh ho with ⟨e1, e2⟩ | ⟨e1, e2, e3⟩
        · have := (hdu18 _ (hprop _ ho e1)).1
          omega
        · obtain ⟨z, z1, z2, z3, _⟩ := RD_oth t 0 c σ' hok g1 (by omega) hsp (by rw [← hc]; exact g6) i (by omega) (by omega)
          refine ⟨z, z1, by rw [h19']; exact z2, Or.inr ⟨by rw [h18']; exact z3, ?_⟩⟩
          have := (a6 (πi i) ho).2 e1
          rw [p2] at this
          rw [hkT _ ho]
          exact this)
    unfold fX9_satisfied
    rw [g3, show J (nN t) - (1 : Int32) = pd (0 + nN t) from by
      obtain ⟨m, hm⟩ : ∃ m, nN t = m + 1 := ⟨nN t - 1, by omega⟩
      rw [hm, Nat.zero_add]
      show J (m + 1) - J 1 = J m
      rw [J_sub (by omega)]
      rfl, letS_d]
    have e := a1 (N - nN t)
    rw [show N - nN t + nN t = N from by omega] at e
    rw [e]
    obtain ⟨n, hn⟩ : ∃ n, N - nN t = n + 1 := ⟨N - nN t - 1, by omega⟩
    rw [hn, show fX9_satisfied_7 N (n + 1) σ1 (J l) (J s) (pd 0) = _ from by unfold fX9_satisfied_7; rfl, if_pos (show pd 0 < (0 : Int32) by decide)]
    exact hbits
end REL
