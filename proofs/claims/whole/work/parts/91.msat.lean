/-! what the reference finds asked: rules and properties -/
/-- the reference's number of an obligation, by the class's -/
def rn (du : Nat → Nat) : Term → Nat → Nat → Nat → Nat
  | .add p q, x, K, o => if o < oC p then rn du p (x + 1) K o else rn du q (x + 1 + nN p) (K + pC p) (o - oC p)
  | .sub p q, x, K, o => if o < oC p then rn du p (x + 1) K o else rn du q (x + 1 + nN p) (K + pC p) (o - oC p)
  | .mul p q, x, K, o => if o < oC p then rn du p (x + 1) K o else if o < oC p + oC q then rn du q (x + 1 + nN p) (K + pC p) (o - oC p) else du x
  | .sum p, x, K, o => if o < oC p then rn du p (x + 1) K o else du x
  | .old p, x, K, o => if o < oC p then rn du p (x + 1) K o else du (x + 1)
  | .div s p, x, K, o => if o < len s then K + o else rn du p (x + 2 + nN s) (K + len s) (o - len s)
  | .rem s p, x, K, o => if o < len s then K + o else if o < len s + oC p then rn du p (x + 2 + nN s) (K + len s) (o - len s) else du (x + 2 + nN s)
  | _, x, _, _ => du x
/-- it is a property's, or a place's within the rules -/
theorem rn_in {du : Nat → Nat} : ∀ t x K o, ok t → sh t = 0 → o < oC t → ((kC t x o).2 = 0 ∧ rn du t x K o = du (kC t x o).1) ∨ (¬ (kC t x o).2 = 0 ∧ K ≤ rn du t x K o ∧ rn du t x K o < K + pC t) := by
  have pair : ∀ (p q : Term) x K o, (∀ x K o, o < oC p → ((kC p x o).2 = 0 ∧ rn du p x K o = du (kC p x o).1) ∨ (¬ (kC p x o).2 = 0 ∧ K ≤ rn du p x K o ∧ rn du p x K o < K + pC p)) → (∀ x K o, o < oC q → ((kC q x o).2 = 0 ∧ rn du q x K o = du (kC q x o).1) ∨ (¬ (kC q x o).2 = 0 ∧ K ≤ rn du q x K o ∧ rn du q x K o < K + pC q)) → o < oC p + oC q → ((if o < oC p then kC p (x + 1) o else kC q (x + 1 + nN p) (o - oC p) : Key).2 = 0 ∧ (if o < oC p then rn du p (x + 1) K o else rn du q (x + 1 + nN p) (K + pC p) (o - oC p)) = du (if o < oC p then kC p (x + 1) o else kC q (x + 1 + nN p) (o - oC p) : Key).1) ∨ (¬ (if o < oC p then kC p (x + 1) o else kC q (x + 1 + nN p) (o - oC p) : Key).2 = 0 ∧ K ≤ (if o < oC p then rn du p (x + 1) K o else rn du q (x + 1 + nN p) (K + pC p) (o - oC p)) ∧ (if o < oC p then rn du p (x + 1) K o else rn du q (x + 1 + nN p) (K + pC p) (o - oC p)) < K + (pC p + pC q)) := by
    intro p q x K o ip iq ho
    by_cases h1 : o < oC p
    · rw [if_pos h1, if_pos h1]
      rcases ip (x + 1) K o h1 with h | h
      · exact Or.inl h
      · exact Or.inr ⟨h.1, h.2.1, by omega⟩
    · rw [if_neg h1, if_neg h1]
      rcases iq (x + 1 + nN p) (K + pC p) (o - oC p) (by omega) with h | h
      · exact Or.inl h
      · exact Or.inr ⟨h.1, by omega, by omega⟩
  intro t
  induction t using tind with
  | h t ih =>
    intro x K o hok hsh ho
    cases t with
    | add p q => exact pair p q x K o (fun x K o => ih p (by simp; omega) x K o hok.2.1 hok.1.1) (fun x K o => ih q (by simp; omega) x K o hok.2.2 hok.1.2) ho
    | sub p q => exact pair p q x K o (fun x K o => ih p (by simp; omega) x K o hok.2.1 hok.1.1) (fun x K o => ih q (by simp; omega) x K o hok.2.2 hok.1.2) ho
    | mul p q =>
      have ho : o < oC p + oC q + 1 := ho
      by_cases h2 : o < oC p + oC q
      · have := pair p q x K o (fun x K o => ih p (by simp; omega) x K o hok.2.1 hok.1.1) (fun x K o => ih q (by simp; omega) x K o hok.2.2 hok.1.2) h2
        by_cases h1 : o < oC p
        · rw [if_pos h1, if_pos h1] at this
          rw [show kC (.mul p q) x o = kC p (x + 1) o from if_pos h1, show rn du (.mul p q) x K o = rn du p (x + 1) K o from if_pos h1]
          exact this
        · rw [if_neg h1, if_neg h1] at this
          rw [show kC (.mul p q) x o = kC q (x + 1 + nN p) (o - oC p) from (if_neg h1).trans (if_pos h2), show rn du (.mul p q) x K o = rn du q (x + 1 + nN p) (K + pC p) (o - oC p) from (if_neg h1).trans (if_pos h2)]
          exact this
      · rw [show kC (.mul p q) x o = (x, 0) from (if_neg (by omega)).trans (if_neg h2), show rn du (.mul p q) x K o = du x from (if_neg (by omega)).trans (if_neg h2)]
        exact Or.inl ⟨rfl, rfl⟩
    | sum p =>
      by_cases h1 : o < oC p
      · rw [show kC (.sum p) x o = kC p (x + 1) o from if_pos h1, show rn du (.sum p) x K o = rn du p (x + 1) K o from if_pos h1]
        exact ih p (by simp) (x + 1) K o hok.2 hok.1 h1
      · rw [show kC (.sum p) x o = (x, 0) from if_neg h1, show rn du (.sum p) x K o = du x from if_neg h1]
        exact Or.inl ⟨rfl, rfl⟩
    | old p =>
      by_cases h1 : o < oC p
      · rw [show kC (.old p) x o = kC p (x + 1) o from if_pos h1, show rn du (.old p) x K o = rn du p (x + 1) K o from if_pos h1]
        exact ih p (by simp) (x + 1) K o hok.2 hok.1 h1
      · rw [show kC (.old p) x o = (x + 1, 0) from if_neg h1, show rn du (.old p) x K o = du (x + 1) from if_neg h1]
        exact Or.inl ⟨rfl, rfl⟩
    | div s p =>
      have ho : o < len s + oC p := ho
      have e : pC (.div s p) = len s + pC p := rfl
      by_cases h1 : o < len s
      · rw [show kC (.div s p) x o = (x, o + 1) from if_pos h1, show rn du (.div s p) x K o = K + o from if_pos h1]
        exact Or.inr ⟨Nat.succ_ne_zero o, by omega, by omega⟩
      · rw [show kC (.div s p) x o = kC p (x + 2 + nN s) (o - len s) from if_neg h1, show rn du (.div s p) x K o = rn du p (x + 2 + nN s) (K + len s) (o - len s) from if_neg h1]
        rcases ih p (by simp; omega) (x + 2 + nN s) (K + len s) (o - len s) hok.2.2 hok.1.2 (by omega) with h | h
        · exact Or.inl h
        · exact Or.inr ⟨h.1, by omega, by omega⟩
    | rem s p =>
      have e : pC (.rem s p) = len s + pC p := rfl
      by_cases h1 : o < len s
      · rw [show kC (.rem s p) x o = (x, o + 1) from if_pos h1, show rn du (.rem s p) x K o = K + o from if_pos h1]
        exact Or.inr ⟨Nat.succ_ne_zero o, by omega, by omega⟩
      · by_cases h2 : o < len s + oC p
        · rw [show kC (.rem s p) x o = kC p (x + 2 + nN s) (o - len s) from (if_neg h1).trans (if_pos h2), show rn du (.rem s p) x K o = rn du p (x + 2 + nN s) (K + len s) (o - len s) from (if_neg h1).trans (if_pos h2)]
          rcases ih p (by simp; omega) (x + 2 + nN s) (K + len s) (o - len s) hok.2.2 hok.1.2 (by omega) with h | h
          · exact Or.inl h
          · exact Or.inr ⟨h.1, by omega, by omega⟩
        · rw [show kC (.rem s p) x o = (x + 2 + nN s, 0) from (if_neg h1).trans (if_neg h2), show rn du (.rem s p) x K o = du (x + 2 + nN s) from (if_neg h1).trans (if_neg h2)]
          exact Or.inl ⟨rfl, rfl⟩
    | elem a w => exact absurd ho (Nat.not_lt_zero _)
    | _ => exact absurd ho (Nat.not_lt_zero _)
section PLS
variable {N k l s : Nat} {F : Nat → ND}
/-- whose number is no place of a rule -/
def Oth (P : Nat) (σ : St) (p : Nat) : Prop := ∃ z, z < 150 ∧ gI σ 19 p = J z ∧ (gI σ 18 z = J p ∨ (gI σ 18 z = -J 1 ∧ ∃ Q, Q < 150 ∧ ¬ Q = P ∧ gI σ 20 p = J Q))
theorem isPl {z p : Nat} {v : Int32} {σ : St} (hp : p < 16) (hz : z < 150) (h19 : gI σ 19 p = J z) (h18 : gI σ 18 z = v) : fX9_isPlace N σ (J p) = some (zb (decide (¬ v = J p)), σ) := by
  unfold fX9_isPlace
  by_cases hv : v = J p
  · rw [decide_eq_false (fun h => h hv)]
    rw [hv] at h18
    simp (decide := true) (disch := omega) only [letS_d, grd_tt, bnd_d, bnd1_d, bndX_d, bndX_e, gI_at, gI_ne, gI_sL, gL_sL, gL_sI, upd_at, updL_at, J_lit, J_add, J_mul, J_sub, J_lt, J_le, J_inj, J_ne, ne_J, m_lt, lt_m, m_le, le_m, J_cl, J_inB, if_true, if_false, ite_true, ite_false, reduceIte, isZ0, isZ1, J_and31, shrJ0, shlJ0, gI_sA, gL_sA, Nat.reduceEqDiff, Nat.reduceAdd, Nat.reduceMul, Nat.reduceLT, Nat.reduceLeDiff, h19, h18]
    rfl
  · rw [decide_eq_true hv]
    simp (decide := true) (disch := omega) only [letS_d, grd_tt, bnd_d, bnd1_d, bndX_d, bndX_e, gI_at, gI_ne, gI_sL, gL_sL, gL_sI, upd_at, updL_at, J_lit, J_add, J_mul, J_sub, J_lt, J_le, J_inj, J_ne, ne_J, m_lt, lt_m, m_le, le_m, J_cl, J_inB, if_true, if_false, ite_true, ite_false, reduceIte, isZ0, isZ1, J_and31, shrJ0, shlJ0, gI_sA, gL_sA, Nat.reduceEqDiff, Nat.reduceAdd, Nat.reduceMul, Nat.reduceLT, Nat.reduceLeDiff, h19, h18, hv]
    rfl
/-- a rule's places, one after another -/
theorem r_loop {u : Term} {P K : Nat} {th : Bool} {V : Nat → Nat → Bool} (hk : k ≤ 9) (hP : P < 150) (hKk : K + len u ≤ k) (hV : ∀ j, j < len u → V P (j + 1) = s.testBit (K + j)) : ∀ f p n (σ : St) (al : Bool), p + f = k → f < n → gI σ 17 0 = J k → RuD σ u P K → (∀ j, j < len u → pn u (P + 2) j < 150 ∧ gI σ 18 (pn u (P + 2) j) = -J 1 ∧ gI σ 32 (pn u (P + 2) j) = zb (bs (pl u j) l)) → (∀ q, q < k → (q < K ∨ K + len u ≤ q) → Oth P σ q) → ∃ σ', fX9_places_6 N n σ (J P) (J s) (zb th) (zb al) (J p) = some (zb (al && (List.range (len u)).all (fun j => decide (K + j < p) || (!fi u j || qs V l u P th j))), σ') ∧ Fr [33] σ σ' ∧ (∀ q, (q < K ∨ K + len u ≤ q ∨ q < p) → gI σ' 33 q = gI σ 33 q) ∧ ∀ j, j < len u → p ≤ K + j → gI σ' 33 (K + j) = zb (qs V l u P th j) := by
  intro f
  induction f with
  | zero =>
    intro p n σ al hp hn h17 hR hb ho
    obtain ⟨n, rfl⟩ : ∃ k, n = k + 1 := ⟨n - 1, by omega⟩
    obtain rfl : p = k := by omega
    have hall : (List.range (len u)).all (fun j => decide (K + j < p) || (!fi u j || qs V l u P th j)) = true := by
      rw [all_iff]
      intro j hj
      rw [decide_eq_true (show K + j < p by omega)]
      rfl
    refine ⟨σ, ?_, Fr.rf, fun _ _ => rfl, fun j hj h => by omega⟩
    rw [hall, Bool.and_true]
    have hz := isZ_zb al
    unfold fX9_places_6
    simp (decide := true) (disch := omega) only [letS_d, grd_tt, bnd_d, bnd1_d, bndX_d, bndX_e, gI_at, gI_ne, gI_sL, gL_sL, gL_sI, upd_at, updL_at, J_lit, J_add, J_mul, J_sub, J_lt, J_le, J_inj, J_ne, ne_J, m_lt, lt_m, m_le, le_m, J_cl, J_inB, if_true, if_false, ite_true, ite_false, reduceIte, isZ0, isZ1, J_and31, shrJ0, shlJ0, gI_sA, gL_sA, Nat.reduceEqDiff, Nat.reduceAdd, Nat.reduceMul, Nat.reduceLT, Nat.reduceLeDiff, h17, Nat.le_refl, hz]
  | succ f ih =>
    intro p n σ al hp hn h17 hR hb ho
    obtain ⟨n, rfl⟩ : ∃ k, n = k + 1 := ⟨n - 1, by omega⟩
    have hnl : ¬ k ≤ p := by omega
    rw [show fX9_places_6 N (n + 1) σ (J P) (J s) (zb th) (zb al) (J p) = _ from by unfold fX9_places_6; rfl]
    rw [h17, if_neg (show ¬ J k ≤ J p by rw [J_le (by omega) (by omega)]; exact hnl)]
    by_cases hin : K ≤ p ∧ p < K + len u
    · obtain ⟨j, rfl⟩ : ∃ j, p = K + j := ⟨p - K, by omega⟩
      have hj : j < len u := by omega
      obtain ⟨r1, r2, r3⟩ := id hR
      obtain ⟨q1, q2, q3⟩ := r1 j hj
      obtain ⟨b1, b2, b3⟩ := hb j hj
      have q22 := r2 j hj
      have hpl := isPl (N := N) (p := K + j) (by omega) b1 q1 b2
      rw [decide_eq_true (show ¬ -J 1 = J (K + j) by rw [ne_J (by omega)]; exact id), zb_t] at hpl
      rw [hpl, bnd_d, if_neg (show ¬ J 1 = (0 : Int32) by decide), J_inB (show K + j < 16 by omega) (by omega), grd_t, J_cl (by omega), q2, if_pos rfl]
      -- what is written
      have hfo : (((gI σ 21 (K + j)) &&& (J s ^^^ (-1 : Int32))) = 0) ↔ (List.range (len u)).all (fun i => !fo u j i || V P (i + 1)) = true := by
        rw [sub_z, all_iff]
        constructor
        · intro h i hi
          cases hf : fo u j i
          · rfl
          · have := h (K + i) (by omega) (by rw [q3.at (by omega)]; exact hf)
            rw [J_bits _ (by omega)] at this
            rw [hV i hi, this]
            rfl
        · intro h o ho hbt
          rw [q3 o ho, Bool.and_eq_true, decide_eq_true_eq] at hbt
          have hlt := (fo_lt u _ _ hbt.2).2
          have := h (o - K) hlt
          rw [hbt.2, Bool.not_true, Bool.false_or, hV _ hlt, show K + (o - K) = o from by omega] at this
          rw [J_bits o ho]
          exact this
      obtain ⟨e, he⟩ : ∃ e, e = qs V l u P th j := ⟨_, rfl⟩
      have f33 : Fr [33] σ (sI σ 33 (K + j) (zb e)) := Fr.i (by decide)
      have hmid : ∀ (k6 : St → Int32 → Int32 → Int32 → Int32 → Int32 → Option (Int32 × St)), (grd true (grd (inB (gI σ 19 (K + j)) 160) (if (gI σ 32 (gI σ 19 (K + j)).toNatClampNeg) = 0 then fX9_places_87 N k6 σ (J P) (J s) (zb th) (zb al) (J (K + j)) (J (K + j)) else grd true (if ((gI σ 21 (K + j)) &&& (J s ^^^ (-1 : Int32))) = 0 then grd true (if (gI σ 22 (K + j)) = 0 then fX9_places_87 N k6 σ (J P) (J s) (zb th) (zb al) (J (K + j)) (J (K + j)) else if zb th = 0 then fX9_places_91 N k6 σ (J P) (J s) (zb th) (zb al) (J (K + j)) (J (K + j)) else fX9_places_87 N k6 σ (J P) (J s) (zb th) (zb al) (J (K + j)) (J (K + j))) else fX9_places_91 N k6 σ (J P) (J s) (zb th) (zb al) (J (K + j)) (J (K + j)))))) = fX9_places_92 N k6 σ (J P) (J s) (zb th) (zb al) (J (K + j)) (zb e) (J (K + j)) := by
        intro k6
        rw [grd_t, q1, J_inB (show pn u (P + 2) j < 160 by omega) (by omega), grd_t, J_cl (by omega), b3, q22, he]
        unfold qs
        cases hbs : bs (pl u j) l
        · rw [if_pos (show zb false = (0 : Int32) from rfl)]
          rfl
        · rw [if_neg (show ¬ zb true = (0 : Int32) by decide), grd_t]
          by_cases hc : ((gI σ 21 (K + j)) &&& (J s ^^^ (-1 : Int32))) = 0
          · rw [if_pos hc, hfo.mp hc, grd_t]
            cases hla : la u j
            · rw [if_pos (show zb false = (0 : Int32) from rfl)]
              rfl
            · rw [if_neg (show ¬ zb true = (0 : Int32) by decide)]
              cases th
              · rw [if_pos (show zb false = (0 : Int32) from rfl)]
                rfl
              · rw [if_neg (show ¬ zb true = (0 : Int32) by decide)]
                rfl
          · rw [if_neg hc]
            have : (List.range (len u)).all (fun i => !fo u j i || V P (i + 1)) = false := by
              cases h : (List.range (len u)).all (fun i => !fo u j i || V P (i + 1))
              · rfl
              · exact absurd (hfo.mpr h) hc
            rw [this]
            rfl
      rw [hmid]
      have h122 : ∀ σ1, fX9_places_122 N (fX9_places_6 N n) σ1 (J P) (J s) (zb th) (J (K + j)) = fX9_places_6 N n σ1 (J P) (J s) (zb th) (zb true) (J (K + j + 1)) := fun σ1 => by
        unfold fX9_places_122 fX9_places_127 fX9_places_129
        rw [letS_d, show J (K + j) + (1 : Int32) = J (K + j + 1) from J_add _ _]
        rfl
      have h126 : ∀ σ1, fX9_places_126 N (fX9_places_6 N n) σ1 (J P) (J s) (zb th) (J (K + j)) = fX9_places_6 N n σ1 (J P) (J s) (zb th) (zb false) (J (K + j + 1)) := fun σ1 => by
        unfold fX9_places_126 fX9_places_127 fX9_places_129
        rw [letS_d, show J (K + j) + (1 : Int32) = J (K + j + 1) from J_add _ _]
        rfl
      have h92 : fX9_places_92 N (fX9_places_6 N n) σ (J P) (J s) (zb th) (zb al) (J (K + j)) (zb e) (J (K + j)) = fX9_places_6 N n (sI σ 33 (K + j) (zb e)) (J P) (J s) (zb th) (zb (al && (!fi u j || e))) (J (K + j + 1)) := by
        unfold fX9_places_92
        have h23 : gI (sI σ 33 (K + j) (zb e)) 23 P = gI σ 23 P := by rw [gI_ne _ _ _ (by decide)]
        have h33 : gI (sI σ 33 (K + j) (zb e)) 33 (K + j) = zb e := by rw [gI_at, upd_at, if_pos rfl]
        have hfi := has_J0 (gI σ 23 P) (k := K + j) (by omega)
        rw [r3.at (by omega)] at hfi
        rw [J_inB (show K + j < 16 by omega) (by omega), grd_t, J_cl (by omega), letS_d, nar_zb]
        cases al
        · rw [if_pos (show zb false = (0 : Int32) from rfl), h126]
          rfl
        · rw [if_neg (show ¬ zb true = (0 : Int32) by decide), J_inB (show P < 160 by omega) (by omega), grd_t, J_cl (by omega), h23, sh31 (show K + j < 32 by omega)]
          cases hf : fi u j
          · rw [hf] at hfi
            rw [if_pos (show (gI σ 23 P >>> J (K + j)) &&& (1 : Int32) = 0 from hfi.mpr rfl), h122]
            rfl
          · rw [hf] at hfi
            rw [if_neg (show ¬ (gI σ 23 P >>> J (K + j)) &&& (1 : Int32) = 0 from fun h => by cases hfi.mp h), grd_t, h33]
            cases e
            · rw [if_pos (show zb false = (0 : Int32) from rfl), h126]
              rfl
            · rw [if_neg (show ¬ zb true = (0 : Int32) by decide), h122]
              rfl
      rw [h92]
      obtain ⟨σ', e1, e2, e3, e4⟩ := ih (K + j + 1) n (sI σ 33 (K + j) (zb e)) (al && (!fi u j || e)) (by omega) (by omega) (by rw [f33.gi (by decide)]; exact h17) (hR.keep (fun o _ => by rw [f33.gi (by decide), f33.gi (by decide), f33.gi (by decide), f33.gi (by decide)]; exact ⟨rfl, rfl, rfl, rfl⟩) (by rw [f33.gi (by decide)])) (fun i hi => by rw [f33.gi (by decide), f33.gi (by decide)]; exact hb i hi) (fun q hq1 hq2 => by
        obtain ⟨z, z1, z2, z3⟩ := ho q hq1 hq2
        refine ⟨z, z1, by rw [f33.gi (by decide)]; exact z2, ?_⟩
        rw [f33.gi (by decide), f33.gi (by decide)]
        exact z3)
      refine ⟨σ', ?_, f33.tr e2, fun q hq => ?_, fun i hi h => ?_⟩
      · rw [e1]
        congr 2
        rw [Bool.and_assoc]
        congr 2
        refine bool_iff ?_
        rw [Bool.and_eq_true, all_iff, all_iff]
        constructor
        · rintro ⟨h1, h2⟩ i hi
          by_cases hij : i = j
          · subst hij
            rw [he] at h1
            rw [h1]
            simp
          · have := h2 i hi
            rw [show decide (K + i < K + j) = decide (K + i < K + j + 1) from decide_eq_decide.mpr (by omega)]
            exact this
        · intro h
          have h1 := h j hj
          rw [decide_eq_false (show ¬ K + j < K + j by omega), Bool.false_or] at h1
          refine ⟨by rw [he]; exact h1, fun i hi => ?_⟩
          by_cases hij : i = j
          · subst hij
            rw [h1]
            simp
          · have := h i hi
            rw [show decide (K + i < K + j + 1) = decide (K + i < K + j) from decide_eq_decide.mpr (by omega)]
            exact this
      · rw [e3 q (by omega), gI_at, upd_at, if_neg (by omega)]
      · by_cases hij : i = j
        · subst hij
          rw [e3 _ (by omega), gI_at, upd_at, if_pos rfl, he]
        · exact e4 i hi (by omega)
    · obtain ⟨z, z1, z2, z3⟩ := ho p (by omega) (by omega)
      obtain ⟨σ', e1, e2, e3, e4⟩ := ih (p + 1) n σ al (by omega) (by omega) h17 hR hb ho
      refine ⟨σ', ?_, e2, fun q hq => e3 q (by omega), fun j hj h => e4 j hj (by omega)⟩
      have hskip : (bnd (fX9_isPlace N σ (J p)) fun r3 σ2 => if r3 = 0 then fX9_places_129 N (fX9_places_6 N n) σ2 (J P) (J s) (zb th) (zb al) (J p) else grd (inB (J p) 16) (if (gI σ2 20 (J p).toNatClampNeg) = J P then grd (inB (J p) 16) (grd (inB (gI σ2 19 (J p).toNatClampNeg) 160) (if (gI σ2 32 (gI σ2 19 (J p).toNatClampNeg).toNatClampNeg) = 0 then fX9_places_87 N (fX9_places_6 N n) σ2 (J P) (J s) (zb th) (zb al) (J p) (J p) else grd (inB (J p) 16) (if ((gI σ2 21 (J p).toNatClampNeg) &&& (J s ^^^ (-1 : Int32))) = 0 then grd (inB (J p) 16) (if (gI σ2 22 (J p).toNatClampNeg) = 0 then fX9_places_87 N (fX9_places_6 N n) σ2 (J P) (J s) (zb th) (zb al) (J p) (J p) else if zb th = 0 then fX9_places_91 N (fX9_places_6 N n) σ2 (J P) (J s) (zb th) (zb al) (J p) (J p) else fX9_places_87 N (fX9_places_6 N n) σ2 (J P) (J s) (zb th) (zb al) (J p) (J p)) else fX9_places_91 N (fX9_places_6 N n) σ2 (J P) (J s) (zb th) (zb al) (J p) (J p)))) else fX9_places_129 N (fX9_places_6 N n) σ2 (J P) (J s) (zb th) (zb al) (J p))) = fX9_places_129 N (fX9_places_6 N n) σ (J P) (J s) (zb th) (zb al) (J p) := by
        rcases z3 with z3 | ⟨z3, Q, Q1, Q2, Q3⟩
        · have hpl := isPl (N := N) (p := p) (by omega) z1 z2 z3
          rw [decide_eq_false (fun h => h rfl), zb_f] at hpl
          rw [hpl, bnd_d, if_pos (show J 0 = (0 : Int32) from rfl)]
        · have hpl := isPl (N := N) (p := p) (by omega) z1 z2 z3
          rw [decide_eq_true (show ¬ -J 1 = J p by rw [ne_J (by omega)]; exact id), zb_t] at hpl
          rw [hpl, bnd_d, if_neg (show ¬ J 1 = (0 : Int32) by decide), J_inB (show p < 16 by omega) (by omega), grd_t, J_cl (by omega), Q3, if_neg (show ¬ J Q = J P by rw [J_inj (by omega) (by omega)]; exact Q2)]
      rw [hskip]
      unfold fX9_places_129
      rw [letS_d, show J p + (1 : Int32) = J (p + 1) from J_add _ _, e1]
      congr 2
      rw [show (List.range (len u)).all (fun j => decide (K + j < p + 1) || (!fi u j || qs V l u P th j)) = (List.range (len u)).all (fun j => decide (K + j < p) || (!fi u j || qs V l u P th j)) from all_congr (fun j hj => by
        rw [show decide (K + j < p + 1) = decide (K + j < p) from decide_eq_decide.mpr (by omega)])]
theorem r_places (hN : 100 ≤ N) {u : Term} {P K : Nat} {th : Bool} {V : Nat → Nat → Bool} {σ : St} (hk : k ≤ 9) (hP : P < 150) (hKk : K + len u ≤ k) (hV : ∀ j, j < len u → V P (j + 1) = s.testBit (K + j)) (h17 : gI σ 17 0 = J k) (hR : RuD σ u P K) (hb : ∀ j, j < len u → pn u (P + 2) j < 150 ∧ gI σ 18 (pn u (P + 2) j) = -J 1 ∧ gI σ 32 (pn u (P + 2) j) = zb (bs (pl u j) l)) (ho : ∀ q, q < k → (q < K ∨ K + len u ≤ q) → Oth P σ q) : ∃ σ', fX9_places N σ (J P) (J s) (zb th) = some (zb (rul V l u P th), σ') ∧ Fr [33] σ σ' ∧ (∀ q, (q < K ∨ K + len u ≤ q) → gI σ' 33 q = gI σ 33 q) ∧ ∀ j, j < len u → gI σ' 33 (K + j) = zb (qs V l u P th j) := by
  obtain ⟨σ', e1, e2, e3, e4⟩ := r_loop (N := N) (l := l) (s := s) (th := th) hk hP hKk hV k 0 N σ true (by omega) (by omega) h17 hR hb ho
  refine ⟨σ', ?_, e2, fun q hq => e3 q (by omega), fun j hj => e4 j hj (by omega)⟩
  unfold fX9_places
  refine Eq.trans e1 ?_
  have hr : (List.range (len u)).all (fun j => decide (K + j < 0) || (!fi u j || qs V l u P th j)) = rul V l u P th := all_congr (fun j hj => by
    rw [decide_eq_false (show ¬ K + j < 0 by omega), Bool.false_or])
  rw [hr, Bool.true_and]
end PLS
