/-! places of pieces; repetition -/
theorem tind {P : Term → Prop} (h : ∀ s, (∀ t, SizeOf.sizeOf t < SizeOf.sizeOf s → P t) → P s) : ∀ s, P s := by
  have key : ∀ n s, SizeOf.sizeOf s < n → P s := by
    intro n
    induction n with
    | zero => intro s hs; omega
    | succ n ih => intro s hs; exact h s (fun t ht => ih t (by omega))
  intro s
  exact key (SizeOf.sizeOf s + 1) s (by omega)
theorem cps_pos (c : Nat) : 1 ≤ cps c := by
  unfold cps
  split <;> omega
theorem fi_lt : ∀ s j, fi s j = true → j < len s := by
  intro s
  induction s using tind with
  | h s ih =>
    intro j hj
    unfold fi at hj
    split at hj
    · have := of_decide_eq_true hj
      show j < 1
      omega
    · rename_i u c
      rw [Bool.and_eq_true, decide_eq_true_eq] at hj
      show j < len u * cps c
      exact Nat.lt_of_lt_of_le hj.1 (Nat.le_mul_of_pos_right _ (cps_pos c))
    · rename_i u t
      rw [Bool.and_eq_true, decide_eq_true_eq] at hj
      show j < len u + len t
      omega
    · rename_i g t
      show j < len g + len t
      split at hj
      · omega
      · have := ih t (by simp; omega) _ hj
        omega
    · cases hj
theorem la_lt : ∀ s j, la s j = true → j < len s := by
  intro s
  induction s using tind with
  | h s ih =>
    intro j hj
    unfold la at hj
    split at hj
    · have := of_decide_eq_true hj
      show j < 1
      omega
    · rename_i u c
      rw [Bool.and_eq_true, Bool.and_eq_true, decide_eq_true_eq] at hj
      exact hj.1.1
    · rename_i u t
      rw [Bool.and_eq_true, decide_eq_true_eq] at hj
      show j < len u + len t
      have := ih t (by simp; omega) _ hj.2
      omega
    · rename_i g t
      show j < len g + len t
      split at hj
      · omega
      · have := ih t (by simp; omega) _ hj
        omega
    · cases hj
theorem fo_lt : ∀ s i j, fo s i j = true → i < len s ∧ j < len s := by
  intro s
  induction s using tind with
  | h s ih =>
    intro i j hj
    unfold fo at hj
    split at hj
    · rename_i u c
      rw [Bool.and_eq_true, Bool.and_eq_true, decide_eq_true_eq, decide_eq_true_eq] at hj
      exact hj.1
    · rename_i u t
      show i < len u + len t ∧ j < len u + len t
      split at hj
      · split at hj
        · omega
        · rw [Bool.and_eq_true] at hj
          have := fi_lt t _ hj.2
          omega
      · rw [Bool.and_eq_true, decide_eq_true_eq] at hj
        have := ih t (by simp; omega) _ _ hj.2
        omega
    · rename_i g t
      show i < len g + len t ∧ j < len g + len t
      split at hj
      · rw [Bool.and_eq_true, decide_eq_true_eq] at hj
        omega
      · rw [Bool.and_eq_true, decide_eq_true_eq] at hj
        have := ih t (by simp; omega) _ _ hj.2
        omega
    · cases hj
theorem nf {f : Nat → Bool} {w : Nat} (h : ∀ j, f j = true → j < w) {j : Nat} (hj : w ≤ j) : f j = false := by
  cases hx : f j
  · rfl
  · have := h j hx
    omega
/-- quotient and remainder -/
theorem dm {w t b : Nat} (h1 : b * w ≤ t) (h2 : t < b * w + w) : t / w = b ∧ t % w = t - b * w := by
  have hw : 0 < w := by omega
  obtain ⟨r, rfl⟩ : ∃ r, t = b * w + r := ⟨t - b * w, by omega⟩
  have hr : r < w := by omega
  rw [Nat.mul_comm b w, Nat.mul_add_div hw, Nat.div_eq_of_lt hr, Nat.mul_add_mod, Nat.mod_eq_of_lt hr]
  omega
theorem md {w t : Nat} (hw : 1 ≤ w) : t / w * w ≤ t ∧ t < t / w * w + w := by
  have h1 := Nat.div_add_mod t w
  have h2 := Nat.mod_lt t hw
  rw [Nat.mul_comm (t / w) w]
  omega
section RP
variable {N ln : Nat} {ch : Nat → Nat}
/-- copies, and links between the first of them -/
def Cx (K m n a : Nat) (u : Term) (x5 : Int32) (τ : St) : Prop := gI τ 23 0 = J 1 ∧ gI τ 22 0 = J (K + len u * n) ∧ K + len u * n ≤ 9 ∧ Mk (gI τ 45 0) K (fi u) ∧ Mk (gI τ 46 0) K (la u) ∧ Mk x5 K (fun t => decide (t / len u < a) && decide (m ≤ t / len u + 1) && la u (t % len u)) ∧ ∀ b j, b < n → j < len u → gI τ 24 (K + b * len u + j) = J (bm (pl u j)) ∧ Mk (gI τ 25 (K + b * len u + j)) K (fun t => (decide (b * len u ≤ t) && fo u j (t - b * len u)) || (decide (b + 1 < a) && la u j && decide ((b + 1) * len u ≤ t) && fi u (t - (b + 1) * len u)))
theorem cls_links (hN : 100 ≤ N) {K m n : Nat} {u : Term} (hu : 1 ≤ len u) (hn : n ≤ 9) (hm : m ≤ 9) : ∀ f a n' (τ : St) (x5 : Int32), a + f = n → 1 ≤ a → f < n' → Cx K m n a u x5 τ → ∃ τ' x6, fX6_repeat_49 N n' τ (J m) (J n) (J (len u)) x5 (J a) = some (sI τ' 46 0 x6) ∧ Fr [25] τ τ' ∧ Cx K m n n u x6 τ' ∧ Kp K τ τ' := by
  intro f
  induction f with
  | zero =>
    intro a n' τ x5 ha ha1 hn' hC
    obtain ⟨n', rfl⟩ : ∃ k, n' = k + 1 := ⟨n' - 1, by omega⟩
    obtain rfl : a = n := by omega
    refine ⟨τ, x5, ?_, Fr.rf, hC, fun _ _ => ⟨rfl, rfl⟩⟩
    unfold fX6_repeat_49
    simp (decide := true) (disch := omega) only [letS_d, grd_t, bnd_d, bnd1_d, bndX_d, bndX_e, gI_sI, gI_sL, gL_sL, gL_sI, upd_at, updL_at, J_lit, J_add, J_mul, J_sub, J_lt, J_le, J_inj, J_ne, ne_J, m_lt, lt_m, m_le, le_m, J_cl, J_inB, if_true, if_false, ite_true, ite_false, reduceIte, isZ0, isZ1, J_and31, shrJ0, shlJ0, gI_sA, gL_sA, Nat.reduceEqDiff, Nat.reduceAdd, Nat.reduceMul, Nat.reduceLT, Nat.reduceLeDiff, Nat.le_refl]
  | succ f ih =>
    intro a n' τ x5 ha ha1 hn' hC
    obtain ⟨n', rfl⟩ : ∃ k, n' = k + 1 := ⟨n' - 1, by omega⟩
    obtain ⟨c1, c2, c3, c4, c5, c6, c7⟩ := id hC
    have hwa : len u * a ≤ len u * n := Nat.mul_le_mul_left _ (by omega)
    have hwa1 : len u * (a - 1) ≤ len u * n := Nat.mul_le_mul_left _ (by omega)
    obtain ⟨τ1, l1, l2, l3, l4⟩ := cls_link (N := N) hN c3 (gI τ 46 0 <<< J (len u * (a - 1))) (gI τ 45 0 <<< J (len u * a)) c2
    have mb := c5.shl (d := len u * (a - 1)) (by omega)
    have mx := c4.shl (d := len u * a) (by omega)
    have hbn : ∀ b, b < n → b * len u + len u ≤ len u * n := fun b hb => by
      have := Nat.mul_le_mul_left (len u) (show b + 1 ≤ n by omega)
      rw [Nat.mul_succ] at this
      rw [Nat.mul_comm b (len u)]
      exact this
    have hlow : ∀ o, o < K → gI τ1 25 o = gI τ 25 o := fun o ho => by
      rw [l4 o (by omega), mb.below (by omega) (by omega), if_neg (by decide)]
    have hC1 : ∀ x6, Mk x6 K (fun t => decide (t / len u < a + 1) && decide (m ≤ t / len u + 1) && la u (t % len u)) → Cx K m n (a + 1) u x6 τ1 := fun x6 h6 => by
      refine ⟨by rw [l2.gi (by decide)]; exact c1, by rw [l2.gi (by decide)]; exact c2, c3, by rw [l2.gi (by decide)]; exact c4, by rw [l2.gi (by decide)]; exact c5, h6, fun b j hb hj => ?_⟩
      obtain ⟨d1, d2⟩ := c7 b j hb hj
      have hle := hbn b hb
      refine ⟨by rw [l2.gi (by decide)]; exact d1, ?_⟩
      rw [l4 _ (by omega)]
      by_cases hba : b + 1 = a
      · have hbw : len u * (a - 1) = b * len u := by rw [show a - 1 = b from by omega, Nat.mul_comm]
        have hab : len u * a = (b + 1) * len u := by rw [← hba, Nat.mul_comm]
        have hbit : bt (gI τ 46 0 <<< J (len u * (a - 1))) (K + b * len u + j) = la u j := by
          rw [mb _ (by omega), hbw, decide_eq_true (by omega), Bool.true_and, show K + b * len u + j - (K + b * len u) = j from by omega]
        rw [hbit]
        cases hl : la u j
        · rw [if_neg (by decide)]
          refine d2.congr (fun t _ => ?_)
          simp [hl]
        · rw [if_pos rfl]
          refine (d2.or mx.base).congr (fun t _ => ?_)
          have e1 : ¬ b + 1 < a := by omega
          have e2 : b + 1 < a + 1 := by omega
          rw [hab]
          simp [hl, e1, e2]
      · have hbit : bt (gI τ 46 0 <<< J (len u * (a - 1))) (K + b * len u + j) = false := by
          rw [mb _ (by omega)]
          by_cases hlt : K + len u * (a - 1) ≤ K + b * len u + j
          · rw [decide_eq_true hlt, Bool.true_and]
            refine nf (la_lt u) ?_
            have hge : a ≤ b := by
              rcases Nat.lt_or_ge b a with h | h
              · exfalso
                have h9 := Nat.mul_le_mul_left (len u) (show b + 1 ≤ a - 1 by omega)
                rw [Nat.mul_succ, Nat.mul_comm (len u) b] at h9
                omega
              · exact h
            have h8 := Nat.mul_le_mul_left (len u) (show a - 1 + 1 ≤ b by omega)
            rw [Nat.mul_succ, Nat.mul_comm (len u) b] at h8
            omega
          · rw [decide_eq_false hlt]
            rfl
        rw [hbit, if_neg (by decide)]
        refine d2.congr (fun t _ => ?_)
        have : decide (b + 1 < a) = decide (b + 1 < a + 1) := decide_eq_decide.mpr (by omega)
        rw [this]
    have hlast : ∀ t, (decide (t / len u < a + 1) && decide (m ≤ t / len u + 1) && la u (t % len u)) = ((decide (t / len u < a) && decide (m ≤ t / len u + 1) && la u (t % len u)) || (decide (m ≤ a + 1) && (decide (a * len u ≤ t) && la u (t - a * len u)))) := fun t => by
      obtain ⟨q1, q2⟩ := md (t := t) hu
      by_cases hta : t / len u = a
      · obtain ⟨q3, q4⟩ := dm (b := a) (w := len u) (t := t) (by rw [← hta]; exact q1) (by rw [← hta]; exact q2)
        have e1 : ¬ t / len u < a := by omega
        have e2 : t / len u < a + 1 := by omega
        have e3 : a * len u ≤ t := by rw [← hta]; exact q1
        rw [q4, decide_eq_true e2, decide_eq_false e1, decide_eq_true e3, hta]
        simp
      · by_cases hlt : t / len u < a
        · have e2 : t / len u < a + 1 := by omega
          have e3 : ¬ a * len u ≤ t := fun h9 => by
            have := Nat.mul_le_mul_right (len u) (show t / len u + 1 ≤ a by omega)
            rw [Nat.succ_mul] at this
            omega
          rw [decide_eq_true e2, decide_eq_true hlt, decide_eq_false e3]
          simp
        · have e2 : ¬ t / len u < a + 1 := by omega
          have e4 : la u (t - a * len u) = false := nf (la_lt u) (by
            have := Nat.mul_le_mul_right (len u) (show a + 1 ≤ t / len u by omega)
            rw [Nat.succ_mul] at this
            omega)
          rw [decide_eq_false e2, decide_eq_false hlt, e4]
          simp
    have hn1 : ¬ n ≤ a := by omega
    have hna : n ≤ len u * n := Nat.le_mul_of_pos_left n hu
    have h46 : gI τ1 46 0 = gI τ 46 0 := by rw [l2.gi (by decide)]
    rw [show fX6_repeat_49 N (n' + 1) τ (J m) (J n) (J (len u)) x5 (J a) = _ from by unfold fX6_repeat_49; rfl]
    have hkp : Kp K τ τ1 := fun o ho => ⟨by rw [l2.gi (by decide)], hlow o ho⟩
    by_cases hma : a + 1 < m
    · obtain ⟨τ', x6, e1, e2, e3, e4⟩ := ih (a + 1) n' τ1 x5 (by omega) (by omega) (by omega) (hC1 x5 (c6.congr (fun t _ => by
        rw [hlast t, decide_eq_false (show ¬ m ≤ a + 1 by omega)]
        simp)))
      refine ⟨τ', x6, ?_, l2.tr e2, e3, hkp.tr e4⟩
      simp (decide := true) (disch := omega) only [letS_d, grd_t, bnd_d, bnd1_d, bndX_d, bndX_e, gI_sI, gI_sL, gL_sL, gL_sI, upd_at, updL_at, J_lit, J_add, J_mul, J_sub, J_lt, J_le, J_inj, J_ne, ne_J, m_lt, lt_m, m_le, le_m, J_cl, J_inB, if_true, if_false, ite_true, ite_false, reduceIte, isZ0, isZ1, J_and31, shrJ0, shlJ0, gI_sA, gL_sA, Nat.reduceEqDiff, Nat.reduceAdd, Nat.reduceMul, Nat.reduceLT, Nat.reduceLeDiff, hn1, l1, hma, fX6_repeat_107]
      exact e1
    · obtain ⟨τ', x6, e1, e2, e3, e4⟩ := ih (a + 1) n' τ1 (x5 ||| (gI τ 46 0 <<< J (len u * a))) (by omega) (by omega) (by omega) (hC1 _ ((c6.or (c5.shl (d := len u * a) (by omega)).base).congr (fun t _ => by
        rw [hlast t, decide_eq_true (show m ≤ a + 1 by omega), Bool.true_and, Nat.mul_comm a (len u)])))
      refine ⟨τ', x6, ?_, l2.tr e2, e3, hkp.tr e4⟩
      simp (decide := true) (disch := omega) only [letS_d, grd_t, bnd_d, bnd1_d, bndX_d, bndX_e, gI_sI, gI_sL, gL_sL, gL_sI, upd_at, updL_at, J_lit, J_add, J_mul, J_sub, J_lt, J_le, J_inj, J_ne, ne_J, m_lt, lt_m, m_le, le_m, J_cl, J_inB, if_true, if_false, ite_true, ite_false, reduceIte, isZ0, isZ1, J_and31, shrJ0, shlJ0, gI_sA, gL_sA, Nat.reduceEqDiff, Nat.reduceAdd, Nat.reduceMul, Nat.reduceLT, Nat.reduceLeDiff, hn1, l1, hma, h46, fX6_repeat_107]
      exact e1
/-- what repetition makes of a piece -/
theorem cls_repeat (hN : 100 ≤ N) {K m n : Nat} {u : Term} {τ : St} (hm1 : 1 ≤ m) (hmn : m ≤ n) (hn : n ≤ 9) (hu : 1 ≤ len u) (h : Sx K u τ) : ∃ τ', fX6_repeat N τ (J K) (J m) (J n) = some τ' ∧ Fr [22, 23, 24, 25, 46] τ τ' ∧ ((K + len u * n ≤ 9 ∧ Sx K (.elem u (.index (16 * m + n))) τ' ∧ Kp K τ τ') ∨ (9 < K + len u * n ∧ Nx K τ')) := by
  obtain ⟨h1, h2, h3, h4, h5, h6⟩ := h
  have hw9 : len u * n ≤ 81 := Nat.mul_le_mul (show len u ≤ 9 by omega) hn
  have esub : K + len u - K = len u := by omega
  have hmod : (16 * m + n) % 16 = n := by omega
  have hdiv : (16 * m + n) / 16 = m := by omega
  have hcps : cps (16 * m + n) = n := by
    unfold cps
    rw [hmod, if_neg (by omega)]
  have hlen : len (.elem u (.index (16 * m + n))) = len u * n := by
    show len u * cps (16 * m + n) = _
    rw [hcps]
  unfold fX6_repeat fX1_copyPlaces fX1_copyPlaces_22
  by_cases hfit : K + len u * n ≤ 9
  · obtain ⟨τ1, a1, a2, a3, a4⟩ := cls_copies (N := N) hN (K := K) (w := len u) (n0 := n) hfit hu (n - 1) 1 N τ (by omega) (by omega) (by omega)
    have hg46 : gI τ1 46 0 = gI τ 46 0 := by rw [a2.gi (by decide)]
    have hg23 : gI τ1 23 0 = J 1 := by rw [a2.gi (by decide)]; exact h1
    have hcx : ∀ x5, Mk x5 K (fun t => decide (t / len u < 1) && decide (m ≤ t / len u + 1) && la u (t % len u)) → Cx K m n 1 u x5 (sI τ1 22 0 (J (K + len u * n))) := fun x5 hx => by
      refine ⟨by simp (decide := true) (disch := omega) only [letS_d, grd_t, bnd_d, bnd1_d, bndX_d, bndX_e, gI_sI, gI_sL, gL_sL, gL_sI, upd_at, updL_at, J_lit, J_add, J_mul, J_sub, J_lt, J_le, J_inj, J_ne, ne_J, m_lt, lt_m, m_le, le_m, J_cl, J_inB, if_true, if_false, ite_true, ite_false, reduceIte, isZ0, isZ1, J_and31, shrJ0, shlJ0, gI_sA, gL_sA, Nat.reduceEqDiff, Nat.reduceAdd, Nat.reduceMul, Nat.reduceLT, Nat.reduceLeDiff]; exact hg23, by simp (decide := true) (disch := omega) only [letS_d, grd_t, bnd_d, bnd1_d, bndX_d, bndX_e, gI_sI, gI_sL, gL_sL, gL_sI, upd_at, updL_at, J_lit, J_add, J_mul, J_sub, J_lt, J_le, J_inj, J_ne, ne_J, m_lt, lt_m, m_le, le_m, J_cl, J_inB, if_true, if_false, ite_true, ite_false, reduceIte, isZ0, isZ1, J_and31, shrJ0, shlJ0, gI_sA, gL_sA, Nat.reduceEqDiff, Nat.reduceAdd, Nat.reduceMul, Nat.reduceLT, Nat.reduceLeDiff], hfit, by simp (decide := true) (disch := omega) only [letS_d, grd_t, bnd_d, bnd1_d, bndX_d, bndX_e, gI_sI, gI_sL, gL_sL, gL_sI, upd_at, updL_at, J_lit, J_add, J_mul, J_sub, J_lt, J_le, J_inj, J_ne, ne_J, m_lt, lt_m, m_le, le_m, J_cl, J_inB, if_true, if_false, ite_true, ite_false, reduceIte, isZ0, isZ1, J_and31, shrJ0, shlJ0, gI_sA, gL_sA, Nat.reduceEqDiff, Nat.reduceAdd, Nat.reduceMul, Nat.reduceLT, Nat.reduceLeDiff]; rw [a2.gi (by decide)]; exact h5, by simp (decide := true) (disch := omega) only [letS_d, grd_t, bnd_d, bnd1_d, bndX_d, bndX_e, gI_sI, gI_sL, gL_sL, gL_sI, upd_at, updL_at, J_lit, J_add, J_mul, J_sub, J_lt, J_le, J_inj, J_ne, ne_J, m_lt, lt_m, m_le, le_m, J_cl, J_inB, if_true, if_false, ite_true, ite_false, reduceIte, isZ0, isZ1, J_and31, shrJ0, shlJ0, gI_sA, gL_sA, Nat.reduceEqDiff, Nat.reduceAdd, Nat.reduceMul, Nat.reduceLT, Nat.reduceLeDiff]; rw [a2.gi (by decide)]; exact h6, hx, fun b j hb hj => ?_⟩
      by_cases hb0 : b = 0
      · subst hb0
        obtain ⟨q1, q2⟩ := a3 (K + j) (by omega)
        obtain ⟨q3, q4⟩ := h4 j hj
        rw [Nat.zero_mul, Nat.add_zero]
        refine ⟨by simp (decide := true) (disch := omega) only [letS_d, grd_t, bnd_d, bnd1_d, bndX_d, bndX_e, gI_sI, gI_sL, gL_sL, gL_sI, upd_at, updL_at, J_lit, J_add, J_mul, J_sub, J_lt, J_le, J_inj, J_ne, ne_J, m_lt, lt_m, m_le, le_m, J_cl, J_inB, if_true, if_false, ite_true, ite_false, reduceIte, isZ0, isZ1, J_and31, shrJ0, shlJ0, gI_sA, gL_sA, Nat.reduceEqDiff, Nat.reduceAdd, Nat.reduceMul, Nat.reduceLT, Nat.reduceLeDiff]; rw [q1]; exact q3, ?_⟩
        have e : gI (sI τ1 22 0 (J (K + len u * n))) 25 (K + j) = gI τ 25 (K + j) := by simp (decide := true) (disch := omega) only [letS_d, grd_t, bnd_d, bnd1_d, bndX_d, bndX_e, gI_sI, gI_sL, gL_sL, gL_sI, upd_at, updL_at, J_lit, J_add, J_mul, J_sub, J_lt, J_le, J_inj, J_ne, ne_J, m_lt, lt_m, m_le, le_m, J_cl, J_inB, if_true, if_false, ite_true, ite_false, reduceIte, isZ0, isZ1, J_and31, shrJ0, shlJ0, gI_sA, gL_sA, Nat.reduceEqDiff, Nat.reduceAdd, Nat.reduceMul, Nat.reduceLT, Nat.reduceLeDiff]; exact q2
        rw [e]
        refine q4.congr (fun t _ => ?_)
        simp
      · obtain ⟨q1, q2⟩ := a4 b j (by omega) hb hj
        obtain ⟨q3, q4⟩ := h4 j hj
        have hbw : b * len u ≤ len u * n := by
          rw [Nat.mul_comm b]
          exact Nat.mul_le_mul_left _ (by omega)
        refine ⟨by simp (decide := true) (disch := omega) only [letS_d, grd_t, bnd_d, bnd1_d, bndX_d, bndX_e, gI_sI, gI_sL, gL_sL, gL_sI, upd_at, updL_at, J_lit, J_add, J_mul, J_sub, J_lt, J_le, J_inj, J_ne, ne_J, m_lt, lt_m, m_le, le_m, J_cl, J_inB, if_true, if_false, ite_true, ite_false, reduceIte, isZ0, isZ1, J_and31, shrJ0, shlJ0, gI_sA, gL_sA, Nat.reduceEqDiff, Nat.reduceAdd, Nat.reduceMul, Nat.reduceLT, Nat.reduceLeDiff]; rw [q1]; exact q3, ?_⟩
        have e : gI (sI τ1 22 0 (J (K + len u * n))) 25 (K + b * len u + j) = gI τ 25 (K + j) <<< J (b * len u) := by simp (decide := true) (disch := omega) only [letS_d, grd_t, bnd_d, bnd1_d, bndX_d, bndX_e, gI_sI, gI_sL, gL_sL, gL_sI, upd_at, updL_at, J_lit, J_add, J_mul, J_sub, J_lt, J_le, J_inj, J_ne, ne_J, m_lt, lt_m, m_le, le_m, J_cl, J_inB, if_true, if_false, ite_true, ite_false, reduceIte, isZ0, isZ1, J_and31, shrJ0, shlJ0, gI_sA, gL_sA, Nat.reduceEqDiff, Nat.reduceAdd, Nat.reduceMul, Nat.reduceLT, Nat.reduceLeDiff]; exact q2
        rw [e]
        refine (q4.shl (d := b * len u) (by omega)).base.congr (fun t _ => ?_)
        have : ¬ b + 1 < 1 := by omega
        simp [this]
    have hx0 : ∀ x5, x5 = (if m = 1 then gI τ 46 0 else J 0) → Mk x5 K (fun t => decide (t / len u < 1) && decide (m ≤ t / len u + 1) && la u (t % len u)) := fun x5 hx => by
      subst hx
      by_cases hm : m = 1
      · rw [if_pos hm]
        refine h6.congr (fun t _ => ?_)
        by_cases ht : t < len u
        · rw [Nat.div_eq_of_lt ht, Nat.mod_eq_of_lt ht, hm]
          simp
        · have e1 : ¬ t / len u < 1 := fun h9 => by
            have h8 : t / len u = 0 := Nat.lt_one_iff.mp h9
            rcases Nat.div_eq_zero_iff.mp h8 with h7 | h7 <;> omega
          rw [nf (la_lt u) (show len u ≤ t by omega), decide_eq_false e1]
          rfl
      · rw [if_neg hm]
        refine Mk.zero.congr (fun t _ => ?_)
        by_cases ht : t / len u < 1
        · have e : ¬ m ≤ t / len u + 1 := by omega
          rw [decide_eq_false e]
          simp
        · rw [decide_eq_false ht]
          rfl
    obtain ⟨τ2, x6, b1, b2, b3, b4⟩ := cls_links (N := N) hN (K := K) (m := m) (n := n) hu hn (by omega) (n - 1) 1 N (sI τ1 22 0 (J (K + len u * n))) (if m = 1 then gI τ 46 0 else J 0) (by omega) (by omega) (by omega) (hcx _ (hx0 _ rfl))
    obtain ⟨d1, d2, d3, d4, d5, d6, d7⟩ := b3
    refine ⟨sI τ2 46 0 x6, ?_, (((a2.mono (by decide)).tr (Fr.i (by decide))).tr (b2.mono (by decide))).tr (Fr.i (by decide)), Or.inl ⟨hfit, ?_, ?_⟩⟩
    · have e23 : gI (sI τ1 22 0 (J (K + len u * n))) 23 0 = J 1 := by simp (decide := true) (disch := omega) only [letS_d, grd_t, bnd_d, bnd1_d, bndX_d, bndX_e, gI_sI, gI_sL, gL_sL, gL_sI, upd_at, updL_at, J_lit, J_add, J_mul, J_sub, J_lt, J_le, J_inj, J_ne, ne_J, m_lt, lt_m, m_le, le_m, J_cl, J_inB, if_true, if_false, ite_true, ite_false, reduceIte, isZ0, isZ1, J_and31, shrJ0, shlJ0, gI_sA, gL_sA, Nat.reduceEqDiff, Nat.reduceAdd, Nat.reduceMul, Nat.reduceLT, Nat.reduceLeDiff]; exact hg23
      by_cases hm : m = 1
      · rw [if_pos hm] at b1
        simp (decide := true) (disch := omega) only [letS_d, grd_t, bnd_d, bnd1_d, bndX_d, bndX_e, gI_sI, gI_sL, gL_sL, gL_sI, upd_at, updL_at, J_lit, J_add, J_mul, J_sub, J_lt, J_le, J_inj, J_ne, ne_J, m_lt, lt_m, m_le, le_m, J_cl, J_inB, if_true, if_false, ite_true, ite_false, reduceIte, isZ0, isZ1, J_and31, shrJ0, shlJ0, gI_sA, gL_sA, Nat.reduceEqDiff, Nat.reduceAdd, Nat.reduceMul, Nat.reduceLT, Nat.reduceLeDiff, h2, esub, hfit, h1, a1, hg23, hm, hg46, fX6_repeat_44]
        rw [hm] at b1
        exact b1
      · rw [if_neg hm] at b1
        simp (decide := true) (disch := omega) only [letS_d, grd_t, bnd_d, bnd1_d, bndX_d, bndX_e, gI_sI, gI_sL, gL_sL, gL_sI, upd_at, updL_at, J_lit, J_add, J_mul, J_sub, J_lt, J_le, J_inj, J_ne, ne_J, m_lt, lt_m, m_le, le_m, J_cl, J_inB, if_true, if_false, ite_true, ite_false, reduceIte, isZ0, isZ1, J_and31, shrJ0, shlJ0, gI_sA, gL_sA, Nat.reduceEqDiff, Nat.reduceAdd, Nat.reduceMul, Nat.reduceLT, Nat.reduceLeDiff, h2, esub, hfit, h1, a1, hg23, hm, fX6_repeat_44]
        exact b1
    · refine ⟨by simp (decide := true) (disch := omega) only [letS_d, grd_t, bnd_d, bnd1_d, bndX_d, bndX_e, gI_sI, gI_sL, gL_sL, gL_sI, upd_at, updL_at, J_lit, J_add, J_mul, J_sub, J_lt, J_le, J_inj, J_ne, ne_J, m_lt, lt_m, m_le, le_m, J_cl, J_inB, if_true, if_false, ite_true, ite_false, reduceIte, isZ0, isZ1, J_and31, shrJ0, shlJ0, gI_sA, gL_sA, Nat.reduceEqDiff, Nat.reduceAdd, Nat.reduceMul, Nat.reduceLT, Nat.reduceLeDiff]; exact d1, by simp (decide := true) (disch := omega) only [letS_d, grd_t, bnd_d, bnd1_d, bndX_d, bndX_e, gI_sI, gI_sL, gL_sL, gL_sI, upd_at, updL_at, J_lit, J_add, J_mul, J_sub, J_lt, J_le, J_inj, J_ne, ne_J, m_lt, lt_m, m_le, le_m, J_cl, J_inB, if_true, if_false, ite_true, ite_false, reduceIte, isZ0, isZ1, J_and31, shrJ0, shlJ0, gI_sA, gL_sA, Nat.reduceEqDiff, Nat.reduceAdd, Nat.reduceMul, Nat.reduceLT, Nat.reduceLeDiff, hlen]; exact d2, by rw [hlen]; exact hfit, fun j hj => ?_, ?_, ?_⟩
      · rw [hlen] at hj
        obtain ⟨q1, q2⟩ := md (t := j) hu
        have hbn : j / len u < n := by
          rw [Nat.div_lt_iff_lt_mul (by omega), Nat.mul_comm n]
          exact hj
        have hjm : j % len u < len u := Nat.mod_lt _ hu
        obtain ⟨q3, q4⟩ := dm (b := j / len u) (w := len u) (t := j) q1 q2
        obtain ⟨g1, g2⟩ := d7 (j / len u) (j % len u) hbn hjm
        have ej : K + j / len u * len u + j % len u = K + j := by omega
        rw [ej] at g1 g2
        refine ⟨by simp (decide := true) (disch := omega) only [letS_d, grd_t, bnd_d, bnd1_d, bndX_d, bndX_e, gI_sI, gI_sL, gL_sL, gL_sI, upd_at, updL_at, J_lit, J_add, J_mul, J_sub, J_lt, J_le, J_inj, J_ne, ne_J, m_lt, lt_m, m_le, le_m, J_cl, J_inB, if_true, if_false, ite_true, ite_false, reduceIte, isZ0, isZ1, J_and31, shrJ0, shlJ0, gI_sA, gL_sA, Nat.reduceEqDiff, Nat.reduceAdd, Nat.reduceMul, Nat.reduceLT, Nat.reduceLeDiff]; exact g1, ?_⟩
        have e : gI (sI τ2 46 0 x6) 25 (K + j) = gI τ2 25 (K + j) := by simp (decide := true) (disch := omega) only [letS_d, grd_t, bnd_d, bnd1_d, bndX_d, bndX_e, gI_sI, gI_sL, gL_sL, gL_sI, upd_at, updL_at, J_lit, J_add, J_mul, J_sub, J_lt, J_le, J_inj, J_ne, ne_J, m_lt, lt_m, m_le, le_m, J_cl, J_inB, if_true, if_false, ite_true, ite_false, reduceIte, isZ0, isZ1, J_and31, shrJ0, shlJ0, gI_sA, gL_sA, Nat.reduceEqDiff, Nat.reduceAdd, Nat.reduceMul, Nat.reduceLT, Nat.reduceLeDiff]
        rw [e]
        refine g2.congr (fun t _ => ?_)
        show _ = (decide (j < len u * cps (16 * m + n)) && decide (t < len u * cps (16 * m + n)) && ((decide (j / len u = t / len u) && (fo u (j % len u) (t % len u) || (decide ((16 * m + n) % 16 = 0) && la u (j % len u) && fi u (t % len u)))) || (decide (t / len u = j / len u + 1) && la u (j % len u) && fi u (t % len u))))
        rw [hcps, hmod, decide_eq_true hj, decide_eq_false (show ¬ n = 0 by omega), Bool.true_and, Bool.false_and, Bool.false_and, Bool.or_false]
        generalize hb : j / len u = b at *
        generalize hr : j % len u = r at *
        obtain ⟨t1, t2⟩ := md (t := t) hu
        by_cases htb : t / len u = b
        · obtain ⟨z1, z2⟩ := dm (b := b) (w := len u) (t := t) (by rw [← htb]; exact t1) (by rw [← htb]; exact t2)
          have e1 : b * len u ≤ t := by rw [← htb]; exact t1
          have e2 : ¬ (b + 1) * len u ≤ t := by rw [Nat.succ_mul, ← htb]; omega
          have e3 : t < len u * n := by
            have := Nat.mul_le_mul_left (len u) (show b + 1 ≤ n by omega)
            rw [Nat.mul_succ, Nat.mul_comm (len u) b] at this
            rw [← htb] at this
            omega
          have e4 : ¬ b = b + 1 := by omega
          rw [z2, htb, decide_eq_true e1, decide_eq_false e2, decide_eq_true e3, decide_eq_false e4]
          simp
        · by_cases htb1 : t / len u = b + 1
          · obtain ⟨z1, z2⟩ := dm (b := b + 1) (w := len u) (t := t) (by rw [← htb1]; exact t1) (by rw [← htb1]; exact t2)
            have e1 : (b + 1) * len u ≤ t := by rw [← htb1]; exact t1
            have e0 : b * len u ≤ t := by rw [Nat.succ_mul] at e1; omega
            have e2 : fo u r (t - b * len u) = false := by
              cases hx : fo u r (t - b * len u)
              · rfl
              · have := (fo_lt u _ _ hx).2
                rw [Nat.succ_mul] at e1
                omega
            have e3 : decide (b + 1 < n) = decide (t < len u * n) := decide_eq_decide.mpr (by
              rw [← htb1, Nat.div_lt_iff_lt_mul (by omega), Nat.mul_comm n])
            rw [z2, htb1, e2, decide_eq_true e1, decide_eq_false (show ¬ b = b + 1 by omega), e3]
            simp [Bool.and_assoc]
          · have e1 : (decide (b * len u ≤ t) && fo u r (t - b * len u)) = false := by
              cases hx : fo u r (t - b * len u)
              · simp
              · have hlt := (fo_lt u _ _ hx).2
                by_cases h9 : b * len u ≤ t
                · exact absurd (dm (b := b) (w := len u) (t := t) h9 (by omega)).1 htb
                · rw [decide_eq_false h9]
                  rfl
            have e2 : (decide ((b + 1) * len u ≤ t) && fi u (t - (b + 1) * len u)) = false := by
              cases hx : fi u (t - (b + 1) * len u)
              · simp
              · have hlt := fi_lt u _ hx
                by_cases h9 : (b + 1) * len u ≤ t
                · exact absurd (dm (b := b + 1) (w := len u) (t := t) h9 (by omega)).1 htb1
                · rw [decide_eq_false h9]
                  rfl
            rw [e1, Bool.and_assoc, e2, decide_eq_false (show ¬ b = t / len u from fun h => htb h.symm), decide_eq_false htb1]
            simp
      · have e : gI (sI τ2 46 0 x6) 45 0 = gI τ2 45 0 := by simp (decide := true) (disch := omega) only [letS_d, grd_t, bnd_d, bnd1_d, bndX_d, bndX_e, gI_sI, gI_sL, gL_sL, gL_sI, upd_at, updL_at, J_lit, J_add, J_mul, J_sub, J_lt, J_le, J_inj, J_ne, ne_J, m_lt, lt_m, m_le, le_m, J_cl, J_inB, if_true, if_false, ite_true, ite_false, reduceIte, isZ0, isZ1, J_and31, shrJ0, shlJ0, gI_sA, gL_sA, Nat.reduceEqDiff, Nat.reduceAdd, Nat.reduceMul, Nat.reduceLT, Nat.reduceLeDiff]
        rw [e]
        refine d4.congr (fun t _ => ?_)
        show fi u t = (decide (t < len u) && fi u t)
        by_cases ht : t < len u
        · rw [decide_eq_true ht]
          rfl
        · rw [nf (fi_lt u) (by omega), Bool.and_false]
      · have e : gI (sI τ2 46 0 x6) 46 0 = x6 := by simp (decide := true) (disch := omega) only [letS_d, grd_t, bnd_d, bnd1_d, bndX_d, bndX_e, gI_sI, gI_sL, gL_sL, gL_sI, upd_at, updL_at, J_lit, J_add, J_mul, J_sub, J_lt, J_le, J_inj, J_ne, ne_J, m_lt, lt_m, m_le, le_m, J_cl, J_inB, if_true, if_false, ite_true, ite_false, reduceIte, isZ0, isZ1, J_and31, shrJ0, shlJ0, gI_sA, gL_sA, Nat.reduceEqDiff, Nat.reduceAdd, Nat.reduceMul, Nat.reduceLT, Nat.reduceLeDiff]
        rw [e]
        refine d6.congr (fun t _ => ?_)
        show _ = (decide (t < len u * cps (16 * m + n)) && decide ((16 * m + n) / 16 ≤ t / len u + 1) && la u (t % len u))
        rw [hcps, hdiv]
        have : decide (t / len u < n) = decide (t < len u * n) := decide_eq_decide.mpr (by
          rw [Nat.div_lt_iff_lt_mul (by omega), Nat.mul_comm n])
        rw [this]
    · intro o ho
      obtain ⟨q1, q2⟩ := a3 o (by omega)
      obtain ⟨q3, q4⟩ := b4 o ho
      refine ⟨?_, ?_⟩
      · simp (decide := true) (disch := omega) only [letS_d, grd_t, bnd_d, bnd1_d, bndX_d, bndX_e, gI_sI, gI_sL, gL_sL, gL_sI, upd_at, updL_at, J_lit, J_add, J_mul, J_sub, J_lt, J_le, J_inj, J_ne, ne_J, m_lt, lt_m, m_le, le_m, J_cl, J_inB, if_true, if_false, ite_true, ite_false, reduceIte, isZ0, isZ1, J_and31, shrJ0, shlJ0, gI_sA, gL_sA, Nat.reduceEqDiff, Nat.reduceAdd, Nat.reduceMul, Nat.reduceLT, Nat.reduceLeDiff]
        rw [q3]
        simp (decide := true) (disch := omega) only [letS_d, grd_t, bnd_d, bnd1_d, bndX_d, bndX_e, gI_sI, gI_sL, gL_sL, gL_sI, upd_at, updL_at, J_lit, J_add, J_mul, J_sub, J_lt, J_le, J_inj, J_ne, ne_J, m_lt, lt_m, m_le, le_m, J_cl, J_inB, if_true, if_false, ite_true, ite_false, reduceIte, isZ0, isZ1, J_and31, shrJ0, shlJ0, gI_sA, gL_sA, Nat.reduceEqDiff, Nat.reduceAdd, Nat.reduceMul, Nat.reduceLT, Nat.reduceLeDiff]
        exact q1
      · simp (decide := true) (disch := omega) only [letS_d, grd_t, bnd_d, bnd1_d, bndX_d, bndX_e, gI_sI, gI_sL, gL_sL, gL_sI, upd_at, updL_at, J_lit, J_add, J_mul, J_sub, J_lt, J_le, J_inj, J_ne, ne_J, m_lt, lt_m, m_le, le_m, J_cl, J_inB, if_true, if_false, ite_true, ite_false, reduceIte, isZ0, isZ1, J_and31, shrJ0, shlJ0, gI_sA, gL_sA, Nat.reduceEqDiff, Nat.reduceAdd, Nat.reduceMul, Nat.reduceLT, Nat.reduceLeDiff]
        rw [q4]
        simp (decide := true) (disch := omega) only [letS_d, grd_t, bnd_d, bnd1_d, bndX_d, bndX_e, gI_sI, gI_sL, gL_sL, gL_sI, upd_at, updL_at, J_lit, J_add, J_mul, J_sub, J_lt, J_le, J_inj, J_ne, ne_J, m_lt, lt_m, m_le, le_m, J_cl, J_inB, if_true, if_false, ite_true, ite_false, reduceIte, isZ0, isZ1, J_and31, shrJ0, shlJ0, gI_sA, gL_sA, Nat.reduceEqDiff, Nat.reduceAdd, Nat.reduceMul, Nat.reduceLT, Nat.reduceLeDiff]
        exact q2
  · refine ⟨sI τ 23 0 (J 0), ?_, Fr.i (by decide), Or.inr ⟨by omega, by simp (decide := true) (disch := omega) only [letS_d, grd_t, bnd_d, bnd1_d, bndX_d, bndX_e, gI_sI, gI_sL, gL_sL, gL_sI, upd_at, updL_at, J_lit, J_add, J_mul, J_sub, J_lt, J_le, J_inj, J_ne, ne_J, m_lt, lt_m, m_le, le_m, J_cl, J_inB, if_true, if_false, ite_true, ite_false, reduceIte, isZ0, isZ1, J_and31, shrJ0, shlJ0, gI_sA, gL_sA, Nat.reduceEqDiff, Nat.reduceAdd, Nat.reduceMul, Nat.reduceLT, Nat.reduceLeDiff], K + len u, by omega, h3, by simp (decide := true) (disch := omega) only [letS_d, grd_t, bnd_d, bnd1_d, bndX_d, bndX_e, gI_sI, gI_sL, gL_sL, gL_sI, upd_at, updL_at, J_lit, J_add, J_mul, J_sub, J_lt, J_le, J_inj, J_ne, ne_J, m_lt, lt_m, m_le, le_m, J_cl, J_inB, if_true, if_false, ite_true, ite_false, reduceIte, isZ0, isZ1, J_and31, shrJ0, shlJ0, gI_sA, gL_sA, Nat.reduceEqDiff, Nat.reduceAdd, Nat.reduceMul, Nat.reduceLT, Nat.reduceLeDiff]; exact h2⟩⟩
    simp (decide := true) (disch := omega) only [letS_d, grd_t, bnd_d, bnd1_d, bndX_d, bndX_e, gI_sI, gI_sL, gL_sL, gL_sI, upd_at, updL_at, J_lit, J_add, J_mul, J_sub, J_lt, J_le, J_inj, J_ne, ne_J, m_lt, lt_m, m_le, le_m, J_cl, J_inB, if_true, if_false, ite_true, ite_false, reduceIte, isZ0, isZ1, J_and31, shrJ0, shlJ0, gI_sA, gL_sA, Nat.reduceEqDiff, Nat.reduceAdd, Nat.reduceMul, Nat.reduceLT, Nat.reduceLeDiff, h2, esub, hfit]
/-- the same where it doesn't fit -/
theorem cls_repeatN {K m n : Nat} {τ : St} (hn : n ≤ 9) (hm : m ≤ 9) (h : Nx K τ) : ∃ τ', fX6_repeat N τ (J K) (J m) (J n) = some τ' ∧ Fr [22, 23, 24, 25, 46] τ τ' ∧ Nx K τ' := by
  obtain ⟨h1, k, k1, k2, k3⟩ := h
  have hmul : (k - K) * n ≤ 81 := Nat.mul_le_mul (show k - K ≤ 9 by omega) hn
  unfold fX6_repeat fX1_copyPlaces fX1_copyPlaces_22
  by_cases hfit : K + (k - K) * n ≤ 9
  · exact ⟨τ, by simp (decide := true) (disch := omega) only [letS_d, grd_t, bnd_d, bnd1_d, bndX_d, bndX_e, gI_sI, gI_sL, gL_sL, gL_sI, upd_at, updL_at, J_lit, J_add, J_mul, J_sub, J_lt, J_le, J_inj, J_ne, ne_J, m_lt, lt_m, m_le, le_m, J_cl, J_inB, if_true, if_false, ite_true, ite_false, reduceIte, isZ0, isZ1, J_and31, shrJ0, shlJ0, gI_sA, gL_sA, Nat.reduceEqDiff, Nat.reduceAdd, Nat.reduceMul, Nat.reduceLT, Nat.reduceLeDiff, k3, hfit, h1], Fr.rf, h1, k, k1, k2, k3⟩
  · exact ⟨sI τ 23 0 (J 0), by simp (decide := true) (disch := omega) only [letS_d, grd_t, bnd_d, bnd1_d, bndX_d, bndX_e, gI_sI, gI_sL, gL_sL, gL_sI, upd_at, updL_at, J_lit, J_add, J_mul, J_sub, J_lt, J_le, J_inj, J_ne, ne_J, m_lt, lt_m, m_le, le_m, J_cl, J_inB, if_true, if_false, ite_true, ite_false, reduceIte, isZ0, isZ1, J_and31, shrJ0, shlJ0, gI_sA, gL_sA, Nat.reduceEqDiff, Nat.reduceAdd, Nat.reduceMul, Nat.reduceLT, Nat.reduceLeDiff, k3, hfit], Fr.i (by decide), by simp (decide := true) (disch := omega) only [letS_d, grd_t, bnd_d, bnd1_d, bndX_d, bndX_e, gI_sI, gI_sL, gL_sL, gL_sI, upd_at, updL_at, J_lit, J_add, J_mul, J_sub, J_lt, J_le, J_inj, J_ne, ne_J, m_lt, lt_m, m_le, le_m, J_cl, J_inB, if_true, if_false, ite_true, ite_false, reduceIte, isZ0, isZ1, J_and31, shrJ0, shlJ0, gI_sA, gL_sA, Nat.reduceEqDiff, Nat.reduceAdd, Nat.reduceMul, Nat.reduceLT, Nat.reduceLeDiff], k, k1, k2, by simp (decide := true) (disch := omega) only [letS_d, grd_t, bnd_d, bnd1_d, bndX_d, bndX_e, gI_sI, gI_sL, gL_sL, gL_sI, upd_at, updL_at, J_lit, J_add, J_mul, J_sub, J_lt, J_le, J_inj, J_ne, ne_J, m_lt, lt_m, m_le, le_m, J_cl, J_inB, if_true, if_false, ite_true, ite_false, reduceIte, isZ0, isZ1, J_and31, shrJ0, shlJ0, gI_sA, gL_sA, Nat.reduceEqDiff, Nat.reduceAdd, Nat.reduceMul, Nat.reduceLT, Nat.reduceLeDiff]; exact k3⟩
end RP
