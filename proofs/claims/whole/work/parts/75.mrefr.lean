/-! the reference's reader: properties, and a text -/
section RPR
variable {N ln : Nat} {ch : Nat → Nat}
theorem ref_rule (hN : 200 ≤ N) {f p dep x : Nat} {par : Option Nat} {L : List IT} {σ : St} (hd : dep + 1 + f = 13) (h : RQ ch ln p x ((J 1, pI par, J dep) :: L) σ) (hx : x ≤ 3 * p + 3) (hL : L.length ≤ 4 * dep) (hp : HO (nd σ) par) (hpx : ∀ k, par = some k → k < x) (hc : ch p = 123) (hs : ∀ p x par L σ, RQ ch ln p x ((J 1, pI par, J (dep + 1)) :: L) σ → x ≤ 3 * p + 3 → L.length ≤ 4 * (dep + 1) → HO (nd σ) par → (∀ k, par = some k → k < x) → RO N ch ln p x par L 3 (pP ch f p) σ) : RO N ch ln p x par L 3 (pbind (sP ch f (p + 1)) (fun q s => if ch q = 125 then (if ch (q + 1) = 62 ∨ ch (q + 1) = 58 then pbind (pP ch f (q + 2)) (fun r t => (r, some (if ch (q + 1) = 62 then .div s t else .rem s t))) else (q + 1, none)) else (q, none))) σ := by
  have hpl := h.lt (i := p) (by omega)
  have hln := h.pl
  obtain ⟨σ1, a1, a2, a3, a4, a5⟩ := ref_brace (N := N) h (by omega) (by omega) (by omega) hp hpx hc
  have hsq := ref_seq (N := N) (ln := ln) (ch := ch) hN f (dep + 1) hd (p + 1) (x + 1) _ σ1 a2 (by omega) (by simp only [List.length_cons]; omega) (by rw [a4]; rfl)
  generalize sP ch f (p + 1) = r at hsq ⊢
  obtain ⟨q, s⟩ := r
  cases s with
  | none =>
    obtain ⟨c, b1, b2⟩ := hsq
    exact ⟨1 + c, Bd.pre a1 b1, by omega⟩
  | some s =>
    obtain ⟨c, σ2, b1, b2, b3, b4, b5, b6, b7, b8⟩ := hsq
    have hps := RR_pos s _ b4
    obtain ⟨g1, g2⟩ := ref_sign (N := N) b3 (by simp only [List.length_cons]; omega) (by omega) (by omega)
    show RO N ch ln p x par L 3 (if ch q = 125 then _ else _) σ
    by_cases h125 : ch q = 125
    · rw [if_pos h125]
      obtain ⟨σ3, k1, k2, k3⟩ := g1 h125
      have hq := k2.pl
      obtain ⟨r1, r2⟩ := ref_arrow (N := N) k2 (by simp only [List.length_cons]; omega) (show x < 160 by omega)
      by_cases hk : ch (q + 1) = 62 ∨ ch (q + 1) = 58
      · rw [if_pos hk]
        obtain ⟨σ4, d1, d2, d3⟩ := r1 hk
        have h4x : nd σ4 x = (J (if ch (q + 1) = 62 then 8 else 9), J (x + 1), -J 1, -J 1, -J 1, J 1) := by
          rw [d3 x, if_pos rfl, k3, b6 x (by omega), a3]
          rfl
        have h4i : ∀ i, ¬ i = x → nd σ4 i = nd σ2 i := fun i hi => by rw [d3 i, if_neg hi, k3]
        have hs2 := hs (q + 2) (x + 2 + nN s) (some x) L σ4 (by rw [show x + 2 + nN s = x + 1 + 1 + nN s from by omega]; exact d2) (by omega) (by omega) (fun k hk => by cases hk; exact ⟨by omega, Or.inr ⟨x + 1, by omega, by rw [h4x]; rfl⟩⟩) (fun k hk => by cases hk; omega)
        generalize pP ch f (q + 2) = r2 at hs2 ⊢
        obtain ⟨y, t⟩ := r2
        cases t with
        | none =>
          obtain ⟨c2, e1, e2⟩ := hs2
          exact ⟨1 + (c + (1 + (1 + c2))), Bd.pre a1 (Bd.pre b1 (Bd.pre k1 (Bd.pre d1 e1))), by omega⟩
        | some t =>
          obtain ⟨c2, σ5, e1, e2, e3, e4, e5, e6, e7⟩ := hs2
          have h5x : nd σ5 x = (J (if ch (q + 1) = 62 then 8 else 9), J (x + 1), J (x + 2 + nN s), -J 1, -J 1, J 1) := by
            rw [e5 x (by omega), hangF_at1 (by rw [h4x]; show ¬ J (x + 1) = -J 1; rw [J_ne (by omega)]; exact id), h4x]
            rfl
          have h5i : ∀ i, i < x + 2 + nN s → ¬ i = x → nd σ5 i = nd σ2 i := fun i hi hne => by rw [e5 i hi, hangF_ne hne, h4i i hne]
          have h5s : nd σ5 (x + 1) = (J 10, J (x + 2), -J 1, -J 1, J 1, J 1) := by
            rw [h5i _ (by omega) (by omega), b7, a4]
            rfl
          have hRs : RR (nd σ5) s (x + 2) := RR_keep (z := x) s (x + 2) (by omega) (fun i i1 i2 => by rw [h5i i (by omega) (by omega)]; exact ⟨agB.rf, fun _ => rfl⟩) b4
          have hnb : nB (nd σ5 (lastn s (x + 2))) = -J 1 := by
            have hps2 : x + 2 ≤ lastn s (x + 2) ∧ lastn s (x + 2) < x + 2 + nN s := hps.2
            rw [h5i _ (by omega) (by omega)]
            exact b5
          have hnN : nN (if ch (q + 1) = 62 then Term.div s t else .rem s t) = 2 + nN s + nN t := by split <;> rfl
          have hla : lastn (if ch (q + 1) = 62 then Term.div s t else .rem s t) x = x := by split <;> rfl
          refine ⟨1 + (c + (1 + (1 + c2))), σ5, a1.tr (b1.tr (k1.tr (d1.tr e1))), by omega, ?_, ?_, fun i hi => ?_, by rw [hnN]; omega, hla⟩
          · rw [hnN, show x + (2 + nN s + nN t) = x + 2 + nN s + nN t from by omega]
            exact e3
          · by_cases h62 : ch (q + 1) = 62
            · rw [if_pos h62]
              rw [if_pos h62] at h5x
              exact ⟨by rw [h5x, h5s]; exact ⟨rfl, rfl, rfl, rfl, rfl, hnb⟩, hRs, e4⟩
            · rw [if_neg h62]
              rw [if_neg h62] at h5x
              exact ⟨by rw [h5x, h5s]; exact ⟨rfl, rfl, rfl, rfl, rfl, hnb⟩, hRs, e4⟩
          · rw [h5i i (by omega) (by omega), b6 i (by omega)]
            exact a5 i hi
      · rw [if_neg hk]
        exact ⟨1 + (c + (1 + 2)), Bd.pre a1 (Bd.pre b1 (Bd.pre k1 (r2 hk))), by omega⟩
    · rw [if_neg h125]
      exact ⟨1 + (c + 2), Bd.pre a1 (Bd.pre b1 (g2 h125)), by omega⟩
/-- booleans weigh no more than properties -/
theorem RO.up {p x : Nat} {par : Option Nat} {L : List IT} {r : PR} {σ : St} (h : RO N ch ln p x par L 1 r σ) : RO N ch ln p x par L 3 r σ := by
  obtain ⟨q, t⟩ := r
  cases t with
  | none => exact h
  | some t =>
    obtain ⟨c, σ', h1, h2, h3, h4, h5, h6, h7⟩ := h
    exact ⟨c, σ', h1, h2, h3, h4, h5, by omega, h7⟩
theorem ref_prop (hN : 200 ≤ N) : ∀ f p dep x par L σ, dep + f = 13 → RQ ch ln p x ((J 1, pI par, J dep) :: L) σ → x ≤ 3 * p + 3 → L.length ≤ 4 * dep → HO (nd σ) par → (∀ k, par = some k → k < x) → RO N ch ln p x par L 3 (pP ch f p) σ := by
  intro f
  induction f with
  | zero =>
    intro p dep x par L σ hd h hx hL hp hpx
    exact ⟨2, ref_bad_sp h (by omega) (Or.inl rfl) (by omega) (Or.inl (by omega)), by omega⟩
  | succ f ih =>
    intro p dep x par L σ hd h hx hL hp hpx
    unfold pP
    by_cases c1 : ch p = 71
    · rw [if_pos c1]
      exact ref_un (f := .sum) (by omega) (Or.inl rfl) (by omega) h hx hL hp hpx c1 (Or.inr ⟨rfl, rfl, Or.inl ⟨rfl, rfl⟩⟩) (fun σ1 h1 h2 => ih (p + 1) (dep + 1) (x + 1) (some x) L σ1 (by omega) h1 (by omega) (by omega) h2 (fun k hk => by cases hk; omega)) (fun t => ⟨rfl, rfl, fun F => Iff.rfl⟩) rfl
    · rw [if_neg c1]
      by_cases c2 : ch p = 88
      · rw [if_pos c2]
        exact ref_un (f := .old) (by omega) (Or.inl rfl) (by omega) h hx hL hp hpx c2 (Or.inr ⟨rfl, rfl, Or.inr ⟨rfl, rfl⟩⟩) (fun σ1 h1 h2 => ih (p + 1) (dep + 1) (x + 1) (some x) L σ1 (by omega) h1 (by omega) (by omega) h2 (fun k hk => by cases hk; omega)) (fun t => ⟨rfl, rfl, fun F => Iff.rfl⟩) rfl
      · rw [if_neg c2]
        by_cases c3 : ch p = 123
        · rw [if_pos c3]
          exact ref_rule hN (by omega) h hx hL hp hpx c3 (fun p x par L σ h1 h2 h3 h4 h5 => ih p (dep + 1) x par L σ (by omega) h1 h2 h3 h4 h5)
        · rw [if_neg c3]
          by_cases c4 : ch p = 40
          · rw [if_pos c4]
            refine ref_pair (sp := pP ch f) (by omega) (Or.inl rfl) (by omega) h hx hL hp hpx c4 (fun p x par L σ h1 h2 h3 h4 h5 => ih p (dep + 1) x par L σ (by omega) h1 h2 h3 h4 h5) (by omega) ?_
            generalize pP ch f (p + 1) = r1
            obtain ⟨q, a⟩ := r1
            cases a with
            | none => rfl
            | some a =>
              have hiff : (ch q = 38 ∨ ch q = 124 ∨ (ch q = 87 ∧ 1 = 1)) ↔ (ch q = 38 ∨ ch q = 124 ∨ ch q = 87) := by omega
              refine ⟨fun hk => if_neg (fun h9 => hk (hiff.mpr h9)), fun hk => ?_⟩
              have e : (if ch q = 38 ∨ ch q = 124 ∨ ch q = 87 then pbind (pP ch f (q + 1)) (fun r b => if ch r = 41 then (r + 1, some (if ch q = 38 then Term.add a b else if ch q = 124 then .sub a b else .mul a b)) else (r, none)) else (q, none)) = pbind (pP ch f (q + 1)) (fun r b => if ch r = 41 then (r + 1, some (if ch q = 38 then Term.add a b else if ch q = 124 then .sub a b else .mul a b)) else (r, none)) := if_pos (hiff.mp hk)
              show match pP ch f (q + 1) with
                | (y, none) => (if ch q = 38 ∨ ch q = 124 ∨ ch q = 87 then pbind (pP ch f (q + 1)) (fun r b => if ch r = 41 then (r + 1, some (if ch q = 38 then Term.add a b else if ch q = 124 then .sub a b else .mul a b)) else (r, none)) else (q, none)) = (y, none)
                | (y, some b) => (ch y = 41 → (if ch q = 38 ∨ ch q = 124 ∨ ch q = 87 then pbind (pP ch f (q + 1)) (fun r b => if ch r = 41 then (r + 1, some (if ch q = 38 then Term.add a b else if ch q = 124 then .sub a b else .mul a b)) else (r, none)) else (q, none)) = (y + 1, some (if ch q = 38 then .add a b else if ch q = 124 then .sub a b else .mul a b))) ∧ (¬ ch y = 41 → (if ch q = 38 ∨ ch q = 124 ∨ ch q = 87 then pbind (pP ch f (q + 1)) (fun r b => if ch r = 41 then (r + 1, some (if ch q = 38 then Term.add a b else if ch q = 124 then .sub a b else .mul a b)) else (r, none)) else (q, none)) = (y, none))
              rw [e]
              generalize pP ch f (q + 1) = r2
              obtain ⟨y, b⟩ := r2
              cases b with
              | none => rfl
              | some b => exact ⟨fun h41 => if_pos h41, fun h41 => if_neg h41⟩
          · rw [if_neg c4]
            unfold bP
            by_cases h33 : ch p = 33
            · rw [if_pos h33]
              exact RO.up (ref_un (f := .length) (by omega) (Or.inl rfl) (by omega) h hx hL hp hpx h33 (Or.inl ⟨rfl, rfl, rfl⟩) (fun σ1 h1 h2 => ref_bool f (p + 1) (dep + 1) (x + 1) (some x) L σ1 (by omega) h1 (by omega) (by omega) h2 (fun k hk => by cases hk; omega)) (fun t => ⟨rfl, rfl, fun F => Iff.rfl⟩) rfl)
            · rw [if_neg h33, if_neg c4]
              cases hv : litv (ch p) with
              | none => exact ⟨2, ref_bad_sp h (by omega) (Or.inl rfl) (by omega) (Or.inr ⟨hv, h33, c4, Or.inr ⟨c1, c2, c3⟩⟩), by omega⟩
              | some v => exact ref_letter (by omega) (Or.inl rfl) (by omega) h hx hL hp hpx hv
/-- where a read may end -/
theorem Bd.le {c q : Nat} {σ : St} (h : Bd N c q σ) (hc : c ≤ N) : ∃ σ', fX9_read_27 N N σ = some σ' ∧ Fr RdL σ σ' ∧ gI σ' 12 0 = J 0 ∧ gI σ' 11 0 = J q := by
  obtain ⟨σ', h1, h2, h3, h4, h5⟩ := h
  have h2 : Fr RdL σ σ' ∧ gI σ' 12 0 = J 0 ∧ gI σ' 11 0 = J q := ⟨h2, h3, h4⟩
  refine ⟨σ', ?_, h2⟩
  have := h1 (N - c)
  rw [show N - c + c = N from by omega] at this
  exact this
/-- the reference reads a text -/
theorem ref_read (hN : 1000 ≤ N) {σ : St} (h2 : gI σ 2 0 = J ln) (hln : ln ≤ 40) (htx : ∀ i, i < ln → gI σ 1 i = J (ch i) ∧ 33 ≤ ch i ∧ ch i ≤ 126) (hz : ∀ i, ln ≤ i → ch i = 0) : (∃ q σ', fX9_read N σ = some σ' ∧ Fr RdL σ σ' ∧ gI σ' 12 0 = J 0 ∧ gI σ' 11 0 = J q ∧ (pP ch 13 0 = (q, none) ∨ ∃ t, pP ch 13 0 = (q, some t) ∧ ¬ q = ln)) ∨ (∃ t σ', fX9_read N σ = some σ' ∧ Fr RdL σ σ' ∧ gI σ' 12 0 = J 1 ∧ pP ch 13 0 = (ln, some t) ∧ nN t ≤ 120 ∧ gI σ' 4 0 = J (nN t) ∧ RR (nd σ') t 0 ∧ ∀ i, i < nN t → gI σ' 18 i = -J 1) := by
  have hf0 : Fr [4, 11, 12, 13] σ (sI (sI (sI (sI σ 4 0 (J 0)) 11 0 (J 0)) 13 0 (J 0)) 12 0 (J 1)) := (((Fr.i (by decide)).tr (Fr.i (by decide))).tr (Fr.i (by decide))).tr (Fr.i (by decide))
  have hR : RQ ch ln 0 0 [] (sI (sI (sI (sI σ 4 0 (J 0)) 11 0 (J 0)) 13 0 (J 0)) 12 0 (J 1)) := ⟨⟨by simp (decide := true) (disch := omega) only [letS_d, grd_tt, bnd_d, bnd1_d, bndX_d, bndX_e, gI_at, gI_ne, gI_sL, gL_sL, gL_sI, upd_at, updL_at, J_lit, J_add, J_mul, J_sub, J_lt, J_le, J_inj, J_ne, ne_J, m_lt, lt_m, m_le, le_m, J_cl, J_inB, if_true, if_false, ite_true, ite_false, reduceIte, isZ0, isZ1, J_and31, shrJ0, shlJ0, gI_sA, gL_sA, Nat.reduceEqDiff, Nat.reduceAdd, Nat.reduceMul, Nat.reduceLT, Nat.reduceLeDiff], by simp (decide := true) (disch := omega) only [letS_d, grd_tt, bnd_d, bnd1_d, bndX_d, bndX_e, gI_at, gI_ne, gI_sL, gL_sL, gL_sI, upd_at, updL_at, J_lit, J_add, J_mul, J_sub, J_lt, J_le, J_inj, J_ne, ne_J, m_lt, lt_m, m_le, le_m, J_cl, J_inB, if_true, if_false, ite_true, ite_false, reduceIte, isZ0, isZ1, J_and31, shrJ0, shlJ0, gI_sA, gL_sA, Nat.reduceEqDiff, Nat.reduceAdd, Nat.reduceMul, Nat.reduceLT, Nat.reduceLeDiff]; exact h2, hln, fun i hi => by simp (decide := true) (disch := omega) only [letS_d, grd_tt, bnd_d, bnd1_d, bndX_d, bndX_e, gI_at, gI_ne, gI_sL, gL_sL, gL_sI, upd_at, updL_at, J_lit, J_add, J_mul, J_sub, J_lt, J_le, J_inj, J_ne, ne_J, m_lt, lt_m, m_le, le_m, J_cl, J_inB, if_true, if_false, ite_true, ite_false, reduceIte, isZ0, isZ1, J_and31, shrJ0, shlJ0, gI_sA, gL_sA, Nat.reduceEqDiff, Nat.reduceAdd, Nat.reduceMul, Nat.reduceLT, Nat.reduceLeDiff]; exact htx i hi, hz, by omega⟩, by simp (decide := true) (disch := omega) only [letS_d, grd_tt, bnd_d, bnd1_d, bndX_d, bndX_e, gI_at, gI_ne, gI_sL, gL_sL, gL_sI, upd_at, updL_at, J_lit, J_add, J_mul, J_sub, J_lt, J_le, J_inj, J_ne, ne_J, m_lt, lt_m, m_le, le_m, J_cl, J_inB, if_true, if_false, ite_true, ite_false, reduceIte, isZ0, isZ1, J_and31, shrJ0, shlJ0, gI_sA, gL_sA, Nat.reduceEqDiff, Nat.reduceAdd, Nat.reduceMul, Nat.reduceLT, Nat.reduceLeDiff], by simp (decide := true) (disch := omega) only [letS_d, grd_tt, bnd_d, bnd1_d, bndX_d, bndX_e, gI_at, gI_ne, gI_sL, gL_sL, gL_sI, upd_at, updL_at, J_lit, J_add, J_mul, J_sub, J_lt, J_le, J_inj, J_ne, ne_J, m_lt, lt_m, m_le, le_m, J_cl, J_inB, if_true, if_false, ite_true, ite_false, reduceIte, isZ0, isZ1, J_and31, shrJ0, shlJ0, gI_sA, gL_sA, Nat.reduceEqDiff, Nat.reduceAdd, Nat.reduceMul, Nat.reduceLT, Nat.reduceLeDiff], fun i hi => by omega, by simp (decide := true) (disch := omega) only [letS_d, grd_tt, bnd_d, bnd1_d, bndX_d, bndX_e, gI_at, gI_ne, gI_sL, gL_sL, gL_sI, upd_at, updL_at, J_lit, J_add, J_mul, J_sub, J_lt, J_le, J_inj, J_ne, ne_J, m_lt, lt_m, m_le, le_m, J_cl, J_inB, if_true, if_false, ite_true, ite_false, reduceIte, isZ0, isZ1, J_and31, shrJ0, shlJ0, gI_sA, gL_sA, Nat.reduceEqDiff, Nat.reduceAdd, Nat.reduceMul, Nat.reduceLT, Nat.reduceLeDiff, List.length_nil], trivial⟩
  obtain ⟨σ1, a1, a2, a3, a4⟩ := ref_expect (N := N) hR (by show 0 < 200; omega) (J 1) (-J 1) (J 0)
  have hun : fX9_read N σ = fX9_read_27 N N σ1 := by
    unfold fX9_read
    have a1' : fX9_expect N (sI (sI (sI (sI σ 4 0 (J 0)) 11 0 (J 0)) 13 0 (J 0)) 12 0 (J 1)) (J 1) (-J 1) (J 0) = some σ1 := a1
    simp (decide := true) (disch := omega) only [letS_d, grd_tt, bnd_d, bnd1_d, bndX_d, bndX_e, gI_at, gI_ne, gI_sL, gL_sL, gL_sI, upd_at, updL_at, J_lit, J_add, J_mul, J_sub, J_lt, J_le, J_inj, J_ne, ne_J, m_lt, lt_m, m_le, le_m, J_cl, J_inB, if_true, if_false, ite_true, ite_false, reduceIte, isZ0, isZ1, J_and31, shrJ0, shlJ0, gI_sA, gL_sA, Nat.reduceEqDiff, Nat.reduceAdd, Nat.reduceMul, Nat.reduceLT, Nat.reduceLeDiff, a1']
  have hfr : Fr RdL σ σ1 := (hf0.mono (by decide)).tr a3
  rw [hun]
  have hro := ref_prop (N := N) (ln := ln) (ch := ch) (by omega) 13 0 0 0 none [] σ1 rfl a2 (by omega) (by show 0 ≤ 0; omega) (fun k hk => by cases hk) (fun k hk => by cases hk)
  generalize pP ch 13 0 = r at hro ⊢
  obtain ⟨q, t⟩ := r
  cases t with
  | none =>
    obtain ⟨c, b1, b2⟩ := hro
    left
    have hq : q ≤ 43 := by
      obtain ⟨_, _, _, _, _, h5⟩ := b1
      exact h5
    obtain ⟨σ', d1, d2, d3, d4⟩ : ∃ σ', fX9_read_27 N N σ1 = some σ' ∧ Fr RdL σ1 σ' ∧ gI σ' 12 0 = J 0 ∧ gI σ' 11 0 = J q := b1.le (by omega)
    exact ⟨q, σ', d1, hfr.tr d2, d3, d4, Or.inl rfl⟩
  | some t =>
    obtain ⟨c, σ2, b1, b2, b3, b4, b5, b6, b7⟩ := hro
    have hq := b3.pl
    rw [Nat.zero_add] at b3
    have hread : fX9_read_27 N N σ1 = fX9_read_85 N σ2 := by
      have e := b1.1 (N - c)
      rw [show N - c + c = N from by omega] at e
      rw [e]
      obtain ⟨n, hn⟩ : ∃ n, N - c = n + 1 := ⟨N - c - 1, by omega⟩
      rw [hn, show fX9_read_27 N (n + 1) σ2 = _ from by unfold fX9_read_27; rfl]
      have h12 := b3.2.1
      have h13 : gI σ2 13 0 = J 0 := b3.2.2.2.2.1
      simp (decide := true) (disch := omega) only [letS_d, grd_tt, bnd_d, bnd1_d, bndX_d, bndX_e, gI_at, gI_ne, gI_sL, gL_sL, gL_sI, upd_at, updL_at, J_lit, J_add, J_mul, J_sub, J_lt, J_le, J_inj, J_ne, ne_J, m_lt, lt_m, m_le, le_m, J_cl, J_inB, if_true, if_false, ite_true, ite_false, reduceIte, isZ0, isZ1, J_and31, shrJ0, shlJ0, gI_sA, gL_sA, Nat.reduceEqDiff, Nat.reduceAdd, Nat.reduceMul, Nat.reduceLT, Nat.reduceLeDiff, h12, h13, Nat.le_refl]
    have h11 := b3.1.1
    have h2' := b3.1.2.1
    have h12 := b3.2.1
    by_cases hql : q = ln
    · right
      subst hql
      have f : Fr [12] σ2 (sI σ2 12 0 (J 1)) := Fr.i (by decide)
      refine ⟨t, sI σ2 12 0 (J 1), ?_, (hfr.tr b1.2).tr (f.mono (by decide)), by simp (decide := true) (disch := omega) only [letS_d, grd_tt, bnd_d, bnd1_d, bndX_d, bndX_e, gI_at, gI_ne, gI_sL, gL_sL, gL_sI, upd_at, updL_at, J_lit, J_add, J_mul, J_sub, J_lt, J_le, J_inj, J_ne, ne_J, m_lt, lt_m, m_le, le_m, J_cl, J_inB, if_true, if_false, ite_true, ite_false, reduceIte, isZ0, isZ1, J_and31, shrJ0, shlJ0, gI_sA, gL_sA, Nat.reduceEqDiff, Nat.reduceAdd, Nat.reduceMul, Nat.reduceLT, Nat.reduceLeDiff], rfl, by omega, by simp (decide := true) (disch := omega) only [letS_d, grd_tt, bnd_d, bnd1_d, bndX_d, bndX_e, gI_at, gI_ne, gI_sL, gL_sL, gL_sI, upd_at, updL_at, J_lit, J_add, J_mul, J_sub, J_lt, J_le, J_inj, J_ne, ne_J, m_lt, lt_m, m_le, le_m, J_cl, J_inB, if_true, if_false, ite_true, ite_false, reduceIte, isZ0, isZ1, J_and31, shrJ0, shlJ0, gI_sA, gL_sA, Nat.reduceEqDiff, Nat.reduceAdd, Nat.reduceMul, Nat.reduceLT, Nat.reduceLeDiff]; exact b3.2.2.1, ?_, fun i hi => by simp (decide := true) (disch := omega) only [letS_d, grd_tt, bnd_d, bnd1_d, bndX_d, bndX_e, gI_at, gI_ne, gI_sL, gL_sL, gL_sI, upd_at, updL_at, J_lit, J_add, J_mul, J_sub, J_lt, J_le, J_inj, J_ne, ne_J, m_lt, lt_m, m_le, le_m, J_cl, J_inB, if_true, if_false, ite_true, ite_false, reduceIte, isZ0, isZ1, J_and31, shrJ0, shlJ0, gI_sA, gL_sA, Nat.reduceEqDiff, Nat.reduceAdd, Nat.reduceMul, Nat.reduceLT, Nat.reduceLeDiff]; exact b3.2.2.2.1 i hi⟩
      · rw [hread]
        unfold fX9_read_85 fX9_read_109
        simp (decide := true) (disch := omega) only [letS_d, grd_tt, bnd_d, bnd1_d, bndX_d, bndX_e, gI_at, gI_ne, gI_sL, gL_sL, gL_sI, upd_at, updL_at, J_lit, J_add, J_mul, J_sub, J_lt, J_le, J_inj, J_ne, ne_J, m_lt, lt_m, m_le, le_m, J_cl, J_inB, if_true, if_false, ite_true, ite_false, reduceIte, isZ0, isZ1, J_and31, shrJ0, shlJ0, gI_sA, gL_sA, Nat.reduceEqDiff, Nat.reduceAdd, Nat.reduceMul, Nat.reduceLT, Nat.reduceLeDiff, h12, h11, h2']
      · rw [nd_of f (by decide)]
        exact b4
    · left
      have f : Fr [12] σ2 (sI σ2 12 0 (J 0)) := Fr.i (by decide)
      refine ⟨q, sI σ2 12 0 (J 0), ?_, (hfr.tr b1.2).tr (f.mono (by decide)), by simp (decide := true) (disch := omega) only [letS_d, grd_tt, bnd_d, bnd1_d, bndX_d, bndX_e, gI_at, gI_ne, gI_sL, gL_sL, gL_sI, upd_at, updL_at, J_lit, J_add, J_mul, J_sub, J_lt, J_le, J_inj, J_ne, ne_J, m_lt, lt_m, m_le, le_m, J_cl, J_inB, if_true, if_false, ite_true, ite_false, reduceIte, isZ0, isZ1, J_and31, shrJ0, shlJ0, gI_sA, gL_sA, Nat.reduceEqDiff, Nat.reduceAdd, Nat.reduceMul, Nat.reduceLT, Nat.reduceLeDiff], by simp (decide := true) (disch := omega) only [letS_d, grd_tt, bnd_d, bnd1_d, bndX_d, bndX_e, gI_at, gI_ne, gI_sL, gL_sL, gL_sI, upd_at, updL_at, J_lit, J_add, J_mul, J_sub, J_lt, J_le, J_inj, J_ne, ne_J, m_lt, lt_m, m_le, le_m, J_cl, J_inB, if_true, if_false, ite_true, ite_false, reduceIte, isZ0, isZ1, J_and31, shrJ0, shlJ0, gI_sA, gL_sA, Nat.reduceEqDiff, Nat.reduceAdd, Nat.reduceMul, Nat.reduceLT, Nat.reduceLeDiff]; exact h11, Or.inr ⟨t, rfl, hql⟩⟩
      rw [hread]
      unfold fX9_read_85 fX9_read_108 fX9_read_109
      simp (decide := true) (disch := omega) only [letS_d, grd_tt, bnd_d, bnd1_d, bndX_d, bndX_e, gI_at, gI_ne, gI_sL, gL_sL, gL_sI, upd_at, updL_at, J_lit, J_add, J_mul, J_sub, J_lt, J_le, J_inj, J_ne, ne_J, m_lt, lt_m, m_le, le_m, J_cl, J_inB, if_true, if_false, ite_true, ite_false, reduceIte, isZ0, isZ1, J_and31, shrJ0, shlJ0, gI_sA, gL_sA, Nat.reduceEqDiff, Nat.reduceAdd, Nat.reduceMul, Nat.reduceLT, Nat.reduceLeDiff, h12, h11, h2', hql]
end RPR
