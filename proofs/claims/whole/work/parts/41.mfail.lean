/-! the failing conditions -/
def updB (f : Nat → Bool) (i : Nat) : Nat → Bool := fun j => if j = i then true else f j
def cnt : Nat → (Nat → Bool) → Nat
  | 0, _ => 0
  | n + 1, f => cnt n f + (if f n = true then 1 else 0)
theorem cnt_le (f : Nat → Bool) : ∀ n, cnt n f ≤ n := by
  intro n
  induction n with
  | zero => exact Nat.le_refl _
  | succ n ih =>
    unfold cnt
    split <;> omega
theorem cnt_full (f : Nat → Bool) : ∀ n, n ≤ cnt n f → ∀ i, i < n → f i = true := by
  intro n
  induction n with
  | zero => intro _ i hi; omega
  | succ n ih =>
    intro h i hi
    unfold cnt at h
    have := cnt_le f n
    by_cases hf : f n = true
    · rw [if_pos hf] at h
      by_cases hin : i = n
      · rw [hin]; exact hf
      · exact ih (by omega) i (by omega)
    · rw [if_neg hf] at h
      omega
theorem cnt_upd (f : Nat → Bool) (i : Nat) : ∀ n, cnt n (updB f i) = cnt n f + (if i < n ∧ f i = false then 1 else 0) := by
  intro n
  induction n with
  | zero => rfl
  | succ n ih =>
    unfold cnt
    rw [ih]
    by_cases h : n = i
    · subst h
      have h1 : updB f n n = true := by unfold updB; rw [if_pos rfl]
      rw [h1]
      cases hf : f n
      · simp
      · simp
    · have h1 : updB f i n = f n := by unfold updB; rw [if_neg h]
      rw [h1]
      by_cases hi : i < n
      · have : i < n + 1 := by omega
        simp [hi, this]
        omega
      · have : ¬ i < n + 1 := by omega
        simp [hi, this]
section FAIL
variable {N c : Nat} {ld : Nat → Nat → Nat}
def al (ld : Nat → Nat → Nat) (fl : Nat → Bool) (i : Nat) : Bool := (List.range 8).all (fun l => fl (ld i l))
theorem al_iff {fl : Nat → Bool} {i : Nat} : al ld fl i = true ↔ ∀ l, l < 8 → fl (ld i l) = true := by
  unfold al
  rw [List.all_eq_true]
  exact ⟨fun h l hl => h l (List.mem_range.mpr hl), fun h l hl => h l (List.mem_range.mp hl)⟩
def rd (ld : Nat → Nat → Nat) : Nat → Nat → (Nat → Bool) → Nat → Bool
  | 0, _, fl => fl
  | f + 1, i, fl => rd ld f (i + 1) (if al ld fl i = true then updB fl i else fl)
def mo (ld : Nat → Nat → Nat) : Nat → Nat → (Nat → Bool) → Bool
  | 0, _, _ => false
  | f + 1, i, fl => (al ld fl i && !fl i) || mo ld f (i + 1) (if al ld fl i = true then updB fl i else fl)
def Rr (ld : Nat → Nat → Nat) (c : Nat) : Nat → (Nat → Bool) → Nat → Bool
  | 0, fl => fl
  | k + 1, fl => Rr ld c k (rd ld c 0 fl)
theorem upd_same {fl : Nat → Bool} {i : Nat} (h : (al ld fl i && !fl i) = false) : (if al ld fl i = true then updB fl i else fl) = fl := by
  by_cases ha : al ld fl i = true
  · rw [if_pos ha]
    rw [ha] at h
    funext j
    unfold updB
    by_cases hj : j = i
    · rw [if_pos hj, hj]
      simpa using h
    · rw [if_neg hj]
  · rw [if_neg ha]
theorem rd_same : ∀ f i fl, mo ld f i fl = false → rd ld f i fl = fl := by
  intro f
  induction f with
  | zero => intro i fl _; rfl
  | succ f ih =>
    intro i fl h
    unfold mo at h
    rw [Bool.or_eq_false_iff] at h
    unfold rd
    have e := upd_same h.1
    rw [e]
    rw [e] at h
    exact ih (i + 1) fl h.2
theorem Rr_same {fl : Nat → Bool} (h : mo ld c 0 fl = false) : ∀ k, Rr ld c k fl = fl := by
  intro k
  induction k with
  | zero => rfl
  | succ k ih =>
    unfold Rr
    rw [rd_same c 0 fl h]
    exact ih
theorem rd_cnt : ∀ f i fl, i + f ≤ c → cnt c fl + (if mo ld f i fl = true then 1 else 0) ≤ cnt c (rd ld f i fl) := by
  intro f
  induction f with
  | zero => intro i fl _; unfold mo rd; simp
  | succ f ih =>
    intro i fl hi
    have h1 := ih (i + 1) (if al ld fl i = true then updB fl i else fl) (by omega)
    unfold mo rd
    by_cases ha : al ld fl i = true
    · rw [if_pos ha] at h1 ⊢
      rw [cnt_upd] at h1
      have hic : i < c := by omega
      cases hf : fl i
      · have e : (al ld fl i && !false || mo ld f (i + 1) (updB fl i)) = true := by rw [ha]; rfl
        rw [if_pos e]
        rw [if_pos ⟨hic, hf⟩] at h1
        omega
      · have e : (al ld fl i && !true || mo ld f (i + 1) (updB fl i)) = mo ld f (i + 1) (updB fl i) := by rw [ha]; rfl
        rw [e]
        omega
    · rw [if_neg ha] at h1 ⊢
      have e : (al ld fl i && !fl i || mo ld f (i + 1) fl) = mo ld f (i + 1) fl := by
        cases hx : al ld fl i
        · rfl
        · exact absurd hx ha
      rw [e]
      exact h1
theorem mo_full {fl : Nat → Bool} (h : ∀ i, i < c → fl i = true) : ∀ f i, i + f ≤ c → mo ld f i fl = false := by
  intro f
  induction f with
  | zero => intro i _; rfl
  | succ f ih =>
    intro i hi
    unfold mo
    have hf := h i (by omega)
    have e : (al ld fl i && !fl i) = false := by rw [hf]; simp
    rw [upd_same e, e]
    exact ih (i + 1) (by omega)
/-- after c rounds there is nothing left to find -/
theorem Rr_stable : ∀ k fl, c ≤ k + cnt c fl → mo ld c 0 (Rr ld c k fl) = false := by
  intro k
  induction k with
  | zero =>
    intro fl h
    exact mo_full (cnt_full fl c (by omega)) c 0 (by omega)
  | succ k ih =>
    intro fl h
    unfold Rr
    cases hm : mo ld c 0 fl
    · rw [rd_same c 0 fl hm, Rr_same hm]
      exact hm
    · have := rd_cnt (ld := ld) (c := c) c 0 fl (by omega)
      rw [if_pos hm] at this
      exact ih _ (by omega)
theorem Rr_succ : ∀ k (fl : Nat → Bool), Rr ld c (k + 1) fl = rd ld c 0 (Rr ld c k fl) := by
  intro k
  induction k with
  | zero => intro fl; rfl
  | succ k ih => intro fl; exact ih (rd ld c 0 fl)
theorem mo_no : ∀ f i fl, mo ld f i fl = false → ∀ j, i ≤ j → j < i + f → al ld fl j = true → fl j = true := by
  intro f
  induction f with
  | zero => intro i fl _ j h1 h2; omega
  | succ f ih =>
    intro i fl h j h1 h2 h3
    unfold mo at h
    rw [Bool.or_eq_false_iff] at h
    have e := upd_same h.1
    rw [e] at h
    by_cases hj : j = i
    · subst hj
      rw [h3] at h
      simpa using h.1
    · exact ih (i + 1) fl h.2 j (by omega) (by omega) h3
theorem rd_mono : ∀ f i fl j, fl j = true → rd ld f i fl j = true := by
  intro f
  induction f with
  | zero => intro i fl j h; exact h
  | succ f ih =>
    intro i fl j h
    unfold rd
    refine ih _ _ j ?_
    split
    · unfold updB
      split
      · rfl
      · exact h
    · exact h
theorem rd_cl : ∀ f i fl, (∀ j, fl j = true → al ld fl j = true) → ∀ j, rd ld f i fl j = true → al ld (rd ld f i fl) j = true := by
  intro f
  induction f with
  | zero => intro i fl h j hj; exact h j hj
  | succ f ih =>
    intro i fl h j hj
    unfold rd at hj ⊢
    refine ih (i + 1) _ ?_ j hj
    by_cases ha : al ld fl i = true
    · rw [if_pos ha]
      intro k hk
      rw [al_iff]
      intro l hl
      have h1 : fl (ld k l) = true := by
        unfold updB at hk
        by_cases hki : k = i
        · subst hki
          exact al_iff.mp ha l hl
        · rw [if_neg hki] at hk
          exact al_iff.mp (h k hk) l hl
      unfold updB
      split
      · rfl
      · exact h1
    · rw [if_neg ha]
      exact h
theorem Rr_cl : ∀ k fl, (∀ j, fl j = true → al ld fl j = true) → ∀ j, Rr ld c k fl j = true → al ld (Rr ld c k fl) j = true := by
  intro k
  induction k with
  | zero => intro fl h j hj; exact h j hj
  | succ k ih => intro fl h j hj; exact ih _ (rd_cl c 0 fl h) j hj
/-- count and leads of the conditions, on both sides -/
def Ls (c : Nat) (ld : Nat → Nat → Nat) (τ σ : St) : Prop := 1 ≤ c ∧ c ≤ 40 ∧ gI τ 66 0 = J c ∧ gI σ 34 0 = J c ∧ ∀ i l, i < c → l < 8 → ld i l < c ∧ gI τ 62 (8 * i + l) = J (ld i l) ∧ gI σ 36 (8 * i + l) = J (ld i l)
theorem Ls.fr {τ τ' σ σ' : St} {S S' : List Nat} (h : Ls c ld τ σ) (f : Fr S τ τ') (f' : Fr S' σ σ') (d : ∀ k ∈ [62, 66], k ∉ S) (d' : ∀ k ∈ [34, 36], k ∉ S') : Ls c ld τ' σ' := by
  unfold Ls
  rw [f.gi (d 62 (by decide)), f.gi (d 66 (by decide)), f'.gi (d' 34 (by decide)), f'.gi (d' 36 (by decide))]
  exact h
theorem nar_zb (x : Bool) : vp_nar .boolean (zb x) = zb x := by cases x <;> rfl
theorem nar_z1 : vp_nar .boolean (J 1) = J 1 := rfl
theorem nar_z0 : vp_nar .boolean (J 0) = J 0 := rfl
theorem zb_eq0 (x : Bool) : (zb x = J 0) = (x = false) := by
  cases x
  · exact propext ⟨fun _ => rfl, fun _ => rfl⟩
  · exact propext ⟨fun h => absurd h (by decide), fun h => by cases h⟩
/-- class: whether all letters lead to failing ones -/
theorem cls_all {τ σ : St} {fl : Nat → Bool} (h : Ls c ld τ σ) (hF : ∀ i, i < c → gI τ 73 i = zb (fl i)) {i : Nat} (hi : i < c) : ∀ f l n, l + f = 8 → f < n → (∀ k, k < l → fl (ld i k) = true) → fX4_leadsToFailingOnly_2 N n τ (J i) (J l) = some (zb (al ld fl i), τ) := by
  obtain ⟨h1, h2, h3, h4, h5⟩ := h
  intro f
  induction f with
  | zero =>
    intro l n hl hn hk
    obtain ⟨n, rfl⟩ : ∃ k, n = k + 1 := ⟨n - 1, by omega⟩
    obtain rfl : l = 8 := by omega
    have : al ld fl i = true := al_iff.mpr hk
    unfold fX4_leadsToFailingOnly_2
    simp (decide := true) (disch := omega) only [letS_d, grd_t, bnd_d, bnd1_d, bndX_d, bndX_e, gI_sI, gI_sL, gL_sL, gL_sI, upd_at, updL_at, J_lit, J_add, J_mul, J_sub, J_lt, J_le, J_inj, J_ne, ne_J, m_lt, lt_m, m_le, le_m, J_cl, J_inB, if_true, if_false, ite_true, ite_false, reduceIte, isZ0, isZ1, J_and31, shrJ0, shlJ0, gI_sA, gL_sA, Nat.reduceEqDiff, Nat.reduceAdd, Nat.reduceMul, Nat.reduceLT, Nat.reduceLeDiff, Nat.le_refl, this, zb_t]
  | succ f ih =>
    intro l n hl hn hk
    obtain ⟨n, rfl⟩ : ∃ k, n = k + 1 := ⟨n - 1, by omega⟩
    obtain ⟨a1, a2, a3⟩ := h5 i l hi (by omega)
    unfold fX4_leadsToFailingOnly_2 fX3_lead
    have h8 : ¬ 8 ≤ l := by omega
    have e8 : i * 8 = 8 * i := Nat.mul_comm _ _
    have hz := hF (ld i l) a1
    cases hfl : fl (ld i l)
    · have : al ld fl i = false := by
        cases ha : al ld fl i
        · rfl
        · have := al_iff.mp ha l (by omega)
          rw [hfl] at this
          cases this
      rw [hfl, zb_f] at hz
      simp (decide := true) (disch := omega) only [letS_d, grd_t, bnd_d, bnd1_d, bndX_d, bndX_e, gI_sI, gI_sL, gL_sL, gL_sI, upd_at, updL_at, J_lit, J_add, J_mul, J_sub, J_lt, J_le, J_inj, J_ne, ne_J, m_lt, lt_m, m_le, le_m, J_cl, J_inB, if_true, if_false, ite_true, ite_false, reduceIte, isZ0, isZ1, J_and31, shrJ0, shlJ0, gI_sA, gL_sA, Nat.reduceEqDiff, Nat.reduceAdd, Nat.reduceMul, Nat.reduceLT, Nat.reduceLeDiff, h8, e8, a2, hz, this, zb_f]
    · rw [hfl, zb_t] at hz
      have := ih (l + 1) n (by omega) (by omega) (fun k hk1 => by
        by_cases hkl : k = l
        · subst hkl; exact hfl
        · exact hk k (by omega))
      simp (decide := true) (disch := omega) only [letS_d, grd_t, bnd_d, bnd1_d, bndX_d, bndX_e, gI_sI, gI_sL, gL_sL, gL_sI, upd_at, updL_at, J_lit, J_add, J_mul, J_sub, J_lt, J_le, J_inj, J_ne, ne_J, m_lt, lt_m, m_le, le_m, J_cl, J_inB, if_true, if_false, ite_true, ite_false, reduceIte, isZ0, isZ1, J_and31, shrJ0, shlJ0, gI_sA, gL_sA, Nat.reduceEqDiff, Nat.reduceAdd, Nat.reduceMul, Nat.reduceLT, Nat.reduceLeDiff, h8, e8, a2, hz]
      exact this
/-- class: a round -/
theorem cls_round (hN : 100 ≤ N) {σ : St} (k37 : St → Int32 → Int32 → Option St) {r : Nat} : ∀ f i n (τ : St) fl (m0 : Bool), i + f = c → f < n → Ls c ld τ σ → (∀ i, i < c → gI τ 73 i = zb (fl i)) → ∃ τ', fX4_markFailing_51 N k37 n τ (zb m0) (J r) (J i) = k37 τ' (zb (m0 || mo ld f i fl)) (J (r + 1)) ∧ Fr [73] τ τ' ∧ ∀ i', i' < c → gI τ' 73 i' = zb (rd ld f i fl i') := by
  intro f
  induction f with
  | zero =>
    intro i n τ fl m0 hi hn hL hF
    obtain ⟨n, rfl⟩ : ∃ k, n = k + 1 := ⟨n - 1, by omega⟩
    obtain ⟨h1, h2, h3, h4, h5⟩ := id hL
    unfold fX4_markFailing_51
    have : c ≤ i := by omega
    refine ⟨τ, ?_, Fr.rf, hF⟩
    unfold mo
    simp (decide := true) (disch := omega) only [letS_d, grd_t, bnd_d, bnd1_d, bndX_d, bndX_e, gI_sI, gI_sL, gL_sL, gL_sI, upd_at, updL_at, J_lit, J_add, J_mul, J_sub, J_lt, J_le, J_inj, J_ne, ne_J, m_lt, lt_m, m_le, le_m, J_cl, J_inB, if_true, if_false, ite_true, ite_false, reduceIte, isZ0, isZ1, J_and31, shrJ0, shlJ0, gI_sA, gL_sA, Nat.reduceEqDiff, Nat.reduceAdd, Nat.reduceMul, Nat.reduceLT, Nat.reduceLeDiff, h3, this, Bool.or_false]
  | succ f ih =>
    intro i n τ fl m0 hi hn hL hF
    obtain ⟨n, rfl⟩ : ∃ k, n = k + 1 := ⟨n - 1, by omega⟩
    obtain ⟨h1, h2, h3, h4, h5⟩ := id hL
    have hci : ¬ c ≤ i := by omega
    have hz := hF i (by omega)
    have hall := cls_all (N := N) hL hF (show i < c by omega) 8 0 N (by omega) (by omega) (fun k hk => by omega)
    rw [show fX4_markFailing_51 N k37 (n + 1) τ (zb m0) (J r) (J i) = _ from by unfold fX4_markFailing_51; rfl]
    unfold mo rd
    cases hfi : fl i
    · rw [hfi, zb_f] at hz
      cases ha : al ld fl i
      · rw [ha, zb_f] at hall
        obtain ⟨τ', e1, e2, e3⟩ := ih (i + 1) n τ fl m0 (by omega) (by omega) hL hF
        refine ⟨τ', ?_, e2, fun i' hi' => ?_⟩
        · simp (decide := true) (disch := omega) only [letS_d, grd_t, bnd_d, bnd1_d, bndX_d, bndX_e, gI_sI, gI_sL, gL_sL, gL_sI, upd_at, updL_at, J_lit, J_add, J_mul, J_sub, J_lt, J_le, J_inj, J_ne, ne_J, m_lt, lt_m, m_le, le_m, J_cl, J_inB, if_true, if_false, ite_true, ite_false, reduceIte, isZ0, isZ1, J_and31, shrJ0, shlJ0, gI_sA, gL_sA, Nat.reduceEqDiff, Nat.reduceAdd, Nat.reduceMul, Nat.reduceLT, Nat.reduceLeDiff, h3, hci, hz, fX4_leadsToFailingOnly, hall, fX4_markFailing_88, Bool.false_and, Bool.false_or, Bool.false_eq_true]
          exact e1
        · rw [if_neg (by decide)]
          exact e3 i' hi'
      · rw [ha, zb_t] at hall
        obtain ⟨τ', e1, e2, e3⟩ := ih (i + 1) n (sI τ 73 i (J 1)) (updB fl i) true (by omega) (by omega) (hL.fr (S := [73]) (S' := []) (Fr.i (by decide)) Fr.rf (by decide) (by decide)) (fun i' hi' => by
          unfold updB
          by_cases hii : i' = i
          · simp (decide := true) (disch := omega) only [letS_d, grd_t, bnd_d, bnd1_d, bndX_d, bndX_e, gI_sI, gI_sL, gL_sL, gL_sI, upd_at, updL_at, J_lit, J_add, J_mul, J_sub, J_lt, J_le, J_inj, J_ne, ne_J, m_lt, lt_m, m_le, le_m, J_cl, J_inB, if_true, if_false, ite_true, ite_false, reduceIte, isZ0, isZ1, J_and31, shrJ0, shlJ0, gI_sA, gL_sA, Nat.reduceEqDiff, Nat.reduceAdd, Nat.reduceMul, Nat.reduceLT, Nat.reduceLeDiff, hii, zb_t]
          · simp (decide := true) (disch := omega) only [letS_d, grd_t, bnd_d, bnd1_d, bndX_d, bndX_e, gI_sI, gI_sL, gL_sL, gL_sI, upd_at, updL_at, J_lit, J_add, J_mul, J_sub, J_lt, J_le, J_inj, J_ne, ne_J, m_lt, lt_m, m_le, le_m, J_cl, J_inB, if_true, if_false, ite_true, ite_false, reduceIte, isZ0, isZ1, J_and31, shrJ0, shlJ0, gI_sA, gL_sA, Nat.reduceEqDiff, Nat.reduceAdd, Nat.reduceMul, Nat.reduceLT, Nat.reduceLeDiff, hii]
            exact hF i' hi')
        refine ⟨τ', ?_, (Fr.i (by decide)).tr e2, fun i' hi' => ?_⟩
        · simp (decide := true) (disch := omega) only [letS_d, grd_t, bnd_d, bnd1_d, bndX_d, bndX_e, gI_sI, gI_sL, gL_sL, gL_sI, upd_at, updL_at, J_lit, J_add, J_mul, J_sub, J_lt, J_le, J_inj, J_ne, ne_J, m_lt, lt_m, m_le, le_m, J_cl, J_inB, if_true, if_false, ite_true, ite_false, reduceIte, isZ0, isZ1, J_and31, shrJ0, shlJ0, gI_sA, gL_sA, Nat.reduceEqDiff, Nat.reduceAdd, Nat.reduceMul, Nat.reduceLT, Nat.reduceLeDiff, h3, hci, hz, fX4_leadsToFailingOnly, hall, fX4_markFailing_88, nar_z1, Bool.true_and, Bool.true_or, Bool.or_true, Bool.not_false]
          rw [zb_t, Bool.true_or] at e1
          exact e1
        · rw [if_pos rfl]
          exact e3 i' hi'
    · rw [hfi, zb_t] at hz
      obtain ⟨τ', e1, e2, e3⟩ := ih (i + 1) n τ fl m0 (by omega) (by omega) hL hF
      have hsame : (if al ld fl i = true then updB fl i else fl) = fl := upd_same (by rw [hfi]; simp)
      refine ⟨τ', ?_, e2, fun i' hi' => ?_⟩
      · rw [hsame]
        simp (decide := true) (disch := omega) only [letS_d, grd_t, bnd_d, bnd1_d, bndX_d, bndX_e, gI_sI, gI_sL, gL_sL, gL_sI, upd_at, updL_at, J_lit, J_add, J_mul, J_sub, J_lt, J_le, J_inj, J_ne, ne_J, m_lt, lt_m, m_le, le_m, J_cl, J_inB, if_true, if_false, ite_true, ite_false, reduceIte, isZ0, isZ1, J_and31, shrJ0, shlJ0, gI_sA, gL_sA, Nat.reduceEqDiff, Nat.reduceAdd, Nat.reduceMul, Nat.reduceLT, Nat.reduceLeDiff, h3, hci, hz, fX4_markFailing_88, Bool.not_true, Bool.and_false, Bool.false_or]
        exact e1
      · rw [hsame]
        exact e3 i' hi'
theorem cls_rounds (hN : 100 ≤ N) {σ : St} : ∀ f r n (τ : St) fl, r + f = 40 → f < n → Ls c ld τ σ → (∀ i, i < c → gI τ 73 i = zb (fl i)) → ∃ τ', fX4_markFailing_37 N n τ (J 1) (J r) = some τ' ∧ Fr [73] τ τ' ∧ ∀ i, i < c → gI τ' 73 i = zb (Rr ld c f fl i) := by
  intro f
  induction f with
  | zero =>
    intro r n τ fl hr hn hL hF
    obtain ⟨n, rfl⟩ : ∃ k, n = k + 1 := ⟨n - 1, by omega⟩
    obtain rfl : r = 40 := by omega
    unfold fX4_markFailing_37
    exact ⟨τ, by simp (decide := true) (disch := omega) only [letS_d, grd_t, bnd_d, bnd1_d, bndX_d, bndX_e, gI_sI, gI_sL, gL_sL, gL_sI, upd_at, updL_at, J_lit, J_add, J_mul, J_sub, J_lt, J_le, J_inj, J_ne, ne_J, m_lt, lt_m, m_le, le_m, J_cl, J_inB, if_true, if_false, ite_true, ite_false, reduceIte, isZ0, isZ1, J_and31, shrJ0, shlJ0, gI_sA, gL_sA, Nat.reduceEqDiff, Nat.reduceAdd, Nat.reduceMul, Nat.reduceLT, Nat.reduceLeDiff, Nat.le_refl], Fr.rf, hF⟩
  | succ f ih =>
    intro r n τ fl hr hn hL hF
    obtain ⟨n, rfl⟩ : ∃ k, n = k + 1 := ⟨n - 1, by omega⟩
    have hc := hL.2.1
    obtain ⟨τ1, a1, a2, a3⟩ := cls_round (N := N) hN (σ := σ) (fX4_markFailing_37 N n) (r := r) c 0 N τ fl false (by omega) (by omega) hL hF
    have hr' : ¬ 40 ≤ r := by omega
    rw [show fX4_markFailing_37 N (n + 1) τ (J 1) (J r) = _ from by unfold fX4_markFailing_37; rfl]
    rw [Bool.false_or, zb_f] at a1
    unfold Rr
    cases hm : mo ld c 0 fl
    · rw [rd_same c 0 fl hm, Rr_same hm]
      rw [hm, zb_f] at a1
      rw [rd_same c 0 fl hm] at a3
      refine ⟨τ1, ?_, a2, a3⟩
      simp (decide := true) (disch := omega) only [letS_d, grd_t, bnd_d, bnd1_d, bndX_d, bndX_e, gI_sI, gI_sL, gL_sL, gL_sI, upd_at, updL_at, J_lit, J_add, J_mul, J_sub, J_lt, J_le, J_inj, J_ne, ne_J, m_lt, lt_m, m_le, le_m, J_cl, J_inB, if_true, if_false, ite_true, ite_false, reduceIte, isZ0, isZ1, J_and31, shrJ0, shlJ0, gI_sA, gL_sA, Nat.reduceEqDiff, Nat.reduceAdd, Nat.reduceMul, Nat.reduceLT, Nat.reduceLeDiff, hr']
      rw [a1]
      obtain ⟨n, rfl⟩ : ∃ k, n = k + 1 := ⟨n - 1, by omega⟩
      unfold fX4_markFailing_37
      by_cases h40 : 40 ≤ r + 1
      · simp (decide := true) (disch := omega) only [letS_d, grd_t, bnd_d, bnd1_d, bndX_d, bndX_e, gI_sI, gI_sL, gL_sL, gL_sI, upd_at, updL_at, J_lit, J_add, J_mul, J_sub, J_lt, J_le, J_inj, J_ne, ne_J, m_lt, lt_m, m_le, le_m, J_cl, J_inB, if_true, if_false, ite_true, ite_false, reduceIte, isZ0, isZ1, J_and31, shrJ0, shlJ0, gI_sA, gL_sA, Nat.reduceEqDiff, Nat.reduceAdd, Nat.reduceMul, Nat.reduceLT, Nat.reduceLeDiff, h40]
      · simp (decide := true) (disch := omega) only [letS_d, grd_t, bnd_d, bnd1_d, bndX_d, bndX_e, gI_sI, gI_sL, gL_sL, gL_sI, upd_at, updL_at, J_lit, J_add, J_mul, J_sub, J_lt, J_le, J_inj, J_ne, ne_J, m_lt, lt_m, m_le, le_m, J_cl, J_inB, if_true, if_false, ite_true, ite_false, reduceIte, isZ0, isZ1, J_and31, shrJ0, shlJ0, gI_sA, gL_sA, Nat.reduceEqDiff, Nat.reduceAdd, Nat.reduceMul, Nat.reduceLT, Nat.reduceLeDiff, h40]
    · rw [hm, zb_t] at a1
      obtain ⟨τ', e1, e2, e3⟩ := ih (r + 1) n τ1 (rd ld c 0 fl) (by omega) (by omega) (hL.fr (S' := []) a2 Fr.rf (by decide) (by decide)) a3
      refine ⟨τ', ?_, a2.tr e2, e3⟩
      simp (decide := true) (disch := omega) only [letS_d, grd_t, bnd_d, bnd1_d, bndX_d, bndX_e, gI_sI, gI_sL, gL_sL, gL_sI, upd_at, updL_at, J_lit, J_add, J_mul, J_sub, J_lt, J_le, J_inj, J_ne, ne_J, m_lt, lt_m, m_le, le_m, J_cl, J_inB, if_true, if_false, ite_true, ite_false, reduceIte, isZ0, isZ1, J_and31, shrJ0, shlJ0, gI_sA, gL_sA, Nat.reduceEqDiff, Nat.reduceAdd, Nat.reduceMul, Nat.reduceLT, Nat.reduceLeDiff, hr']
      exact a1.trans e1
/-- reference: whether all letters lead to failing ones -/
theorem ref_all {τ σ : St} {fl : Nat → Bool} (h : Ls c ld τ σ) (hF : ∀ i, i < c → gI σ 37 i = zb (fl i)) {i r : Nat} {x1 : Int32} (hi : i < c) (k47 : St → Int32 → Int32 → Option St) (k61 : St → Int32 → Int32 → Int32 → Option St) : ∀ f l n (a : Bool), l + f = 8 → f < n → fX9_fail_75 N k47 k61 n σ x1 (J r) (J i) (zb a) (J l) = fX9_fail_75 N k47 k61 (n - f) σ x1 (J r) (J i) (zb (a && (List.range' l f).all (fun l => fl (ld i l)))) (J 8) := by
  obtain ⟨h1, h2, h3, h4, h5⟩ := h
  intro f
  induction f with
  | zero =>
    intro l n a hl hn
    obtain rfl : l = 8 := by omega
    simp
  | succ f ih =>
    intro l n a hl hn
    obtain ⟨n, rfl⟩ : ∃ k, n = k + 1 := ⟨n - 1, by omega⟩
    obtain ⟨a1, a2, a3⟩ := h5 i l hi (by omega)
    rw [show fX9_fail_75 N k47 k61 (n + 1) σ x1 (J r) (J i) (zb a) (J l) = _ from by unfold fX9_fail_75; rfl]
    have h8 : ¬ 8 ≤ l := by omega
    have hz := hF (ld i l) a1
    have e : n + 1 - (f + 1) = n - f := by omega
    rw [e, List.range'_succ, List.all_cons]
    cases a
    · have := ih (l + 1) n false (by omega) (by omega)
      simp (decide := true) (disch := omega) only [letS_d, grd_t, bnd_d, bnd1_d, bndX_d, bndX_e, gI_sI, gI_sL, gL_sL, gL_sI, upd_at, updL_at, J_lit, J_add, J_mul, J_sub, J_lt, J_le, J_inj, J_ne, ne_J, m_lt, lt_m, m_le, le_m, J_cl, J_inB, if_true, if_false, ite_true, ite_false, reduceIte, isZ0, isZ1, J_and31, shrJ0, shlJ0, gI_sA, gL_sA, Nat.reduceEqDiff, Nat.reduceAdd, Nat.reduceMul, Nat.reduceLT, Nat.reduceLeDiff, h8, zb_f, fX9_fail_111, fX9_fail_112, Bool.false_and]
      rw [Bool.false_and, zb_f] at this
      exact this
    · cases hfl : fl (ld i l)
      · have := ih (l + 1) n false (by omega) (by omega)
        rw [hfl, zb_f] at hz
        simp (decide := true) (disch := omega) only [letS_d, grd_t, bnd_d, bnd1_d, bndX_d, bndX_e, gI_sI, gI_sL, gL_sL, gL_sI, upd_at, updL_at, J_lit, J_add, J_mul, J_sub, J_lt, J_le, J_inj, J_ne, ne_J, m_lt, lt_m, m_le, le_m, J_cl, J_inB, if_true, if_false, ite_true, ite_false, reduceIte, isZ0, isZ1, J_and31, shrJ0, shlJ0, gI_sA, gL_sA, Nat.reduceEqDiff, Nat.reduceAdd, Nat.reduceMul, Nat.reduceLT, Nat.reduceLeDiff, h8, zb_t, a3, hz, fX9_fail_111, fX9_fail_112, Bool.false_and, Bool.and_false]
        rw [Bool.false_and, zb_f] at this
        rw [zb_f]
        exact this
      · have := ih (l + 1) n true (by omega) (by omega)
        rw [hfl, zb_t] at hz
        simp (decide := true) (disch := omega) only [letS_d, grd_t, bnd_d, bnd1_d, bndX_d, bndX_e, gI_sI, gI_sL, gL_sL, gL_sI, upd_at, updL_at, J_lit, J_add, J_mul, J_sub, J_lt, J_le, J_inj, J_ne, ne_J, m_lt, lt_m, m_le, le_m, J_cl, J_inB, if_true, if_false, ite_true, ite_false, reduceIte, isZ0, isZ1, J_and31, shrJ0, shlJ0, gI_sA, gL_sA, Nat.reduceEqDiff, Nat.reduceAdd, Nat.reduceMul, Nat.reduceLT, Nat.reduceLeDiff, h8, zb_t, a3, hz, fX9_fail_112, Bool.true_and]
        rw [Bool.true_and, zb_t] at this
        exact this
theorem ref_round (hN : 100 ≤ N) {τ : St} (k47 : St → Int32 → Int32 → Option St) {r : Nat} : ∀ f i n (σ : St) fl (m0 : Bool), i + f = c → f < n → Ls c ld τ σ → (∀ i, i < c → gI σ 37 i = zb (fl i)) → ∃ σ', fX9_fail_61 N k47 n σ (zb m0) (J r) (J i) = k47 σ' (zb (m0 || mo ld f i fl)) (J (r + 1)) ∧ Fr [37] σ σ' ∧ ∀ i', i' < c → gI σ' 37 i' = zb (rd ld f i fl i') := by
  intro f
  induction f with
  | zero =>
    intro i n σ fl m0 hi hn hL hF
    obtain ⟨n, rfl⟩ : ∃ k, n = k + 1 := ⟨n - 1, by omega⟩
    obtain ⟨h1, h2, h3, h4, h5⟩ := id hL
    unfold fX9_fail_61
    have : c ≤ i := by omega
    refine ⟨σ, ?_, Fr.rf, hF⟩
    unfold mo
    simp (decide := true) (disch := omega) only [letS_d, grd_t, bnd_d, bnd1_d, bndX_d, bndX_e, gI_sI, gI_sL, gL_sL, gL_sI, upd_at, updL_at, J_lit, J_add, J_mul, J_sub, J_lt, J_le, J_inj, J_ne, ne_J, m_lt, lt_m, m_le, le_m, J_cl, J_inB, if_true, if_false, ite_true, ite_false, reduceIte, isZ0, isZ1, J_and31, shrJ0, shlJ0, gI_sA, gL_sA, Nat.reduceEqDiff, Nat.reduceAdd, Nat.reduceMul, Nat.reduceLT, Nat.reduceLeDiff, h4, this, Bool.or_false]
  | succ f ih =>
    intro i n σ fl m0 hi hn hL hF
    obtain ⟨n, rfl⟩ : ∃ k, n = k + 1 := ⟨n - 1, by omega⟩
    obtain ⟨h1, h2, h3, h4, h5⟩ := id hL
    have hci : ¬ c ≤ i := by omega
    have hz := hF i (by omega)
    have hall := ref_all (N := N) (x1 := zb m0) (r := r) hL hF (show i < c by omega) k47 (fX9_fail_61 N k47 n) 8 0 N true (by omega) (by omega)
    rw [Bool.true_and, zb_t, ← List.range_eq_range'] at hall
    obtain ⟨M, hM⟩ : ∃ k, N - 8 = k + 1 := ⟨N - 8 - 1, by omega⟩
    rw [hM] at hall
    have hal : (List.range 8).all (fun l => fl (ld i l)) = al ld fl i := rfl
    rw [hal] at hall
    obtain ⟨σ', e1, e2, e3⟩ := ih (i + 1) n (sI σ 37 i (zb (fl i || al ld fl i))) (if al ld fl i = true then updB fl i else fl) (m0 || (al ld fl i && !fl i)) (by omega) (by omega) (hL.fr (S := []) (S' := [37]) Fr.rf (Fr.i (by decide)) (by decide) (by decide)) (fun i' hi' => by
      by_cases hii : i' = i
      · subst hii
        simp (decide := true) (disch := omega) only [letS_d, grd_t, bnd_d, bnd1_d, bndX_d, bndX_e, gI_sI, gI_sL, gL_sL, gL_sI, upd_at, updL_at, J_lit, J_add, J_mul, J_sub, J_lt, J_le, J_inj, J_ne, ne_J, m_lt, lt_m, m_le, le_m, J_cl, J_inB, if_true, if_false, ite_true, ite_false, reduceIte, isZ0, isZ1, J_and31, shrJ0, shlJ0, gI_sA, gL_sA, Nat.reduceEqDiff, Nat.reduceAdd, Nat.reduceMul, Nat.reduceLT, Nat.reduceLeDiff]
        cases hx : al ld fl i'
        · rw [if_neg (by decide), Bool.or_false]
        · rw [if_pos rfl]
          unfold updB
          rw [if_pos rfl, Bool.or_true]
      · simp (decide := true) (disch := omega) only [letS_d, grd_t, bnd_d, bnd1_d, bndX_d, bndX_e, gI_sI, gI_sL, gL_sL, gL_sI, upd_at, updL_at, J_lit, J_add, J_mul, J_sub, J_lt, J_le, J_inj, J_ne, ne_J, m_lt, lt_m, m_le, le_m, J_cl, J_inB, if_true, if_false, ite_true, ite_false, reduceIte, isZ0, isZ1, J_and31, shrJ0, shlJ0, gI_sA, gL_sA, Nat.reduceEqDiff, Nat.reduceAdd, Nat.reduceMul, Nat.reduceLT, Nat.reduceLeDiff, hii]
        rw [hF i' hi']
        cases hx : al ld fl i
        · rw [if_neg (by decide)]
        · rw [if_pos rfl]
          unfold updB
          rw [if_neg hii])
    refine ⟨σ', ?_, (Fr.i (by decide)).tr e2, fun i' hi' => ?_⟩
    · rw [show fX9_fail_61 N k47 (n + 1) σ (zb m0) (J r) (J i) = _ from by unfold fX9_fail_61; rfl]
      simp (decide := true) (disch := omega) only [letS_d, grd_t, bnd_d, bnd1_d, bndX_d, bndX_e, gI_sI, gI_sL, gL_sL, gL_sI, upd_at, updL_at, J_lit, J_add, J_mul, J_sub, J_lt, J_le, J_inj, J_ne, ne_J, m_lt, lt_m, m_le, le_m, J_cl, J_inB, if_true, if_false, ite_true, ite_false, reduceIte, isZ0, isZ1, J_and31, shrJ0, shlJ0, gI_sA, gL_sA, Nat.reduceEqDiff, Nat.reduceAdd, Nat.reduceMul, Nat.reduceLT, Nat.reduceLeDiff, h4, hci]
      rw [hall]
      unfold mo
      rw [← Bool.or_assoc, ← e1]
      unfold fX9_fail_75
      cases hx : al ld fl i
      · cases hf : fl i
        · rw [hf, zb_f] at hz
          cases m0
          · simp (decide := true) (disch := omega) only [letS_d, grd_t, bnd_d, bnd1_d, bndX_d, bndX_e, gI_sI, gI_sL, gL_sL, gL_sI, upd_at, updL_at, J_lit, J_add, J_mul, J_sub, J_lt, J_le, J_inj, J_ne, ne_J, m_lt, lt_m, m_le, le_m, J_cl, J_inB, if_true, if_false, ite_true, ite_false, reduceIte, isZ0, isZ1, J_and31, shrJ0, shlJ0, gI_sA, gL_sA, Nat.reduceEqDiff, Nat.reduceAdd, Nat.reduceMul, Nat.reduceLT, Nat.reduceLeDiff, Nat.le_refl, zb_f, fX9_fail_142, fX9_fail_143, hz, fX9_fail_168, nar_z0, Bool.false_and, Bool.or_false]
          · simp (decide := true) (disch := omega) only [letS_d, grd_t, bnd_d, bnd1_d, bndX_d, bndX_e, gI_sI, gI_sL, gL_sL, gL_sI, upd_at, updL_at, J_lit, J_add, J_mul, J_sub, J_lt, J_le, J_inj, J_ne, ne_J, m_lt, lt_m, m_le, le_m, J_cl, J_inB, if_true, if_false, ite_true, ite_false, reduceIte, isZ0, isZ1, J_and31, shrJ0, shlJ0, gI_sA, gL_sA, Nat.reduceEqDiff, Nat.reduceAdd, Nat.reduceMul, Nat.reduceLT, Nat.reduceLeDiff, Nat.le_refl, zb_f, zb_t, fX9_fail_138, fX9_fail_143, hz, fX9_fail_168, nar_z0, Bool.false_and, Bool.or_false]
        · rw [hf, zb_t] at hz
          cases m0
          · simp (decide := true) (disch := omega) only [letS_d, grd_t, bnd_d, bnd1_d, bndX_d, bndX_e, gI_sI, gI_sL, gL_sL, gL_sI, upd_at, updL_at, J_lit, J_add, J_mul, J_sub, J_lt, J_le, J_inj, J_ne, ne_J, m_lt, lt_m, m_le, le_m, J_cl, J_inB, if_true, if_false, ite_true, ite_false, reduceIte, isZ0, isZ1, J_and31, shrJ0, shlJ0, gI_sA, gL_sA, Nat.reduceEqDiff, Nat.reduceAdd, Nat.reduceMul, Nat.reduceLT, Nat.reduceLeDiff, Nat.le_refl, zb_f, zb_t, fX9_fail_142, fX9_fail_143, hz, fX9_fail_163, fX9_fail_168, nar_z1, Bool.false_and, Bool.or_false]
          · simp (decide := true) (disch := omega) only [letS_d, grd_t, bnd_d, bnd1_d, bndX_d, bndX_e, gI_sI, gI_sL, gL_sL, gL_sI, upd_at, updL_at, J_lit, J_add, J_mul, J_sub, J_lt, J_le, J_inj, J_ne, ne_J, m_lt, lt_m, m_le, le_m, J_cl, J_inB, if_true, if_false, ite_true, ite_false, reduceIte, isZ0, isZ1, J_and31, shrJ0, shlJ0, gI_sA, gL_sA, Nat.reduceEqDiff, Nat.reduceAdd, Nat.reduceMul, Nat.reduceLT, Nat.reduceLeDiff, Nat.le_refl, zb_f, zb_t, fX9_fail_138, fX9_fail_143, hz, fX9_fail_163, fX9_fail_168, nar_z1, Bool.false_and, Bool.or_false]
      · cases hf : fl i
        · rw [hf, zb_f] at hz
          cases m0
          · simp (decide := true) (disch := omega) only [letS_d, grd_t, bnd_d, bnd1_d, bndX_d, bndX_e, gI_sI, gI_sL, gL_sL, gL_sI, upd_at, updL_at, J_lit, J_add, J_mul, J_sub, J_lt, J_le, J_inj, J_ne, ne_J, m_lt, lt_m, m_le, le_m, J_cl, J_inB, if_true, if_false, ite_true, ite_false, reduceIte, isZ0, isZ1, J_and31, shrJ0, shlJ0, gI_sA, gL_sA, Nat.reduceEqDiff, Nat.reduceAdd, Nat.reduceMul, Nat.reduceLT, Nat.reduceLeDiff, Nat.le_refl, zb_f, zb_t, fX9_fail_138, fX9_fail_143, hz, fX9_fail_163, fX9_fail_168, nar_z1, Bool.true_and, Bool.or_true, Bool.false_or, Bool.not_false]
          · simp (decide := true) (disch := omega) only [letS_d, grd_t, bnd_d, bnd1_d, bndX_d, bndX_e, gI_sI, gI_sL, gL_sL, gL_sI, upd_at, updL_at, J_lit, J_add, J_mul, J_sub, J_lt, J_le, J_inj, J_ne, ne_J, m_lt, lt_m, m_le, le_m, J_cl, J_inB, if_true, if_false, ite_true, ite_false, reduceIte, isZ0, isZ1, J_and31, shrJ0, shlJ0, gI_sA, gL_sA, Nat.reduceEqDiff, Nat.reduceAdd, Nat.reduceMul, Nat.reduceLT, Nat.reduceLeDiff, Nat.le_refl, zb_f, zb_t, fX9_fail_138, fX9_fail_143, hz, fX9_fail_163, fX9_fail_168, nar_z1, Bool.true_and, Bool.or_true, Bool.not_false]
        · rw [hf, zb_t] at hz
          cases m0
          · simp (decide := true) (disch := omega) only [letS_d, grd_t, bnd_d, bnd1_d, bndX_d, bndX_e, gI_sI, gI_sL, gL_sL, gL_sI, upd_at, updL_at, J_lit, J_add, J_mul, J_sub, J_lt, J_le, J_inj, J_ne, ne_J, m_lt, lt_m, m_le, le_m, J_cl, J_inB, if_true, if_false, ite_true, ite_false, reduceIte, isZ0, isZ1, J_and31, shrJ0, shlJ0, gI_sA, gL_sA, Nat.reduceEqDiff, Nat.reduceAdd, Nat.reduceMul, Nat.reduceLT, Nat.reduceLeDiff, Nat.le_refl, zb_f, zb_t, fX9_fail_142, fX9_fail_143, hz, fX9_fail_163, fX9_fail_168, nar_z1, Bool.true_and, Bool.or_true, Bool.not_true, Bool.or_false]
          · simp (decide := true) (disch := omega) only [letS_d, grd_t, bnd_d, bnd1_d, bndX_d, bndX_e, gI_sI, gI_sL, gL_sL, gL_sI, upd_at, updL_at, J_lit, J_add, J_mul, J_sub, J_lt, J_le, J_inj, J_ne, ne_J, m_lt, lt_m, m_le, le_m, J_cl, J_inB, if_true, if_false, ite_true, ite_false, reduceIte, isZ0, isZ1, J_and31, shrJ0, shlJ0, gI_sA, gL_sA, Nat.reduceEqDiff, Nat.reduceAdd, Nat.reduceMul, Nat.reduceLT, Nat.reduceLeDiff, Nat.le_refl, zb_f, zb_t, fX9_fail_138, fX9_fail_143, hz, fX9_fail_163, fX9_fail_168, nar_z1, Bool.true_and, Bool.or_true, Bool.not_true, Bool.or_false]
    · unfold rd
      exact e3 i' hi'
theorem ref_rounds (hN : 100 ≤ N) {τ : St} : ∀ f r n (σ : St) fl, r + f = 41 → f < n → Ls c ld τ σ → (∀ i, i < c → gI σ 37 i = zb (fl i)) → ∃ σ', fX9_fail_47 N n σ (J 1) (J r) = some σ' ∧ Fr [37] σ σ' ∧ ∀ i, i < c → gI σ' 37 i = zb (Rr ld c f fl i) := by
  intro f
  induction f with
  | zero =>
    intro r n σ fl hr hn hL hF
    obtain ⟨n, rfl⟩ : ∃ k, n = k + 1 := ⟨n - 1, by omega⟩
    obtain rfl : r = 41 := by omega
    unfold fX9_fail_47
    exact ⟨σ, by simp (decide := true) (disch := omega) only [letS_d, grd_t, bnd_d, bnd1_d, bndX_d, bndX_e, gI_sI, gI_sL, gL_sL, gL_sI, upd_at, updL_at, J_lit, J_add, J_mul, J_sub, J_lt, J_le, J_inj, J_ne, ne_J, m_lt, lt_m, m_le, le_m, J_cl, J_inB, if_true, if_false, ite_true, ite_false, reduceIte, isZ0, isZ1, J_and31, shrJ0, shlJ0, gI_sA, gL_sA, Nat.reduceEqDiff, Nat.reduceAdd, Nat.reduceMul, Nat.reduceLT, Nat.reduceLeDiff], Fr.rf, hF⟩
  | succ f ih =>
    intro r n σ fl hr hn hL hF
    obtain ⟨n, rfl⟩ : ∃ k, n = k + 1 := ⟨n - 1, by omega⟩
    have hc := hL.2.1
    obtain ⟨σ1, a1, a2, a3⟩ := ref_round (N := N) hN (τ := τ) (fX9_fail_47 N n) (r := r) c 0 N σ fl false (by omega) (by omega) hL hF
    have hr' : ¬ 40 < r := by omega
    rw [show fX9_fail_47 N (n + 1) σ (J 1) (J r) = _ from by unfold fX9_fail_47; rfl]
    rw [Bool.false_or, zb_f] at a1
    unfold Rr
    cases hm : mo ld c 0 fl
    · rw [rd_same c 0 fl hm, Rr_same hm]
      rw [hm, zb_f] at a1
      rw [rd_same c 0 fl hm] at a3
      refine ⟨σ1, ?_, a2, a3⟩
      simp (decide := true) (disch := omega) only [letS_d, grd_t, bnd_d, bnd1_d, bndX_d, bndX_e, gI_sI, gI_sL, gL_sL, gL_sI, upd_at, updL_at, J_lit, J_add, J_mul, J_sub, J_lt, J_le, J_inj, J_ne, ne_J, m_lt, lt_m, m_le, le_m, J_cl, J_inB, if_true, if_false, ite_true, ite_false, reduceIte, isZ0, isZ1, J_and31, shrJ0, shlJ0, gI_sA, gL_sA, Nat.reduceEqDiff, Nat.reduceAdd, Nat.reduceMul, Nat.reduceLT, Nat.reduceLeDiff, hr']
      rw [a1]
      obtain ⟨n, rfl⟩ : ∃ k, n = k + 1 := ⟨n - 1, by omega⟩
      unfold fX9_fail_47
      by_cases h40 : 40 < r + 1
      · simp (decide := true) (disch := omega) only [letS_d, grd_t, bnd_d, bnd1_d, bndX_d, bndX_e, gI_sI, gI_sL, gL_sL, gL_sI, upd_at, updL_at, J_lit, J_add, J_mul, J_sub, J_lt, J_le, J_inj, J_ne, ne_J, m_lt, lt_m, m_le, le_m, J_cl, J_inB, if_true, if_false, ite_true, ite_false, reduceIte, isZ0, isZ1, J_and31, shrJ0, shlJ0, gI_sA, gL_sA, Nat.reduceEqDiff, Nat.reduceAdd, Nat.reduceMul, Nat.reduceLT, Nat.reduceLeDiff, h40]
      · simp (decide := true) (disch := omega) only [letS_d, grd_t, bnd_d, bnd1_d, bndX_d, bndX_e, gI_sI, gI_sL, gL_sL, gL_sI, upd_at, updL_at, J_lit, J_add, J_mul, J_sub, J_lt, J_le, J_inj, J_ne, ne_J, m_lt, lt_m, m_le, le_m, J_cl, J_inB, if_true, if_false, ite_true, ite_false, reduceIte, isZ0, isZ1, J_and31, shrJ0, shlJ0, gI_sA, gL_sA, Nat.reduceEqDiff, Nat.reduceAdd, Nat.reduceMul, Nat.reduceLT, Nat.reduceLeDiff, h40]
    · rw [hm, zb_t] at a1
      obtain ⟨σ', e1, e2, e3⟩ := ih (r + 1) n σ1 (rd ld c 0 fl) (by omega) (by omega) (hL.fr (S := []) Fr.rf a2 (by decide) (by decide)) a3
      refine ⟨σ', ?_, a2.tr e2, e3⟩
      simp (decide := true) (disch := omega) only [letS_d, grd_t, bnd_d, bnd1_d, bndX_d, bndX_e, gI_sI, gI_sL, gL_sL, gL_sI, upd_at, updL_at, J_lit, J_add, J_mul, J_sub, J_lt, J_le, J_inj, J_ne, ne_J, m_lt, lt_m, m_le, le_m, J_cl, J_inB, if_true, if_false, ite_true, ite_false, reduceIte, isZ0, isZ1, J_and31, shrJ0, shlJ0, gI_sA, gL_sA, Nat.reduceEqDiff, Nat.reduceAdd, Nat.reduceMul, Nat.reduceLT, Nat.reduceLeDiff, hr']
      exact a1.trans e1
end FAIL
