/-! the class's tables of what is asked -/
section FLL
variable {N : Nat}
theorem bm_has {b : Term} {l : Nat} (hl : l < 8) : bt (J (bm b)) l = bs b l := by
  rw [J_bits l (by omega), bm_bit, decide_eq_true hl, Bool.true_and]
theorem cls_withAll {τ : St} {k w : Nat} {x : Int32} (hk : k ≤ 9) (hw : w < 8) (h53 : gI τ 53 0 = J k) : ∀ f o n x3, o + f = k → f < n → ∃ y, fX0_withAll_7 N n τ x (J w) x3 (J o) = some (y, τ) ∧ ∀ j, j < 64 → (bl y j = true ↔ (bl x3 j = true ∧ ∀ o', o ≤ o' → o' < k → bt x o' = true → (64 * w + j).testBit o' = true)) := by
  intro f
  induction f with
  | zero =>
    intro o n x3 ho hn
    obtain ⟨n, rfl⟩ : ∃ k, n = k + 1 := ⟨n - 1, by omega⟩
    obtain rfl : o = k := by omega
    refine ⟨x3, ?_, fun j hj => ⟨fun h => ⟨h, fun o' h1 h2 => by omega⟩, fun h => h.1⟩⟩
    unfold fX0_withAll_7
    simp (decide := true) (disch := omega) only [letS_d, grd_tt, bnd_d, bnd1_d, bndX_d, bndX_e, gI_at, gI_ne, gI_sL, gL_sL, gL_sI, upd_at, updL_at, J_lit, J_add, J_mul, J_sub, J_lt, J_le, J_inj, J_ne, ne_J, m_lt, lt_m, m_le, le_m, J_cl, J_inB, if_true, if_false, ite_true, ite_false, reduceIte, isZ0, isZ1, J_and31, shrJ0, shlJ0, gI_sA, gL_sA, Nat.reduceEqDiff, Nat.reduceAdd, Nat.reduceMul, Nat.reduceLT, Nat.reduceLeDiff, h53, Nat.le_refl]
  | succ f ih =>
    intro o n x3 ho hn
    obtain ⟨n, rfl⟩ : ∃ k, n = k + 1 := ⟨n - 1, by omega⟩
    have h1 : ¬ k ≤ o := by omega
    have hh := has8 (N := N) (τ := τ) (x := x) (o := o) (by omega)
    rw [show fX0_withAll_7 N (n + 1) τ x (J w) x3 (J o) = _ from by unfold fX0_withAll_7; rfl]
    cases hb : bt x o
    · rw [hb, zb_f] at hh
      obtain ⟨y, e1, e2⟩ := ih (o + 1) n x3 (by omega) (by omega)
      refine ⟨y, ?_, fun j hj => (e2 j hj).trans ⟨fun h => ⟨h.1, fun o' h1 h2 h3 => ?_⟩, fun h => ⟨h.1, fun o' h1 h2 h3 => h.2 o' (by omega) h2 h3⟩⟩⟩
      · simp (decide := true) (disch := omega) only [letS_d, grd_tt, bnd_d, bnd1_d, bndX_d, bndX_e, gI_at, gI_ne, gI_sL, gL_sL, gL_sI, upd_at, updL_at, J_lit, J_add, J_mul, J_sub, J_lt, J_le, J_inj, J_ne, ne_J, m_lt, lt_m, m_le, le_m, J_cl, J_inB, if_true, if_false, ite_true, ite_false, reduceIte, isZ0, isZ1, J_and31, shrJ0, shlJ0, gI_sA, gL_sA, Nat.reduceEqDiff, Nat.reduceAdd, Nat.reduceMul, Nat.reduceLT, Nat.reduceLeDiff, h53, h1, hh, fX0_withAll_34]
        exact e1
      · by_cases he : o' = o
        · subst he
          rw [hb] at h3
          cases h3
        · exact h.2 o' (by omega) h2 h3
    · rw [hb, zb_t] at hh
      obtain ⟨z, z1, z2⟩ := cls_with (N := N) (τ := τ) (o := o) (show o < 9 by omega) hw
      obtain ⟨y, e1, e2⟩ := ih (o + 1) n (x3 &&& z) (by omega) (by omega)
      refine ⟨y, ?_, fun j hj => (e2 j hj).trans ?_⟩
      · simp (decide := true) (disch := omega) only [letS_d, grd_tt, bnd_d, bnd1_d, bndX_d, bndX_e, gI_at, gI_ne, gI_sL, gL_sL, gL_sI, upd_at, updL_at, J_lit, J_add, J_mul, J_sub, J_lt, J_le, J_inj, J_ne, ne_J, m_lt, lt_m, m_le, le_m, J_cl, J_inB, if_true, if_false, ite_true, ite_false, reduceIte, isZ0, isZ1, J_and31, shrJ0, shlJ0, gI_sA, gL_sA, Nat.reduceEqDiff, Nat.reduceAdd, Nat.reduceMul, Nat.reduceLT, Nat.reduceLeDiff, h53, h1, hh, z1, fX0_withAll_34]
        exact e1
      · rw [bl_and, Bool.and_eq_true, z2 j hj]
        constructor
        · rintro ⟨⟨q1, q2⟩, q3⟩
          refine ⟨q1, fun o' h1 h2 h3 => ?_⟩
          by_cases he : o' = o
          · subst he
            exact q2
          · exact q3 o' (by omega) h2 h3
        · rintro ⟨q1, q2⟩
          exact ⟨⟨q1, q2 o (Nat.le_refl _) (by omega) hb⟩, fun o' h1 h2 h3 => q2 o' (by omega) h2 h3⟩
/-- what a rule's node and places must hold -/
def RLH (τ : St) (i K k : Nat) (s : Term) : Prop := gI τ 35 i = J K ∧ gI τ 36 i = J (K + len s) ∧ Mk (gI τ 37 i) K (fi s) ∧ Mk (gI τ 38 i) K (la s) ∧ Plc K s τ ∧ gI τ 53 0 = J k
theorem RLH.fr {τ τ' : St} {i K k : Nat} {s : Term} {S : List Nat} (h : RLH τ i K k s) (f : Fr S τ τ') (d : ∀ k ∈ [24, 25, 35, 36, 37, 38, 53], k ∉ S) : RLH τ' i K k s := by
  obtain ⟨h1, h2, h3, h4, h5, h6⟩ := h
  refine ⟨by rw [f.gi (d 35 (by decide))]; exact h1, by rw [f.gi (d 36 (by decide))]; exact h2, by rw [f.gi (d 37 (by decide))]; exact h3, by rw [f.gi (d 38 (by decide))]; exact h4, fun j hj => ?_, by rw [f.gi (d 53 (by decide))]; exact h6⟩
  rw [f.gi (d 24 (by decide)), f.gi (d 25 (by decide))]
  exact h5 j hj
theorem cls_rule1 (hN : 100 ≤ N) {i K k l w x : Nat} {s : Term} {V : Nat → Nat → Nat → Bool} {thn : Nat → Bool} {atE : Int64} (hi : i < 40) (hk : k ≤ 9) (hKk : K + len s ≤ k) (hl : l < 8) (hw : w < 8) (hE : ∀ j, j < 64 → bl atE j = thn j) (hV : ∀ j, j < 64 → ∀ p, p < len s → V j x (p + 1) = (64 * w + j).testBit (K + p)) : ∀ f p n (τ : St) x6, p + f = len s → f < n → RLH τ i K k s → ∃ y τ', fX0_askedByRule_11 N n τ i atE (J l) (J w) x6 (J (K + p)) = some (y, τ') ∧ Fr [51] τ τ' ∧ (∀ z, (∀ p', p ≤ p' → p' < len s → ¬ z = (l * 9 + (K + p')) * 8 + w) → gL τ' 51 z = gL τ 51 z) ∧ (∀ p', p ≤ p' → p' < len s → ∀ j, j < 64 → bl (gL τ' 51 ((l * 9 + (K + p')) * 8 + w)) j = qs (V j) l s x (thn j) p') ∧ ∀ j, j < 64 → (bl y j = true ↔ (bl x6 j = true ∧ ∀ p', p ≤ p' → p' < len s → fi s p' = true → qs (V j) l s x (thn j) p' = true)) := by
  intro f
  have hd : decide (i < 40) = true := decide_eq_true hi
  induction f with
  | zero =>
    intro p n τ x6 hp hn hR
    obtain ⟨n, rfl⟩ : ∃ k, n = k + 1 := ⟨n - 1, by omega⟩
    have h36 := hR.2.1
    have hle : K + len s ≤ K + p := by omega
    refine ⟨x6, τ, ?_, Fr.rf, fun _ _ => rfl, fun p' h1 h2 => by omega, fun j hj => ⟨fun h => ⟨h, fun p' h1 h2 => by omega⟩, fun h => h.1⟩⟩
    unfold fX0_askedByRule_11
    simp (decide := true) (disch := omega) only [letS_d, grd_tt, bnd_d, bnd1_d, bndX_d, bndX_e, gI_at, gI_ne, gI_sL, gL_sL, gL_sI, upd_at, updL_at, J_lit, J_add, J_mul, J_sub, J_lt, J_le, J_inj, J_ne, ne_J, m_lt, lt_m, m_le, le_m, J_cl, J_inB, if_true, if_false, ite_true, ite_false, reduceIte, isZ0, isZ1, J_and31, shrJ0, shlJ0, gI_sA, gL_sA, Nat.reduceEqDiff, Nat.reduceAdd, Nat.reduceMul, Nat.reduceLT, Nat.reduceLeDiff, h36, hd, decide_true, hle]
  | succ f ih =>
    intro p n τ x6 hp hn hR
    obtain ⟨n, rfl⟩ : ∃ k, n = k + 1 := ⟨n - 1, by omega⟩
    obtain ⟨h35, h36, h37, h38, hP, h53⟩ := id hR
    have hpl : p < len s := by omega
    have hlt : ¬ K + len s ≤ K + p := by omega
    obtain ⟨q1, q2⟩ := hP p hpl
    have hb := bm_has (b := pl s p) hl
    have hh := has8 (N := N) (τ := τ) (x := J (bm (pl s p))) (o := l) (by omega)
    rw [hb] at hh
    have fin : ∀ (a : Int64), (∀ j, j < 64 → bl a j = qs (V j) l s x (thn j) p) → ∃ y τ', fX0_askedByRule_85 N (fX0_askedByRule_11 N n) τ i atE (J l) (J w) x6 (J (K + p)) a = some (y, τ') ∧ Fr [51] τ τ' ∧ (∀ z, (∀ p', p ≤ p' → p' < len s → ¬ z = (l * 9 + (K + p')) * 8 + w) → gL τ' 51 z = gL τ 51 z) ∧ (∀ p', p ≤ p' → p' < len s → ∀ j, j < 64 → bl (gL τ' 51 ((l * 9 + (K + p')) * 8 + w)) j = qs (V j) l s x (thn j) p') ∧ ∀ j, j < 64 → (bl y j = true ↔ (bl x6 j = true ∧ ∀ p', p ≤ p' → p' < len s → fi s p' = true → qs (V j) l s x (thn j) p' = true)) := by
      intro a ha
      have f1 : Fr [51] τ (sL τ 51 ((l * 9 + (K + p)) * 8 + w) a) := Fr.l (by decide)
      have hfi : bt (gI (sL τ 51 ((l * 9 + (K + p)) * 8 + w) a) 37 i) (K + p) = fi s p := by
        rw [f1.gi (by decide)]
        exact h37.at (by omega)
      have hh2 := has8 (N := N) (τ := sL τ 51 ((l * 9 + (K + p)) * 8 + w) a) (x := gI (sL τ 51 ((l * 9 + (K + p)) * 8 + w) a) 37 i) (o := K + p) (by omega)
      rw [hfi] at hh2
      have hidx : (l * 9 + (K + p)) * 8 + w < 576 := by omega
      have hrow1 : fX0_row N τ (J l) (J (K + p)) = some (J ((l * 9 + (K + p)) * 8), τ) := by
        unfold fX0_row
        simp (decide := true) (disch := omega) only [letS_d, grd_tt, bnd_d, bnd1_d, bndX_d, bndX_e, gI_at, gI_ne, gI_sL, gL_sL, gL_sI, upd_at, updL_at, J_lit, J_add, J_mul, J_sub, J_lt, J_le, J_inj, J_ne, ne_J, m_lt, lt_m, m_le, le_m, J_cl, J_inB, if_true, if_false, ite_true, ite_false, reduceIte, isZ0, isZ1, J_and31, shrJ0, shlJ0, gI_sA, gL_sA, Nat.reduceEqDiff, Nat.reduceAdd, Nat.reduceMul, Nat.reduceLT, Nat.reduceLeDiff]
      obtain ⟨y, τ', e1, e2, e3, e4, e5⟩ := ih (p + 1) n (sL τ 51 ((l * 9 + (K + p)) * 8 + w) a) (x6 &&& (if fi s p = true then a else -1)) (by omega) (by omega) (hR.fr f1 (by decide))
      have hput : fX0_askedByRule_85 N (fX0_askedByRule_11 N n) τ i atE (J l) (J w) x6 (J (K + p)) a = fX0_askedByRule_11 N n (sL τ 51 ((l * 9 + (K + p)) * 8 + w) a) i atE (J l) (J w) (x6 &&& (if fi s p = true then a else -1)) (J (K + (p + 1))) := by
        unfold fX0_askedByRule_85 fX0_askedByRule_124
        rw [hrow1, bnd_d, J_add, J_inB hidx (by omega), grd_t, J_cl (by omega), letS_d, hd, grd_t, hh2, bnd_d]
        cases fi s p
        · rw [zb_f, if_pos (show J 0 = (0 : Int32) from rfl)]
          simp (decide := true) (disch := omega) only [letS_d, grd_tt, bnd_d, bnd1_d, bndX_d, bndX_e, gI_at, gI_ne, gI_sL, gL_sL, gL_sI, upd_at, updL_at, J_lit, J_add, J_mul, J_sub, J_lt, J_le, J_inj, J_ne, ne_J, m_lt, lt_m, m_le, le_m, J_cl, J_inB, if_true, if_false, ite_true, ite_false, reduceIte, isZ0, isZ1, J_and31, shrJ0, shlJ0, gI_sA, gL_sA, Nat.reduceEqDiff, Nat.reduceAdd, Nat.reduceMul, Nat.reduceLT, Nat.reduceLeDiff, Nat.add_assoc]
        · rw [zb_t, if_neg (show ¬ J 1 = 0 by decide)]
          simp (decide := true) (disch := omega) only [letS_d, grd_tt, bnd_d, bnd1_d, bndX_d, bndX_e, gI_at, gI_ne, gI_sL, gL_sL, gL_sI, upd_at, updL_at, J_lit, J_add, J_mul, J_sub, J_lt, J_le, J_inj, J_ne, ne_J, m_lt, lt_m, m_le, le_m, J_cl, J_inB, if_true, if_false, ite_true, ite_false, reduceIte, isZ0, isZ1, J_and31, shrJ0, shlJ0, gI_sA, gL_sA, Nat.reduceEqDiff, Nat.reduceAdd, Nat.reduceMul, Nat.reduceLT, Nat.reduceLeDiff, Nat.add_assoc]
      refine ⟨y, τ', hput.trans e1, f1.tr e2, fun z hz => ?_, fun p' h1 h2 j hj => ?_, fun j hj => (e5 j hj).trans ?_⟩
      · rw [e3 z (fun p' h1 h2 => hz p' (by omega) h2), gL_sL, if_pos rfl, updL_at, if_neg (hz p (Nat.le_refl _) hpl)]
      · by_cases he : p' = p
        · subst he
          rw [e3 _ (fun p2 h3 h4 => by omega), gL_sL, if_pos rfl, updL_at, if_pos rfl]
          exact ha j hj
        · exact e4 p' (by omega) h2 j hj
      · rw [bl_and, Bool.and_eq_true]
        constructor
        · rintro ⟨⟨r1, r2⟩, r3⟩
          refine ⟨r1, fun p' h1 h2 h3 => ?_⟩
          by_cases he : p' = p
          · subst he
            rw [if_pos h3, ha j hj] at r2
            exact r2
          · exact r3 p' (by omega) h2 h3
        · rintro ⟨r1, r2⟩
          refine ⟨⟨r1, ?_⟩, fun p' h1 h2 h3 => r2 p' (by omega) h2 h3⟩
          by_cases hf : fi s p = true
          · rw [if_pos hf, ha j hj]
            exact r2 p (Nat.le_refl _) hpl hf
          · rw [if_neg hf]
            exact bl_m1 hj
    rw [show fX0_askedByRule_11 N (n + 1) τ i atE (J l) (J w) x6 (J (K + p)) = _ from by unfold fX0_askedByRule_11; rfl]
    have hin : inB (J (K + p)) 9 = true := J_inB (by omega) (by omega)
    have hnl : ¬ (gI τ 36 i) ≤ J (K + p) := by
      rw [h36, J_le (by omega) (by omega)]
      exact hlt
    rw [hd, grd_t, if_neg hnl, hin, grd_t, J_cl (by omega), q1, hh, bnd_d]
    cases hbs : bs (pl s p) l
    · rw [zb_f, if_pos (show J 0 = (0 : Int32) from rfl)]
      refine fin (-1) (fun j hj => ?_)
      rw [bl_m1 hj]
      unfold qs
      rw [hbs]
      rfl
    · rw [zb_t, if_neg (show ¬ J 1 = 0 by decide), grd_t]
      obtain ⟨y, y1, y2⟩ := cls_withAll (N := N) (τ := τ) (x := gI τ 25 (K + p)) hk hw h53 k 0 N (-1) (by omega) (by omega)
      have hwa : fX0_withAll N τ (gI τ 25 (K + p)) (J w) = some (y, τ) := by
        unfold fX0_withAll
        exact y1
      have hh3 := has8 (N := N) (τ := τ) (x := gI τ 38 i) (o := K + p) (by omega)
      rw [h38.at (by omega)] at hh3
      rw [hwa, bnd_d, grd_t, hh3, bnd_d]
      -- what the place asks
      have hask : ∀ (b : Int64), (∀ j, j < 64 → bl b j = (!la s p || thn j)) → ∀ j, j < 64 → bl (y &&& b) j = qs (V j) l s x (thn j) p := by
        intro b hb j hj
        rw [bl_and, hb j hj]
        unfold qs
        rw [hbs, Bool.not_true, Bool.false_or]
        congr 1
        refine bool_iff ((y2 j hj).trans ?_)
        rw [all_iff]
        constructor
        · rintro ⟨_, h⟩ i hi
          cases hfo : fo s p i
          · rfl
          · rw [hV j hj i hi]
            exact h (K + i) (by omega) (by omega) (by rw [q2.at (by omega)]; exact hfo)
        · intro h
          refine ⟨bl_m1 hj, fun o _ ho hbt => ?_⟩
          rw [q2 o (by omega), Bool.and_eq_true, decide_eq_true_eq] at hbt
          have hlt2 := (fo_lt s _ _ hbt.2).2
          have := h (o - K) hlt2
          rw [hbt.2, Bool.not_true, Bool.false_or, hV j hj _ hlt2, show K + (o - K) = o from by omega] at this
          exact this
      unfold fX0_askedByRule_82
      cases hla : la s p
      · rw [zb_f, if_pos (show J 0 = (0 : Int32) from rfl), letS_d]
        refine fin _ (hask _ (fun j hj => ?_))
        rw [bl_m1 hj, hla]
        rfl
      · rw [zb_t, if_neg (show ¬ J 1 = 0 by decide), letS_d]
        refine fin _ (hask _ (fun j hj => ?_))
        rw [hE j hj, hla]
        rfl
theorem cls_rule2 (hN : 100 ≤ N) {i K k l w x : Nat} {s : Term} {V : Nat → Nat → Nat → Bool} {thn : Nat → Bool} {atE : Int64} {τ : St} (hi : i < 40) (hk : k ≤ 9) (hKk : K + len s ≤ k) (hl : l < 8) (hw : w < 8) (hE : ∀ j, j < 64 → bl atE j = thn j) (hV : ∀ j, j < 64 → ∀ p, p < len s → V j x (p + 1) = (64 * w + j).testBit (K + p)) (hR : RLH τ i K k s) : ∃ y τ', fX0_askedByRule N τ i atE (J l) (J w) = some (y, τ') ∧ Fr [51] τ τ' ∧ (∀ z, (∀ p', p' < len s → ¬ z = (l * 9 + (K + p')) * 8 + w) → gL τ' 51 z = gL τ 51 z) ∧ (∀ p', p' < len s → ∀ j, j < 64 → bl (gL τ' 51 ((l * 9 + (K + p')) * 8 + w)) j = qs (V j) l s x (thn j) p') ∧ ∀ j, j < 64 → bl y j = rul (V j) l s x (thn j) := by
  obtain ⟨y, τ', e1, e2, e3, e4, e5⟩ := cls_rule1 (N := N) hN hi hk hKk hl hw hE hV (len s) 0 N τ (-1) (by omega) (by omega) hR
  refine ⟨y, τ', ?_, e2, fun z hz => e3 z (fun p' _ h => hz p' h), fun p' h => e4 p' (by omega) h, fun j hj => ?_⟩
  · unfold fX0_askedByRule
    rw [decide_eq_true hi, grd_t, letS_d, hR.1]
    exact e1
  · unfold rul
    refine bool_iff ((e5 j hj).trans ?_)
    rw [all_iff]
    constructor
    · rintro ⟨_, h⟩ p hp
      cases hf : fi s p
      · rfl
      · exact h p (by omega) hp hf
    · intro h
      refine ⟨bl_m1 hj, fun p _ hp hf => ?_⟩
      have := h p hp
      rw [hf] at this
      exact this
end FLL
