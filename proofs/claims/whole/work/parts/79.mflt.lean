/-! the class's tables: all properties -/
/-- an obligation's key, the top's own included -/
def kT (t : Term) (x o : Nat) : Key := if o < oC t then kC t x o else (x, 0)
/-- how many obligations a property brings, its top's included where it is one -/
def oT (t : Term) (ob : Bool) : Nat := oC t + (if ob = true ∧ own t = false then 1 else 0)
theorem RC_fr {τ τ' : St} {t : Term} {b K : Nat} {S : List Nat} (f : Fr S τ τ') (d : ∀ k ∈ [24, 25, 30, 31, 32, 33, 34, 35, 36, 37, 38], k ∉ S) (h : RC τ t b K) : RC τ' t b K := by
  refine RC_keep t b K ⟨fun i _ _ => ?_, fun i _ _ => ?_, fun o _ _ => ?_⟩ h
  · rw [f.gi (d 30 (by decide)), f.gi (d 31 (by decide)), f.gi (d 32 (by decide)), f.gi (d 34 (by decide)), f.gi (d 35 (by decide)), f.gi (d 36 (by decide)), f.gi (d 37 (by decide)), f.gi (d 38 (by decide))]
    exact ⟨rfl, rfl, rfl, rfl, rfl, rfl, rfl, rfl⟩
  · rw [f.gi (d 33 (by decide))]
  · rw [f.gi (d 24 (by decide)), f.gi (d 25 (by decide))]
    exact ⟨rfl, rfl⟩
section FLT
variable {N l w : Nat} {V : Nat → Nat → Nat → Bool}
/-- a node's number as an obligation, where it is one -/
theorem tob_cases (t : Term) (K : Nat) (ob : Bool) (x : Nat) : (tob t K ob = -J 1 ∧ oT t ob = oC t ∧ own t = false) ∨ ∃ o, tob t K ob = J (K + o) ∧ o < oT t ob ∧ kT t x o = (x, 0) ∧ (∀ o', o' < oT t ob → ¬ o' = o → o' < oC t) ∧ (own t = true → o = oC t - 1 ∧ oT t ob = oC t ∧ 1 ≤ oC t) ∧ (own t = false → o = oC t ∧ ob = true) := by
  unfold tob oT kT
  by_cases ho : own t = true
  · right
    obtain ⟨a, b⟩ := kC_own ho x
    have hn : ¬ (ob = true ∧ own t = false) := fun h => by rw [ho] at h; cases h.2
    rw [if_pos ho, if_neg hn]
    refine ⟨oC t - 1, by rw [show K + oC t - 1 = K + (oC t - 1) from by omega], by omega, by rw [if_pos (by omega)]; exact b, fun o' h1 _ => by omega, fun _ => ⟨rfl, rfl, a⟩, fun h => by rw [ho] at h; cases h⟩
  · have ho' : own t = false := by
      cases h : own t
      · rfl
      · exact absurd h ho
    rw [if_neg ho]
    by_cases hb : ob = true
    · right
      rw [if_pos hb, if_pos ⟨hb, ho'⟩]
      exact ⟨oC t, rfl, by omega, if_neg (by omega), fun o' h1 h2 => by omega, fun h => absurd h ho, fun _ => ⟨rfl, hb⟩⟩
    · left
      rw [if_neg hb, if_neg (fun h => hb h.1)]
      exact ⟨rfl, rfl, ho'⟩
/-- a node worked out -/
theorem fl_node {c cnt : Nat} {r : Int64} {τ1 τ2 : St} (hc : c < 40) (h21 : gI τ1 21 0 = J cnt) (hcc : c < cnt) (hcn : cnt ≤ 40) (hask : fX0_askedByNode N τ1 c (J l) (J w) = some (r, τ2)) (f2 : Fr [51] τ1 τ2) (hl : l < 8) (hw : w < 8) : (gI τ1 33 c = -J 1 → ∀ n, fX0_fillWord_2 N (n + 1) τ1 (J l) (J w) (J c) = fX0_fillWord_2 N n (sL τ2 52 c r) (J l) (J w) (J (c + 1))) ∧ (∀ o, o < 9 → gI τ1 33 c = J o → ∀ n, fX0_fillWord_2 N (n + 1) τ1 (J l) (J w) (J c) = fX0_fillWord_2 N n (sL (sL τ2 52 c r) 51 ((l * 9 + o) * 8 + w) r) (J l) (J w) (J (c + 1))) := by
  have hd : decide (c < 40) = true := decide_eq_true hc
  have hnl : ¬ cnt ≤ c := by omega
  have h33 : gI (sL τ2 52 c r) 33 = gI τ1 33 := by rw [gI_sL, f2.gi (by decide)]
  refine ⟨fun h n => ?_, fun o ho h n => ?_⟩
  · rw [show fX0_fillWord_2 N (n + 1) τ1 (J l) (J w) (J c) = _ from by unfold fX0_fillWord_2; rfl]
    simp (decide := true) (disch := omega) only [letS_d, grd_tt, bnd_d, bnd1_d, bndX_d, bndX_e, gI_at, gI_ne, gI_sL, gL_sL, gL_sI, upd_at, updL_at, J_lit, J_add, J_mul, J_sub, J_lt, J_le, J_inj, J_ne, ne_J, m_lt, lt_m, m_le, le_m, J_cl, J_inB, if_true, if_false, ite_true, ite_false, reduceIte, isZ0, isZ1, J_and31, shrJ0, shlJ0, gI_sA, gL_sA, Nat.reduceEqDiff, Nat.reduceAdd, Nat.reduceMul, Nat.reduceLT, Nat.reduceLeDiff, h21, hnl, hask, h33, h, hd, decide_true, fX0_fillWord_69]
    rw [f2.gi (by decide), h]
    simp (decide := true) (disch := omega) only [letS_d, grd_tt, bnd_d, bnd1_d, bndX_d, bndX_e, gI_at, gI_ne, gI_sL, gL_sL, gL_sI, upd_at, updL_at, J_lit, J_add, J_mul, J_sub, J_lt, J_le, J_inj, J_ne, ne_J, m_lt, lt_m, m_le, le_m, J_cl, J_inB, if_true, if_false, ite_true, ite_false, reduceIte, isZ0, isZ1, J_and31, shrJ0, shlJ0, gI_sA, gL_sA, Nat.reduceEqDiff, Nat.reduceAdd, Nat.reduceMul, Nat.reduceLT, Nat.reduceLeDiff]
  · rw [show fX0_fillWord_2 N (n + 1) τ1 (J l) (J w) (J c) = _ from by unfold fX0_fillWord_2; rfl]
    have hg : gI τ2 33 c = J o := by rw [f2.gi (by decide)]; exact h
    simp (decide := true) (disch := omega) only [letS_d, grd_tt, bnd_d, bnd1_d, bndX_d, bndX_e, gI_at, gI_ne, gI_sL, gL_sL, gL_sI, upd_at, updL_at, J_lit, J_add, J_mul, J_sub, J_lt, J_le, J_inj, J_ne, ne_J, m_lt, lt_m, m_le, le_m, J_cl, J_inB, if_true, if_false, ite_true, ite_false, reduceIte, isZ0, isZ1, J_and31, shrJ0, shlJ0, gI_sA, gL_sA, Nat.reduceEqDiff, Nat.reduceAdd, Nat.reduceMul, Nat.reduceLT, Nat.reduceLeDiff, h21, hnl, hask, hg, hd, decide_true, fX0_fillWord_69, fX0_row]
/-- the tables of a property's nodes -/
def FT (N l w : Nat) (V : Nat → Nat → Nat → Bool) (t : Term) (b K x : Nat) (ob : Bool) : Prop := ∀ τ, RC τ t b K → gI τ 33 (b + nC t - 1) = tob t K ob → (∃ cnt, gI τ 21 0 = J cnt ∧ b + nC t ≤ cnt ∧ cnt ≤ 40) → (∃ k, gI τ 53 0 = J k ∧ K + oT t ob ≤ k ∧ k ≤ 9) → (∀ j, j < 64 → ∀ o, o < oC t → V j (kC t x o).1 (kC t x o).2 = (64 * w + j).testBit (K + o)) → ∃ τ', (∀ n, fX0_fillWord_2 N (n + nC t) τ (J l) (J w) (J b) = fX0_fillWord_2 N n τ' (J l) (J w) (J (b + nC t))) ∧ Fr [51, 52] τ τ' ∧ (∀ i, i < b → gL τ' 52 i = gL τ 52 i) ∧ (∀ j, j < 64 → bl (gL τ' 52 (b + nC t - 1)) j = sem (V j) l t x) ∧ (∀ o, o < oT t ob → ∀ j, j < 64 → bl (gL τ' 51 ((l * 9 + (K + o)) * 8 + w)) j = ev (V j) l t x (kT t x o)) ∧ ∀ z, (∀ o, o < oT t ob → ¬ z = (l * 9 + (K + o)) * 8 + w) → gL τ' 51 z = gL τ 51 z
/-- the top node, behind its parts -/
theorem fl_top {t : Term} {b K x c : Nat} {ob : Bool} {r : Int64} {τ τ1 τ2 : St} (hl : l < 8) (hw : w < 8) (hc : b + nC t = c + 1) (h33 : gI τ 33 c = tob t K ob) (hcnt : ∃ cnt, gI τ 21 0 = J cnt ∧ b + nC t ≤ cnt ∧ cnt ≤ 40) (hk : ∃ k, gI τ 53 0 = J k ∧ K + oT t ob ≤ k ∧ k ≤ 9) (hrun : ∀ n, fX0_fillWord_2 N (n + (nC t - 1)) τ (J l) (J w) (J b) = fX0_fillWord_2 N n τ1 (J l) (J w) (J c)) (f1 : Fr [51, 52] τ τ1) (h52 : ∀ i, i < b → gL τ1 52 i = gL τ 52 i) (hask : fX0_askedByNode N τ1 c (J l) (J w) = some (r, τ2)) (f2 : Fr [51] τ1 τ2) (hr : ∀ j, j < 64 → bl r j = sem (V j) l t x) (hrows : ∀ o, o < oC t → (own t = true → ¬ o = oC t - 1) → ∀ j, j < 64 → bl (gL τ2 51 ((l * 9 + (K + o)) * 8 + w)) j = ev (V j) l t x (kC t x o)) (hoth : ∀ z, (∀ o, o < oC t → ¬ z = (l * 9 + (K + o)) * 8 + w) → gL τ2 51 z = gL τ 51 z) : ∃ τ', (∀ n, fX0_fillWord_2 N (n + nC t) τ (J l) (J w) (J b) = fX0_fillWord_2 N n τ' (J l) (J w) (J (b + nC t))) ∧ Fr [51, 52] τ τ' ∧ (∀ i, i < b → gL τ' 52 i = gL τ 52 i) ∧ (∀ j, j < 64 → bl (gL τ' 52 (b + nC t - 1)) j = sem (V j) l t x) ∧ (∀ o, o < oT t ob → ∀ j, j < 64 → bl (gL τ' 51 ((l * 9 + (K + o)) * 8 + w)) j = ev (V j) l t x (kT t x o)) ∧ ∀ z, (∀ o, o < oT t ob → ¬ z = (l * 9 + (K + o)) * 8 + w) → gL τ' 51 z = gL τ 51 z := by
  have np := nC_pos t
  obtain ⟨cnt, q1, q2, q3⟩ := hcnt
  obtain ⟨k, k1, k2, k3⟩ := hk
  have h33' : gI τ1 33 c = tob t K ob := by rw [f1.gi (by decide)]; exact h33
  obtain ⟨s1, s2⟩ := fl_node (N := N) (l := l) (w := w) (c := c) (cnt := cnt) (show c < 40 by omega) (by rw [f1.gi (by decide)]; exact q1) (by omega) q3 hask f2 hl hw
  have hrun2 : ∀ n, fX0_fillWord_2 N (n + nC t) τ (J l) (J w) (J b) = fX0_fillWord_2 N (n + 1) τ1 (J l) (J w) (J c) := fun n => by
    rw [show n + nC t = n + 1 + (nC t - 1) from by omega]
    exact hrun (n + 1)
  have hcb : b + nC t - 1 = c := by omega
  have hb52 : ∀ i, i < b → gL τ2 52 i = gL τ 52 i := fun i hi => by rw [f2.gl (by decide)]; exact h52 i hi
  rw [hcb, hc]
  rcases tob_cases t K ob x with ⟨t1, t2, t3⟩ | ⟨o, t1, t2, t3, t4, t5, t6⟩
  · rw [t1] at h33'
    rw [t2]
    refine ⟨sL τ2 52 c r, fun n => (hrun2 n).trans (s1 h33' n), (f1.tr (f2.mono (by decide))).tr (Fr.l (by decide)), fun i hi => ?_, fun j hj => ?_, fun o ho j hj => ?_, fun z hz => ?_⟩
    · rw [gL_sL, if_pos rfl, updL_at, if_neg (by omega)]
      exact hb52 i hi
    · rw [gL_sL, if_pos rfl, updL_at, if_pos rfl]
      exact hr j hj
    · rw [gL_sL, if_neg (by decide), show kT t x o = kC t x o from if_pos ho]
      exact hrows o ho (fun h => by rw [t3] at h; cases h) j hj
    · rw [gL_sL, if_neg (by decide)]
      exact hoth z hz
  · rw [t1] at h33'
    refine ⟨sL (sL τ2 52 c r) 51 ((l * 9 + (K + o)) * 8 + w) r, fun n => (hrun2 n).trans (s2 (K + o) (by omega) h33' n), ((f1.tr (f2.mono (by decide))).tr (Fr.l (by decide))).tr (Fr.l (by decide)), fun i hi => ?_, fun j hj => ?_, fun o' ho' j hj => ?_, fun z hz => ?_⟩
    · rw [gL_sL, if_neg (by decide), gL_sL, if_pos rfl, updL_at, if_neg (by omega)]
      exact hb52 i hi
    · rw [gL_sL, if_neg (by decide), gL_sL, if_pos rfl, updL_at, if_pos rfl]
      exact hr j hj
    · by_cases he : o' = o
      · subst he
        rw [gL_sL, if_pos rfl, updL_at, if_pos rfl, t3, ev_top]
        exact hr j hj
      · have h9 := t4 o' ho' he
        rw [gL_sL, if_pos rfl, updL_at, if_neg (by omega), gL_sL, if_neg (by decide), show kT t x o' = kC t x o' from if_pos h9]
        exact hrows o' h9 (fun h => by rw [← (t5 h).1]; exact he) j hj
    · rw [gL_sL, if_pos rfl, updL_at, if_neg (hz o t2), gL_sL, if_neg (by decide)]
      refine hoth z (fun o' ho' => hz o' ?_)
      unfold oT
      omega
theorem FT_leaf {t : Term} {b K x : Nat} {ob : Bool} (hl : l < 8) (hw : w < 8) (ht : (∃ v, t = .index v) ∨ (∃ y, t = .length y)) : FT N l w V t b K x ob := by
  intro τ hRC h33 hcnt hk hV
  have hnC : nC t = 1 := by
    rcases ht with ⟨v, rfl⟩ | ⟨y, rfl⟩ <;> rfl
  have hoC : oC t = 0 := by
    rcases ht with ⟨v, rfl⟩ | ⟨y, rfl⟩ <;> rfl
  have hown : own t = false := by
    rcases ht with ⟨v, rfl⟩ | ⟨y, rfl⟩ <;> rfl
  have hR : gI τ 30 b = J 33 ∧ gI τ 34 b = J (bm t) := by
    rcases ht with ⟨v, rfl⟩ | ⟨y, rfl⟩
    · exact hRC
    · exact hRC
  have hsem : ∀ j, sem (V j) l t x = bs t l := fun j => by
    rcases ht with ⟨v, rfl⟩ | ⟨y, rfl⟩ <;> rfl
  obtain ⟨cnt, q1, q2, q3⟩ := id hcnt
  have hd : decide (b < 40) = true := decide_eq_true (by omega)
  have hh := has8 (N := N) (τ := τ) (x := J (bm t)) (o := l) (by omega)
  rw [bm_has hl] at hh
  have hask : fX0_askedByNode N τ b (J l) (J w) = some (if bs t l = true then -1 else 0, τ) := by
    unfold fX0_askedByNode
    rw [hd, grd_t, hR.1, if_neg (show ¬ J 33 = (38 : Int32) by decide), if_neg (show ¬ J 33 = (58 : Int32) by decide), if_neg (show ¬ J 33 = (62 : Int32) by decide), if_neg (show ¬ J 33 = (71 : Int32) by decide), if_neg (show ¬ J 33 = (87 : Int32) by decide), if_neg (show ¬ J 33 = (88 : Int32) by decide), if_neg (show ¬ J 33 = (124 : Int32) by decide), grd_t, hR.2, hh, bnd_d]
    cases bs t l
    · rw [zb_f, if_pos (show J 0 = (0 : Int32) from rfl)]
      rfl
    · rw [zb_t, if_neg (show ¬ J 1 = (0 : Int32) by decide)]
      rfl
  refine fl_top (c := b) hl hw (by rw [hnC]) (by rw [show b + nC t - 1 = b from by omega] at h33; exact h33) hcnt hk (fun n => by rw [hnC]; rfl) Fr.rf (fun _ _ => rfl) hask Fr.rf (fun j hj => ?_) (fun o ho => by rw [hoC] at ho; omega) (fun _ _ => rfl)
  rw [hsem]
  cases bs t l
  · exact bl0 j
  · exact bl_m1 hj
theorem oT_false (t : Term) : oT t false = oC t := by
  unfold oT
  rw [if_neg (fun h => by cases h.1)]
  rfl
theorem oT_true (t : Term) : oT t true = oC t + (if own t = true then 0 else 1) := by
  unfold oT
  cases own t <;> rfl
theorem kT_lt {t : Term} {x o : Nat} (h : o < oC t) : kT t x o = kC t x o := if_pos h
/-- G -/
theorem FT_sum {p : Term} {b K x : Nat} {ob : Bool} (hl : l < 8) (hw : w < 8) (hok : ok p) (hsh : sh p = 0) (ih : FT N l w V p b K (x + 1) false) : FT N l w V (.sum p) b K x ob := by
  intro τ hRC h33 hcnt hk hV
  obtain ⟨r1, r2, r3, r4⟩ := hRC
  have hnC : nC (.sum p) = nC p + 1 := rfl
  have hoC : oC (.sum p) = oC p + 1 := rfl
  have np := nC_pos p
  obtain ⟨cnt, q1, q2, q3⟩ := id hcnt
  obtain ⟨k, k1, k2, k3⟩ := id hk
  have hoT : oT (.sum p) ob = oC p + 1 := by
    unfold oT
    rw [if_neg (fun h => by cases h.2)]
    rfl
  have hV1 : ∀ j, j < 64 → ∀ o, o < oC p → V j (kC p (x + 1) o).1 (kC p (x + 1) o).2 = (64 * w + j).testBit (K + o) := fun j hj o ho => by
    have := hV j hj o (by omega)
    rw [show kC (.sum p) x o = kC p (x + 1) o from if_pos ho] at this
    exact this
  have hVs : ∀ j, j < 64 → V j x 0 = (64 * w + j).testBit (K + oC p) := fun j hj => by
    have := hV j hj (oC p) (by omega)
    rw [show kC (.sum p) x (oC p) = (x, 0) from if_neg (by omega)] at this
    exact this
  obtain ⟨τ1, a1, a2, a3, a4, a5, a6⟩ := ih τ r1 r2 ⟨cnt, q1, by omega, q3⟩ ⟨k, k1, by rw [oT_false]; omega, k3⟩ hV1
  rw [oT_false] at a5 a6
  have hd : decide (b + nC p < 40) = true := decide_eq_true (by omega)
  obtain ⟨y, y1, y2⟩ := cls_with (N := N) (τ := τ1) (o := K + oC p) (w := w) (by omega) hw
  have h33' : gI τ1 33 (b + nC p) = J (K + oC p) := by
    rw [a2.gi (by decide)]
    rw [show b + nC (.sum p) - 1 = b + nC p from by omega] at h33
    rw [h33]
    unfold tob
    rw [if_pos (show own (.sum p) = true from rfl), hoC]
    rfl
  have hask : fX0_askedByNode N τ1 (b + nC p) (J l) (J w) = some (gL τ1 52 (b + nC p - 1) &&& y, τ1) := by
    unfold fX0_askedByNode
    have h30 : gI τ1 30 (b + nC p) = J 71 := by rw [a2.gi (by decide)]; exact r3
    have h31 : gI τ1 31 (b + nC p) = J (b + nC p - 1) := by rw [a2.gi (by decide)]; exact r4
    simp (decide := true) (disch := omega) only [letS_d, grd_tt, bnd_d, bnd1_d, bndX_d, bndX_e, gI_at, gI_ne, gI_sL, gL_sL, gL_sI, upd_at, updL_at, J_lit, J_add, J_mul, J_sub, J_lt, J_le, J_inj, J_ne, ne_J, m_lt, lt_m, m_le, le_m, J_cl, J_inB, if_true, if_false, ite_true, ite_false, reduceIte, isZ0, isZ1, J_and31, shrJ0, shlJ0, gI_sA, gL_sA, Nat.reduceEqDiff, Nat.reduceAdd, Nat.reduceMul, Nat.reduceLT, Nat.reduceLeDiff, h30, h31, h33', hd, decide_true, y1]
  refine fl_top (c := b + nC p) hl hw (by rw [hnC]; rfl) (by rw [show b + nC (.sum p) - 1 = b + nC p from by omega] at h33; exact h33) hcnt hk (fun n => by rw [hnC]; exact a1 n) a2 a3 hask Fr.rf (fun j hj => ?_) (fun o ho hne j hj => ?_) (fun z hz => ?_)
  · rw [bl_and, a4 j hj, y2 j hj]
    show _ = (sem (V j) l p (x + 1) && V j x 0)
    rw [hVs j hj]
  · have ho' : o < oC p := by
      have := hne rfl
      omega
    rw [show kC (.sum p) x o = kC p (x + 1) o from if_pos ho']
    have hin := (kC_in p (x + 1) o hok hsh ho').1
    rw [show ev (V j) l (.sum p) x (kC p (x + 1) o) = ev (V j) l p (x + 1) (kC p (x + 1) o) from if_neg (by omega)]
    have := a5 o ho' j hj
    rw [kT_lt ho'] at this
    exact this
  · exact a6 z (fun o ho => hz o (by omega))
/-- X -/
theorem FT_old {p : Term} {b K x : Nat} {ob : Bool} (hl : l < 8) (hw : w < 8) (hok : ok p) (hsh : sh p = 0) (ih : FT N l w V p b K (x + 1) true) : FT N l w V (.old p) b K x ob := by
  intro τ hRC h33 hcnt hk hV
  obtain ⟨r1, r2, r3, r4⟩ := hRC
  have hnC : nC (.old p) = nC p + 1 := rfl
  have hoC : oC (.old p) = oT p true := (oT_true p).symm
  have np := nC_pos p
  obtain ⟨cnt, q1, q2, q3⟩ := id hcnt
  obtain ⟨k, k1, k2, k3⟩ := id hk
  have hle : oC (.old p) ≤ oT (.old p) ob := by unfold oT; omega
  have hpo : oC p ≤ oT p true := by unfold oT; omega
  have hV1 : ∀ j, j < 64 → ∀ o, o < oC p → V j (kC p (x + 1) o).1 (kC p (x + 1) o).2 = (64 * w + j).testBit (K + o) := fun j hj o ho => by
    have := hV j hj o (by omega)
    rw [show kC (.old p) x o = kC p (x + 1) o from if_pos ho] at this
    exact this
  obtain ⟨τ1, a1, a2, a3, a4, a5, a6⟩ := ih τ r1 r2 ⟨cnt, q1, by omega, q3⟩ ⟨k, k1, by omega, k3⟩ hV1
  have hd : decide (b + nC p < 40) = true := decide_eq_true (by omega)
  have hd2 : decide (b + nC p - 1 < 40) = true := decide_eq_true (by omega)
  -- the number of what stands behind X
  obtain ⟨oo, o1, o2, o3⟩ : ∃ oo, oo < oT p true ∧ tob p K true = J (K + oo) ∧ ∀ j, j < 64 → V j (x + 1) 0 = (64 * w + j).testBit (K + oo) := by
    rcases tob_cases p K true (x + 1) with ⟨t1, t2, t3⟩ | ⟨o, t1, t2, t3, t4, t5, t6⟩
    · exfalso
      rw [oT_true, t3] at t2
      have t2 : oC p + 1 = oC p := t2
      omega
    · refine ⟨o, t2, t1, fun j hj => ?_⟩
      have := hV j hj o (by omega)
      by_cases ho : o < oC p
      · rw [show kC (.old p) x o = kC p (x + 1) o from if_pos ho, ← kT_lt ho, t3] at this
        exact this
      · rw [show kC (.old p) x o = (x + 1, 0) from if_neg ho] at this
        exact this
  obtain ⟨y, y1, y2⟩ := cls_with (N := N) (τ := τ1) (o := K + oo) (w := w) (by omega) hw
  have hask : fX0_askedByNode N τ1 (b + nC p) (J l) (J w) = some (y, τ1) := by
    unfold fX0_askedByNode
    have h30 : gI τ1 30 (b + nC p) = J 88 := by rw [a2.gi (by decide)]; exact r3
    have h31 : gI τ1 31 (b + nC p) = J (b + nC p - 1) := by rw [a2.gi (by decide)]; exact r4
    have h33' : gI τ1 33 (b + nC p - 1) = J (K + oo) := by rw [a2.gi (by decide), r2]; exact o2
    simp (decide := true) (disch := omega) only [letS_d, grd_tt, bnd_d, bnd1_d, bndX_d, bndX_e, gI_at, gI_ne, gI_sL, gL_sL, gL_sI, upd_at, updL_at, J_lit, J_add, J_mul, J_sub, J_lt, J_le, J_inj, J_ne, ne_J, m_lt, lt_m, m_le, le_m, J_cl, J_inB, if_true, if_false, ite_true, ite_false, reduceIte, isZ0, isZ1, J_and31, shrJ0, shlJ0, gI_sA, gL_sA, Nat.reduceEqDiff, Nat.reduceAdd, Nat.reduceMul, Nat.reduceLT, Nat.reduceLeDiff, h30, h31, h33', hd, hd2, decide_true, y1]
  refine fl_top (c := b + nC p) hl hw (by rw [hnC]; rfl) (by rw [show b + nC (.old p) - 1 = b + nC p from by omega] at h33; exact h33) hcnt hk (fun n => by rw [hnC]; exact a1 n) a2 a3 hask Fr.rf (fun j hj => ?_) (fun o ho hne j hj => ?_) (fun z hz => ?_)
  · rw [y2 j hj]
    show _ = V j (x + 1) 0
    rw [o3 j hj]
  · have := a5 o (by omega) j hj
    rw [this]
    have hkk : kC (.old p) x o = kT p (x + 1) o := rfl
    rw [hkk]
    have hin : ¬ (kT p (x + 1) o).1 ≤ x := by
      unfold kT
      by_cases ho' : o < oC p
      · rw [if_pos ho']
        have hin := (kC_in p (x + 1) o hok hsh ho').1
        omega
      · rw [if_neg ho']
        show ¬ x + 1 ≤ x
        omega
    exact (if_neg hin).symm
  · exact a6 z (fun o ho => hz o (by omega))
end FLT
