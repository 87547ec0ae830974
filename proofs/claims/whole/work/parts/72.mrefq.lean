/-! the reference's reader: steps of sequences -/
/-- a way along neighbours -/
def Pth (F : Nat → ND) (B a : Nat) : Nat → Nat → Prop
  | 0, z => z = a
  | m + 1, z => ∃ y, Pth F B a m y ∧ y < B ∧ z < B ∧ nB (F y) = J z
theorem Pth.keep {F F' : Nat → ND} {B B' a : Nat} (hB : B ≤ B') (hB9 : B < 2147483648) (h : ∀ i, i < B → ¬ nB (F i) = -J 1 → nB (F' i) = nB (F i)) : ∀ {m z}, Pth F B a m z → Pth F' B' a m z := by
  intro m
  induction m with
  | zero => intro z hz; exact hz
  | succ m ih =>
    rintro z ⟨y, h1, h2, h3, h4⟩
    refine ⟨y, ih h1, by omega, by omega, ?_⟩
    rw [h y h2 (by rw [h4, J_ne (by omega)]; exact id)]
    exact h4
def lnkF (F : Nat → ND) (sq : Nat) : Option Nat → Nat → Nat → ND
  | none, x, i => if i = sq then (nK (F i), J x, nT (F i), nB (F i), nL (F i), nM (F i)) else F i
  | some z, x, i => if i = z then (nK (F i), nO (F i), nT (F i), J x, nL (F i), nM (F i)) else F i
def LkO (F : Nat → ND) (sq x : Nat) : Option Nat → Prop
  | none => nO (F sq) = -J 1
  | some z => ∃ a m, nO (F sq) = J a ∧ a < x ∧ m ≤ 100 ∧ z < x ∧ Pth F x a m z ∧ nB (F z) = -J 1
section SQS
variable {N ln : Nat} {ch : Nat → Nat}
theorem walk_p {σ : St} {x1 x2 x3 x4 : Int32} {B a : Nat} (hB : B ≤ 160) (ha : a < B) : ∀ m z, Pth (nd σ) B a m z → z < B ∧ ∀ n, fX9_piece_39 N (n + m) σ x1 x2 x3 x4 (J a) = fX9_piece_39 N n σ x1 x2 x3 x4 (J z) := by
  intro m
  induction m with
  | zero => intro z hz; cases hz; exact ⟨ha, fun n => rfl⟩
  | succ m ih =>
    rintro z ⟨y, h1, h2, h3, h4⟩
    obtain ⟨g1, g2⟩ := ih y h1
    refine ⟨h3, fun n => ?_⟩
    rw [show n + (m + 1) = n + 1 + m from by omega, g2 (n + 1)]
    have h8 : gI σ 8 y = J z := h4
    rw [show fX9_piece_39 N (n + 1) σ x1 x2 x3 x4 (J y) = _ from by unfold fX9_piece_39; rfl]
    simp (decide := true) (disch := omega) only [letS_d, grd_tt, bnd_d, bnd1_d, bndX_d, bndX_e, gI_at, gI_ne, gI_sL, gL_sL, gL_sI, upd_at, updL_at, J_lit, J_add, J_mul, J_sub, J_lt, J_le, J_inj, J_ne, ne_J, m_lt, lt_m, m_le, le_m, J_cl, J_inB, if_true, if_false, ite_true, ite_false, reduceIte, isZ0, isZ1, J_and31, shrJ0, shlJ0, gI_sA, gL_sA, Nat.reduceEqDiff, Nat.reduceAdd, Nat.reduceMul, Nat.reduceLT, Nat.reduceLeDiff, Nat.not_lt_zero, h8]
theorem walk_s {σ : St} {x1 x2 x3 : Int32} {B a : Nat} (hB : B ≤ 160) (ha : a < B) : ∀ m z, Pth (nd σ) B a m z → z < B ∧ ∀ n, fX9_sequences_15 N (n + m) σ x1 x2 x3 (J a) = fX9_sequences_15 N n σ x1 x2 x3 (J z) := by
  intro m
  induction m with
  | zero => intro z hz; cases hz; exact ⟨ha, fun n => rfl⟩
  | succ m ih =>
    rintro z ⟨y, h1, h2, h3, h4⟩
    obtain ⟨g1, g2⟩ := ih y h1
    refine ⟨h3, fun n => ?_⟩
    rw [show n + (m + 1) = n + 1 + m from by omega, g2 (n + 1)]
    have h8 : gI σ 8 y = J z := h4
    rw [show fX9_sequences_15 N (n + 1) σ x1 x2 x3 (J y) = _ from by unfold fX9_sequences_15; rfl]
    simp (decide := true) (disch := omega) only [letS_d, grd_tt, bnd_d, bnd1_d, bndX_d, bndX_e, gI_at, gI_ne, gI_sL, gL_sL, gL_sI, upd_at, updL_at, J_lit, J_add, J_mul, J_sub, J_lt, J_le, J_inj, J_ne, ne_J, m_lt, lt_m, m_le, le_m, J_cl, J_inB, if_true, if_false, ite_true, ite_false, reduceIte, isZ0, isZ1, J_and31, shrJ0, shlJ0, gI_sA, gL_sA, Nat.reduceEqDiff, Nat.reduceAdd, Nat.reduceMul, Nat.reduceLT, Nat.reduceLeDiff, Nat.not_lt_zero, h8]
/-- a node is linked behind the last one of a list, or as its first one -/
theorem link_p (hN : 200 ≤ N) {p x y sq : Nat} {o : Option Nat} {L : List IT} {σ : St} {x2 x3 : Int32} (h : RQ ch ln p y L σ) (hx : x ≤ 160) (hsq : sq < x) (ho : LkO (nd σ) sq x o) : ∃ σ', fX9_piece_39 N N σ (J sq) x2 x3 (J x) (gI σ 6 sq) = fX9_piece_91 N σ' (J sq) x2 x3 (J x) ∧ RQ ch ln p y L σ' ∧ Fr RdL σ σ' ∧ ∀ i, nd σ' i = lnkF (nd σ) sq o x i := by
  have h6 : gI σ 6 sq = nO (nd σ sq) := rfl
  cases o with
  | none =>
    have ho : nO (nd σ sq) = -J 1 := ho
    have f : Fr [6] σ (sI σ 6 sq (J x)) := Fr.i (by decide)
    refine ⟨sI σ 6 sq (J x), ?_, h.fr f (by decide), f.mono (by decide), fun i => ?_⟩
    · obtain ⟨n, rfl⟩ : ∃ k, N = k + 1 := ⟨N - 1, by omega⟩
      rw [h6, ho, show fX9_piece_39 (n + 1) (n + 1) σ (J sq) x2 x3 (J x) (-J 1) = _ from by unfold fX9_piece_39; rfl]
      have hm : ¬ J 0 ≤ -J 1 := by decide
      simp (decide := true) (disch := omega) only [letS_d, grd_tt, bnd_d, bnd1_d, bndX_d, bndX_e, gI_at, gI_ne, gI_sL, gL_sL, gL_sI, upd_at, updL_at, J_lit, J_add, J_mul, J_sub, J_lt, J_le, J_inj, J_ne, ne_J, m_lt, lt_m, m_le, le_m, J_cl, J_inB, if_true, if_false, ite_true, ite_false, reduceIte, isZ0, isZ1, J_and31, shrJ0, shlJ0, gI_sA, gL_sA, Nat.reduceEqDiff, Nat.reduceAdd, Nat.reduceMul, Nat.reduceLT, Nat.reduceLeDiff, fX9_piece_66, hm]
    · rw [nd6]
      rfl
  | some z =>
    obtain ⟨a, m, q1, q2, q3, q4, q5, q6⟩ := ho
    have h8 : gI σ 8 z = -J 1 := q6
    have f : Fr [8] σ (sI σ 8 z (J x)) := Fr.i (by decide)
    refine ⟨sI σ 8 z (J x), ?_, h.fr f (by decide), f.mono (by decide), fun i => ?_⟩
    · obtain ⟨n, hn⟩ : ∃ k, N = k + 1 + m := ⟨N - 1 - m, by omega⟩
      obtain ⟨w1, w2⟩ := walk_p (N := N) (σ := σ) (x1 := J sq) (x2 := x2) (x3 := x3) (x4 := J x) hx q2 m z q5
      have e : fX9_piece_39 N N σ (J sq) x2 x3 (J x) (J a) = fX9_piece_39 N (n + 1) σ (J sq) x2 x3 (J x) (J z) := by
        rw [← w2 (n + 1), ← hn]
      rw [h6, q1, e, show fX9_piece_39 N (n + 1) σ (J sq) x2 x3 (J x) (J z) = _ from by unfold fX9_piece_39; rfl]
      simp (decide := true) (disch := omega) only [letS_d, grd_tt, bnd_d, bnd1_d, bndX_d, bndX_e, gI_at, gI_ne, gI_sL, gL_sL, gL_sI, upd_at, updL_at, J_lit, J_add, J_mul, J_sub, J_lt, J_le, J_inj, J_ne, ne_J, m_lt, lt_m, m_le, le_m, J_cl, J_inB, if_true, if_false, ite_true, ite_false, reduceIte, isZ0, isZ1, J_and31, shrJ0, shlJ0, gI_sA, gL_sA, Nat.reduceEqDiff, Nat.reduceAdd, Nat.reduceMul, Nat.reduceLT, Nat.reduceLeDiff, Nat.not_lt_zero, h8, fX9_piece_66, Nat.zero_le]
    · rw [nd8]
      rfl
theorem link_s (hN : 200 ≤ N) {p x y sq : Nat} {o : Option Nat} {L : List IT} {σ : St} {x2 : Int32} (h : RQ ch ln p y L σ) (hx : x ≤ 160) (hsq : sq < x) (ho : LkO (nd σ) sq x o) : ∃ σ', fX9_sequences_15 N N σ (J sq) x2 (J x) (gI σ 6 sq) = fX9_sequences_65 N σ' (J sq) x2 (J x) ∧ RQ ch ln p y L σ' ∧ Fr RdL σ σ' ∧ ∀ i, nd σ' i = lnkF (nd σ) sq o x i := by
  have h6 : gI σ 6 sq = nO (nd σ sq) := rfl
  cases o with
  | none =>
    have ho : nO (nd σ sq) = -J 1 := ho
    have f : Fr [6] σ (sI σ 6 sq (J x)) := Fr.i (by decide)
    refine ⟨sI σ 6 sq (J x), ?_, h.fr f (by decide), f.mono (by decide), fun i => ?_⟩
    · obtain ⟨n, rfl⟩ : ∃ k, N = k + 1 := ⟨N - 1, by omega⟩
      rw [h6, ho, show fX9_sequences_15 (n + 1) (n + 1) σ (J sq) x2 (J x) (-J 1) = _ from by unfold fX9_sequences_15; rfl]
      have hm : ¬ J 0 ≤ -J 1 := by decide
      simp (decide := true) (disch := omega) only [letS_d, grd_tt, bnd_d, bnd1_d, bndX_d, bndX_e, gI_at, gI_ne, gI_sL, gL_sL, gL_sI, upd_at, updL_at, J_lit, J_add, J_mul, J_sub, J_lt, J_le, J_inj, J_ne, ne_J, m_lt, lt_m, m_le, le_m, J_cl, J_inB, if_true, if_false, ite_true, ite_false, reduceIte, isZ0, isZ1, J_and31, shrJ0, shlJ0, gI_sA, gL_sA, Nat.reduceEqDiff, Nat.reduceAdd, Nat.reduceMul, Nat.reduceLT, Nat.reduceLeDiff, fX9_sequences_42, hm]
    · rw [nd6]
      rfl
  | some z =>
    obtain ⟨a, m, q1, q2, q3, q4, q5, q6⟩ := ho
    have h8 : gI σ 8 z = -J 1 := q6
    have f : Fr [8] σ (sI σ 8 z (J x)) := Fr.i (by decide)
    refine ⟨sI σ 8 z (J x), ?_, h.fr f (by decide), f.mono (by decide), fun i => ?_⟩
    · obtain ⟨n, hn⟩ : ∃ k, N = k + 1 + m := ⟨N - 1 - m, by omega⟩
      obtain ⟨w1, w2⟩ := walk_s (N := N) (σ := σ) (x1 := J sq) (x2 := x2) (x3 := J x) hx q2 m z q5
      have e : fX9_sequences_15 N N σ (J sq) x2 (J x) (J a) = fX9_sequences_15 N (n + 1) σ (J sq) x2 (J x) (J z) := by
        rw [← w2 (n + 1), ← hn]
      rw [h6, q1, e, show fX9_sequences_15 N (n + 1) σ (J sq) x2 (J x) (J z) = _ from by unfold fX9_sequences_15; rfl]
      simp (decide := true) (disch := omega) only [letS_d, grd_tt, bnd_d, bnd1_d, bndX_d, bndX_e, gI_at, gI_ne, gI_sL, gL_sL, gL_sI, upd_at, updL_at, J_lit, J_add, J_mul, J_sub, J_lt, J_le, J_inj, J_ne, ne_J, m_lt, lt_m, m_le, le_m, J_cl, J_inB, if_true, if_false, ite_true, ite_false, reduceIte, isZ0, isZ1, J_and31, shrJ0, shlJ0, gI_sA, gL_sA, Nat.reduceEqDiff, Nat.reduceAdd, Nat.reduceMul, Nat.reduceLT, Nat.reduceLeDiff, Nat.not_lt_zero, h8, fX9_sequences_42, Nat.zero_le]
    · rw [nd8]
      rfl
theorem LkO.node {F F' : Nat → ND} {sq x x' : Nat} {o : Option Nat} (h : LkO F sq x o) (hsq : sq < x) (hx : x ≤ x') (hx9 : x < 2147483648) (he : ∀ i, i < x → F' i = F i) : LkO F' sq x' o := by
  cases o with
  | none =>
    show nO (F' sq) = -J 1
    rw [he sq hsq]
    exact h
  | some z =>
    obtain ⟨a, m, q1, q2, q3, q4, q5, q6⟩ := h
    exact ⟨a, m, by rw [he sq hsq]; exact q1, by omega, q3, by omega, q5.keep hx hx9 (fun i hi _ => by rw [he i hi]), by rw [he z q4]; exact q6⟩
theorem lnkF_congr {F F' : Nat → ND} {sq x i : Nat} {o : Option Nat} (he : F' i = F i) : lnkF F' sq o x i = lnkF F sq o x i := by
  cases o with
  | none => show (if i = sq then _ else _) = (if i = sq then _ else _); rw [he]
  | some z => show (if i = z then _ else _) = (if i = z then _ else _); rw [he]
theorem lnkF_ne {F : Nat → ND} {sq x i : Nat} {o : Option Nat} (h : ¬ i = sq) (h2 : ∀ z, o = some z → ¬ i = z) : lnkF F sq o x i = F i := by
  cases o with
  | none => exact if_neg h
  | some z => exact if_neg (h2 z rfl)
theorem LkO.lt {F : Nat → ND} {sq x : Nat} {o : Option Nat} (h : LkO F sq x o) : ∀ z, o = some z → z < x := by
  intro z hz
  subst hz
  obtain ⟨a, m, q1, q2, q3, q4, q5, q6⟩ := h
  exact q4
/-- another sequence of a group -/
theorem ref_seqs (hN : 200 ≤ N) {p x g dep : Nat} {o : Option Nat} {L : List IT} {σ : St} (h : RQ ch ln p x L σ) (hL : L.length < 150) (hx : x < 160) (hg : g < x) (ho : LkO (nd σ) g x o) : ∃ σ', fX9_sequences N σ (J g) (J dep) = some σ' ∧ RQ ch ln p (x + 1) ((J 7, J x, J (dep + 1)) :: (J 10, J g, J dep) :: L) σ' ∧ Fr RdL σ σ' ∧ nd σ' x = nN0 10 ∧ ∀ i, i < x → nd σ' i = lnkF (nd σ) g o x i := by
  obtain ⟨σ1, a1, a2, a3, a4⟩ := ref_node (N := N) (k := 10) h hx
  have hnd : ∀ i, i < x → nd σ1 i = nd σ i := fun i hi => by rw [a4 i, if_neg (by omega)]
  have ho1 : LkO (nd σ1) g x o := ho.node hg (Nat.le_refl _) (by omega) hnd
  obtain ⟨σ2, b1, b2, b3, b4⟩ := link_s (N := N) hN (x2 := J dep) a2 (by omega) hg ho1
  obtain ⟨σ3, c1, c2, c3, c4⟩ := ref_expect (N := N) b2 (by omega) (J 10) (J g) (J dep)
  obtain ⟨σ4, d1, d2, d3, d4⟩ := ref_expect (N := N) c2 (by simp only [List.length_cons]; omega) (J 7) (J x) (J (dep + 1))
  refine ⟨σ4, ?_, d2, ((a3.tr b3).tr c3).tr d3, ?_, fun i hi => ?_⟩
  · unfold fX9_sequences
    simp (decide := true) (disch := omega) only [letS_d, grd_tt, bnd_d, bnd1_d, bndX_d, bndX_e, gI_at, gI_ne, gI_sL, gL_sL, gL_sI, upd_at, updL_at, J_lit, J_add, J_mul, J_sub, J_lt, J_le, J_inj, J_ne, ne_J, m_lt, lt_m, m_le, le_m, J_cl, J_inB, if_true, if_false, ite_true, ite_false, reduceIte, isZ0, isZ1, J_and31, shrJ0, shlJ0, gI_sA, gL_sA, Nat.reduceEqDiff, Nat.reduceAdd, Nat.reduceMul, Nat.reduceLT, Nat.reduceLeDiff, a1]
    rw [b1]
    unfold fX9_sequences_65
    simp (decide := true) (disch := omega) only [letS_d, grd_tt, bnd_d, bnd1_d, bndX_d, bndX_e, gI_at, gI_ne, gI_sL, gL_sL, gL_sI, upd_at, updL_at, J_lit, J_add, J_mul, J_sub, J_lt, J_le, J_inj, J_ne, ne_J, m_lt, lt_m, m_le, le_m, J_cl, J_inB, if_true, if_false, ite_true, ite_false, reduceIte, isZ0, isZ1, J_and31, shrJ0, shlJ0, gI_sA, gL_sA, Nat.reduceEqDiff, Nat.reduceAdd, Nat.reduceMul, Nat.reduceLT, Nat.reduceLeDiff, c1, d1]
  · rw [d4, c4, b4 x, lnkF_ne (by omega) (fun z hz => by have := ho.lt z hz; omega), a4 x, if_pos rfl]
  · rw [d4, c4, b4 i, lnkF_congr (hnd i hi)]
/-- a piece of a sequence -/
theorem ref_piece (hN : 200 ≤ N) {p x sq dep : Nat} {o : Option Nat} {L : List IT} {σ : St} (h : RQ ch ln p x ((J 7, J sq, J dep) :: L) σ) (hL : L.length < 140) (hdep : dep < 100) (hx : x + 2 < 160) (hsq : sq < x) (ho : LkO (nd σ) sq x o) : (12 < dep → Bd N 2 p σ) ∧ (dep ≤ 12 → (¬ ch p = 91 → ∃ σ', Go N 1 σ σ' ∧ RQ ch ln p (x + 1) ((J 2, pI (some x), J (dep + 1)) :: (J 8, J x, J 0) :: (J 9, J sq, J dep) :: L) σ' ∧ nd σ' x = nN0 11 ∧ ∀ i, i < x → nd σ' i = lnkF (nd σ) sq o x i) ∧ (ch p = 91 → ∃ σ', Go N 1 σ σ' ∧ RQ ch ln (p + 1) (x + 3) ((J 7, J (x + 2), J (dep + 1)) :: (J 10, J (x + 1), J dep) :: (J 8, J x, J 0) :: (J 9, J sq, J dep) :: L) σ' ∧ nd σ' x = (J 11, J (x + 1), -J 1, -J 1, J 1, J 1) ∧ nd σ' (x + 1) = (J 12, J (x + 2), -J 1, -J 1, J 1, J 1) ∧ nd σ' (x + 2) = nN0 10 ∧ ∀ i, i < x → nd σ' i = lnkF (nd σ) sq o x i)) := by
  have h1 := h.pop
  have hc := h.ch_lt p
  have hnow := ref_now (N := N) h1
  have hn1 : nd (sI σ 13 0 (J L.length)) = nd σ := nd_of (S := [13]) (Fr.i (by decide)) (by decide)
  have htake : fX9_take N (sI σ 13 0 (J L.length)) (J 7) (J sq) (J dep) = bnd1 (fX9_piece N (sI σ 13 0 (J L.length)) (J sq) (J dep) (J (ch p))) fun σ16 => some σ16 := by
    unfold fX9_take
    rw [hnow, bnd_d]
    rfl
  constructor
  · intro hd
    have f : Fr [12] (sI σ 13 0 (J L.length)) (sI (sI σ 13 0 (J L.length)) 12 0 (J 0)) := Fr.i (by decide)
    refine Bd.step (σ' := sI (sI σ 13 0 (J L.length)) 12 0 (J 0)) h (by omega) ?_ (f.mono (by decide)) (by simp (decide := true) (disch := omega) only [letS_d, grd_tt, bnd_d, bnd1_d, bndX_d, bndX_e, gI_at, gI_ne, gI_sL, gL_sL, gL_sI, upd_at, updL_at, J_lit, J_add, J_mul, J_sub, J_lt, J_le, J_inj, J_ne, ne_J, m_lt, lt_m, m_le, le_m, J_cl, J_inB, if_true, if_false, ite_true, ite_false, reduceIte, isZ0, isZ1, J_and31, shrJ0, shlJ0, gI_sA, gL_sA, Nat.reduceEqDiff, Nat.reduceAdd, Nat.reduceMul, Nat.reduceLT, Nat.reduceLeDiff]) (by simp (decide := true) (disch := omega) only [letS_d, grd_tt, bnd_d, bnd1_d, bndX_d, bndX_e, gI_at, gI_ne, gI_sL, gL_sL, gL_sI, upd_at, updL_at, J_lit, J_add, J_mul, J_sub, J_lt, J_le, J_inj, J_ne, ne_J, m_lt, lt_m, m_le, le_m, J_cl, J_inB, if_true, if_false, ite_true, ite_false, reduceIte, isZ0, isZ1, J_and31, shrJ0, shlJ0, gI_sA, gL_sA, Nat.reduceEqDiff, Nat.reduceAdd, Nat.reduceMul, Nat.reduceLT, Nat.reduceLeDiff]; exact h.1.1)
    refine htake.trans ?_
    unfold fX9_piece fX9_piece_12
    simp (decide := true) (disch := omega) only [letS_d, grd_tt, bnd_d, bnd1_d, bndX_d, bndX_e, gI_at, gI_ne, gI_sL, gL_sL, gL_sI, upd_at, updL_at, J_lit, J_add, J_mul, J_sub, J_lt, J_le, J_inj, J_ne, ne_J, m_lt, lt_m, m_le, le_m, J_cl, J_inB, if_true, if_false, ite_true, ite_false, reduceIte, isZ0, isZ1, J_and31, shrJ0, shlJ0, gI_sA, gL_sA, Nat.reduceEqDiff, Nat.reduceAdd, Nat.reduceMul, Nat.reduceLT, Nat.reduceLeDiff, hd]
  · intro hd
    have hd' : ¬ 12 < dep := by omega
    have h2 := h1.good
    have f2 : Fr [12, 13] σ (sI (sI σ 13 0 (J L.length)) 12 0 (J 1)) := (Fr.i (by decide)).tr (Fr.i (by decide))
    have f2' : Fr RdL (sI σ 13 0 (J L.length)) (sI (sI σ 13 0 (J L.length)) 12 0 (J 1)) := Fr.i (by decide)
    have hn2 : nd (sI (sI σ 13 0 (J L.length)) 12 0 (J 1)) = nd σ := nd_of f2 (by decide)
    obtain ⟨σ1, a1, a2, a3, a4⟩ := ref_node (N := N) (k := 11) h2 (show x < 160 by omega)
    rw [hn2] at a4
    have hnd : ∀ i, i < x → nd σ1 i = nd σ i := fun i hi => by rw [a4 i, if_neg (by omega)]
    have ho1 : LkO (nd σ1) sq x o := ho.node hsq (Nat.le_refl _) (by omega) hnd
    obtain ⟨σ2, b1, b2, b3, b4⟩ := link_p (N := N) hN (x2 := J dep) (x3 := J (ch p)) a2 (by omega) hsq ho1
    obtain ⟨σ3, c1, c2, c3, c4⟩ := ref_expect (N := N) b2 (by omega) (J 9) (J sq) (J dep)
    obtain ⟨σ4, d1, d2, d3, d4⟩ := ref_expect (N := N) c2 (by simp only [List.length_cons]; omega) (J 8) (J x) (J 0)
    have h4x : nd σ4 x = nN0 11 := by
      rw [d4, c4, b4 x, lnkF_ne (by omega) (fun z hz => by have := ho.lt z hz; omega), a4 x, if_pos rfl]
    have h4i : ∀ i, i < x → nd σ4 i = lnkF (nd σ) sq o x i := fun i hi => by rw [d4, c4, b4 i, lnkF_congr (hnd i hi)]
    have hbeg : fX9_take N (sI σ 13 0 (J L.length)) (J 7) (J sq) (J dep) = bnd1 (if J (ch p) = (91 : Int32) then letS (sI σ4 11 0 ((gI σ4 11 0) + (1 : Int32))) fun σ22 => bnd (fX9_node N σ22 (12 : Int32)) fun r24 σ23 => bnd1 (fX9_hang N σ23 (J x) r24) fun σ25 => bnd1 (fX9_sequences N σ25 r24 (J dep)) fun σ26 => some σ26 else bnd1 (fX9_expect N σ4 (2 : Int32) (J x) (J dep + (1 : Int32))) fun σ27 => some σ27) fun σ16 => some σ16 := by
      refine htake.trans ?_
      unfold fX9_piece fX9_piece_12
      simp (decide := true) (disch := omega) only [letS_d, grd_tt, bnd_d, bnd1_d, bndX_d, bndX_e, gI_at, gI_ne, gI_sL, gL_sL, gL_sI, upd_at, updL_at, J_lit, J_add, J_mul, J_sub, J_lt, J_le, J_inj, J_ne, ne_J, m_lt, lt_m, m_le, le_m, J_cl, J_inB, if_true, if_false, ite_true, ite_false, reduceIte, isZ0, isZ1, J_and31, shrJ0, shlJ0, gI_sA, gL_sA, Nat.reduceEqDiff, Nat.reduceAdd, Nat.reduceMul, Nat.reduceLT, Nat.reduceLeDiff, hd', a1]
      rw [b1]
      unfold fX9_piece_91
      simp (decide := true) (disch := omega) only [letS_d, grd_tt, bnd_d, bnd1_d, bndX_d, bndX_e, gI_at, gI_ne, gI_sL, gL_sL, gL_sI, upd_at, updL_at, J_lit, J_add, J_mul, J_sub, J_lt, J_le, J_inj, J_ne, ne_J, m_lt, lt_m, m_le, le_m, J_cl, J_inB, if_true, if_false, ite_true, ite_false, reduceIte, isZ0, isZ1, J_and31, shrJ0, shlJ0, gI_sA, gL_sA, Nat.reduceEqDiff, Nat.reduceAdd, Nat.reduceMul, Nat.reduceLT, Nat.reduceLeDiff, c1, d1]
    have hfr : Fr RdL (sI σ 13 0 (J L.length)) σ4 := (((f2'.tr a3).tr b3).tr c3).tr d3
    refine ⟨fun hne => ?_, fun heq => ?_⟩
    · obtain ⟨σ5, e1, e2, e3, e4⟩ := ref_expect (N := N) d2 (by simp only [List.length_cons]; omega) (J 2) (J x) (J (dep + 1))
      refine ⟨σ5, Go.step h (by omega) ?_ (hfr.tr e3), e2, by rw [e4]; exact h4x, fun i hi => by rw [e4]; exact h4i i hi⟩
      refine hbeg.trans ?_
      simp (decide := true) (disch := omega) only [letS_d, grd_tt, bnd_d, bnd1_d, bndX_d, bndX_e, gI_at, gI_ne, gI_sL, gL_sL, gL_sI, upd_at, updL_at, J_lit, J_add, J_mul, J_sub, J_lt, J_le, J_inj, J_ne, ne_J, m_lt, lt_m, m_le, le_m, J_cl, J_inB, if_true, if_false, ite_true, ite_false, reduceIte, isZ0, isZ1, J_and31, shrJ0, shlJ0, gI_sA, gL_sA, Nat.reduceEqDiff, Nat.reduceAdd, Nat.reduceMul, Nat.reduceLT, Nat.reduceLeDiff, hne, e1]
    · have hpl := h.lt (i := p) (by omega)
      have h5 := d2.go (q := p + 1) (by omega)
      have hn5 : nd (sI σ4 11 0 (J (p + 1))) = nd σ4 := nd_of (S := [11]) (Fr.i (by decide)) (by decide)
      obtain ⟨σ6, e1, e2, e3, e4⟩ := ref_node (N := N) (k := 12) h5 (show x + 1 < 160 by omega)
      rw [hn5] at e4
      have h6x : nd σ6 x = nN0 11 := by rw [e4 x, if_neg (by omega)]; exact h4x
      obtain ⟨σ7, g1, g2, g3, g4⟩ := ref_hang (N := N) (par := some x) (x := x + 1) e2 (fun k hk => by cases hk; exact ⟨by omega, Or.inl (by rw [h6x]; rfl)⟩)
      have h7g : nd σ7 (x + 1) = nN0 12 := by rw [g4, hangF_ne (by omega), e4, if_pos rfl]
      obtain ⟨σ8, k1, k2, k3, k4, k5⟩ := ref_seqs (N := N) hN (dep := dep) (g := x + 1) (o := none) g2 (by simp only [List.length_cons]; omega) (by omega) (by omega) (by show nO (nd σ7 (x + 1)) = -J 1; rw [h7g]; rfl)
      refine ⟨σ8, Go.step h (by omega) ?_ ((((hfr.tr (Fr.i (by decide))).tr e3).tr g3).tr k3), k2, ?_, ?_, k4, fun i hi => ?_⟩
      · refine hbeg.trans ?_
        have h11 := d2.1.1
        have g1' : fX9_hang N σ6 (J x) (J (x + 1)) = some σ7 := g1
        simp (decide := true) (disch := omega) only [letS_d, grd_tt, bnd_d, bnd1_d, bndX_d, bndX_e, gI_at, gI_ne, gI_sL, gL_sL, gL_sI, upd_at, updL_at, J_lit, J_add, J_mul, J_sub, J_lt, J_le, J_inj, J_ne, ne_J, m_lt, lt_m, m_le, le_m, J_cl, J_inB, if_true, if_false, ite_true, ite_false, reduceIte, isZ0, isZ1, J_and31, shrJ0, shlJ0, gI_sA, gL_sA, Nat.reduceEqDiff, Nat.reduceAdd, Nat.reduceMul, Nat.reduceLT, Nat.reduceLeDiff, heq, h11, e1, g1', k1]
      · rw [k5 x (by omega), lnkF_ne (by omega) (fun z hz => by cases hz), g4, hangF_at0 (by rw [h6x]; rfl), h6x]
        rfl
      · rw [k5 (x + 1) (by omega)]
        show (if x + 1 = x + 1 then _ else _) = _
        rw [if_pos rfl, h7g]
        rfl
      · rw [k5 i (by omega), lnkF_ne (by omega) (fun z hz => by cases hz), g4, hangF_ne (by omega), e4, if_neg (by omega)]
        exact h4i i hi
/-- , -/
theorem ref_comma {p x sq dep : Nat} {L : List IT} {σ : St} (h : RQ ch ln p x ((J 9, J sq, J dep) :: L) σ) (hL : L.length < 150) : (ch p = 44 → ∃ σ', Go N 1 σ σ' ∧ RQ ch ln (p + 1) x ((J 7, J sq, J dep) :: L) σ' ∧ nd σ' = nd σ) ∧ (¬ ch p = 44 → ∃ σ', Go N 1 σ σ' ∧ RQ ch ln p x L σ' ∧ nd σ' = nd σ) := by
  have h1 := h.pop
  have hc := h.ch_lt p
  have h11 := h1.1.1
  have hnow := ref_now (N := N) h1
  have hn1 : nd (sI σ 13 0 (J L.length)) = nd σ := nd_of (S := [13]) (Fr.i (by decide)) (by decide)
  constructor
  · intro he
    have hpl := h.lt (i := p) (by omega)
    have f : Fr [11] (sI σ 13 0 (J L.length)) (sI (sI σ 13 0 (J L.length)) 11 0 (J (p + 1))) := Fr.i (by decide)
    obtain ⟨σ2, b1, b2, b3, b4⟩ := ref_expect (N := N) (h1.go (q := p + 1) (by omega)) (by omega) (J 7) (J sq) (J dep)
    refine ⟨σ2, Go.step h (by omega) ?_ ((f.mono (by decide)).tr b3), b2, by rw [b4, nd_of f (by decide), hn1]⟩
    show fX9_take N (sI σ 13 0 (J L.length)) (J 9) (J sq) (J dep) = _
    generalize sI σ 13 0 (J L.length) = σ1 at *
    unfold fX9_take
    simp (decide := true) (disch := omega) only [letS_d, grd_tt, bnd_d, bnd1_d, bndX_d, bndX_e, gI_at, gI_ne, gI_sL, gL_sL, gL_sI, upd_at, updL_at, J_lit, J_add, J_mul, J_sub, J_lt, J_le, J_inj, J_ne, ne_J, m_lt, lt_m, m_le, le_m, J_cl, J_inB, if_true, if_false, ite_true, ite_false, reduceIte, isZ0, isZ1, J_and31, shrJ0, shlJ0, gI_sA, gL_sA, Nat.reduceEqDiff, Nat.reduceAdd, Nat.reduceMul, Nat.reduceLT, Nat.reduceLeDiff, hnow, he, h11, b1]
  · intro he
    refine ⟨_, Go.step h (by omega) ?_ Fr.rf, h1, hn1⟩
    show fX9_take N (sI σ 13 0 (J L.length)) (J 9) (J sq) (J dep) = _
    generalize sI σ 13 0 (J L.length) = σ1 at *
    unfold fX9_take fX9_take_317
    simp (decide := true) (disch := omega) only [letS_d, grd_tt, bnd_d, bnd1_d, bndX_d, bndX_e, gI_at, gI_ne, gI_sL, gL_sL, gL_sI, upd_at, updL_at, J_lit, J_add, J_mul, J_sub, J_lt, J_le, J_inj, J_ne, ne_J, m_lt, lt_m, m_le, le_m, J_cl, J_inB, if_true, if_false, ite_true, ite_false, reduceIte, isZ0, isZ1, J_and31, shrJ0, shlJ0, gI_sA, gL_sA, Nat.reduceEqDiff, Nat.reduceAdd, Nat.reduceMul, Nat.reduceLT, Nat.reduceLeDiff, hnow, he]
/-- / ] -/
theorem ref_slash (hN : 200 ≤ N) {p x g dep : Nat} {o : Option Nat} {L : List IT} {σ : St} (h : RQ ch ln p x ((J 10, J g, J dep) :: L) σ) (hL : L.length < 140) (hx : x < 160) (hg : g < x) (ho : LkO (nd σ) g x o) : (ch p = 47 → ∃ σ', Go N 1 σ σ' ∧ RQ ch ln (p + 1) (x + 1) ((J 7, J x, J (dep + 1)) :: (J 10, J g, J dep) :: L) σ' ∧ nd σ' x = nN0 10 ∧ ∀ i, i < x → nd σ' i = lnkF (nd σ) g o x i) ∧ (ch p = 93 → ∃ σ', Go N 1 σ σ' ∧ RQ ch ln (p + 1) x L σ' ∧ nd σ' = nd σ) ∧ (¬ ch p = 47 → ¬ ch p = 93 → Bd N 2 p σ) := by
  have h1 := h.pop
  have hc := h.ch_lt p
  have h11 := h1.1.1
  have hnow := ref_now (N := N) h1
  have hn1 : nd (sI σ 13 0 (J L.length)) = nd σ := nd_of (S := [13]) (Fr.i (by decide)) (by decide)
  have f : Fr [11, 12] (sI σ 13 0 (J L.length)) (sI (sI (sI σ 13 0 (J L.length)) 12 0 (J 1)) 11 0 (J (p + 1))) := (Fr.i (by decide)).tr (Fr.i (by decide))
  have hn2 := (nd_of f (by decide)).trans hn1
  refine ⟨fun he => ?_, fun he => ?_, fun he he2 => ?_⟩
  · have hpl := h.lt (i := p) (by omega)
    obtain ⟨σ2, b1, b2, b3, b4, b5⟩ := ref_seqs (N := N) hN (dep := dep) (h1.good.go (q := p + 1) (by omega)) (by omega) hx hg (by rw [hn2]; exact ho)
    rw [hn2] at b5
    refine ⟨σ2, Go.step h (by omega) ?_ ((f.mono (by decide)).tr b3), b2, b4, b5⟩
    show fX9_take N (sI σ 13 0 (J L.length)) (J 10) (J g) (J dep) = _
    generalize sI σ 13 0 (J L.length) = σ1 at *
    unfold fX9_take fX9_take_317 fX9_take_338 fX9_take_343 fX9_take_363
    simp (decide := true) (disch := omega) only [letS_d, grd_tt, bnd_d, bnd1_d, bndX_d, bndX_e, gI_at, gI_ne, gI_sL, gL_sL, gL_sI, upd_at, updL_at, J_lit, J_add, J_mul, J_sub, J_lt, J_le, J_inj, J_ne, ne_J, m_lt, lt_m, m_le, le_m, J_cl, J_inB, if_true, if_false, ite_true, ite_false, reduceIte, isZ0, isZ1, J_and31, shrJ0, shlJ0, gI_sA, gL_sA, Nat.reduceEqDiff, Nat.reduceAdd, Nat.reduceMul, Nat.reduceLT, Nat.reduceLeDiff, hnow, he, h11, b1]
  · have hpl := h.lt (i := p) (by omega)
    refine ⟨_, Go.step h (by omega) ?_ (f.mono (by decide)), h1.good.go (by omega), hn2⟩
    show fX9_take N (sI σ 13 0 (J L.length)) (J 10) (J g) (J dep) = _
    generalize sI σ 13 0 (J L.length) = σ1 at *
    unfold fX9_take fX9_take_317 fX9_take_338 fX9_take_343 fX9_take_363
    simp (decide := true) (disch := omega) only [letS_d, grd_tt, bnd_d, bnd1_d, bndX_d, bndX_e, gI_at, gI_ne, gI_sL, gL_sL, gL_sI, upd_at, updL_at, J_lit, J_add, J_mul, J_sub, J_lt, J_le, J_inj, J_ne, ne_J, m_lt, lt_m, m_le, le_m, J_cl, J_inB, if_true, if_false, ite_true, ite_false, reduceIte, isZ0, isZ1, J_and31, shrJ0, shlJ0, gI_sA, gL_sA, Nat.reduceEqDiff, Nat.reduceAdd, Nat.reduceMul, Nat.reduceLT, Nat.reduceLeDiff, hnow, he, h11]
  · have f : Fr [11, 12] (sI σ 13 0 (J L.length)) (sI (sI (sI σ 13 0 (J L.length)) 12 0 (J 0)) 11 0 (J p)) := (Fr.i (by decide)).tr (Fr.i (by decide))
    refine Bd.step (σ' := sI (sI (sI σ 13 0 (J L.length)) 12 0 (J 0)) 11 0 (J p)) h (by omega) ?_ (f.mono (by decide)) (by simp (decide := true) (disch := omega) only [letS_d, grd_tt, bnd_d, bnd1_d, bndX_d, bndX_e, gI_at, gI_ne, gI_sL, gL_sL, gL_sI, upd_at, updL_at, J_lit, J_add, J_mul, J_sub, J_lt, J_le, J_inj, J_ne, ne_J, m_lt, lt_m, m_le, le_m, J_cl, J_inB, if_true, if_false, ite_true, ite_false, reduceIte, isZ0, isZ1, J_and31, shrJ0, shlJ0, gI_sA, gL_sA, Nat.reduceEqDiff, Nat.reduceAdd, Nat.reduceMul, Nat.reduceLT, Nat.reduceLeDiff]) (by simp (decide := true) (disch := omega) only [letS_d, grd_tt, bnd_d, bnd1_d, bndX_d, bndX_e, gI_at, gI_ne, gI_sL, gL_sL, gL_sI, upd_at, updL_at, J_lit, J_add, J_mul, J_sub, J_lt, J_le, J_inj, J_ne, ne_J, m_lt, lt_m, m_le, le_m, J_cl, J_inB, if_true, if_false, ite_true, ite_false, reduceIte, isZ0, isZ1, J_and31, shrJ0, shlJ0, gI_sA, gL_sA, Nat.reduceEqDiff, Nat.reduceAdd, Nat.reduceMul, Nat.reduceLT, Nat.reduceLeDiff])
    show fX9_take N (sI σ 13 0 (J L.length)) (J 10) (J g) (J dep) = _
    generalize sI σ 13 0 (J L.length) = σ1 at *
    unfold fX9_take fX9_take_317 fX9_take_343 fX9_take_363
    simp (decide := true) (disch := omega) only [letS_d, grd_tt, bnd_d, bnd1_d, bndX_d, bndX_e, gI_at, gI_ne, gI_sL, gL_sL, gL_sI, upd_at, updL_at, J_lit, J_add, J_mul, J_sub, J_lt, J_le, J_inj, J_ne, ne_J, m_lt, lt_m, m_le, le_m, J_cl, J_inB, if_true, if_false, ite_true, ite_false, reduceIte, isZ0, isZ1, J_and31, shrJ0, shlJ0, gI_sA, gL_sA, Nat.reduceEqDiff, Nat.reduceAdd, Nat.reduceMul, Nat.reduceLT, Nat.reduceLeDiff, hnow, he, he2, h11, Nat.add_zero]
end SQS
