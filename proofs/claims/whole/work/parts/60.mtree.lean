/-! the tree of a text, and how it is read -/
def litv (c : Nat) : Option Nat := if c = 97 then some 1 else if c = 98 then some 2 else if c = 99 then some 4 else if c = 48 then some 0 else if c = 49 then some 8 else none
abbrev PR := Nat × Option Term
def pbind (r : PR) (f : Nat → Term → PR) : PR := match r with
  | (q, some t) => f q t
  | (q, none) => (q, none)
def bP (ch : Nat → Nat) : Nat → Nat → PR
  | 0, p => (p, none)
  | f + 1, p => if ch p = 33 then pbind (bP ch f (p + 1)) (fun q b => (q, some (.length b))) else if ch p = 40 then pbind (bP ch f (p + 1)) (fun q a => if ch q = 38 ∨ ch q = 124 then pbind (bP ch f (q + 1)) (fun r b => if ch r = 41 then (r + 1, some (if ch q = 38 then .add a b else .sub a b)) else (r, none)) else (q, none)) else match litv (ch p) with
    | some v => (p + 1, some (.index v))
    | none => (p, none)
def gLp (ch : Nat → Nat) (sq : Nat → PR) : Nat → Nat → Term → PR
  | 0, q, _ => (q, none)
  | n + 1, q, g => if ch q = 47 then pbind (sq (q + 1)) (fun r s => gLp ch sq n r (.elem g (.old s))) else if ch q = 93 then (q + 1, some g) else (q, none)
def uP (ch : Nat → Nat) (bq sq : Nat → PR) (p : Nat) : PR := if ch p = 91 then pbind (sq (p + 1)) (fun q s => gLp ch sq 41 q (.elem .null (.old s))) else pbind (bq p) (fun q b => (q, some (.field b "" "" "")))
def xP (ch : Nat → Nat) (q : Nat) (u : Term) : PR := if ch q = 43 then (q + 1, some (.elem u (.index 16))) else if ch q = 42 then (if 49 ≤ ch (q + 1) ∧ ch (q + 1) ≤ 57 then (if ch (q + 2) = 45 then (if ch (q + 1) ≤ ch (q + 3) ∧ ch (q + 3) ≤ 57 then (q + 4, some (.elem u (.index (16 * (ch (q + 1) - 48) + (ch (q + 3) - 48))))) else (q + 3, none)) else (q + 2, some (.elem u (.index (17 * (ch (q + 1) - 48)))))) else (q + 1, none)) else (q, some (.elem u (.index 17)))
def tP (ch : Nat → Nat) (bq sq : Nat → PR) (p : Nat) : PR := pbind (uP ch bq sq p) (xP ch)
def sLp (ch : Nat → Nat) (tq : Nat → PR) : Nat → Nat → Term → PR
  | 0, q, _ => (q, none)
  | n + 1, q, s => if ch q = 44 then pbind (tq (q + 1)) (fun r t => sLp ch tq n r (.elem s (.length t))) else (q, some s)
def sP (ch : Nat → Nat) : Nat → Nat → PR
  | 0, p => (p, none)
  | f + 1, p => pbind (tP ch (bP ch f) (sP ch f) p) (fun q t => sLp ch (tP ch (bP ch f) (sP ch f)) 41 q t)
def pP (ch : Nat → Nat) : Nat → Nat → PR
  | 0, p => (p, none)
  | f + 1, p => if ch p = 71 then pbind (pP ch f (p + 1)) (fun q t => (q, some (.sum t))) else if ch p = 88 then pbind (pP ch f (p + 1)) (fun q t => (q, some (.old t))) else if ch p = 123 then pbind (sP ch f (p + 1)) (fun q s => if ch q = 125 then (if ch (q + 1) = 62 ∨ ch (q + 1) = 58 then pbind (pP ch f (q + 2)) (fun r t => (r, some (if ch (q + 1) = 62 then .div s t else .rem s t))) else (q + 1, none)) else (q, none)) else if ch p = 40 then pbind (pP ch f (p + 1)) (fun q a => if ch q = 38 ∨ ch q = 124 ∨ ch q = 87 then pbind (pP ch f (q + 1)) (fun r b => if ch r = 41 then (r + 1, some (if ch q = 38 then .add a b else if ch q = 124 then .sub a b else .mul a b)) else (r, none)) else (q, none)) else bP ch (f + 1) p
/-! measures -/
/-- the reference's nodes of a tree -/
def nN : Term → Nat
  | .index _ => 1
  | .length b => 1 + nN b
  | .add p q => 1 + nN p + nN q
  | .sub p q => 1 + nN p + nN q
  | .mul p q => 1 + nN p + nN q
  | .sum p => 1 + nN p
  | .old p => 1 + nN p
  | .div s p => 2 + nN s + nN p
  | .rem s p => 2 + nN s + nN p
  | .field b _ _ _ => nN b
  | .elem u (.index _) => 1 + nN u
  | .elem s (.length t) => nN s + nN t
  | .elem g (.old s) => nN g + 1 + nN s
  | .null => 1
  | _ => 0
/-- the class's nodes of a property -/
def nC : Term → Nat
  | .add p q => nC p + nC q + 1
  | .sub p q => nC p + nC q + 1
  | .mul p q => nC p + nC q + 1
  | .sum p => nC p + 1
  | .old p => nC p + 1
  | .div _ p => nC p + 1
  | .rem _ p => nC p + 1
  | _ => 1
def cps (c : Nat) : Nat := if c % 16 = 0 then 1 else c % 16
/-- how many places a sequence has -/
def len : Term → Nat
  | .field _ _ _ _ => 1
  | .elem u (.index c) => len u * cps c
  | .elem s (.length t) => len s + len t
  | .elem g (.old s) => len g + len s
  | _ => 0
def own : Term → Bool
  | .sum _ => true
  | .mul _ _ => true
  | _ => false
/-- the obligations that a property brings -/
def oC : Term → Nat
  | .add p q => oC p + oC q
  | .sub p q => oC p + oC q
  | .mul p q => oC p + oC q + 1
  | .sum p => oC p + 1
  | .old p => oC p + (if own p = true then 0 else 1)
  | .div s p => len s + oC p
  | .rem s p => len s + oC p + (if own p = true then 0 else 1)
  | _ => 0
/-! places -/
def fi : Term → Nat → Bool
  | .field _ _ _ _, j => decide (j = 0)
  | .elem u (.index _), j => decide (j < len u) && fi u j
  | .elem s (.length _), j => decide (j < len s) && fi s j
  | .elem g (.old s), j => if j < len g then fi g j else fi s (j - len g)
  | _, _ => false
def la : Term → Nat → Bool
  | .field _ _ _ _, j => decide (j = 0)
  | .elem u (.index c), j => decide (j < len u * cps c) && decide (c / 16 ≤ j / len u + 1) && la u (j % len u)
  | .elem s (.length t), j => decide (len s ≤ j) && la t (j - len s)
  | .elem g (.old s), j => if j < len g then la g j else la s (j - len g)
  | _, _ => false
def fo : Term → Nat → Nat → Bool
  | .elem u (.index c), i, j => decide (i < len u * cps c) && decide (j < len u * cps c) && ((decide (i / len u = j / len u) && (fo u (i % len u) (j % len u) || (decide (c % 16 = 0) && la u (i % len u) && fi u (j % len u)))) || (decide (j / len u = i / len u + 1) && la u (i % len u) && fi u (j % len u)))
  | .elem s (.length t), i, j => if i < len s then (if j < len s then fo s i j else la s i && fi t (j - len s)) else (decide (len s ≤ j) && fo t (i - len s) (j - len s))
  | .elem g (.old s), i, j => if i < len g then decide (j < len g) && fo g i j else decide (len g ≤ j) && fo s (i - len g) (j - len g)
  | _, _, _ => false
def pl : Term → Nat → Term
  | .field b _ _ _, _ => b
  | .elem u (.index _), j => pl u (j % len u)
  | .elem s (.length t), j => if j < len s then pl s j else pl t (j - len s)
  | .elem g (.old s), j => if j < len g then pl g j else pl s (j - len g)
  | _, _ => .null
/-! booleans -/
def bs : Term → Nat → Bool
  | .index v, l => decide (v = 8) || decide (¬ v &&& l = 0)
  | .length b, l => !bs b l
  | .add a b, l => bs a l && bs b l
  | .sub a b, l => bs a l || bs b l
  | _, _ => false
/-- the letters that a boolean is true of, as a set -/
def bm (b : Term) : Nat := msk (fun l => bs b l) 8
theorem bm_lt (b : Term) : bm b < 256 := msk_lt _ 8
theorem bm_bit (b : Term) (l : Nat) : (bm b).testBit l = (decide (l < 8) && bs b l) := msk_bit _ 8 l
theorem bm_and (a b : Term) : J (bm a) &&& J (bm b) = J (bm (.add a b)) := by
  refine bt_ext fun i hi => ?_
  rw [bt_and, J_bits i hi, J_bits i hi, J_bits i hi, bm_bit, bm_bit, bm_bit]
  show _ = (decide (i < 8) && (bs a i && bs b i))
  cases decide (i < 8) <;> cases bs a i <;> cases bs b i <;> rfl
theorem bm_or (a b : Term) : J (bm a) ||| J (bm b) = J (bm (.sub a b)) := by
  refine bt_ext fun i hi => ?_
  rw [bt_or, J_bits i hi, J_bits i hi, J_bits i hi, bm_bit, bm_bit, bm_bit]
  show _ = (decide (i < 8) && (bs a i || bs b i))
  cases decide (i < 8) <;> cases bs a i <;> cases bs b i <;> rfl
theorem bm_not (b : Term) : J 255 &&& (J (bm b) ^^^ (-J 1)) = J (bm (.length b)) := by
  refine bt_ext fun i hi => ?_
  have h := bt_not (J (bm b)) hi
  have h2 : bt (J (bm b) ^^^ (-J 1)) i = !bt (J (bm b)) i := h
  rw [bt_and, h2, J_bits i hi, J_bits i hi, J_bits i hi, bm_bit, bm_bit]
  have h3 : ∀ i < 32, Nat.testBit 255 i = decide (i < 8) := by decide +kernel
  rw [h3 i hi]
  show _ = (decide (i < 8) && !bs b i)
  cases decide (i < 8) <;> cases bs b i <;> rfl
theorem bm_lit : bm (.index 1) = 170 ∧ bm (.index 2) = 204 ∧ bm (.index 4) = 240 ∧ bm (.index 0) = 0 ∧ bm (.index 8) = 255 := by decide +kernel
/-! the class's reader: its text, its booleans -/
section RB
variable {N ln : Nat} {ch : Nat → Nat}
/-- the reader stands at a place of the text -/
def Rd (ch : Nat → Nat) (ln p : Nat) (τ : St) : Prop := gI τ 43 0 = J p ∧ gI τ 42 0 = J ln ∧ ln ≤ 40 ∧ (∀ i, i < ln → gI τ 0 i = J (ch i) ∧ 33 ≤ ch i ∧ ch i ≤ 126) ∧ (∀ i, ln ≤ i → ch i = 0) ∧ p ≤ ln
theorem Rd.fr {p : Nat} {τ τ' : St} {S : List Nat} (h : Rd ch ln p τ) (f : Fr S τ τ') (d : ∀ k ∈ [0, 42, 43], k ∉ S) : Rd ch ln p τ' := by
  unfold Rd
  rw [f.gi (d 0 (by decide)), f.gi (d 42 (by decide)), f.gi (d 43 (by decide))]
  exact h
theorem Rd.ch_lt {p : Nat} {τ : St} (h : Rd ch ln p τ) (i : Nat) : ch i < 128 := by
  rcases Nat.lt_or_ge i ln with h1 | h1
  · have := h.2.2.2.1 i h1
    omega
  · have := h.2.2.2.2.1 i h1
    omega
theorem Rd.lt {p : Nat} {τ : St} (h : Rd ch ln p τ) {i : Nat} (hc : ¬ ch i = 0) : i < ln := by
  rcases Nat.lt_or_ge i ln with h1 | h1
  · exact h1
  · exact absurd (h.2.2.2.2.1 i h1) hc
theorem Rd.go {p q : Nat} {τ : St} (h : Rd ch ln p τ) (hq : q ≤ ln) : Rd ch ln q (sI τ 43 0 (J q)) := by
  obtain ⟨h1, h2, h3, h4, h5, h6⟩ := h
  exact ⟨by simp (decide := true) (disch := omega) only [letS_d, grd_t, bnd_d, bnd1_d, bndX_d, bndX_e, gI_sI, gI_sL, gL_sL, gL_sI, upd_at, updL_at, J_lit, J_add, J_mul, J_sub, J_lt, J_le, J_inj, J_ne, ne_J, m_lt, lt_m, m_le, le_m, J_cl, J_inB, if_true, if_false, ite_true, ite_false, reduceIte, isZ0, isZ1, J_and31, shrJ0, shlJ0, gI_sA, gL_sA, Nat.reduceEqDiff, Nat.reduceAdd, Nat.reduceMul, Nat.reduceLT, Nat.reduceLeDiff], by simp (decide := true) (disch := omega) only [letS_d, grd_t, bnd_d, bnd1_d, bndX_d, bndX_e, gI_sI, gI_sL, gL_sL, gL_sI, upd_at, updL_at, J_lit, J_add, J_mul, J_sub, J_lt, J_le, J_inj, J_ne, ne_J, m_lt, lt_m, m_le, le_m, J_cl, J_inB, if_true, if_false, ite_true, ite_false, reduceIte, isZ0, isZ1, J_and31, shrJ0, shlJ0, gI_sA, gL_sA, Nat.reduceEqDiff, Nat.reduceAdd, Nat.reduceMul, Nat.reduceLT, Nat.reduceLeDiff]; exact h2, h3, fun i hi => by simp (decide := true) (disch := omega) only [letS_d, grd_t, bnd_d, bnd1_d, bndX_d, bndX_e, gI_sI, gI_sL, gL_sL, gL_sI, upd_at, updL_at, J_lit, J_add, J_mul, J_sub, J_lt, J_le, J_inj, J_ne, ne_J, m_lt, lt_m, m_le, le_m, J_cl, J_inB, if_true, if_false, ite_true, ite_false, reduceIte, isZ0, isZ1, J_and31, shrJ0, shlJ0, gI_sA, gL_sA, Nat.reduceEqDiff, Nat.reduceAdd, Nat.reduceMul, Nat.reduceLT, Nat.reduceLeDiff]; exact h4 i hi, h5, hq⟩
theorem cls_peek {p : Nat} {τ : St} (h : Rd ch ln p τ) : fX6_peek N τ = some (J (ch p), τ) := by
  have hc := h.ch_lt p
  obtain ⟨h1, h2, h3, h4, h5, h6⟩ := h
  unfold fX6_peek
  have hz : isC (J 0) = true := J_isC (by omega)
  rcases Nat.lt_or_ge p ln with hp | hp
  · have hn : ¬ ln ≤ p := by omega
    obtain ⟨a1, a2, a3⟩ := h4 p hp
    have hcc : isC (J (ch p)) = true := J_isC (by omega)
    simp (decide := true) (disch := omega) only [letS_d, grd_t, bnd_d, bnd1_d, bndX_d, bndX_e, gI_sI, gI_sL, gL_sL, gL_sI, upd_at, updL_at, J_lit, J_add, J_mul, J_sub, J_lt, J_le, J_inj, J_ne, ne_J, m_lt, lt_m, m_le, le_m, J_cl, J_inB, if_true, if_false, ite_true, ite_false, reduceIte, isZ0, isZ1, J_and31, shrJ0, shlJ0, gI_sA, gL_sA, Nat.reduceEqDiff, Nat.reduceAdd, Nat.reduceMul, Nat.reduceLT, Nat.reduceLeDiff, h1, h2, hn, a1, hcc]
  · have := h5 p hp
    simp (decide := true) (disch := omega) only [letS_d, grd_t, bnd_d, bnd1_d, bndX_d, bndX_e, gI_sI, gI_sL, gL_sL, gL_sI, upd_at, updL_at, J_lit, J_add, J_mul, J_sub, J_lt, J_le, J_inj, J_ne, ne_J, m_lt, lt_m, m_le, le_m, J_cl, J_inB, if_true, if_false, ite_true, ite_false, reduceIte, isZ0, isZ1, J_and31, shrJ0, shlJ0, gI_sA, gL_sA, Nat.reduceEqDiff, Nat.reduceAdd, Nat.reduceMul, Nat.reduceLT, Nat.reduceLeDiff, h1, h2, hp, hz, this]
theorem cls_req1 {τ : St} : fX6_require N τ (J 1) = some (J 0, J 0, τ) := by
  unfold fX6_require
  simp (decide := true) (disch := omega) only [letS_d, grd_t, bnd_d, bnd1_d, bndX_d, bndX_e, gI_sI, gI_sL, gL_sL, gL_sI, upd_at, updL_at, J_lit, J_add, J_mul, J_sub, J_lt, J_le, J_inj, J_ne, ne_J, m_lt, lt_m, m_le, le_m, J_cl, J_inB, if_true, if_false, ite_true, ite_false, reduceIte, isZ0, isZ1, J_and31, shrJ0, shlJ0, gI_sA, gL_sA, Nat.reduceEqDiff, Nat.reduceAdd, Nat.reduceMul, Nat.reduceLT, Nat.reduceLeDiff]
theorem cls_req0 {p : Nat} {τ : St} (h : gI τ 43 0 = J p) : fX6_require N τ (J 0) = some (J 1, J 0, sI τ 44 0 (J p)) := by
  unfold fX6_require
  simp (decide := true) (disch := omega) only [letS_d, grd_t, bnd_d, bnd1_d, bndX_d, bndX_e, gI_sI, gI_sL, gL_sL, gL_sI, upd_at, updL_at, J_lit, J_add, J_mul, J_sub, J_lt, J_le, J_inj, J_ne, ne_J, m_lt, lt_m, m_le, le_m, J_cl, J_inB, if_true, if_false, ite_true, ite_false, reduceIte, isZ0, isZ1, J_and31, shrJ0, shlJ0, gI_sA, gL_sA, Nat.reduceEqDiff, Nat.reduceAdd, Nat.reduceMul, Nat.reduceLT, Nat.reduceLeDiff, h]
theorem J1n : ¬ (J 1 : Int32) = 0 := by decide
theorem bndX_1 {r : Int32} {σ : St} {f : Int32 → St → Option (Int32 × Int32 × St)} : bndX (some (J 1, r, σ)) f = some (J 1, J 0, σ) := bndX_e J1n r σ f
theorem cls_pass_ok {p c : Nat} {τ : St} (h : Rd ch ln p τ) (hc : ch p = c) (h0 : ¬ c = 0) : fX6_pass N τ (J c) = some (J 0, J 0, sI τ 43 0 (J (p + 1))) ∧ Rd ch ln (p + 1) (sI τ 43 0 (J (p + 1))) := by
  have hlt : p < ln := h.lt (by rw [hc]; exact h0)
  refine ⟨?_, h.go (by omega)⟩
  unfold fX6_pass fX6_pass_14
  rw [cls_peek h, hc]
  have h1 := h.1
  simp (decide := true) (disch := omega) only [letS_d, grd_t, bnd_d, bnd1_d, bndX_d, bndX_e, gI_sI, gI_sL, gL_sL, gL_sI, upd_at, updL_at, J_lit, J_add, J_mul, J_sub, J_lt, J_le, J_inj, J_ne, ne_J, m_lt, lt_m, m_le, le_m, J_cl, J_inB, if_true, if_false, ite_true, ite_false, reduceIte, isZ0, isZ1, J_and31, shrJ0, shlJ0, gI_sA, gL_sA, Nat.reduceEqDiff, Nat.reduceAdd, Nat.reduceMul, Nat.reduceLT, Nat.reduceLeDiff, cls_req1, h1]
theorem cls_pass_no {p c : Nat} {τ : St} (h : Rd ch ln p τ) (hc : ¬ ch p = c) (hc2 : c < 256) : fX6_pass N τ (J c) = some (J 1, J 0, sI τ 44 0 (J p)) := by
  have hl := h.ch_lt p
  unfold fX6_pass fX6_pass_14
  rw [cls_peek h]
  have := cls_req0 (N := N) h.1
  simp (decide := true) (disch := omega) only [letS_d, grd_t, bnd_d, bnd1_d, bndX_d, bndX_e, gI_sI, gI_sL, gL_sL, gL_sI, upd_at, updL_at, J_lit, J_add, J_mul, J_sub, J_lt, J_le, J_inj, J_ne, ne_J, m_lt, lt_m, m_le, le_m, J_cl, J_inB, if_true, if_false, ite_true, ite_false, reduceIte, isZ0, isZ1, J_and31, shrJ0, shlJ0, gI_sA, gL_sA, Nat.reduceEqDiff, Nat.reduceAdd, Nat.reduceMul, Nat.reduceLT, Nat.reduceLeDiff, hc, this, bndX_1]
/-- an atom's place among the atoms -/
theorem cls_index (hN : 100 ≤ N) {c : Nat} {τ : St} (hc : c < 128) : fJ0_indexOf_0f7a4 N τ 0 (J c) = some (if c = 97 then J 0 else if c = 98 then J 1 else if c = 99 then J 2 else if c = 48 then J 3 else if c = 49 then J 4 else -J 1, τ) := by
  have h7 : decide (0 < 7) = true := rfl
  have hlat : fJ0_isLatin1_aae02 N τ 0 = some (J 1, τ) := by
    unfold fJ0_isLatin1_aae02
    simp (decide := true) (disch := omega) only [letS_d, grd_t, bnd_d, bnd1_d, bndX_d, bndX_e, gI_sI, gI_sL, gL_sL, gL_sI, upd_at, updL_at, J_lit, J_add, J_mul, J_sub, J_lt, J_le, J_inj, J_ne, ne_J, m_lt, lt_m, m_le, le_m, J_cl, J_inB, if_true, if_false, ite_true, ite_false, reduceIte, isZ0, isZ1, J_and31, shrJ0, shlJ0, gI_sA, gL_sA, Nat.reduceEqDiff, Nat.reduceAdd, Nat.reduceMul, Nat.reduceLT, Nat.reduceLeDiff, decide_true, h7]
  have hcod : fJ0_coder_7d493 N τ 0 = some (J 0, τ) := by
    unfold fJ0_coder_7d493
    simp (decide := true) (disch := omega) only [letS_d, grd_t, bnd_d, bnd1_d, bndX_d, bndX_e, gI_sI, gI_sL, gL_sL, gL_sI, upd_at, updL_at, J_lit, J_add, J_mul, J_sub, J_lt, J_le, J_inj, J_ne, ne_J, m_lt, lt_m, m_le, le_m, J_cl, J_inB, if_true, if_false, ite_true, ite_false, reduceIte, isZ0, isZ1, J_and31, shrJ0, shlJ0, gI_sA, gL_sA, Nat.reduceEqDiff, Nat.reduceAdd, Nat.reduceMul, Nat.reduceLT, Nat.reduceLeDiff, decide_true, h7, isB0]
  have hlen : fJ0_length_8abf5 N τ 0 = some (J 5, τ) := by
    unfold fJ0_length_8abf5
    rw [hcod]
    have e : (Int32.ofNat (sLen.getD 0 0)) = J 5 := rfl
    simp (decide := true) (disch := omega) only [letS_d, grd_t, bnd_d, bnd1_d, bndX_d, bndX_e, gI_sI, gI_sL, gL_sL, gL_sI, upd_at, updL_at, J_lit, J_add, J_mul, J_sub, J_lt, J_le, J_inj, J_ne, ne_J, m_lt, lt_m, m_le, le_m, J_cl, J_inB, if_true, if_false, ite_true, ite_false, reduceIte, isZ0, isZ1, J_and31, shrJ0, shlJ0, gI_sA, gL_sA, Nat.reduceEqDiff, Nat.reduceAdd, Nat.reduceMul, Nat.reduceLT, Nat.reduceLeDiff, decide_true, h7, e]
  have hcan : fJ1_canEncode_9a6ad N τ (J c) = some (J 1, τ) := by
    unfold fJ1_canEncode_9a6ad
    have : ¬ 255 < c := by omega
    simp (decide := true) (disch := omega) only [letS_d, grd_t, bnd_d, bnd1_d, bndX_d, bndX_e, gI_sI, gI_sL, gL_sL, gL_sI, upd_at, updL_at, J_lit, J_add, J_mul, J_sub, J_lt, J_le, J_inj, J_ne, ne_J, m_lt, lt_m, m_le, le_m, J_cl, J_inB, if_true, if_false, ite_true, ite_false, reduceIte, isZ0, isZ1, J_and31, shrJ0, shlJ0, gI_sA, gL_sA, Nat.reduceEqDiff, Nat.reduceAdd, Nat.reduceMul, Nat.reduceLT, Nat.reduceLeDiff, Nat.not_lt_zero, this]
  have h8 : (J c).toInt8.toInt32 = J c := by
    have : ∀ c < 128, (J c).toInt8.toInt32 = J c := by decide +kernel
    exact this c hc
  have hsl : sLen.getD 0 0 = 5 := rfl
  have hb : ∀ i < 5, (sByt.getD 0 []).getD i 0 = J ([97, 98, 99, 48, 49].getD i 0) := by decide
  have hloop : ∀ f i n, i + f = 5 → f < n → fJ1_indexOfChar_4cfef_7 N n τ 0 (J 5) (J c) (J i) = some (match (List.range' i f).find? (fun i => decide ([97, 98, 99, 48, 49].getD i 0 = c)) with | some i => J i | none => -J 1, τ) := by
    intro f
    induction f with
    | zero =>
      intro i n hi hn
      obtain ⟨n, rfl⟩ : ∃ k, n = k + 1 := ⟨n - 1, by omega⟩
      obtain rfl : i = 5 := by omega
      unfold fJ1_indexOfChar_4cfef_7
      simp (decide := true) (disch := omega) only [letS_d, grd_t, bnd_d, bnd1_d, bndX_d, bndX_e, gI_sI, gI_sL, gL_sL, gL_sI, upd_at, updL_at, J_lit, J_add, J_mul, J_sub, J_lt, J_le, J_inj, J_ne, ne_J, m_lt, lt_m, m_le, le_m, J_cl, J_inB, if_true, if_false, ite_true, ite_false, reduceIte, isZ0, isZ1, J_and31, shrJ0, shlJ0, gI_sA, gL_sA, Nat.reduceEqDiff, Nat.reduceAdd, Nat.reduceMul, Nat.reduceLT, Nat.reduceLeDiff, Nat.le_refl]
      rfl
    | succ f ih =>
      intro i n hi hn
      obtain ⟨n, rfl⟩ : ∃ k, n = k + 1 := ⟨n - 1, by omega⟩
      have h5 : ¬ 5 ≤ i := by omega
      have hbi := hb i (by omega)
      have hbl : [97, 98, 99, 48, 49].getD i 0 < 128 := by
        have : ∀ i < 5, [97, 98, 99, 48, 49].getD i 0 < 128 := by decide
        exact this i (by omega)
      have hz : (0 : Int32) = J 0 := rfl
      rw [hz] at hbi
      unfold fJ1_indexOfChar_4cfef_7
      rw [List.range'_succ, List.find?_cons]
      by_cases he : [97, 98, 99, 48, 49].getD i 0 = c
      · have hd : decide ([97, 98, 99, 48, 49].getD i 0 = c) = true := decide_eq_true he
        rw [hd]
        simp (decide := true) (disch := omega) only [letS_d, grd_t, bnd_d, bnd1_d, bndX_d, bndX_e, gI_sI, gI_sL, gL_sL, gL_sI, upd_at, updL_at, J_lit, J_add, J_mul, J_sub, J_lt, J_le, J_inj, J_ne, ne_J, m_lt, lt_m, m_le, le_m, J_cl, J_inB, if_true, if_false, ite_true, ite_false, reduceIte, isZ0, isZ1, J_and31, shrJ0, shlJ0, gI_sA, gL_sA, Nat.reduceEqDiff, Nat.reduceAdd, Nat.reduceMul, Nat.reduceLT, Nat.reduceLeDiff, h5, decide_true, h7, hsl, hbi, he]
      · have hd : decide ([97, 98, 99, 48, 49].getD i 0 = c) = false := decide_eq_false he
        rw [hd]
        have := ih (i + 1) n (by omega) (by omega)
        simp (decide := true) (disch := omega) only [letS_d, grd_t, bnd_d, bnd1_d, bndX_d, bndX_e, gI_sI, gI_sL, gL_sL, gL_sI, upd_at, updL_at, J_lit, J_add, J_mul, J_sub, J_lt, J_le, J_inj, J_ne, ne_J, m_lt, lt_m, m_le, le_m, J_cl, J_inB, if_true, if_false, ite_true, ite_false, reduceIte, isZ0, isZ1, J_and31, shrJ0, shlJ0, gI_sA, gL_sA, Nat.reduceEqDiff, Nat.reduceAdd, Nat.reduceMul, Nat.reduceLT, Nat.reduceLeDiff, h5, decide_true, h7, hsl, hbi, he]
        exact this
  have hl0 := hloop 5 0 N (by omega) (by omega)
  have hic : fJ1_indexOfChar_4cfef N τ 0 (J c) (J 0) (J 5) = some (match (List.range' 0 5).find? (fun i => decide ([97, 98, 99, 48, 49].getD i 0 = c)) with | some i => J i | none => -J 1, τ) := by
    unfold fJ1_indexOfChar_4cfef
    simp (decide := true) (disch := omega) only [letS_d, grd_t, bnd_d, bnd1_d, bndX_d, bndX_e, gI_sI, gI_sL, gL_sL, gL_sI, upd_at, updL_at, J_lit, J_add, J_mul, J_sub, J_lt, J_le, J_inj, J_ne, ne_J, m_lt, lt_m, m_le, le_m, J_cl, J_inB, if_true, if_false, ite_true, ite_false, reduceIte, isZ0, isZ1, J_and31, shrJ0, shlJ0, gI_sA, gL_sA, Nat.reduceEqDiff, Nat.reduceAdd, Nat.reduceMul, Nat.reduceLT, Nat.reduceLeDiff, h8]
    exact hl0
  have hio : fJ1_indexOf_4cfef N τ 0 (J c) (J 0) (J 5) = some (match (List.range' 0 5).find? (fun i => decide ([97, 98, 99, 48, 49].getD i 0 = c)) with | some i => J i | none => -J 1, τ) := by
    unfold fJ1_indexOf_4cfef
    rw [hcan]
    have e : (Int32.ofNat (sLen.getD 0 0)) = J 5 := rfl
    simp (decide := true) (disch := omega) only [letS_d, grd_t, bnd_d, bnd1_d, bndX_d, bndX_e, gI_sI, gI_sL, gL_sL, gL_sI, upd_at, updL_at, J_lit, J_add, J_mul, J_sub, J_lt, J_le, J_inj, J_ne, ne_J, m_lt, lt_m, m_le, le_m, J_cl, J_inB, if_true, if_false, ite_true, ite_false, reduceIte, isZ0, isZ1, J_and31, shrJ0, shlJ0, gI_sA, gL_sA, Nat.reduceEqDiff, Nat.reduceAdd, Nat.reduceMul, Nat.reduceLT, Nat.reduceLeDiff, decide_true, h7, Nat.not_lt_zero, e, hic, Nat.lt_irrefl]
  have hres : (match (List.range' 0 5).find? (fun i => decide ([97, 98, 99, 48, 49].getD i 0 = c)) with | some i => J i | none => -J 1) = (if c = 97 then J 0 else if c = 98 then J 1 else if c = 99 then J 2 else if c = 48 then J 3 else if c = 49 then J 4 else -J 1) := by
    have : ∀ c < 128, (match (List.range' 0 5).find? (fun i => decide ([97, 98, 99, 48, 49].getD i 0 = c)) with | some i => J i | none => -J 1) = (if c = 97 then J 0 else if c = 98 then J 1 else if c = 99 then J 2 else if c = 48 then J 3 else if c = 49 then J 4 else -J 1) := by decide +kernel
    exact this c hc
  rw [hres] at hio
  unfold fJ0_indexOf_0f7a4 fJ0_indexOf_7cf53
  rw [hlat]
  simp (decide := true) (disch := omega) only [letS_d, grd_t, bnd_d, bnd1_d, bndX_d, bndX_e, gI_sI, gI_sL, gL_sL, gL_sI, upd_at, updL_at, J_lit, J_add, J_mul, J_sub, J_lt, J_le, J_inj, J_ne, ne_J, m_lt, lt_m, m_le, le_m, J_cl, J_inB, if_true, if_false, ite_true, ite_false, reduceIte, isZ0, isZ1, J_and31, shrJ0, shlJ0, gI_sA, gL_sA, Nat.reduceEqDiff, Nat.reduceAdd, Nat.reduceMul, Nat.reduceLT, Nat.reduceLeDiff, decide_true, h7, hlen, hio]
/-- what a read of a boolean comes to -/
def BO (ch : Nat → Nat) (ln : Nat) (r : PR) (τ : St) (z : Option (Int32 × Int32 × St)) : Prop := match r with
  | (q, some b) => ∃ τ', z = some (J 0, J (bm b), τ') ∧ Fr [43] τ τ' ∧ Rd ch ln q τ'
  | (q, none) => ∃ τ', z = some (J 1, J 0, τ') ∧ Fr [43, 44] τ τ' ∧ gI τ' 44 0 = J q
theorem cls_bool (hN : 100 ≤ N) : ∀ f dep d p (τ : St), dep + f = 13 → 2 * f < d → Rd ch ln p τ → BO ch ln (bP ch f p) τ (fX6_rec N d 8 τ (J dep)) := by
  intro f
  induction f with
  | zero =>
    intro dep d p τ hd hdd hR
    obtain ⟨d, rfl⟩ : ∃ k, d = k + 1 := ⟨d - 1, by omega⟩
    obtain rfl : dep = 13 := by omega
    refine ⟨sI τ 44 0 (J p), ?_, Fr.i (by decide), by simp (decide := true) (disch := omega) only [letS_d, grd_t, bnd_d, bnd1_d, bndX_d, bndX_e, gI_sI, gI_sL, gL_sL, gL_sI, upd_at, updL_at, J_lit, J_add, J_mul, J_sub, J_lt, J_le, J_inj, J_ne, ne_J, m_lt, lt_m, m_le, le_m, J_cl, J_inB, if_true, if_false, ite_true, ite_false, reduceIte, isZ0, isZ1, J_and31, shrJ0, shlJ0, gI_sA, gL_sA, Nat.reduceEqDiff, Nat.reduceAdd, Nat.reduceMul, Nat.reduceLT, Nat.reduceLeDiff]⟩
    unfold fX6_rec fX6_readBoolean fX6_readBoolean_12
    have := cls_req0 (N := N) hR.1
    simp (decide := true) (disch := omega) only [letS_d, grd_t, bnd_d, bnd1_d, bndX_d, bndX_e, gI_sI, gI_sL, gL_sL, gL_sI, upd_at, updL_at, J_lit, J_add, J_mul, J_sub, J_lt, J_le, J_inj, J_ne, ne_J, m_lt, lt_m, m_le, le_m, J_cl, J_inB, if_true, if_false, ite_true, ite_false, reduceIte, isZ0, isZ1, J_and31, shrJ0, shlJ0, gI_sA, gL_sA, Nat.reduceEqDiff, Nat.reduceAdd, Nat.reduceMul, Nat.reduceLT, Nat.reduceLeDiff, this, bndX_1]
  | succ f ih =>
    intro dep d p τ hd hdd hR
    obtain ⟨d, rfl⟩ : ∃ k, d = k + 2 := ⟨d - 2, by omega⟩
    have h12 : ¬ 12 < dep := by omega
    have hcl := hR.ch_lt p
    have hbase : fX6_rec N (d + 1 + 1) 8 τ (J dep) = (bndX (some (J 0, J 0, τ)) fun r4 σ2 => bnd (some (J (ch p), σ2)) fun r6 σ5 => if r6 = (33 : Int32) then bndX (fX6_pass N σ5 (33 : Int32)) fun r19 σ17 => bndX (fX6_rec N (d + 1) 8 σ17 (J dep + (1 : Int32))) fun r21 σ20 => some ((0 : Int32), (255 : Int32) &&& (r21 ^^^ (-1 : Int32)), σ20) else if r6 = (40 : Int32) then bndX (fX6_rec N (d + 1) 9 σ5 (J dep)) fun r15 σ14 => some ((0 : Int32), r15, σ14) else grd (decide (0 < 7)) (bnd (fJ0_indexOf_0f7a4 N σ5 (0) r6) fun r11 σ10 => if r11 < 0 then fX6_readBoolean_82 N (fX6_rec N (d + 1)) σ10 r11 else if (5 : Int32) ≤ r11 then fX6_readBoolean_82 N (fX6_rec N (d + 1)) σ10 r11 else fX6_readBoolean_83 N (fX6_rec N (d + 1)) σ10 r11 (1 : Int32))) := by
      rw [show fX6_rec N (d + 1 + 1) 8 τ (J dep) = fX6_readBoolean N (fX6_rec N (d + 1)) τ (J dep) from rfl]
      unfold fX6_readBoolean
      rw [if_neg (show ¬ (12 : Int32) < J dep by
        show ¬ J 12 < J dep
        rw [J_lt (by omega) (by omega)]
        exact h12)]
      unfold fX6_readBoolean_12
      rw [show (1 : Int32) = J 1 from rfl, cls_req1, bndX_d, bndX_d, cls_peek hR]
    rw [hbase, bndX_d]
    unfold bP
    by_cases h33 : ch p = 33
    · rw [if_pos h33]
      obtain ⟨e1, e2⟩ := cls_pass_ok (N := N) hR h33 (by omega)
      have hi := ih (dep + 1) (d + 1) (p + 1) (sI τ 43 0 (J (p + 1))) (by omega) (by omega) e2
      have hz : ∀ z, (if J (ch p) = (33 : Int32) then bndX (fX6_pass N τ (33 : Int32)) fun r19 σ17 => bndX (fX6_rec N (d + 1) 8 σ17 (J dep + (1 : Int32))) fun r21 σ20 => some ((0 : Int32), (255 : Int32) &&& (r21 ^^^ (-1 : Int32)), σ20) else z) = bndX (fX6_rec N (d + 1) 8 (sI τ 43 0 (J (p + 1))) (J (dep + 1))) fun r21 σ20 => some (J 0, J 255 &&& (r21 ^^^ (-J 1)), σ20) := fun z => by
        simp (decide := true) (disch := omega) only [letS_d, grd_t, bnd_d, bnd1_d, bndX_d, bndX_e, gI_sI, gI_sL, gL_sL, gL_sI, upd_at, updL_at, J_lit, J_add, J_mul, J_sub, J_lt, J_le, J_inj, J_ne, ne_J, m_lt, lt_m, m_le, le_m, J_cl, J_inB, if_true, if_false, ite_true, ite_false, reduceIte, isZ0, isZ1, J_and31, shrJ0, shlJ0, gI_sA, gL_sA, Nat.reduceEqDiff, Nat.reduceAdd, Nat.reduceMul, Nat.reduceLT, Nat.reduceLeDiff, h33, e1]
      rw [bnd_d, hz]
      generalize bP ch f (p + 1) = r at hi ⊢
      obtain ⟨q, b⟩ := r
      cases b with
      | none =>
        obtain ⟨τ', g1, g2, g3⟩ := hi
        exact ⟨τ', by rw [g1, bndX_1], ((Fr.i (by decide)).tr g2), g3⟩
      | some b =>
        obtain ⟨τ', g1, g2, g3⟩ := hi
        exact ⟨τ', by rw [g1, bndX_d, bm_not], ((Fr.i (by decide)).tr g2), g3⟩
    · rw [if_neg h33]
      by_cases h40 : ch p = 40
      · rw [if_pos h40]
        obtain ⟨e1, e2⟩ := cls_pass_ok (N := N) hR h40 (by omega)
        have hi := ih (dep + 1) d (p + 1) (sI τ 43 0 (J (p + 1))) (by omega) (by omega) e2
        have hz : (bnd (some (J (ch p), τ)) fun r6 σ5 => if r6 = (33 : Int32) then bndX (fX6_pass N σ5 (33 : Int32)) fun r19 σ17 => bndX (fX6_rec N (d + 1) 8 σ17 (J dep + (1 : Int32))) fun r21 σ20 => some ((0 : Int32), (255 : Int32) &&& (r21 ^^^ (-1 : Int32)), σ20) else if r6 = (40 : Int32) then bndX (fX6_rec N (d + 1) 9 σ5 (J dep)) fun r15 σ14 => some ((0 : Int32), r15, σ14) else grd (decide (0 < 7)) (bnd (fJ0_indexOf_0f7a4 N σ5 (0) r6) fun r11 σ10 => if r11 < 0 then fX6_readBoolean_82 N (fX6_rec N (d + 1)) σ10 r11 else if (5 : Int32) ≤ r11 then fX6_readBoolean_82 N (fX6_rec N (d + 1)) σ10 r11 else fX6_readBoolean_83 N (fX6_rec N (d + 1)) σ10 r11 (1 : Int32))) = bndX (fX6_rec N (d + 1) 9 τ (J dep)) fun r15 σ14 => some (J 0, r15, σ14) := by
          simp (decide := true) (disch := omega) only [letS_d, grd_t, bnd_d, bnd1_d, bndX_d, bndX_e, gI_sI, gI_sL, gL_sL, gL_sI, upd_at, updL_at, J_lit, J_add, J_mul, J_sub, J_lt, J_le, J_inj, J_ne, ne_J, m_lt, lt_m, m_le, le_m, J_cl, J_inB, if_true, if_false, ite_true, ite_false, reduceIte, isZ0, isZ1, J_and31, shrJ0, shlJ0, gI_sA, gL_sA, Nat.reduceEqDiff, Nat.reduceAdd, Nat.reduceMul, Nat.reduceLT, Nat.reduceLeDiff, h40]
        rw [hz]
        have hrec : fX6_rec N (d + 1) 9 τ (J dep) = fX6_readBooleanPair N (fX6_rec N d) τ (J dep) := rfl
        rw [hrec]
        unfold fX6_readBooleanPair
        rw [show (40 : Int32) = J 40 from rfl, e1, bndX_d, show J dep + (1 : Int32) = J (dep + 1) from J_add dep 1]
        generalize bP ch f (p + 1) = r at hi ⊢
        obtain ⟨q, a⟩ := r
        cases a with
        | none =>
          obtain ⟨τ', g1, g2, g3⟩ := hi
          exact ⟨τ', by rw [g1, bndX_1, bndX_1], ((Fr.i (by decide)).tr g2), g3⟩
        | some a =>
          obtain ⟨τ1, g1, g2, g3⟩ := hi
          have hf1 : Fr [43] τ τ1 := (Fr.i (by decide)).tr g2
          rw [g1, bndX_d, cls_peek g3, bnd_d]
          have hcq := g3.ch_lt q
          show BO ch ln (if ch q = 38 ∨ ch q = 124 then _ else _) τ _
          by_cases hk : ch q = 38 ∨ ch q = 124
          · rw [if_pos hk]
            have hq0 : ¬ ch q = 0 := by omega
            have hqlt := g3.lt hq0
            have g4 := g3.go (q := q + 1) (by omega)
            have hi2 := ih (dep + 1) d (q + 1) (sI τ1 43 0 (J (q + 1))) (by omega) (by omega) g4
            have h43 := g3.1
            have hz2 : (if J (ch q) = (38 : Int32) then fX6_readBooleanPair_32 N (fX6_rec N d) τ1 (J dep) (J (bm a)) (J (ch q)) else if J (ch q) = (124 : Int32) then fX6_readBooleanPair_32 N (fX6_rec N d) τ1 (J dep) (J (bm a)) (J (ch q)) else fX6_readBooleanPair_37 N (fX6_rec N d) τ1 (J dep) (J (bm a)) (J (ch q)) (0 : Int32)) = bndX (fX6_rec N d 8 (sI τ1 43 0 (J (q + 1))) (J (dep + 1))) fun r16 σ15 => bndX (fX6_pass N σ15 (J 41)) fun r20 σ18 => if ch q = 38 then some (J 0, J (bm a) &&& r16, σ18) else some (J 0, J (bm a) ||| r16, σ18) := by
              rcases hk with hk | hk
              · simp (decide := true) (disch := omega) only [letS_d, grd_t, bnd_d, bnd1_d, bndX_d, bndX_e, gI_sI, gI_sL, gL_sL, gL_sI, upd_at, updL_at, J_lit, J_add, J_mul, J_sub, J_lt, J_le, J_inj, J_ne, ne_J, m_lt, lt_m, m_le, le_m, J_cl, J_inB, if_true, if_false, ite_true, ite_false, reduceIte, isZ0, isZ1, J_and31, shrJ0, shlJ0, gI_sA, gL_sA, Nat.reduceEqDiff, Nat.reduceAdd, Nat.reduceMul, Nat.reduceLT, Nat.reduceLeDiff, hk, fX6_readBooleanPair_32, fX6_readBooleanPair_37, cls_req1, h43]
              · simp (decide := true) (disch := omega) only [letS_d, grd_t, bnd_d, bnd1_d, bndX_d, bndX_e, gI_sI, gI_sL, gL_sL, gL_sI, upd_at, updL_at, J_lit, J_add, J_mul, J_sub, J_lt, J_le, J_inj, J_ne, ne_J, m_lt, lt_m, m_le, le_m, J_cl, J_inB, if_true, if_false, ite_true, ite_false, reduceIte, isZ0, isZ1, J_and31, shrJ0, shlJ0, gI_sA, gL_sA, Nat.reduceEqDiff, Nat.reduceAdd, Nat.reduceMul, Nat.reduceLT, Nat.reduceLeDiff, hk, fX6_readBooleanPair_32, fX6_readBooleanPair_37, cls_req1, h43]
            rw [hz2]
            generalize bP ch f (q + 1) = r2 at hi2 ⊢
            obtain ⟨r, bb⟩ := r2
            cases bb with
            | none =>
              obtain ⟨τ2, k1, k2, k3⟩ := hi2
              exact ⟨τ2, by rw [k1, bndX_1, bndX_1], ((hf1.mono (by decide)).tr ((Fr.i (by decide)).tr k2)), k3⟩
            | some bb =>
              obtain ⟨τ2, k1, k2, k3⟩ := hi2
              have hf2 : Fr [43] τ τ2 := hf1.tr ((Fr.i (by decide)).tr k2)
              rw [k1, bndX_d]
              show BO ch ln (if ch r = 41 then _ else _) τ _
              by_cases h41 : ch r = 41
              · rw [if_pos h41]
                obtain ⟨m1, m2⟩ := cls_pass_ok (N := N) k3 h41 (by omega)
                refine ⟨sI τ2 43 0 (J (r + 1)), ?_, hf2.tr (Fr.i (by decide)), m2⟩
                rw [m1, bndX_d]
                by_cases hk38 : ch q = 38
                · rw [if_pos hk38, if_pos hk38, bndX_d, bm_and]
                · rw [if_neg hk38, if_neg hk38, bndX_d, bm_or]
              · rw [if_neg h41]
                have m1 := cls_pass_no (N := N) k3 h41 (by omega)
                exact ⟨sI τ2 44 0 (J r), by rw [m1, bndX_1, bndX_1], (hf2.mono (by decide)).tr (Fr.i (by decide)), by simp (decide := true) (disch := omega) only [letS_d, grd_t, bnd_d, bnd1_d, bndX_d, bndX_e, gI_sI, gI_sL, gL_sL, gL_sI, upd_at, updL_at, J_lit, J_add, J_mul, J_sub, J_lt, J_le, J_inj, J_ne, ne_J, m_lt, lt_m, m_le, le_m, J_cl, J_inB, if_true, if_false, ite_true, ite_false, reduceIte, isZ0, isZ1, J_and31, shrJ0, shlJ0, gI_sA, gL_sA, Nat.reduceEqDiff, Nat.reduceAdd, Nat.reduceMul, Nat.reduceLT, Nat.reduceLeDiff]⟩
          · rw [if_neg hk]
            have hk1 : ¬ ch q = 38 := fun h => hk (Or.inl h)
            have hk2 : ¬ ch q = 124 := fun h => hk (Or.inr h)
            have := cls_req0 (N := N) g3.1
            refine ⟨sI τ1 44 0 (J q), ?_, (hf1.mono (by decide)).tr (Fr.i (by decide)), by simp (decide := true) (disch := omega) only [letS_d, grd_t, bnd_d, bnd1_d, bndX_d, bndX_e, gI_sI, gI_sL, gL_sL, gL_sI, upd_at, updL_at, J_lit, J_add, J_mul, J_sub, J_lt, J_le, J_inj, J_ne, ne_J, m_lt, lt_m, m_le, le_m, J_cl, J_inB, if_true, if_false, ite_true, ite_false, reduceIte, isZ0, isZ1, J_and31, shrJ0, shlJ0, gI_sA, gL_sA, Nat.reduceEqDiff, Nat.reduceAdd, Nat.reduceMul, Nat.reduceLT, Nat.reduceLeDiff]⟩
            simp (decide := true) (disch := omega) only [letS_d, grd_t, bnd_d, bnd1_d, bndX_d, bndX_e, gI_sI, gI_sL, gL_sL, gL_sI, upd_at, updL_at, J_lit, J_add, J_mul, J_sub, J_lt, J_le, J_inj, J_ne, ne_J, m_lt, lt_m, m_le, le_m, J_cl, J_inB, if_true, if_false, ite_true, ite_false, reduceIte, isZ0, isZ1, J_and31, shrJ0, shlJ0, gI_sA, gL_sA, Nat.reduceEqDiff, Nat.reduceAdd, Nat.reduceMul, Nat.reduceLT, Nat.reduceLeDiff, hk1, hk2, fX6_readBooleanPair_37, this, bndX_1]
      · rw [if_neg h40]
        have hix := cls_index (N := N) hN (τ := τ) hcl
        have h43 := hR.1
        have hreq := cls_req0 (N := N) hR.1
        have h7 : decide (0 < 7) = true := rfl
        obtain ⟨l1, l2, l3, l4, l5⟩ := bm_lit
        have good : ∀ c v i, ch p = c → ¬ c = 0 → litv c = some v → i < 5 → (if c = 97 then J 0 else if c = 98 then J 1 else if c = 99 then J 2 else if c = 48 then J 3 else if c = 49 then J 4 else -J 1) = J i → cATOM i = J (bm (.index v)) → BO ch ln (match litv (ch p) with | some v => (p + 1, some (.index v)) | none => (p, none)) τ (bnd (some (J (ch p), τ)) fun r6 σ5 => if r6 = (33 : Int32) then bndX (fX6_pass N σ5 (33 : Int32)) fun r19 σ17 => bndX (fX6_rec N (d + 1) 8 σ17 (J dep + (1 : Int32))) fun r21 σ20 => some ((0 : Int32), (255 : Int32) &&& (r21 ^^^ (-1 : Int32)), σ20) else if r6 = (40 : Int32) then bndX (fX6_rec N (d + 1) 9 σ5 (J dep)) fun r15 σ14 => some ((0 : Int32), r15, σ14) else grd (decide (0 < 7)) (bnd (fJ0_indexOf_0f7a4 N σ5 (0) r6) fun r11 σ10 => if r11 < 0 then fX6_readBoolean_82 N (fX6_rec N (d + 1)) σ10 r11 else if (5 : Int32) ≤ r11 then fX6_readBoolean_82 N (fX6_rec N (d + 1)) σ10 r11 else fX6_readBoolean_83 N (fX6_rec N (d + 1)) σ10 r11 (1 : Int32))) := by
          intro c v i hc hc0 hlit hi5 hidx hat
          have hlt := hR.lt (i := p) (by rw [hc]; exact hc0)
          rw [hc] at hix ⊢
          rw [hidx] at hix
          rw [hlit]
          have hn5 : ¬ 5 ≤ i := by omega
          refine ⟨sI τ 43 0 (J (p + 1)), ?_, Fr.i (by decide), hR.go (by omega)⟩
          have n33 : ¬ c = 33 := fun h => h33 (hc.trans h)
          have n40 : ¬ c = 40 := fun h => h40 (hc.trans h)
          have hc128 : c < 128 := by rw [← hc]; exact hcl
          simp (decide := true) (disch := omega) only [letS_d, grd_t, bnd_d, bnd1_d, bndX_d, bndX_e, gI_sI, gI_sL, gL_sL, gL_sI, upd_at, updL_at, J_lit, J_add, J_mul, J_sub, J_lt, J_le, J_inj, J_ne, ne_J, m_lt, lt_m, m_le, le_m, J_cl, J_inB, if_true, if_false, ite_true, ite_false, reduceIte, isZ0, isZ1, J_and31, shrJ0, shlJ0, gI_sA, gL_sA, Nat.reduceEqDiff, Nat.reduceAdd, Nat.reduceMul, Nat.reduceLT, Nat.reduceLeDiff, n33, n40, decide_true, h7, hix, Nat.not_lt_zero, hn5, fX6_readBoolean_83, cls_req1, h43, hat]
        by_cases c1 : ch p = 97
        · exact good 97 1 0 c1 (by omega) rfl (by omega) rfl (by rw [l1]; rfl)
        · by_cases c2 : ch p = 98
          · exact good 98 2 1 c2 (by omega) rfl (by omega) rfl (by rw [l2]; rfl)
          · by_cases c3 : ch p = 99
            · exact good 99 4 2 c3 (by omega) rfl (by omega) rfl (by rw [l3]; rfl)
            · by_cases c4 : ch p = 48
              · exact good 48 0 3 c4 (by omega) rfl (by omega) rfl (by rw [l4]; rfl)
              · by_cases c5 : ch p = 49
                · exact good 49 8 4 c5 (by omega) rfl (by omega) rfl (by rw [l5]; rfl)
                · have hlit : litv (ch p) = none := by
                    unfold litv
                    rw [if_neg c1, if_neg c2, if_neg c3, if_neg c4, if_neg c5]
                  rw [hlit]
                  rw [if_neg c1, if_neg c2, if_neg c3, if_neg c4, if_neg c5] at hix
                  refine ⟨sI τ 44 0 (J p), ?_, Fr.i (by decide), by simp (decide := true) (disch := omega) only [letS_d, grd_t, bnd_d, bnd1_d, bndX_d, bndX_e, gI_sI, gI_sL, gL_sL, gL_sI, upd_at, updL_at, J_lit, J_add, J_mul, J_sub, J_lt, J_le, J_inj, J_ne, ne_J, m_lt, lt_m, m_le, le_m, J_cl, J_inB, if_true, if_false, ite_true, ite_false, reduceIte, isZ0, isZ1, J_and31, shrJ0, shlJ0, gI_sA, gL_sA, Nat.reduceEqDiff, Nat.reduceAdd, Nat.reduceMul, Nat.reduceLT, Nat.reduceLeDiff]⟩
                  simp (decide := true) (disch := omega) only [letS_d, grd_t, bnd_d, bnd1_d, bndX_d, bndX_e, gI_sI, gI_sL, gL_sL, gL_sI, upd_at, updL_at, J_lit, J_add, J_mul, J_sub, J_lt, J_le, J_inj, J_ne, ne_J, m_lt, lt_m, m_le, le_m, J_cl, J_inB, if_true, if_false, ite_true, ite_false, reduceIte, isZ0, isZ1, J_and31, shrJ0, shlJ0, gI_sA, gL_sA, Nat.reduceEqDiff, Nat.reduceAdd, Nat.reduceMul, Nat.reduceLT, Nat.reduceLeDiff, h33, h40, decide_true, h7, hix, lo_m, fX6_readBoolean_82, fX6_readBoolean_83, hreq, bndX_1]
end RB
