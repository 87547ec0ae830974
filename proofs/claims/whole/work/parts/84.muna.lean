/-! unrolling: all -/
section UNA
variable {N P fr : Nat} {F : Nat → ND}
theorem bo_kind : ∀ {b : Term} {x : Nat}, isBo b → RR F b x → ∃ v, v < 10 ∧ nK (F x) = J v := by
  intro b x hb h
  cases b with
  | index v => exact ⟨1, by omega, h.1⟩
  | length y => exact ⟨2, by omega, h.1.1⟩
  | add p q => exact ⟨3, by omega, h.1.1⟩
  | sub p q => exact ⟨4, by omega, h.1.1⟩
  | _ => exact hb.elim
theorem kind11 {v : Nat} (hv : v < 100) (h : ¬ v = 11) : (if (J v : Int32) = J 11 then (J 0 : Int32) else -J 1) = -J 1 := by
  rw [if_neg]
  rw [J_inj (by omega) (by omega)]
  exact h
/-- copies put together -/
theorem CI_end {u : Term} {x c S V K : Nat} {σ : St} (hc : cOK c) (hu : 1 ≤ len u) (h : CI F P u x c S V K (cps c) σ) : Vl V K (.elem u (.index c)) σ ∧ PlR K (.elem u (.index c)) x P σ := by
  obtain ⟨h1, h2, h3, h4, h5, h6⟩ := h
  refine ⟨⟨h3.congr (fun t _ => ?_), h5.congr (fun t _ => ?_)⟩, fun j hj => ?_⟩
  · show fi u t = (decide (t < len u) && fi u t)
    by_cases ht : t < len u
    · rw [decide_eq_true ht]
      rfl
    · rw [nf (fi_lt u) (by omega), Bool.and_false]
  · show _ = (decide (t < len u * cps c) && decide (c / 16 ≤ t / len u + 1) && la u (t % len u))
    rw [show decide (t / len u < cps c) = decide (t < len u * cps c) from decide_eq_decide.mpr (by rw [Nat.div_lt_iff_lt_mul (by omega), Nat.mul_comm])]
  · have hj : j < len u * cps c := hj
    have hbn : j / len u < cps c := by
      rw [Nat.div_lt_iff_lt_mul (by omega), Nat.mul_comm]
      exact hj
    have hjm : j % len u < len u := Nat.mod_lt _ hu
    have hdm := Nat.div_add_mod j (len u)
    obtain ⟨q1, q2, q3⟩ := h6 (j / len u) (j % len u) hbn hjm
    rw [show K + j / len u * len u + j % len u = K + j from by rw [Nat.mul_comm (j / len u)]; omega] at q1 q2 q3
    exact ⟨q1, q2, q3.congr (fun t _ => (fo_rep hc hu hj).symm)⟩
/-- a node runs -/
def NR (N P fr : Nat) (F : Nat → ND) (s : Term) : Prop := ∀ x S V K σ, RR F s x → (sh s = 3 → nB (F (lastn s x)) = -J 1) → US F (S + 1) V K σ → K ≤ 9 → gI σ 25 S = J x → gI σ 26 S = (if nK (F x) = J 11 then J 0 else -J 1) → S + ht s ≤ 64 → V + ht s < 64 → x + nN s ≤ 160 → UO N P fr F s x (uc s + 2) S V K σ
/-- more copies -/
theorem u_loop (hN : 100 ≤ N) {u : Term} {x c S V K : Nat} (hc : cOK c) (hu : 1 ≤ len u) (hU : NR N P fr F u) (hR : RR F (.elem u (.index c)) x) (hS : S + (1 + ht u) ≤ 64) (hV : V + (1 + ht u) < 64) (hx : x + (1 + nN u) ≤ 160) (hht : 1 ≤ ht u) : ∀ f a σ σ1, a + f = cps c → 1 ≤ a → CI F P u x c S V K a σ1 → K + len u * a ≤ 9 → (∀ n0, fX9_unroll_25 N (n0 + 1) σ (J P) (J fr) = bnd1 (fX9_copy_238 N σ1 (J x) (J a) (J (cps c))) fun σ18 => fX9_unroll_25 N n0 σ18 (J P) (J fr)) → Blw S V K σ σ1 → (K + len u * cps c ≤ 9 → ∃ c' σ', c' ≤ (uc u + 3) * f + 1 ∧ Ur N P fr c' σ σ' ∧ Blw S V K σ σ' ∧ US F S (V + 1) (K + len u * cps c) σ' ∧ Vl V K (.elem u (.index c)) σ' ∧ PlR K (.elem u (.index c)) x P σ') ∧ (9 < K + len u * cps c → ∃ c', c' ≤ (uc u + 3) * f + 1 ∧ Ovf N P fr c' σ) := by
  obtain ⟨⟨r1, r2, r3, r4, r5⟩, r6⟩ := id hR
  have hpu := RR_pos u _ r6
  have h9 := cps_le hc
  intro f
  induction f with
  | zero =>
    intro a σ σ1 ha ha1 hC hK9 hrun hB
    obtain rfl : a = cps c := by omega
    obtain ⟨σ2, b1, b2, b3, b4⟩ := u_cpop (N := N) (x := x) (n := cps c) hC.1 (by omega)
    obtain ⟨e1, e2⟩ := CI_end hc hu hC
    refine ⟨fun _ => ⟨1, σ2, by omega, fun n => by rw [hrun n, b1, bnd1_d], hB.tr (b2.le (Nat.le_refl _) (by omega) (by omega)), b3, e1.sm b4, e2.sm b4⟩, fun h => by omega⟩
  | succ f ih =>
    intro a σ σ1 ha ha1 hC hK9 hrun hB
    obtain ⟨c1, c2, c3, c4, c5, c6⟩ := id hC
    have h0 : ¬ c % 16 = 0 := fun h0 => by
      have : cps c = 1 := by unfold cps; rw [if_pos h0]
      omega
    obtain ⟨σ2, b1, b2, b3, b4, b5, b6, b7, b8⟩ := u_cgo (N := N) (x := x) (a := a) (n := cps c) c1 (by omega) (by omega) r4 (by omega) (by omega)
    have hB2 : Blw S V K σ σ2 := hB.tr (b2.le (Nat.le_refl _) (by omega) (by omega))
    have hrun1 : Ur N P fr 1 σ σ2 := fun n => by rw [hrun n, b1, bnd1_d]
    have hmul : len u * (a + 1) = len u * a + len u := Nat.mul_succ _ _
    have hle : len u * (a + 1) ≤ len u * cps c := Nat.mul_le_mul_left _ (by omega)
    have hsh3 : sh u = 3 → nB (F (lastn u (x + 1))) = -J 1 := fun h3 => by
      cases u with
      | elem g w =>
        cases w with
        | old s => exact r5 g s rfl
        | _ => cases h3
      | _ => cases h3
    have hun := hU (x + 1) (S + 1) (V + 1) (K + len u * a) σ2 r6 hsh3 b3 (by omega) b6 b7 (by omega) (by omega) (by omega)
    by_cases hfit : K + len u * a + len u ≤ 9
    · obtain ⟨k1, σ3, d1, d2, d3, d4, d5, d6⟩ := hun.1 hfit
      have hst := fun n => (u_step (N := N) (P := P) (fr := fr) d4 (by omega) (by omega) (show gI σ3 25 S = J x by rw [(d3.1 S (by omega)).1, b4]; exact c2) (show x < 160 by omega) n).2.1 r1
      have h26 : gI σ3 26 S = J (a + 1) := by rw [(d3.1 S (by omega)).2]; exact b5
      have hcp := u_copy (N := N) (c := c) d4 (show S < 64 by omega) (show x < 160 by omega) hc r3 h26
      -- what stood there before the copy
      have m3 : gI σ3 28 V = gI σ1 28 V ∧ gI σ3 29 V = gI σ1 29 V ∧ gI σ3 30 V = gI σ1 30 V := by
        obtain ⟨q1, q2, q3⟩ := d3.2.1 V (by omega)
        obtain ⟨q4, q5, q6⟩ := b8.1 V
        exact ⟨q1.trans q4, q2.trans q5, q3.trans q6⟩
      obtain ⟨σ4, g1, g2, g3⟩ := u_copy2 (N := N) (P := P) (x := x) (c := c) (a := a) hN d4 hfit (by omega) (by omega) hu hc ha1 (by omega) r2 h0 (by rw [(d3.1 S (by omega)).1, b4]; exact c2) (by rw [m3.1]; exact c3) (by rw [m3.2.2]; exact c4) (by rw [m3.2.1]; exact c5) (fun b j hb hj => by
        have hbw : b * len u + len u ≤ len u * a := by
          have := Nat.mul_le_mul_right (len u) (show b + 1 ≤ a by omega)
          rw [Nat.succ_mul, Nat.mul_comm a] at this
          exact this
        obtain ⟨q1, q2, q3⟩ := d3.2.2.1 (K + b * len u + j) (by omega)
        obtain ⟨q4, q5, q6⟩ := b8.2 (K + b * len u + j)
        rw [q1, q2, q3, q4, q5, q6]
        exact c6 b j hb hj) d5 d6
      have hrun3 : ∀ n0, fX9_unroll_25 N (n0 + 1) σ3 (J P) (J fr) = bnd1 (fX9_copy_238 N σ4 (J x) (J (a + 1)) (J (cps c))) fun σ18 => fX9_unroll_25 N n0 σ18 (J P) (J fr) := fun n0 => by rw [hst n0, hcp, g1]
      obtain ⟨i1, i2⟩ := ih (a + 1) σ3 σ4 (by omega) (by omega) g3 (by omega) hrun3 g2
      have hB3 : Blw S V K σ σ3 := hB2.tr (d3.le (by omega) (by omega) (by omega))
      have hcost : (uc u + 3) * (f + 1) = (uc u + 3) * f + (uc u + 3) := Nat.mul_succ _ _
      refine ⟨fun hf => ?_, fun hf => ?_⟩
      · obtain ⟨k2, σ5, j1, j2, j3, j4, j5, j6⟩ := i1 hf
        exact ⟨1 + (k1 + k2), σ5, by omega, hrun1.tr (d2.tr j2), hB3.tr j3, j4, j5, j6⟩
      · obtain ⟨k2, j1, j2⟩ := i2 hf
        exact ⟨1 + (k1 + k2), by omega, Ovf.pre hrun1 hB2.2.2.2 (Ovf.pre d2 d3.2.2.2 j2)⟩
    · obtain ⟨k1, d1, d2⟩ := hun.2 (by omega)
      have hcost : (uc u + 3) * (f + 1) = (uc u + 3) * f + (uc u + 3) := Nat.mul_succ _ _
      exact ⟨fun hf => by omega, fun _ => ⟨1 + k1, by omega, Ovf.pre hrun1 hB2.2.2.2 d2⟩⟩
/-- a term runs -/
theorem NR_term (hN : 100 ≤ N) {u : Term} {c : Nat} (hc : cOK c) (hu : 1 ≤ len u) (hht : 1 ≤ ht u) (hU : NR N P fr F u) : NR N P fr F (.elem u (.index c)) := by
  intro x S V K σ hR _ hUS hK h25 h26 hS hV hx
  obtain ⟨⟨r1, r2, r3, r4, r5⟩, r6⟩ := id hR
  have hpu := RR_pos u _ r6
  have h9 := cps_le hc
  have hp1 := cps_pos c
  have hhte : ht (.elem u (.index c)) = 1 + ht u := rfl
  have hnN : nN (.elem u (.index c)) = 1 + nN u := rfl
  have huc : uc (.elem u (.index c)) = (uc u + 3) * cps c + 1 := rfl
  have hlen : len (.elem u (.index c)) = len u * cps c := rfl
  have hlu : len u ≤ len u * cps c := Nat.le_mul_of_pos_right _ hp1
  rw [r1, if_pos rfl] at h26
  have hst := fun n => (u_step (N := N) (P := P) (fr := fr) hUS hK (by omega) h25 (show x < 160 by omega) n).2.1 r1
  have hcp := u_copy (N := N) (c := c) hUS (show S < 64 by omega) (show x < 160 by omega) hc r3 h26
  have h238 : fX9_copy_31 N σ (J x) (J 0) (J (cps c)) = fX9_copy_238 N σ (J x) (J 0) (J (cps c)) := by
    unfold fX9_copy_31
    simp (decide := true) (disch := omega) only [letS_d, grd_tt, bnd_d, bnd1_d, bndX_d, bndX_e, gI_at, gI_ne, gI_sL, gL_sL, gL_sI, upd_at, updL_at, J_lit, J_add, J_mul, J_sub, J_lt, J_le, J_inj, J_ne, ne_J, m_lt, lt_m, m_le, le_m, J_cl, J_inB, if_true, if_false, ite_true, ite_false, reduceIte, isZ0, isZ1, J_and31, shrJ0, shlJ0, gI_sA, gL_sA, Nat.reduceEqDiff, Nat.reduceAdd, Nat.reduceMul, Nat.reduceLT, Nat.reduceLeDiff, Nat.zero_le]
  obtain ⟨σ2, b1, b2, b3, b4, b5, b6, b7, b8⟩ := u_cgo (N := N) (x := x) (a := 0) (n := cps c) hUS (by omega) (by omega) r4 (by omega) (by omega)
  have hrun1 : Ur N P fr 1 σ σ2 := fun n => by rw [hst n, hcp, h238, b1, bnd1_d]
  have hsh3 : sh u = 3 → nB (F (lastn u (x + 1))) = -J 1 := fun h3 => by
    cases u with
    | elem g w =>
      cases w with
      | old s => exact r5 g s rfl
      | _ => cases h3
    | _ => cases h3
  have hun := hU (x + 1) (S + 1) V K σ2 r6 hsh3 b3 hK b6 b7 (by omega) (by omega) (by omega)
  rw [huc]
  unfold UO
  rw [hlen]
  have hcost : (uc u + 3) * cps c = (uc u + 3) * (cps c - 1) + (uc u + 3) := by
    obtain ⟨m, hm⟩ : ∃ m, cps c = m + 1 := ⟨cps c - 1, by omega⟩
    rw [hm, Nat.mul_succ]
    rfl
  by_cases hfit : K + len u ≤ 9
  · obtain ⟨k1, σ3, d1, d2, d3, d4, d5, d6⟩ := hun.1 hfit
    have h25' : gI σ3 25 S = J x := by rw [(d3.1 S (by omega)).1, b4]; exact h25
    have hst3 := fun n => (u_step (N := N) (P := P) (fr := fr) d4 (by omega) (by omega) h25' (show x < 160 by omega) n).2.1 r1
    have h26' : gI σ3 26 S = J 1 := by rw [(d3.1 S (by omega)).2]; exact b5
    have hcp3 := u_copy (N := N) (c := c) d4 (show S < 64 by omega) (show x < 160 by omega) hc r3 h26'
    obtain ⟨σ4, g1, g2, g3⟩ := u_copy1 (N := N) (P := P) (x := x) (c := c) hN d4 hfit (by omega) (by omega) hu hc r3 r2 h25' d5 d6
    have hrun3 : ∀ n0, fX9_unroll_25 N (n0 + 1) σ3 (J P) (J fr) = bnd1 (fX9_copy_238 N σ4 (J x) (J 1) (J (cps c))) fun σ18 => fX9_unroll_25 N n0 σ18 (J P) (J fr) := fun n0 => by rw [hst3 n0, hcp3, g1]
    obtain ⟨i1, i2⟩ := u_loop (N := N) (P := P) (fr := fr) hN hc hu hU hR (by omega) (by omega) (by omega) hht (cps c - 1) 1 σ3 σ4 (by omega) (by omega) g3 (by omega) hrun3 g2
    have hB3 : Blw S V K σ σ3 := b2.tr (d3.le (by omega) (by omega) (by omega))
    refine ⟨fun hf => ?_, fun hf => ?_⟩
    · obtain ⟨k2, σ5, j1, j2, j3, j4, j5, j6⟩ := i1 hf
      exact ⟨1 + (k1 + k2), σ5, by omega, hrun1.tr (d2.tr j2), hB3.tr j3, j4, j5, j6⟩
    · obtain ⟨k2, j1, j2⟩ := i2 hf
      exact ⟨1 + (k1 + k2), by omega, Ovf.pre hrun1 b2.2.2.2 (Ovf.pre d2 d3.2.2.2 j2)⟩
  · obtain ⟨k1, d1, d2⟩ := hun.2 (by omega)
    exact ⟨fun hf => by omega, fun _ => ⟨1 + k1, by omega, Ovf.pre hrun1 b2.2.2.2 d2⟩⟩
/-- the last term of a sequence is done -/
def SqD (F : Nat → ND) (P : Nat) (s : Term) (x S V K y : Nat) (σ : St) : Prop := gI σ 25 S = J y ∧ gI σ 26 S = J (lastn s x) ∧ match s with
  | .elem s' (.length t) => US F (S + 1) (V + 2) (K + len s' + len t) σ ∧ Vl V K s' σ ∧ Vl (V + 1) (K + len s') t σ ∧ PlR K s' x P σ ∧ PlR (K + len s') t (x + nN s') P σ
  | s => US F (S + 1) (V + 1) (K + len s) σ ∧ Vl V K s σ ∧ PlR K s x P σ
theorem SqD_list (hN : 100 ≤ N) {s : Term} {x S V K y : Nat} {σ : St} (hsh : sh s = 1 ∨ sh s = 2) (hR : RR F s x) (hO : nO (F y) = J x) (hk : nK (F y) = J 10) (hy : y < 160) (hx : x + nN s ≤ 160) (hS : S < 64) (hV : V + 1 < 64) (hK : K + len s ≤ 9) (h : SqD F P s x S V K y σ) : ∃ σ', fX9_list N σ (J y) = fX9_list_187 N σ' (nB (F (lastn s x))) ∧ Blw (S + 1) V K σ σ' ∧ US F (S + 1) (V + 1) (K + len s) σ' ∧ Vl V K s σ' ∧ PlR K s x P σ' := by
  obtain ⟨h25, h26, h⟩ := h
  cases s with
  | elem a w =>
    cases w with
    | length t =>
      obtain ⟨g1, g2, g3, g4, g5⟩ := h
      obtain ⟨_, q2, q3⟩ := hR
      have hp := RR_pos a _ q2
      have hp2 := RR_pos t _ q3
      have hnN : nN (.elem a (.length t)) = nN a + nN t := rfl
      have hla : lastn (.elem a (.length t)) x = x + nN a := rfl
      have hlen : len (.elem a (.length t)) = len a + len t := rfl
      rw [hlen, ← Nat.add_assoc] at hK ⊢
      rw [hla] at h26 ⊢
      exact u_list2 (N := N) hN g1 hK hS hV hy (by omega) (by omega) h26 hO (by omega) hk g2 g3 g4 g5
    | index c =>
      obtain ⟨g1, g2, g3⟩ := h
      have hnN : nN (.elem a (.index c)) = 1 + nN a := rfl
      have hla : lastn (.elem a (.index c)) x = x := rfl
      rw [hla] at h26 ⊢
      exact ⟨σ, u_list1 (N := N) g1 hS hy (by omega) h26 hO, Blw.rf, g1, g2, g3⟩
    | _ => rcases hsh with h | h <;> cases h
  | _ => rcases hsh with h | h <;> cases h
/-- a sequence's terms run -/
def CR (N P fr : Nat) (F : Nat → ND) (s : Term) : Prop := ∀ x y S V K σ, RR F s x → nO (F y) = J x → nK (F y) = J 10 → y < 160 → US F (S + 2) V K σ → K ≤ 9 → gI σ 25 S = J y → gI σ 26 S = J x → gI σ 25 (S + 1) = J x → gI σ 26 (S + 1) = J 0 → S + 1 + ht s ≤ 64 → V + 1 + ht s < 64 → x + nN s ≤ 160 → (K + len s ≤ 9 → ∃ c σ', c ≤ uc s + 2 ∧ Ur N P fr c σ σ' ∧ Blw S V K σ σ' ∧ SqD F P s x S V K y σ') ∧ (9 < K + len s → ∃ c, c ≤ uc s + 2 ∧ Ovf N P fr c σ)
theorem CR_one {u : Term} {c : Nat} (hT : NR N P fr F (.elem u (.index c))) : CR N P fr F (.elem u (.index c)) := by
  intro x y S V K σ hR hO hk hy hUS hK h25 h26 h25' h26' hS hV hx
  have r1 := hR.1.1
  obtain ⟨i1, i2⟩ := hT x (S + 1) V K σ hR (fun h => by cases h) hUS hK h25' (by rw [r1, if_pos rfl]; exact h26') (by omega) (by omega) hx
  refine ⟨fun hf => ?_, fun hf => i2 hf⟩
  obtain ⟨k, σ', j1, j2, j3, j4, j5, j6⟩ := i1 hf
  exact ⟨k, σ', j1, j2, j3.le (by omega) (Nat.le_refl _) (Nat.le_refl _), by rw [(j3.1 S (by omega)).1]; exact h25, by rw [(j3.1 S (by omega)).2]; exact h26, j4, j5, j6⟩
theorem CR_more (hN : 100 ≤ N) {s t : Term} (hsh : sh s = 1 ∨ sh s = 2) (hsht : sh t = 1) (hS : CR N P fr F s) (hT : NR N P fr F t) : CR N P fr F (.elem s (.length t)) := by
  intro x y S V K σ hR hO hk hy hUS hK h25 h26 h25' h26' hS64 hV64 hx
  obtain ⟨⟨q0, q1⟩, q2, q3⟩ := hR
  have hps := RR_pos s _ q2
  have hpt := RR_pos t _ q3
  have hnN : nN (.elem s (.length t)) = nN s + nN t := rfl
  have hhs : ht s ≤ ht (.elem s (.length t)) := Nat.le_max_left _ _
  have hhtt : ht t ≤ ht (.elem s (.length t)) := Nat.le_max_right _ _
  have hht1 : 1 ≤ ht t := by
    cases t with
    | elem u w =>
      cases w with
      | index c => exact Nat.le_add_right 1 _
      | _ => cases hsht
    | _ => cases hsht
  have hlen : len (.elem s (.length t)) = len s + len t := rfl
  have huc : uc (.elem s (.length t)) = uc s + uc t + 3 := rfl
  obtain ⟨i1, i2⟩ := hS x y S V K σ q2 hO hk hy hUS hK h25 h26 h25' h26' (by omega) (by omega) (by omega)
  rw [huc, hlen]
  by_cases hfit : K + len s ≤ 9
  · obtain ⟨k1, σ1, a1, a2, a3, a4⟩ := i1 hfit
    have h25a := a4.1
    obtain ⟨σ2, b1, b2, b3, b4, b5⟩ := SqD_list (N := N) hN hsh q2 hO hk hy (by omega) (by omega) (by omega) hfit a4
    rw [q1] at b1
    obtain ⟨σ3, c1, c2, c3, c4, c5, c6, c7, c8⟩ := u_go (N := N) (z := x + nN s) b3 (by omega) (by omega)
    have hus1 : ∃ Va Ka, US F (S + 1) Va Ka σ1 ∧ Ka ≤ 9 := by
      obtain ⟨_, _, g⟩ := a4
      cases s with
      | elem a w =>
        cases w with
        | length t' => exact ⟨_, _, g.1, by have : len (.elem a (.length t')) = len a + len t' := rfl; omega⟩
        | index c => exact ⟨_, _, g.1, hfit⟩
        | _ => rcases hsh with h | h <;> cases h
      | _ => rcases hsh with h | h <;> cases h
    obtain ⟨Va, Ka, hus1, hKa⟩ := hus1
    have hrun2 : Ur N P fr 1 σ1 σ3 := fun n => by
      rw [(u_step (N := N) (P := P) (fr := fr) hus1 hKa (by omega) h25a hy n).1 (Or.inl hk), b1, c1, bnd1_d]
    have r1 : nK (F (x + nN s)) = J 11 := by
      cases t with
      | elem u w =>
        cases w with
        | index c => exact q3.1.1
        | _ => cases hsht
      | _ => cases hsht
    have hB3 : Blw S V K σ σ3 := (a3.tr (b2.le (by omega) (Nat.le_refl _) (Nat.le_refl _))).tr (c2.le (Nat.le_refl _) (by omega) (by omega))
    obtain ⟨j1, j2⟩ := hT (x + nN s) (S + 1) (V + 1) (K + len s) σ3 q3 (fun h => by rw [hsht] at h; cases h) c3 hfit c6 c7 (by omega) (by omega) (by omega)
    refine ⟨fun hf => ?_, fun hf => ?_⟩
    · obtain ⟨k2, σ4, d1, d2, d3, d4, d5, d6⟩ := j1 (by omega)
      refine ⟨k1 + (1 + k2), σ4, by omega, a2.tr (hrun2.tr d2), hB3.tr (d3.le (by omega) (by omega) (by omega)), ?_, ?_, d4, (b4.sm c8).of d3 (by omega), d5, (b5.sm c8).of d3 (by omega), d6⟩
      · rw [(d3.1 S (by omega)).1, c4, (b2.1 S (by omega)).1]
        exact h25a
      · rw [(d3.1 S (by omega)).2, c5]
        rfl
    · obtain ⟨k2, d1, d2⟩ := j2 (by omega)
      have hF3 : Fr UL σ1 σ3 := b2.2.2.2.tr c2.2.2.2
      exact ⟨k1 + (1 + k2), by omega, Ovf.pre a2 a3.2.2.2 (Ovf.pre hrun2 hF3 d2)⟩
  · obtain ⟨k1, d1, d2⟩ := i2 (by omega)
    exact ⟨fun hf => by omega, fun _ => ⟨k1, by omega, d2⟩⟩
/-- a sequence begins with a term -/
theorem first11 : ∀ s x, ok s → (sh s = 1 ∨ sh s = 2) → RR F s x → nK (F x) = J 11 := by
  intro s
  induction s using tind with
  | h s ih =>
    intro x hok hsh hR
    cases s with
    | elem a w =>
      cases w with
      | length t => exact ih a (by simp; omega) x hok.2.1 hok.1.1 hR.2.1
      | index c => exact hR.1.1
      | _ => rcases hsh with h | h <;> cases h
    | _ => rcases hsh with h | h <;> cases h
/-- a sequence runs -/
theorem SR (hN : 100 ≤ N) {s : Term} {y S V K : Nat} {σ : St} (hok : ok s) (hsh : sh s = 1 ∨ sh s = 2) (hC : CR N P fr F s) (hR : RR F s (y + 1)) (hO : nO (F y) = J (y + 1)) (hk : nK (F y) = J 10) (hB : nB (F (lastn s (y + 1))) = -J 1) (hUS : US F (S + 1) V K σ) (hK : K ≤ 9) (h25 : gI σ 25 S = J y) (h26 : gI σ 26 S = -J 1) (hS : S + 1 + ht s ≤ 64) (hV : V + 1 + ht s < 64) (hx : y + 1 + nN s ≤ 160) (hht : 1 ≤ ht s) : UO N P fr F s (y + 1) (uc s + 4) S V K σ := by
  have hps := RR_pos s _ hR
  have hst := fun n => (u_step (N := N) (P := P) (fr := fr) hUS hK (by omega) h25 (show y < 160 by omega) n).1 (Or.inl hk)
  have hl0 := u_list0 (N := N) hUS (by omega) (show y < 160 by omega) h26
  rw [hO] at hl0
  obtain ⟨σ1, a1, a2, a3, a4, a5, a6, a7, a8⟩ := u_go (N := N) (z := y + 1) hUS (by omega) (by omega)
  have hrun1 : Ur N P fr 1 σ σ1 := fun n => by rw [hst n, hl0, a1, bnd1_d]
  rw [first11 s _ hok hsh hR, if_pos rfl] at a7
  obtain ⟨i1, i2⟩ := hC (y + 1) y S V K σ1 hR hO hk (by omega) a3 hK (by rw [a4]; exact h25) a5 a6 a7 hS hV hx
  refine ⟨fun hf => ?_, fun hf => ?_⟩
  · obtain ⟨k1, σ2, b1, b2, b3, b4⟩ := i1 hf
    have h25a := b4.1
    obtain ⟨σ3, c1, c2, c3, c4, c5⟩ := SqD_list (N := N) hN hsh hR hO hk (by omega) hx (by omega) (by omega) hf b4
    rw [hB] at c1
    obtain ⟨σ4, d1, d2, d3, d4⟩ := u_pop (N := N) c3 (by omega)
    have hus1 : ∃ Va Ka, US F (S + 1) Va Ka σ2 ∧ Ka ≤ 9 := by
      obtain ⟨_, _, g⟩ := b4
      cases s with
      | elem a w =>
        cases w with
        | length t' => exact ⟨_, _, g.1, by have : len (.elem a (.length t')) = len a + len t' := rfl; omega⟩
        | index c => exact ⟨_, _, g.1, hf⟩
        | _ => rcases hsh with h | h <;> cases h
      | _ => rcases hsh with h | h <;> cases h
    obtain ⟨Va, Ka, hus1, hKa⟩ := hus1
    have hrun3 : Ur N P fr 1 σ2 σ4 := fun n => by
      rw [(u_step (N := N) (P := P) (fr := fr) hus1 hKa (by omega) h25a (show y < 160 by omega) n).1 (Or.inl hk), c1, d1, bnd1_d]
    exact ⟨1 + (k1 + 1), σ4, by omega, hrun1.tr (b2.tr hrun3), ((a2.tr b3).tr (c2.le (by omega) (Nat.le_refl _) (Nat.le_refl _))).tr (d2.le (Nat.le_refl _) (by omega) (by omega)), d3, c4.sm d4, c5.sm d4⟩
  · obtain ⟨k1, b1, b2⟩ := i2 hf
    exact ⟨1 + k1, by omega, Ovf.pre hrun1 a2.2.2.2 b2⟩
end UNA
