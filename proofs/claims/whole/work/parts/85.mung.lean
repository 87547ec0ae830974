/-! unrolling: groups, and rules -/
section UNG
variable {N P fr : Nat} {F : Nat → ND}
/-- a group of one -/
theorem Vl_one {s : Term} {i K : Nat} {σ : St} (h : Vl i K s σ) : Vl i K (.elem .null (.old s)) σ := by
  refine ⟨h.1.congr (fun t _ => ?_), h.2.congr (fun t _ => ?_)⟩
  · show fi s t = (if t < 0 then _ else fi s (t - 0))
    rw [if_neg (Nat.not_lt_zero t)]
    rfl
  · show la s t = (if t < 0 then _ else la s (t - 0))
    rw [if_neg (Nat.not_lt_zero t)]
    rfl
theorem len_one (s : Term) : len (.elem .null (.old s)) = len s := by
  show len .null + len s = len s
  rw [show len .null = 0 from rfl, Nat.zero_add]
theorem PlR_one {s : Term} {x K : Nat} {σ : St} (h : PlR K s (x + 2) P σ) : PlR K (.elem .null (.old s)) x P σ := fun j hj => by
  rw [len_one] at hj
  obtain ⟨q1, q2, q3⟩ := h j hj
  refine ⟨?_, q2, q3.congr (fun t _ => ?_)⟩
  · rw [q1, show pn (.elem .null (.old s)) x j = pn s (x + 2) j from if_neg (Nat.not_lt_zero j)]
  · show fo s j t = (if j < 0 then _ else decide (0 ≤ t) && fo s (j - 0) (t - 0))
    rw [if_neg (Nat.not_lt_zero j), decide_eq_true (Nat.zero_le t)]
    rfl
/-- the last sequence of a group is done -/
def GrD (F : Nat → ND) (P : Nat) (g : Term) (x S V K : Nat) (σ : St) : Prop := gI σ 25 S = J x ∧ gI σ 26 S = J (lastn g x) ∧ match g with
  | .elem .null (.old s) => US F (S + 1) (V + 1) (K + len s) σ ∧ Vl V K (.elem .null (.old s)) σ ∧ PlR K (.elem .null (.old s)) x P σ
  | .elem g' (.old s) => US F (S + 1) (V + 2) (K + len g' + len s) σ ∧ Vl V K g' σ ∧ Vl (V + 1) (K + len g') s σ ∧ PlR K g' x P σ ∧ PlR (K + len g') s (x + nN g' + 1) P σ
  | _ => False
theorem sh5 {g : Term} (h : sh g = 5) : g = .null := by
  cases g with
  | null => rfl
  | elem a w => cases w <;> cases h
  | _ => cases h
/-- a group's node -/
theorem grp12 : ∀ g x, ok g → sh g = 3 → RR F g x → nK (F x) = J 12 ∧ nO (F x) = J (x + 1) ∧ nK (F (x + 1)) = J 10 := by
  intro g
  induction g using tind with
  | h g ih =>
    intro x hok hsh hR
    cases g with
    | elem a w =>
      cases w with
      | old s =>
        obtain ⟨⟨k1, k2⟩, k3, k4⟩ := hok
        obtain ⟨⟨r1, r2, r3, r4, r5⟩, r6, r7⟩ := hR
        rcases k1 with k1 | k1
        · exact ih a (by simp; omega) x k3 k1 r6
        · obtain rfl := sh5 k1
          exact ⟨r6, r4 rfl, r1⟩
      | _ => cases hsh
    | _ => cases hsh
theorem GrD_list {g : Term} {x S V K : Nat} {σ : St} (hok : ok g) (hsh : sh g = 3) (hR : RR F g x) (hx : x + nN g ≤ 160) (hS : S < 64) (hV : V + 1 < 64) (hK : K + len g ≤ 9) (h : GrD F P g x S V K σ) : ∃ σ', fX9_list N σ (J x) = fX9_list_187 N σ' (nB (F (lastn g x))) ∧ Blw (S + 1) V K σ σ' ∧ US F (S + 1) (V + 1) (K + len g) σ' ∧ Vl V K g σ' ∧ PlR K g x P σ' := by
  obtain ⟨k1, k2, _⟩ := grp12 g x hok hsh hR
  have hpg := RR_pos g x hR
  obtain ⟨h25, h26, h⟩ := h
  cases g with
  | elem a w =>
    cases w with
    | old s =>
      have hnN : nN (.elem a (.old s)) = nN a + 1 + nN s := rfl
      have hla : lastn (.elem a (.old s)) x = x + nN a := rfl
      have hlen : len (.elem a (.old s)) = len a + len s := rfl
      have hok1 := hok.1.1
      have hpa := RR_pos a x hR.2.1
      rw [hla] at h26 ⊢
      have many : ¬ a = .null → (US F (S + 1) (V + 2) (K + len a + len s) σ ∧ Vl V K a σ ∧ Vl (V + 1) (K + len a) s σ ∧ PlR K a x P σ ∧ PlR (K + len a) s (x + nN a + 1) P σ) → ∃ σ', fX9_list N σ (J x) = fX9_list_187 N σ' (nB (F (x + nN a))) ∧ Blw (S + 1) V K σ σ' ∧ US F (S + 1) (V + 1) (K + len (.elem a (.old s))) σ' ∧ Vl V K (.elem a (.old s)) σ' ∧ PlR K (.elem a (.old s)) x P σ' := by
        rintro hne ⟨g1, g2, g3, g4, g5⟩
        have hsa : sh a = 3 := by
          rcases hok1 with h | h
          · exact h
          · exact absurd (sh5 h) hne
        have hgt : x < lastn a x := by
          cases a with
          | elem a' w' =>
            cases w' with
            | old s' =>
              have := RR_pos a' x hR.2.1.2.1
              show x < x + nN a'
              omega
            | _ => cases hsa
          | _ => cases hsa
        rw [hlen, ← Nat.add_assoc] at hK ⊢
        exact u_list3 (N := N) g1 hK hS hV (by omega) (by omega) (show x + 1 < 160 by omega) h26 k2 (by omega) k1 g2 g3 g4 g5
      cases a with
      | null =>
        obtain ⟨g1, g2, g3⟩ := h
        rw [len_one]
        exact ⟨σ, u_list1 (N := N) g1 hS (by omega) (show x + 1 < 160 by have : nN .null = 1 := rfl; omega) h26 k2, Blw.rf, g1, g2, g3⟩
      | elem a' w' => exact many (fun h => by cases h) h
      | _ => rcases hok1 with h | h <;> cases h
    | _ => cases hsh
  | _ => cases hsh
theorem GrD_US {g : Term} {x S V K : Nat} {σ : St} (hok : ok g) (hsh : sh g = 3) (hK : K + len g ≤ 9) (h : GrD F P g x S V K σ) : ∃ Va Ka, US F (S + 1) Va Ka σ ∧ Ka ≤ 9 := by
  obtain ⟨_, _, h⟩ := h
  cases g with
  | elem a w =>
    cases w with
    | old s =>
      have hlen : len (.elem a (.old s)) = len a + len s := rfl
      have hok1 := hok.1.1
      cases a with
      | null => exact ⟨_, _, h.1, by rw [len_one] at hK; exact hK⟩
      | elem a' w' => exact ⟨_, _, h.1, by omega⟩
      | _ => rcases hok1 with h | h <;> cases h
    | _ => cases hsh
  | _ => cases hsh
/-- a group's sequences run -/
def GR (N P fr : Nat) (F : Nat → ND) (g : Term) : Prop := ∀ x S V K σ, RR F g x → US F (S + 2) V K σ → K ≤ 9 → gI σ 25 S = J x → gI σ 26 S = J (x + 1) → gI σ 25 (S + 1) = J (x + 1) → gI σ 26 (S + 1) = -J 1 → S + ht g ≤ 64 → V + ht g < 64 → x + nN g ≤ 160 → (K + len g ≤ 9 → ∃ c σ', c ≤ uc g ∧ Ur N P fr c σ σ' ∧ Blw S V K σ σ' ∧ GrD F P g x S V K σ') ∧ (9 < K + len g → ∃ c, c ≤ uc g ∧ Ovf N P fr c σ)
theorem GR_one (hN : 100 ≤ N) {s : Term} (hok : ok s) (hsh : sh s = 1 ∨ sh s = 2) (hht : 1 ≤ ht s) (hC : CR N P fr F s) : GR N P fr F (.elem .null (.old s)) := by
  intro x S V K σ hR hUS hK h25 h26 h25' h26' hS hV hx
  obtain ⟨⟨r1, r2, r3, r4, r5⟩, r6, r7⟩ := hR
  have hh : 2 + ht s ≤ ht (.elem .null (.old s)) := Nat.le_max_right _ _
  have hnN : nN (.elem .null (.old s)) = 1 + 1 + nN s := rfl
  have huc : uc (.elem .null (.old s)) = 1 + uc s + 5 := rfl
  obtain ⟨i1, i2⟩ := SR (N := N) (P := P) (fr := fr) (y := x + 1) (S := S + 1) (V := V) (K := K) (σ := σ) hN hok hsh hC r7 r2 r1 r3 hUS hK h25' h26' (by omega) (by omega) (by omega) hht
  rw [len_one, huc]
  refine ⟨fun hf => ?_, fun hf => ?_⟩
  · obtain ⟨k, σ', j1, j2, j3, j4, j5, j6⟩ := i1 hf
    exact ⟨k, σ', by omega, j2, j3.le (by omega) (Nat.le_refl _) (Nat.le_refl _), by rw [(j3.1 S (by omega)).1]; exact h25, by rw [(j3.1 S (by omega)).2]; exact h26, j4, Vl_one j5, PlR_one j6⟩
  · obtain ⟨k, j1, j2⟩ := i2 hf
    exact ⟨k, by omega, j2⟩
theorem GR_more (hN : 100 ≤ N) {g s : Term} (hokg : ok g) (hshg : sh g = 3) (hok : ok s) (hsh : sh s = 1 ∨ sh s = 2) (hht : 1 ≤ ht s) (hG : GR N P fr F g) (hC : CR N P fr F s) : GR N P fr F (.elem g (.old s)) := by
  intro x S V K σ hR hUS hK h25 h26 h25' h26' hS hV hx
  obtain ⟨⟨r1, r2, r3, r4, r5⟩, r6, r7⟩ := hR
  have hh1 : ht g ≤ ht (.elem g (.old s)) := Nat.le_max_left _ _
  have hh2 : 2 + ht s ≤ ht (.elem g (.old s)) := Nat.le_max_right _ _
  have hnN : nN (.elem g (.old s)) = nN g + 1 + nN s := rfl
  have huc : uc (.elem g (.old s)) = uc g + uc s + 5 := rfl
  have hlen : len (.elem g (.old s)) = len g + len s := rfl
  have hpg := RR_pos g x r6
  have hgn : ¬ g = .null := fun h => by rw [h] at hshg; cases hshg
  obtain ⟨k1, k2, k3⟩ := grp12 g x hokg hshg r6
  obtain ⟨i1, i2⟩ := hG x S V K σ r6 hUS hK h25 h26 h25' h26' (by omega) (by omega) (by omega)
  rw [huc, hlen]
  by_cases hfit : K + len g ≤ 9
  · obtain ⟨m1, σ1, a1, a2, a3, a4⟩ := i1 hfit
    have h25a := a4.1
    obtain ⟨σ2, b1, b2, b3, b4, b5⟩ := GrD_list (N := N) hokg hshg r6 (by omega) (by omega) (by omega) hfit a4
    rw [r5 hgn] at b1
    obtain ⟨σ3, c1, c2, c3, c4, c5, c6, c7, c8⟩ := u_go (N := N) (z := x + nN g) b3 (by omega) (by omega)
    obtain ⟨Va, Ka, hus1, hKa⟩ := GrD_US hokg hshg hfit a4
    have hrun2 : Ur N P fr 1 σ1 σ3 := fun n => by
      rw [(u_step (N := N) (P := P) (fr := fr) hus1 hKa (by omega) h25a (show x < 160 by omega) n).1 (Or.inr k1), b1, c1, bnd1_d]
    rw [r1, kind11 (by omega) (by omega)] at c7
    have hB3 : Blw S V K σ σ3 := (a3.tr (b2.le (by omega) (Nat.le_refl _) (Nat.le_refl _))).tr (c2.le (Nat.le_refl _) (by omega) (by omega))
    obtain ⟨j1, j2⟩ := SR (N := N) (P := P) (fr := fr) (y := x + nN g) (S := S + 1) (V := V + 1) (K := K + len g) (σ := σ3) hN hok hsh hC r7 r2 r1 r3 c3 hfit c6 c7 (by omega) (by omega) (by omega) hht
    refine ⟨fun hf => ?_, fun hf => ?_⟩
    · obtain ⟨m2, σ4, d1, d2, d3, d4, d5, d6⟩ := j1 (by omega)
      have hG4 : gI σ4 25 S = J x := by
        rw [(d3.1 S (by omega)).1, c4, (b2.1 S (by omega)).1]
        exact h25a
      have hG5 : gI σ4 26 S = J (lastn (.elem g (.old s)) x) := by
        rw [(d3.1 S (by omega)).2, c5]
        rfl
      refine ⟨m1 + (1 + m2), σ4, by omega, a2.tr (hrun2.tr d2), hB3.tr (d3.le (by omega) (by omega) (by omega)), hG4, hG5, ?_⟩
      have hfin : US F (S + 1) (V + 2) (K + len g + len s) σ4 ∧ Vl V K g σ4 ∧ Vl (V + 1) (K + len g) s σ4 ∧ PlR K g x P σ4 ∧ PlR (K + len g) s (x + nN g + 1) P σ4 := ⟨d4, (b4.sm c8).of d3 (by omega), d5, (b5.sm c8).of d3 (by omega), d6⟩
      cases g with
      | elem a' w' => exact hfin
      | _ => cases hshg
    · obtain ⟨m2, d1, d2⟩ := j2 (by omega)
      have hF3 : Fr UL σ1 σ3 := b2.2.2.2.tr c2.2.2.2
      exact ⟨m1 + (1 + m2), by omega, Ovf.pre a2 a3.2.2.2 (Ovf.pre hrun2 hF3 d2)⟩
  · obtain ⟨m1, d1, d2⟩ := i2 (by omega)
    exact ⟨fun hf => by omega, fun _ => ⟨m1, by omega, d2⟩⟩
theorem NR_group {g : Term} (hok : ok g) (hsh : sh g = 3) (hht : 2 ≤ ht g) (hG : GR N P fr F g) : NR N P fr F g := by
  intro x S V K σ hR hB hUS hK h25 h26 hS hV hx
  obtain ⟨k1, k2, k3⟩ := grp12 g x hok hsh hR
  have hpg := RR_pos g x hR
  rw [k1, kind11 (by omega) (by omega)] at h26
  have hst := fun n => (u_step (N := N) (P := P) (fr := fr) hUS hK (by omega) h25 (show x < 160 by omega) n).1 (Or.inr k1)
  have hl0 := u_list0 (N := N) hUS (by omega) (show x < 160 by omega) h26
  rw [k2] at hl0
  have hx1 : x + 1 < 160 := by
    cases g with
    | elem a w =>
      cases w with
      | old s =>
        have h1 := RR_pos a x hR.2.1
        have h2 := RR_pos s _ hR.2.2
        have hnN : nN (.elem a (.old s)) = nN a + 1 + nN s := rfl
        omega
      | _ => cases hsh
    | _ => cases hsh
  obtain ⟨σ1, a1, a2, a3, a4, a5, a6, a7, a8⟩ := u_go (N := N) (z := x + 1) hUS (by omega) hx1
  have hrun1 : Ur N P fr 1 σ σ1 := fun n => by rw [hst n, hl0, a1, bnd1_d]
  rw [k3, kind11 (by omega) (by omega)] at a7
  obtain ⟨i1, i2⟩ := hG x S V K σ1 hR a3 hK (by rw [a4]; exact h25) a5 a6 a7 (by omega) (by omega) hx
  refine ⟨fun hf => ?_, fun hf => ?_⟩
  · obtain ⟨m1, σ2, b1, b2, b3, b4⟩ := i1 hf
    have h25a := b4.1
    obtain ⟨σ3, c1, c2, c3, c4, c5⟩ := GrD_list (N := N) hok hsh hR hx (by omega) (by omega) hf b4
    rw [hB hsh] at c1
    obtain ⟨σ4, d1, d2, d3, d4⟩ := u_pop (N := N) c3 (by omega)
    obtain ⟨Va, Ka, hus1, hKa⟩ := GrD_US hok hsh hf b4
    have hrun3 : Ur N P fr 1 σ2 σ4 := fun n => by
      rw [(u_step (N := N) (P := P) (fr := fr) hus1 hKa (by omega) h25a (show x < 160 by omega) n).1 (Or.inr k1), c1, d1, bnd1_d]
    exact ⟨1 + (m1 + 1), σ4, by omega, hrun1.tr (b2.tr hrun3), ((a2.tr b3).tr (c2.le (by omega) (Nat.le_refl _) (Nat.le_refl _))).tr (d2.le (Nat.le_refl _) (by omega) (by omega)), d3, c4.sm d4, c5.sm d4⟩
  · obtain ⟨m1, b1, b2⟩ := i2 hf
    exact ⟨1 + m1, by omega, Ovf.pre hrun1 a2.2.2.2 b2⟩
theorem NR_field {b : Term} (hb : isBo b) : NR N P fr F (.field b "" "" "") := by
  intro x S V K σ hR _ hUS hK h25 h26 hS hV hx
  have hh : ht (.field b "" "" "") = 1 := rfl
  have hpb := RR_pos b _ hR.2
  have hnN : nN (.field b "" "" "") = nN b := rfl
  obtain ⟨i1, i2⟩ := u_place (N := N) (P := P) (fr := fr) (b := b) hUS hK (by omega) (by omega) (show x < 160 by omega) h25 (bo_kind hb hR.2)
  have huc : uc (.field b "" "" "") = 2 := rfl
  refine ⟨fun hf => ?_, fun hf => ?_⟩
  · obtain ⟨k, σ', j1, j2⟩ := i1 hf
    exact ⟨k, σ', by omega, j2⟩
  · obtain ⟨k, j1, j2⟩ := i2 hf
    exact ⟨k, by omega, j2⟩
theorem ht_pos : ∀ s, ok s → (sh s = 1 ∨ sh s = 2 ∨ sh s = 4 → 1 ≤ ht s) ∧ (sh s = 3 → 2 ≤ ht s) := by
  intro s
  induction s using tind with
  | h s ih =>
    intro hok
    refine ⟨fun hsh => ?_, fun hsh => ?_⟩
    · cases s with
      | elem a w =>
        cases w with
        | length t =>
          have := (ih a (by simp; omega) hok.2.1).1 (by have := hok.1.1; omega)
          exact Nat.le_trans this (Nat.le_max_left _ _)
        | index c => exact Nat.le_add_right 1 _
        | _ => rcases hsh with h | h | h <;> cases h
      | field b x y z => exact Nat.le_refl 1
      | _ => rcases hsh with h | h | h <;> cases h
    · cases s with
      | elem a w =>
        cases w with
        | old t => exact Nat.le_trans (Nat.le_add_right 2 _) (Nat.le_max_right _ _)
        | _ => cases hsh
      | _ => cases hsh
/-- all pieces run -/
theorem UA (hN : 100 ≤ N) : ∀ s, ok s → ((sh s = 1 ∨ sh s = 3 ∨ sh s = 4) → NR N P fr F s) ∧ ((sh s = 1 ∨ sh s = 2) → CR N P fr F s) ∧ (sh s = 3 → GR N P fr F s) := by
  intro s
  induction s using tind with
  | h s ih =>
    intro hok
    cases s with
    | field b x y z =>
      obtain ⟨hb, rfl, rfl, rfl⟩ := hok
      exact ⟨fun _ => NR_field hb, fun h => (by rcases h with h | h <;> cases h), fun h => (by cases h)⟩
    | elem a w =>
      cases w with
      | index c =>
        obtain ⟨⟨k1, k2⟩, k3⟩ := hok
        have hlp := len_pos a k3 (by omega)
        obtain ⟨h1, h2⟩ := ht_pos a k3
        have hh : 1 ≤ ht a := by
          rcases k1 with k | k
          · have := h2 k; omega
          · exact h1 (by omega)
        have hT := NR_term (N := N) (P := P) (fr := fr) (F := F) hN k2 hlp hh ((ih a (by simp; omega) k3).1 (by omega))
        exact ⟨fun _ => hT, fun _ => CR_one hT, fun h => (by cases h)⟩
      | length t =>
        obtain ⟨⟨k1, k2⟩, k3, k4⟩ := hok
        exact ⟨fun h => (by rcases h with h | h | h <;> cases h), fun _ => CR_more hN k1 k2 ((ih a (by simp; omega) k3).2.1 k1) ((ih t (by simp; omega) k4).1 (Or.inl k2)), fun h => (by cases h)⟩
      | old t =>
        have hok' := hok
        obtain ⟨⟨k1, k2⟩, k3, k4⟩ := hok
        have hh := (ht_pos t k4).1 (by omega)
        have hCt := (ih t (by simp; omega) k4).2.1 k2
        have hG : GR N P fr F (.elem a (.old t)) := by
          rcases k1 with k | k
          · exact GR_more hN k3 k k4 k2 hh ((ih a (by simp; omega) k3).2.2 k) hCt
          · obtain rfl := sh5 k
            exact GR_one hN k4 k2 hh hCt
        exact ⟨fun _ => NR_group hok' rfl ((ht_pos _ hok').2 rfl) hG, fun h => (by rcases h with h | h <;> cases h), fun _ => hG⟩
      | _ => exact hok.elim
    | _ => exact ⟨fun h => (by rcases h with h | h | h <;> cases h), fun h => (by rcases h with h | h <;> cases h), fun h => (by cases h)⟩
/-- how long it may take -/
theorem pow_two {a b : Nat} : 20 ^ (a + 1) + 20 ^ (b + 1) ≤ 20 ^ (a + 1 + (b + 1)) := by
  rw [Nat.pow_add 20 (a + 1) (b + 1)]
  have h1 : 20 ≤ 20 ^ (a + 1) := by rw [Nat.pow_succ]; exact Nat.le_mul_of_pos_left _ (Nat.pow_pos (by omega))
  have h2 : 20 ≤ 20 ^ (b + 1) := by rw [Nat.pow_succ]; exact Nat.le_mul_of_pos_left _ (Nat.pow_pos (by omega))
  generalize 20 ^ (a + 1) = x at *
  generalize 20 ^ (b + 1) = y at *
  have h3 : x * 20 ≤ x * y := Nat.mul_le_mul_left _ h2
  have h4 : 20 * y ≤ x * y := Nat.mul_le_mul_right _ h1
  omega
theorem uc_le : ∀ s, ok s → uc s + 5 ≤ 20 ^ nN s := by
  intro s
  induction s using tind with
  | h s ih =>
    intro hok
    have hn := ok_nN s hok
    have h20 : 20 ≤ 20 ^ nN s := by
      obtain ⟨n, hn⟩ : ∃ n, nN s = n + 1 := ⟨nN s - 1, by omega⟩
      rw [hn, Nat.pow_succ]
      exact Nat.le_mul_of_pos_left _ (Nat.pow_pos (by omega))
    cases s with
    | field b x y z => exact Nat.le_trans (show uc (.field b x y z) + 5 ≤ 20 by show 2 + 5 ≤ 20; omega) h20
    | elem a w =>
      cases w with
      | index c =>
        obtain ⟨⟨k1, k2⟩, k3⟩ := hok
        have h1 := ih a (by simp; omega) k3
        have h9 := cps_le k2
        show (uc a + 3) * cps c + 1 + 5 ≤ 20 ^ (1 + nN a)
        have h2 : (uc a + 3) * cps c ≤ (uc a + 3) * 9 := Nat.mul_le_mul_left _ h9
        rw [Nat.add_comm 1, Nat.pow_succ]
        omega
      | length t =>
        obtain ⟨⟨k1, k2⟩, k3, k4⟩ := hok
        have h1 := ih a (by simp; omega) k3
        have h2 := ih t (by simp; omega) k4
        have n1 := ok_nN a k3
        have n2 := ok_nN t k4
        show uc a + uc t + 3 + 5 ≤ 20 ^ (nN a + nN t)
        obtain ⟨x, hx⟩ : ∃ x, nN a = x + 1 := ⟨nN a - 1, by omega⟩
        obtain ⟨y, hy⟩ : ∃ y, nN t = y + 1 := ⟨nN t - 1, by omega⟩
        rw [hx] at h1 ⊢
        rw [hy] at h2 ⊢
        have := pow_two (a := x) (b := y)
        omega
      | old t =>
        obtain ⟨⟨k1, k2⟩, k3, k4⟩ := hok
        have h1 := ih a (by simp; omega) k3
        have h2 := ih t (by simp; omega) k4
        have n1 := ok_nN a k3
        have n2 := ok_nN t k4
        show uc a + uc t + 5 + 5 ≤ 20 ^ (nN a + 1 + nN t)
        obtain ⟨x, hx⟩ : ∃ x, nN a = x + 1 := ⟨nN a - 1, by omega⟩
        obtain ⟨y, hy⟩ : ∃ y, nN t = y + 1 := ⟨nN t - 1, by omega⟩
        rw [hx] at h1 ⊢
        rw [hy] at h2 ⊢
        have h3 := pow_two (a := x) (b := y)
        have h4 : 20 ^ (x + 1 + (y + 1)) ≤ 20 ^ (x + 1 + 1 + (y + 1)) := Nat.pow_le_pow_right (by omega) (by omega)
        omega
      | _ => exact hok.elim
    | _ => exact Nat.le_trans (show 1 + 5 ≤ 20 by omega) h20
end UNG
