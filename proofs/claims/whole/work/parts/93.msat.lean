/-! what the reference finds asked: put together -/
section SA
variable {N k l s : Nat} {F : Nat → ND} {V : Nat → Nat → Bool} {du : Nat → Nat}
theorem S_add (hl : l < 8) {p q : Term} {x K : Nat} {σ : St} (t : Term) (ht : t = .add p q ∨ t = .sub p q) (hok : ok p ∧ ok q) (hsh : sh p = 0 ∧ sh q = 0) (hR : RR F t x) (hx : x + nN t ≤ 150) (hH : SHy F V du k s t x K σ) (ip : ∀ σ, SHy F V du k s p (x + 1) K σ → SOu N l s V du p (x + 1) K σ) (iq : ∀ σ, SHy F V du k s q (x + 1 + nN p) (K + pC p) σ → SOu N l s V du q (x + 1 + nN p) (K + pC p) σ) : SOu N l s V du t x K σ := by
  have hnN : nN t = 1 + nN p + nN q := by rcases ht with rfl | rfl <;> rfl
  have hpC : pC t = pC p + pC q := by rcases ht with rfl | rfl <;> rfl
  have hoC : oC t = oC p + oC q := by rcases ht with rfl | rfl <;> rfl
  have hRR : RR F p (x + 1) ∧ RR F q (x + 1 + nN p) := by
    rcases ht with rfl | rfl
    · exact hR.2
    · exact hR.2
  have np := ok_nN p hok.1
  have nq := ok_nN q hok.2
  obtain ⟨σ1, a1, a2, a3, a4, a5, a6, a7⟩ := S_two (N := N) (t := t) hok hsh hRR hx hnN hpC (by omega) (fun o _ => by rcases ht with rfl | rfl <;> rfl) (fun o _ => by rcases ht with rfl | rfl <;> rfl) (fun h => by
    rcases ht with rfl | rfl
    · exact h
    · exact h) (fun z h => by
    rcases ht with rfl | rfl
    · exact h
    · exact h) (fun c hc => by
    rcases ht with rfl | rfl
    · exact if_neg hc
    · exact if_neg hc) hH ip iq
  have hn1 : nd σ1 = F := (nd_of a2 (by decide)).trans hH.1.1
  have hrows : ∀ o, o < oC t → ((kC t x o).2 = 0 → (kC t x o).1 = x ∨ gI σ1 32 (kC t x o).1 = zb (ev V l t x (kC t x o))) ∧ (¬ (kC t x o).2 = 0 → gI σ1 33 (rn du t x K o) = zb (ev V l t x (kC t x o))) := fun o ho => ⟨fun h => Or.inr ((a7 o (by omega)).1 h), (a7 o (by omega)).2⟩
  rcases ht with rfl | rfl
  · exact S_fin hx (by omega) a1 a2 a3 a4 (a_and (N := N) (y := x + 1 + nN p) hn1 (by omega) (by omega) hR.1.1 hR.1.2.1 hR.1.2.2 a5 a6) Fr.rf rfl hrows
  · exact S_fin hx (by omega) a1 a2 a3 a4 (a_or (N := N) (y := x + 1 + nN p) hn1 (by omega) (by omega) hR.1.1 hR.1.2.1 hR.1.2.2 a5 a6) Fr.rf rfl hrows
theorem S_mul (hl : l < 8) {p q : Term} {x K : Nat} {σ : St} (hok : ok p ∧ ok q) (hsh : sh p = 0 ∧ sh q = 0) (hR : RR F (.mul p q) x) (hx : x + nN (.mul p q) ≤ 150) (hH : SHy F V du k s (.mul p q) x K σ) (ip : ∀ σ, SHy F V du k s p (x + 1) K σ → SOu N l s V du p (x + 1) K σ) (iq : ∀ σ, SHy F V du k s q (x + 1 + nN p) (K + pC p) σ → SOu N l s V du q (x + 1 + nN p) (K + pC p) σ) : SOu N l s V du (.mul p q) x K σ := by
  have hnN : nN (.mul p q) = 1 + nN p + nN q := rfl
  have hoC : oC (.mul p q) = oC p + oC q + 1 := rfl
  have np := ok_nN p hok.1
  have nq := ok_nN q hok.2
  obtain ⟨σ1, a1, a2, a3, a4, a5, a6, a7⟩ := S_two (N := N) (t := .mul p q) hok hsh hR.2 hx hnN rfl (by omega) (fun o ho => by
    by_cases h1 : o < oC p
    · rw [if_pos h1]; exact if_pos h1
    · rw [if_neg h1]; exact (if_neg h1).trans (if_pos ho)) (fun o ho => by
    by_cases h1 : o < oC p
    · rw [if_pos h1]; exact if_pos h1
    · rw [if_neg h1]; exact (if_neg h1).trans (if_pos ho)) (fun h => h) (fun z h => h) (fun c hc => if_neg hc) hH ip iq
  have hn1 : nd σ1 = F := (nd_of a2 (by decide)).trans hH.1.1
  have htop : kC (.mul p q) x (oC p + oC q) = (x, 0) := (if_neg (by omega)).trans (if_neg (by omega))
  have hrtop : rn du (.mul p q) x K (oC p + oC q) = du x := (if_neg (by omega)).trans (if_neg (by omega))
  have hd := hH.2.2.1 (oC p + oC q) (by omega)
  have hv := hH.2.2.2.1 (oC p + oC q) (by omega)
  rw [htop] at hd hv
  rw [hrtop] at hv
  obtain ⟨d1, d2⟩ := hd rfl
  refine S_fin hx (by omega) a1 a2 a3 a4 (a_W (N := N) (y := x + 1 + nN p) (d := du x) hn1 (by omega) (by omega) hR.1.1 hR.1.2.1 hR.1.2.2 a5 a6 (by rw [a2.gi (by decide)]; exact d1) d2) Fr.rf ?_ (fun o ho => ?_)
  · show _ = (sem V l q (x + 1 + nN p) || (sem V l p (x + 1) && V x 0))
    rw [show V x 0 = s.testBit (du x) from hv]
  · by_cases h1 : o < oC p + oC q
    · exact ⟨fun h => Or.inr ((a7 o h1).1 h), (a7 o h1).2⟩
    · obtain rfl : o = oC p + oC q := by omega
      rw [htop]
      exact ⟨fun _ => Or.inl rfl, fun h => absurd rfl h⟩
/-- one part -/
theorem S_sub {p t : Term} {x K : Nat} {σ : St} (hok : ok p) (hx : x + nN t ≤ 150) (hnN : nN t = 1 + nN p) (hpC : pC t = pC p) (hoC : oC p ≤ oC t) (hkC : ∀ o, o < oC p → kC t x o = kC p (x + 1) o) (hrn : ∀ o, o < oC p → rn du t x K o = rn du p (x + 1) K o) (hRD : RD σ t x K → RD σ p (x + 1) K) (hSP : ∀ z, SeqPos p (x + 1) z → SeqPos t x z) (hH : SHy F V du k s t x K σ) : SHy F V du k s p (x + 1) K σ := by
  obtain ⟨⟨h1, h2, h3, h4⟩, h5, h6, h7, h8, h9⟩ := hH
  refine ⟨⟨h1, h2, h3, by omega⟩, hRD h5, fun o ho hz => ?_, fun o ho => ?_, fun z hz => h8 z (hSP z hz), fun r r1 r2 => (h9 r r1 (by omega)).mono (by omega) (by omega)⟩
  · have := h6 o (by omega)
    rw [hkC o ho] at this
    exact this hz
  · have := h7 o (by omega)
    rw [hkC o ho, hrn o ho] at this
    exact this
theorem S_sum {p : Term} {x K : Nat} {σ : St} (hok : ok p) (hsh : sh p = 0) (hR : RR F (.sum p) x) (hx : x + nN (.sum p) ≤ 150) (hH : SHy F V du k s (.sum p) x K σ) (ip : ∀ σ, SHy F V du k s p (x + 1) K σ → SOu N l s V du p (x + 1) K σ) : SOu N l s V du (.sum p) x K σ := by
  have hnN : nN (.sum p) = 1 + nN p := rfl
  have hoC : oC (.sum p) = oC p + 1 := rfl
  have np := ok_nN p hok
  obtain ⟨σ1, a1, a2, a3, a4, a5, a6⟩ := ip σ (S_sub hok hx hnN rfl (by omega) (fun o ho => if_pos ho) (fun o ho => if_pos ho) (fun h => h) (fun z h => h) hH)
  have hn1 : nd σ1 = F := (nd_of a2 (by decide)).trans hH.1.1
  have htop : kC (.sum p) x (oC p) = (x, 0) := if_neg (by omega)
  have hrtop : rn du (.sum p) x K (oC p) = du x := if_neg (by omega)
  have hd := hH.2.2.1 (oC p) (by omega)
  have hv := hH.2.2.2.1 (oC p) (by omega)
  rw [htop] at hd hv
  rw [hrtop] at hv
  obtain ⟨d1, d2⟩ := hd rfl
  rw [show x + 1 + nN p = x + nN (.sum p) from by omega] at a1 a3
  refine S_fin (c := nN p) hx (by omega) a1 a2 a3 a4 (a_G (N := N) (d := du x) hn1 (by omega) hR.1.1 hR.1.2 a5 (by rw [a2.gi (by decide)]; exact d1) d2) Fr.rf ?_ (fun o ho => ?_)
  · show _ = (sem V l p (x + 1) && V x 0)
    rw [show V x 0 = s.testBit (du x) from hv]
  · by_cases h1 : o < oC p
    · have hin := kC_in p (x + 1) o hok hsh h1
      rw [show kC (.sum p) x o = kC p (x + 1) o from if_pos h1, show rn du (.sum p) x K o = rn du p (x + 1) K o from if_pos h1, show ev V l (.sum p) x (kC p (x + 1) o) = ev V l p (x + 1) (kC p (x + 1) o) from if_neg (by omega)]
      exact ⟨fun h => Or.inr ((a6 o h1).1 h), (a6 o h1).2⟩
    · obtain rfl : o = oC p := by omega
      rw [htop]
      exact ⟨fun _ => Or.inl rfl, fun h => absurd rfl h⟩
/-- the number of what stands behind X or : -/
theorem nxt_du {p t : Term} {x y K : Nat} {σ : St} (hH : SHy F V du k s t x K σ) (hy : ∃ o, o < oC t ∧ kC t x o = (y, 0) ∧ rn du t x K o = du y) : gI σ 18 y = J (du y) ∧ du y < 16 ∧ V y 0 = s.testBit (du y) := by
  obtain ⟨o, o1, o2, o3⟩ := hy
  have hd := hH.2.2.1 o o1
  have hv := hH.2.2.2.1 o o1
  rw [o2] at hd hv
  rw [o3] at hv
  exact ⟨(hd rfl).1, (hd rfl).2, hv⟩
/-- the last of a property's own numbers -/
theorem rn_own {t : Term} (h : own t = true) (x K : Nat) : rn du t x K (oC t - 1) = du x := by
  cases t with
  | sum p =>
    have e : oC (.sum p) = oC p + 1 := rfl
    rw [e]
    exact if_neg (by omega)
  | mul p q =>
    have e : oC (.mul p q) = oC p + oC q + 1 := rfl
    rw [e]
    exact (if_neg (by omega)).trans (if_neg (by omega))
  | _ => cases h
theorem S_old {p : Term} {x K : Nat} {σ : St} (hok : ok p) (hsh : sh p = 0) (hR : RR F (.old p) x) (hx : x + nN (.old p) ≤ 150) (hH : SHy F V du k s (.old p) x K σ) (ip : ∀ σ, SHy F V du k s p (x + 1) K σ → SOu N l s V du p (x + 1) K σ) : SOu N l s V du (.old p) x K σ := by
  have hnN : nN (.old p) = 1 + nN p := rfl
  have hoC : oC (.old p) = oC p + (if own p = true then 0 else 1) := rfl
  have np := ok_nN p hok
  obtain ⟨σ1, a1, a2, a3, a4, a5, a6⟩ := ip σ (S_sub hok hx hnN rfl (by omega) (fun o ho => if_pos ho) (fun o ho => if_pos ho) (fun h => h) (fun z h => h) hH)
  have hn1 : nd σ1 = F := (nd_of a2 (by decide)).trans hH.1.1
  obtain ⟨d1, d2, d3⟩ := nxt_du (p := p) (y := x + 1) hH (by
    by_cases ho : own p = true
    · obtain ⟨q1, q2⟩ := kC_own ho (x + 1)
      exact ⟨oC p - 1, by omega, by rw [show kC (.old p) x (oC p - 1) = kC p (x + 1) (oC p - 1) from if_pos (by omega)]; exact q2, by rw [show rn du (.old p) x K (oC p - 1) = rn du p (x + 1) K (oC p - 1) from if_pos (by omega)]; exact rn_own ho _ _⟩
    · exact ⟨oC p, by rw [hoC, if_neg ho]; omega, if_neg (by omega), if_neg (by omega)⟩)
  rw [show x + 1 + nN p = x + nN (.old p) from by omega] at a1 a3
  refine S_fin (c := nN p) hx (by omega) a1 a2 a3 a4 (a_X (N := N) (d := du (x + 1)) hn1 (by omega) hR.1.1 hR.1.2 (by rw [a2.gi (by decide)]; exact d1) d2) Fr.rf ?_ (fun o ho => ?_)
  · show _ = V (x + 1) 0
    rw [d3]
  · by_cases h1 : o < oC p
    · have hin := kC_in p (x + 1) o hok hsh h1
      rw [show kC (.old p) x o = kC p (x + 1) o from if_pos h1, show rn du (.old p) x K o = rn du p (x + 1) K o from if_pos h1, show ev V l (.old p) x (kC p (x + 1) o) = ev V l p (x + 1) (kC p (x + 1) o) from if_neg (by omega)]
      exact ⟨fun h => Or.inr ((a6 o h1).1 h), (a6 o h1).2⟩
    · rw [show kC (.old p) x o = (x + 1, 0) from if_neg h1]
      refine ⟨fun _ => Or.inr ?_, fun h => absurd rfl h⟩
      rw [show ev V l (.old p) x (x + 1, 0) = ev V l p (x + 1) (x + 1, 0) from if_neg (by show ¬ x + 1 ≤ x; omega), ev_top]
      exact a5
/-- > and : -/
theorem S_rule (hN : 100 ≤ N) (hl : l < 8) {u p t : Term} {x K : Nat} {th : Bool} {σ : St} (ht : (t = .div u p ∧ th = sem V l p (x + 2 + nN u)) ∨ (t = .rem u p ∧ th = V (x + 2 + nN u) 0)) (hoku : ok u) (hshu : sh u = 1 ∨ sh u = 2) (hok : ok p) (hsh : sh p = 0) (hR : RR F t x) (hx : x + nN t ≤ 150) (hH : SHy F V du k s t x K σ) (ip : ∀ σ, SHy F V du k s p (x + 2 + nN u) (K + len u) σ → SOu N l s V du p (x + 2 + nN u) (K + len u) σ) : SOu N l s V du t x K σ := by
  have hnN : nN t = 2 + nN u + nN p := by rcases ht with ⟨rfl, _⟩ | ⟨rfl, _⟩ <;> rfl
  have hpC : pC t = len u + pC p := by rcases ht with ⟨rfl, _⟩ | ⟨rfl, _⟩ <;> rfl
  have hoC : len u + oC p ≤ oC t := by
    rcases ht with ⟨rfl, _⟩ | ⟨rfl, _⟩
    · exact Nat.le_refl _
    · exact Nat.le_add_right _ _
  have hRR : nO (F x) = J (x + 1) ∧ nT (F x) = J (x + 2 + nN u) ∧ nK (F (x + 1)) = J 10 ∧ RR F u (x + 2) ∧ RR F p (x + 2 + nN u) := by
    rcases ht with ⟨rfl, _⟩ | ⟨rfl, _⟩
    · exact ⟨hR.1.2.1, hR.1.2.2.1, hR.1.2.2.2.1, hR.2.1, hR.2.2⟩
    · exact ⟨hR.1.2.1, hR.1.2.2.1, hR.1.2.2.2.1, hR.2.1, hR.2.2⟩
  obtain ⟨r2, r3, r4, r7, r8⟩ := hRR
  have hkC1 : ∀ o, o < len u → kC t x o = (x, o + 1) ∧ rn du t x K o = K + o := fun o ho => by
    rcases ht with ⟨rfl, _⟩ | ⟨rfl, _⟩
    · exact ⟨if_pos ho, if_pos ho⟩
    · exact ⟨if_pos ho, if_pos ho⟩
  have hkC2 : ∀ o, o < oC p → kC t x (len u + o) = kC p (x + 2 + nN u) o ∧ rn du t x K (len u + o) = rn du p (x + 2 + nN u) (K + len u) o := fun o ho => by
    have e : len u + o - len u = o := by omega
    rcases ht with ⟨rfl, _⟩ | ⟨rfl, _⟩
    · exact ⟨(if_neg (by omega)).trans (by rw [e]), (if_neg (by omega)).trans (by rw [e])⟩
    · exact ⟨(if_neg (by omega)).trans ((if_pos (by omega)).trans (by rw [e])), (if_neg (by omega)).trans ((if_pos (by omega)).trans (by rw [e]))⟩
  have hev : ∀ c, ¬ c.1 ≤ x → ev V l t x c = ev V l p (x + 2 + nN u) c := fun c hc => by
    rcases ht with ⟨rfl, _⟩ | ⟨rfl, _⟩
    · exact if_neg hc
    · exact if_neg hc
  have hev1 : ∀ j, ev V l t x (x, j + 1) = qs V l u x th j := fun j => by
    rcases ht with ⟨rfl, rfl⟩ | ⟨rfl, rfl⟩
    · exact (if_pos (Nat.le_refl x)).trans (if_neg (Nat.succ_ne_zero j))
    · exact (if_pos (Nat.le_refl x)).trans (if_neg (Nat.succ_ne_zero j))
  have hsem : sem V l t x = rul V l u x th := by
    rcases ht with ⟨rfl, rfl⟩ | ⟨rfl, rfl⟩ <;> rfl
  obtain ⟨⟨h1, h2, h3, h4⟩, h5, h6, h7, h8, h9⟩ := id hH
  have hRD : RuD σ u x K ∧ RD σ p (x + 2 + nN u) (K + len u) := by
    rcases ht with ⟨rfl, _⟩ | ⟨rfl, _⟩
    · exact h5
    · exact h5
  have hSP : ∀ z, (x + 2 ≤ z ∧ z < x + 2 + nN u) ∨ SeqPos p (x + 2 + nN u) z → SeqPos t x z := fun z hz => by
    rcases ht with ⟨rfl, _⟩ | ⟨rfl, _⟩
    · exact hz
    · exact hz
  have np := ok_nN p hok
  have nu := ok_nN u hoku
  have hp : SHy F V du k s p (x + 2 + nN u) (K + len u) σ := by
    refine ⟨⟨h1, h2, h3, by omega⟩, hRD.2, fun o ho hz => ?_, fun o ho => ?_, fun z hz => h8 z (hSP z (Or.inr hz)), fun r r1 rr => ?_⟩
    · have := h6 (len u + o) (by omega)
      rw [(hkC2 o ho).1] at this
      exact this hz
    · have := h7 (len u + o) (by omega)
      rw [(hkC2 o ho).1, (hkC2 o ho).2] at this
      exact this
    · by_cases hr : K ≤ r ∧ r < K + len u
      · obtain ⟨z, z1, z2, z3, z4⟩ := Rule_oth hoku r7 (by omega) (fun z a b => h8 z (hSP z (Or.inl ⟨a, b⟩))) hRD.1 hr.1 hr.2
        exact ⟨z, z1, z2, Or.inr ⟨z3, x, by omega, by omega, z4⟩⟩
      · exact (h9 r r1 (by omega)).mono (by omega) (by omega)
  obtain ⟨σ1, a1, a2, a3, a4, a5, a6⟩ := ip σ hp
  have hn1 : nd σ1 = F := (nd_of a2 (by decide)).trans h1
  obtain ⟨σ2, b1, b2, b3, b4⟩ := s_seq (N := N) (l := l) (s := s) (F := F) hl u (x + 2) σ1 hoku (by omega) r7 hn1 (by omega)
  have hn2 : nd σ2 = F := (nd_of b2 (by decide)).trans hn1
  have c1 := s_step (N := N) (l := l) (s := s) (σ := σ2) (show x + 1 < 150 by omega) (a_other (N := N) (l := l) (s := s) (v := 10) hn2 (by omega) r4 (by omega) (by omega))
  have c2 : Fr [32] σ2 (sI σ2 32 (x + 1) (zb false)) := Fr.i (by decide)
  have c3 : ∀ i, ¬ i = x + 1 → gI (sI σ2 32 (x + 1) (zb false)) 32 i = gI σ2 32 i := fun i hi => by simp (decide := true) (disch := omega) only [letS_d, grd_tt, bnd_d, bnd1_d, bndX_d, bndX_e, gI_at, gI_ne, gI_sL, gL_sL, gL_sI, upd_at, updL_at, J_lit, J_add, J_mul, J_sub, J_lt, J_le, J_inj, J_ne, ne_J, m_lt, lt_m, m_le, le_m, J_cl, J_inB, if_true, if_false, ite_true, ite_false, reduceIte, isZ0, isZ1, J_and31, shrJ0, shlJ0, gI_sA, gL_sA, Nat.reduceEqDiff, Nat.reduceAdd, Nat.reduceMul, Nat.reduceLT, Nat.reduceLeDiff, hi]
  generalize hσ3 : sI σ2 32 (x + 1) (zb false) = σ3 at c1 c2 c3
  have hn3 : nd σ3 = F := (nd_of c2 (by decide)).trans hn2
  have f13 : Fr [32] σ1 σ3 := b2.tr c2
  have f3 : Fr [32, 33] σ σ3 := a2.tr (f13.mono (by decide))
  -- the rule, as it stands now
  have hRu3 : RuD σ3 u x K := hRD.1.keep (fun o _ => by rw [f3.gi (by decide), f3.gi (by decide), f3.gi (by decide), f3.gi (by decide)]; exact ⟨rfl, rfl, rfl, rfl⟩) (by rw [f3.gi (by decide)])
  have hb3 : ∀ j, j < len u → pn u (x + 2) j < 150 ∧ gI σ3 18 (pn u (x + 2) j) = -J 1 ∧ gI σ3 32 (pn u (x + 2) j) = zb (bs (pl u j) l) := fun j hj => by
    have hp := pn_in u (x + 2) j hoku r7 hj
    refine ⟨by omega, by rw [f3.gi (by decide)]; exact h8 _ (hSP _ (Or.inl hp)), ?_⟩
    rw [c3 _ (by omega)]
    exact b4 j hj
  have ho3 : ∀ r, r < k → (r < K ∨ K + len u ≤ r) → Oth x σ3 r := fun r r1 rr => by
    have key : Oth x σ r := by
      by_cases hr : K + len u ≤ r ∧ r < K + len u + pC p
      · obtain ⟨z, z1, z2, z3, Q, Q1, Q2, Q3⟩ := RD_oth p (x + 2 + nN u) (K + len u) σ hok r8 (by omega) (fun z hz => h8 z (hSP z (Or.inr hz))) hRD.2 r hr.1 hr.2
        exact ⟨z, z1, z2, Or.inr ⟨z3, Q, by omega, by omega, Q3⟩⟩
      · obtain ⟨z, z1, z2, z3⟩ := h9 r r1 (by omega)
        refine ⟨z, z1, z2, ?_⟩
        rcases z3 with z3 | ⟨z3, Q, Q1, Q2, Q3⟩
        · exact Or.inl z3
        · exact Or.inr ⟨z3, Q, Q1, by omega, Q3⟩
    obtain ⟨z, z1, z2, z3⟩ := key
    refine ⟨z, z1, by rw [f3.gi (by decide)]; exact z2, ?_⟩
    rw [f3.gi (by decide), f3.gi (by decide)]
    exact z3
  have hVu : ∀ j, j < len u → V x (j + 1) = s.testBit (K + j) := fun j hj => by
    have := h7 j (by omega)
    rw [(hkC1 j hj).1, (hkC1 j hj).2] at this
    exact this
  obtain ⟨σ4, e1, e2, e3, e4⟩ := r_places (N := N) (l := l) (s := s) (k := k) (th := th) (V := V) hN h3 (show x < 150 by omega) (by omega) hVu (by rw [f3.gi (by decide)]; exact h2) hRu3 hb3 ho3
  have h32t : gI σ3 32 (x + 2 + nN u) = zb (sem V l p (x + 2 + nN u)) := by
    rw [c3 _ (by omega), b3 _ (by omega)]
    exact a5
  have hask : fX9_asks N σ3 (J x) (J l) (J s) = some (zb (rul V l u x th), σ4) := by
    have h6' : gI σ3 7 x = J (x + 2 + nN u) := by rw [← r3, ← hn3]; rfl
    have hz := isZ_zb (rul V l u x th)
    rcases ht with ⟨rfl, rfl⟩ | ⟨rfl, rfl⟩
    · have h5' : gI σ3 5 x = J 8 := by rw [← hR.1.1, ← hn3]; rfl
      unfold fX9_asks
      simp (decide := true) (disch := omega) only [letS_d, grd_tt, bnd_d, bnd1_d, bndX_d, bndX_e, gI_at, gI_ne, gI_sL, gL_sL, gL_sI, upd_at, updL_at, J_lit, J_add, J_mul, J_sub, J_lt, J_le, J_inj, J_ne, ne_J, m_lt, lt_m, m_le, le_m, J_cl, J_inB, if_true, if_false, ite_true, ite_false, reduceIte, isZ0, isZ1, J_and31, shrJ0, shlJ0, gI_sA, gL_sA, Nat.reduceEqDiff, Nat.reduceAdd, Nat.reduceMul, Nat.reduceLT, Nat.reduceLeDiff, h5', h6', h32t, e1, hz]
    · have h5' : gI σ3 5 x = J 9 := by rw [← hR.1.1, ← hn3]; rfl
      obtain ⟨d1, d2, d3⟩ := nxt_du (p := p) (y := x + 2 + nN u) hH (by
        have hoC9 : oC (.rem u p) = len u + oC p + (if own p = true then 0 else 1) := rfl
        by_cases ho : own p = true
        · obtain ⟨q1, q2⟩ := kC_own ho (x + 2 + nN u)
          exact ⟨len u + (oC p - 1), by omega, by rw [(hkC2 (oC p - 1) (by omega)).1]; exact q2, by rw [(hkC2 (oC p - 1) (by omega)).2]; exact rn_own ho _ _⟩
        · exact ⟨len u + oC p, by rw [hoC9, if_neg ho]; omega, (if_neg (by omega)).trans (if_neg (by omega)), (if_neg (by omega)).trans (if_neg (by omega))⟩)
      have hh := has_b (N := N) (s := s) (σ := σ3) (y := x + 2 + nN u) (by omega) (by rw [f3.gi (by decide)]; exact d1) d2
      rw [← d3] at hh
      unfold fX9_asks
      simp (decide := true) (disch := omega) only [letS_d, grd_tt, bnd_d, bnd1_d, bndX_d, bndX_e, gI_at, gI_ne, gI_sL, gL_sL, gL_sI, upd_at, updL_at, J_lit, J_add, J_mul, J_sub, J_lt, J_le, J_inj, J_ne, ne_J, m_lt, lt_m, m_le, le_m, J_cl, J_inB, if_true, if_false, ite_true, ite_false, reduceIte, isZ0, isZ1, J_and31, shrJ0, shlJ0, gI_sA, gL_sA, Nat.reduceEqDiff, Nat.reduceAdd, Nat.reduceMul, Nat.reduceLT, Nat.reduceLeDiff, h5', h6', hh, e1, hz]
  have hrun : Sat N l s (nN p + nN u + 1) (x + nN t) (x + 1) σ σ3 := by
    have := (a1.tr b1).tr c1
    rw [show x + 2 + nN u + nN p = x + nN t from by omega] at this
    exact this
  refine S_fin hx (by omega) hrun f3 (fun i hi => by rw [c3 i (by omega), b3 i (by omega), a3 i (by omega)]) (fun r hr => by rw [e3 r (by omega), f13.gi (by decide), a4 r (by omega)]) hask e2 hsem.symm (fun o ho => ?_)
  by_cases h10 : o < len u
  · rw [(hkC1 o h10).1, (hkC1 o h10).2, hev1]
    exact ⟨fun h => absurd h (Nat.succ_ne_zero o), fun _ => e4 o h10⟩
  · by_cases h11 : o < len u + oC p
    · obtain ⟨m, rfl⟩ : ∃ m, o = len u + m := ⟨o - len u, by omega⟩
      have hm : m < oC p := by omega
      have hin := kC_in p (x + 2 + nN u) m hok hsh hm
      rw [(hkC2 m hm).1, (hkC2 m hm).2, hev _ (by omega)]
      obtain ⟨g1, g2⟩ := a6 m hm
      refine ⟨fun h => Or.inr ?_, fun h => ?_⟩
      · rw [e2.gi (by decide), c3 _ (by omega), b3 _ (by omega)]
        exact g1 h
      · rcases rn_in (du := du) p (x + 2 + nN u) (K + len u) m hok hsh hm with ⟨q1, _⟩ | ⟨_, q2, q3⟩
        · exact absurd q1 h
        · rw [e3 _ (by omega), f13.gi (by decide)]
          exact g2 h
    · rcases ht with ⟨rfl, _⟩ | ⟨rfl, _⟩
      · exact absurd ho h11
      · rw [show kC (.rem u p) x o = (x + 2 + nN u, 0) from (if_neg h10).trans (if_neg h11)]
        refine ⟨fun _ => Or.inr ?_, fun h => absurd rfl h⟩
        rw [hev _ (by show ¬ x + 2 + nN u ≤ x; omega), ev_top, e2.gi (by decide)]
        exact h32t
theorem S_all (hN : 100 ≤ N) (hl : l < 8) : ∀ t x K σ, ok t → sh t = 0 → RR F t x → x + nN t ≤ 150 → SHy F V du k s t x K σ → SOu N l s V du t x K σ := by
  intro t
  induction t using tind with
  | h t ih =>
    intro x K σ hok hsh hR hx hH
    cases t with
    | index v => exact S_leaf hl hok hR hx hH.1.1 rfl rfl
    | length b => exact S_leaf (t := .length b) hl hok hR hx hH.1.1 rfl rfl
    | add p q =>
      have e : nN (.add p q) = 1 + nN p + nN q := rfl
      exact S_add hl _ (Or.inl rfl) hok.2 hok.1 hR hx hH (fun σ h => ih p (by simp; omega) _ _ σ hok.2.1 hok.1.1 hR.2.1 (by omega) h) (fun σ h => ih q (by simp; omega) _ _ σ hok.2.2 hok.1.2 hR.2.2 (by omega) h)
    | sub p q =>
      have e : nN (.sub p q) = 1 + nN p + nN q := rfl
      exact S_add hl _ (Or.inr rfl) hok.2 hok.1 hR hx hH (fun σ h => ih p (by simp; omega) _ _ σ hok.2.1 hok.1.1 hR.2.1 (by omega) h) (fun σ h => ih q (by simp; omega) _ _ σ hok.2.2 hok.1.2 hR.2.2 (by omega) h)
    | mul p q =>
      have e : nN (.mul p q) = 1 + nN p + nN q := rfl
      exact S_mul hl hok.2 hok.1 hR hx hH (fun σ h => ih p (by simp; omega) _ _ σ hok.2.1 hok.1.1 hR.2.1 (by omega) h) (fun σ h => ih q (by simp; omega) _ _ σ hok.2.2 hok.1.2 hR.2.2 (by omega) h)
    | sum p =>
      have e : nN (.sum p) = 1 + nN p := rfl
      exact S_sum hok.2 hok.1 hR hx hH (fun σ h => ih p (by simp) _ _ σ hok.2 hok.1 hR.2 (by omega) h)
    | old p =>
      have e : nN (.old p) = 1 + nN p := rfl
      exact S_old hok.2 hok.1 hR hx hH (fun σ h => ih p (by simp) _ _ σ hok.2 hok.1 hR.2 (by omega) h)
    | div u p =>
      have e : nN (.div u p) = 2 + nN u + nN p := rfl
      exact S_rule hN hl (Or.inl ⟨rfl, rfl⟩) hok.2.1 hok.1.1 hok.2.2 hok.1.2 hR hx hH (fun σ h => ih p (by simp; omega) _ _ σ hok.2.2 hok.1.2 hR.2.2 (by omega) h)
    | rem u p =>
      have e : nN (.rem u p) = 2 + nN u + nN p := rfl
      exact S_rule hN hl (Or.inr ⟨rfl, rfl⟩) hok.2.1 hok.1.1 hok.2.2 hok.1.2 hR hx hH (fun σ h => ih p (by simp; omega) _ _ σ hok.2.2 hok.1.2 hR.2.2 (by omega) h)
    | elem a w => cases w <;> first | exact hok.elim | cases hsh
    | field b x y z => cases hsh
    | null => cases hsh
    | _ => exact hok.elim
end SA
