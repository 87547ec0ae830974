/-! what the reference finds asked: all -/
/-- nodes within sequences -/
def SeqPos : Term → Nat → Nat → Prop
  | .add p q, x, z => SeqPos p (x + 1) z ∨ SeqPos q (x + 1 + nN p) z
  | .sub p q, x, z => SeqPos p (x + 1) z ∨ SeqPos q (x + 1 + nN p) z
  | .mul p q, x, z => SeqPos p (x + 1) z ∨ SeqPos q (x + 1 + nN p) z
  | .sum p, x, z => SeqPos p (x + 1) z
  | .old p, x, z => SeqPos p (x + 1) z
  | .div s p, x, z => (x + 2 ≤ z ∧ z < x + 2 + nN s) ∨ SeqPos p (x + 2 + nN s) z
  | .rem s p, x, z => (x + 2 ≤ z ∧ z < x + 2 + nN s) ∨ SeqPos p (x + 2 + nN s) z
  | _, _, _ => False
section ST
variable {N k l s : Nat} {F : Nat → ND} {V : Nat → Nat → Bool} {du : Nat → Nat}
/-- a number that belongs elsewhere -/
def OthR (x e : Nat) (σ : St) (q : Nat) : Prop := ∃ z, z < 150 ∧ gI σ 19 q = J z ∧ (gI σ 18 z = J q ∨ (gI σ 18 z = -J 1 ∧ ∃ Q, Q < 150 ∧ (Q < x ∨ e ≤ Q) ∧ gI σ 20 q = J Q))
theorem OthR.mono {x e x' e' q : Nat} {σ : St} (h : OthR x e σ q) (h1 : x ≤ x') (h2 : e' ≤ e) : OthR x' e' σ q := by
  obtain ⟨z, z1, z2, z3⟩ := h
  refine ⟨z, z1, z2, ?_⟩
  rcases z3 with z3 | ⟨z3, Q, Q1, Q2, Q3⟩
  · exact Or.inl z3
  · exact Or.inr ⟨z3, Q, Q1, by omega, Q3⟩
/-- a rule's places belong to it -/
theorem Rule_oth {u : Term} {P K : Nat} {σ : St} (hok : ok u) (hR : RR F u (P + 2)) (hx : P + 2 + nN u ≤ 150) (hS : ∀ z, P + 2 ≤ z → z < P + 2 + nN u → gI σ 18 z = -J 1) (hD : RuD σ u P K) {q : Nat} (h1 : K ≤ q) (h2 : q < K + len u) : ∃ z, z < 150 ∧ gI σ 19 q = J z ∧ gI σ 18 z = -J 1 ∧ gI σ 20 q = J P := by
  obtain ⟨a, b, c⟩ := hD.1 (q - K) (by omega)
  rw [show K + (q - K) = q from by omega] at a b c
  have hp := pn_in u (P + 2) (q - K) hok hR (by omega)
  exact ⟨_, by omega, a, hS _ hp.1 hp.2, b⟩
theorem RD_oth : ∀ t x K σ, ok t → RR F t x → x + nN t ≤ 150 → (∀ z, SeqPos t x z → gI σ 18 z = -J 1) → RD σ t x K → ∀ q, K ≤ q → q < K + pC t → ∃ z, z < 150 ∧ gI σ 19 q = J z ∧ gI σ 18 z = -J 1 ∧ ∃ Q, x ≤ Q ∧ Q < x + nN t ∧ gI σ 20 q = J Q := by
  have pair : ∀ (p r : Term) x K σ, (∀ x K σ, RR F p x → x + nN p ≤ 150 → (∀ z, SeqPos p x z → gI σ 18 z = -J 1) → RD σ p x K → ∀ q, K ≤ q → q < K + pC p → ∃ z, z < 150 ∧ gI σ 19 q = J z ∧ gI σ 18 z = -J 1 ∧ ∃ Q, x ≤ Q ∧ Q < x + nN p ∧ gI σ 20 q = J Q) → (∀ x K σ, RR F r x → x + nN r ≤ 150 → (∀ z, SeqPos r x z → gI σ 18 z = -J 1) → RD σ r x K → ∀ q, K ≤ q → q < K + pC r → ∃ z, z < 150 ∧ gI σ 19 q = J z ∧ gI σ 18 z = -J 1 ∧ ∃ Q, x ≤ Q ∧ Q < x + nN r ∧ gI σ 20 q = J Q) → RR F p (x + 1) ∧ RR F r (x + 1 + nN p) → x + (1 + nN p + nN r) ≤ 150 → (∀ z, SeqPos p (x + 1) z ∨ SeqPos r (x + 1 + nN p) z → gI σ 18 z = -J 1) → RD σ p (x + 1) K ∧ RD σ r (x + 1 + nN p) (K + pC p) → ∀ q, K ≤ q → q < K + (pC p + pC r) → ∃ z, z < 150 ∧ gI σ 19 q = J z ∧ gI σ 18 z = -J 1 ∧ ∃ Q, x ≤ Q ∧ Q < x + (1 + nN p + nN r) ∧ gI σ 20 q = J Q := by
    intro p r x K σ ip ir hR hx hS hD q q1 q2
    by_cases h1 : q < K + pC p
    · obtain ⟨z, z1, z2, z3, Q, Q1, Q2, Q3⟩ := ip (x + 1) K σ hR.1 (by omega) (fun z hz => hS z (Or.inl hz)) hD.1 q q1 h1
      exact ⟨z, z1, z2, z3, Q, by omega, by omega, Q3⟩
    · obtain ⟨z, z1, z2, z3, Q, Q1, Q2, Q3⟩ := ir (x + 1 + nN p) (K + pC p) σ hR.2 (by omega) (fun z hz => hS z (Or.inr hz)) hD.2 q (by omega) (by omega)
      exact ⟨z, z1, z2, z3, Q, by omega, by omega, Q3⟩
  have rule : ∀ (u p : Term) x K σ, ok u → (∀ x K σ, RR F p x → x + nN p ≤ 150 → (∀ z, SeqPos p x z → gI σ 18 z = -J 1) → RD σ p x K → ∀ q, K ≤ q → q < K + pC p → ∃ z, z < 150 ∧ gI σ 19 q = J z ∧ gI σ 18 z = -J 1 ∧ ∃ Q, x ≤ Q ∧ Q < x + nN p ∧ gI σ 20 q = J Q) → RR F u (x + 2) ∧ RR F p (x + 2 + nN u) → x + (2 + nN u + nN p) ≤ 150 → (∀ z, (x + 2 ≤ z ∧ z < x + 2 + nN u) ∨ SeqPos p (x + 2 + nN u) z → gI σ 18 z = -J 1) → RuD σ u x K ∧ RD σ p (x + 2 + nN u) (K + len u) → ∀ q, K ≤ q → q < K + (len u + pC p) → ∃ z, z < 150 ∧ gI σ 19 q = J z ∧ gI σ 18 z = -J 1 ∧ ∃ Q, x ≤ Q ∧ Q < x + (2 + nN u + nN p) ∧ gI σ 20 q = J Q := by
    intro u p x K σ hu ip hR hx hS hD q q1 q2
    by_cases h1 : q < K + len u
    · obtain ⟨z, z1, z2, z3, z4⟩ := Rule_oth hu hR.1 (by omega) (fun z a b => hS z (Or.inl ⟨a, b⟩)) hD.1 q1 h1
      exact ⟨z, z1, z2, z3, x, by omega, by omega, z4⟩
    · obtain ⟨z, z1, z2, z3, Q, Q1, Q2, Q3⟩ := ip (x + 2 + nN u) (K + len u) σ hR.2 (by omega) (fun z hz => hS z (Or.inr hz)) hD.2 q (by omega) (by omega)
      exact ⟨z, z1, z2, z3, Q, by omega, by omega, Q3⟩
  intro t
  induction t using tind with
  | h t ih =>
    intro x K σ hok hR hx hS hD q q1 q2
    cases t with
    | add p r => exact pair p r x K σ (fun x K σ => ih p (by simp; omega) x K σ hok.2.1) (fun x K σ => ih r (by simp; omega) x K σ hok.2.2) hR.2 hx hS hD q q1 q2
    | sub p r => exact pair p r x K σ (fun x K σ => ih p (by simp; omega) x K σ hok.2.1) (fun x K σ => ih r (by simp; omega) x K σ hok.2.2) hR.2 hx hS hD q q1 q2
    | mul p r => exact pair p r x K σ (fun x K σ => ih p (by simp; omega) x K σ hok.2.1) (fun x K σ => ih r (by simp; omega) x K σ hok.2.2) hR.2 hx hS hD q q1 q2
    | sum p =>
      have e : nN (.sum p) = 1 + nN p := rfl
      obtain ⟨z, z1, z2, z3, Q, Q1, Q2, Q3⟩ := ih p (by simp) (x + 1) K σ hok.2 hR.2 (by omega) hS hD q q1 q2
      exact ⟨z, z1, z2, z3, Q, by omega, by omega, Q3⟩
    | old p =>
      have e : nN (.old p) = 1 + nN p := rfl
      obtain ⟨z, z1, z2, z3, Q, Q1, Q2, Q3⟩ := ih p (by simp) (x + 1) K σ hok.2 hR.2 (by omega) hS hD q q1 q2
      exact ⟨z, z1, z2, z3, Q, by omega, by omega, Q3⟩
    | div u p => exact rule u p x K σ hok.2.1 (fun x K σ => ih p (by simp; omega) x K σ hok.2.2) hR.2 hx hS hD q q1 q2
    | rem u p => exact rule u p x K σ hok.2.1 (fun x K σ => ih p (by simp; omega) x K σ hok.2.2) hR.2 hx hS hD q q1 q2
    | elem a w =>
      have : pC (.elem a w) = 0 := rfl
      omega
    | _ => exact absurd q2 (by show ¬ q < K + 0; omega)
/-- what must be known before a property is asked -/
def SHy (F : Nat → ND) (V : Nat → Nat → Bool) (du : Nat → Nat) (k s : Nat) (t : Term) (x K : Nat) (σ : St) : Prop := (nd σ = F ∧ gI σ 17 0 = J k ∧ k ≤ 9 ∧ K + pC t ≤ k) ∧ RD σ t x K ∧ (∀ o, o < oC t → (kC t x o).2 = 0 → gI σ 18 (kC t x o).1 = J (du (kC t x o).1) ∧ du (kC t x o).1 < 16) ∧ (∀ o, o < oC t → V (kC t x o).1 (kC t x o).2 = s.testBit (rn du t x K o)) ∧ (∀ z, SeqPos t x z → gI σ 18 z = -J 1) ∧ ∀ q, q < k → (q < K ∨ K + pC t ≤ q) → OthR x (x + nN t) σ q
theorem SHy.fr {t : Term} {x K : Nat} {σ σ' : St} (h : SHy F V du k s t x K σ) (f : Fr [32, 33] σ σ') (hok : ok t) : SHy F V du k s t x K σ' := by
  obtain ⟨⟨h1, h2, h3, h4⟩, h5, h6, h7, h8, h9⟩ := h
  refine ⟨⟨(nd_of f (by decide)).trans h1, by rw [f.gi (by decide)]; exact h2, h3, h4⟩, RD_keep t x K hok (fun o _ => by rw [f.gi (by decide), f.gi (by decide), f.gi (by decide), f.gi (by decide)]; exact ⟨rfl, rfl, rfl, rfl⟩) (fun i _ _ => by rw [f.gi (by decide)]) h5, fun o ho h => by rw [f.gi (by decide)]; exact h6 o ho h, h7, fun z hz => by rw [f.gi (by decide)]; exact h8 z hz, fun q q1 q2 => ?_⟩
  obtain ⟨z, z1, z2, z3⟩ := h9 q q1 q2
  refine ⟨z, z1, by rw [f.gi (by decide)]; exact z2, ?_⟩
  rw [f.gi (by decide), f.gi (by decide)]
  exact z3
/-- what asking a property comes to -/
def SOu (N l s : Nat) (V : Nat → Nat → Bool) (du : Nat → Nat) (t : Term) (x K : Nat) (σ : St) : Prop := ∃ σ', Sat N l s (nN t) (x + nN t) x σ σ' ∧ Fr [32, 33] σ σ' ∧ (∀ i, (i < x ∨ x + nN t ≤ i) → gI σ' 32 i = gI σ 32 i) ∧ (∀ q, (q < K ∨ K + pC t ≤ q) → gI σ' 33 q = gI σ 33 q) ∧ gI σ' 32 x = zb (sem V l t x) ∧ ∀ o, o < oC t → ((kC t x o).2 = 0 → gI σ' 32 (kC t x o).1 = zb (ev V l t x (kC t x o))) ∧ (¬ (kC t x o).2 = 0 → gI σ' 33 (rn du t x K o) = zb (ev V l t x (kC t x o)))
/-- the top, behind its parts -/
theorem S_fin {t : Term} {x K c : Nat} {v : Bool} {σ σ1 σ2 : St} (hx : x + nN t ≤ 150) (hc : nN t = c + 1) (h1 : Sat N l s c (x + nN t) (x + 1) σ σ1) (f1 : Fr [32, 33] σ σ1) (g1 : ∀ i, (i < x + 1 ∨ x + nN t ≤ i) → gI σ1 32 i = gI σ 32 i) (g2 : ∀ q, (q < K ∨ K + pC t ≤ q) → gI σ2 33 q = gI σ 33 q) (ha : fX9_asks N σ1 (J x) (J l) (J s) = some (zb v, σ2)) (f2 : Fr [33] σ1 σ2) (hv : v = sem V l t x) (hrows : ∀ o, o < oC t → ((kC t x o).2 = 0 → (kC t x o).1 = x ∨ gI σ2 32 (kC t x o).1 = zb (ev V l t x (kC t x o))) ∧ (¬ (kC t x o).2 = 0 → gI σ2 33 (rn du t x K o) = zb (ev V l t x (kC t x o)))) : SOu N l s V du t x K σ := by
  have hs := s_step (N := N) (l := l) (s := s) (show x < 150 by omega) ha
  have hx' : gI (sI σ2 32 x (zb v)) 32 x = zb v := by simp (decide := true) (disch := omega) only [letS_d, grd_tt, bnd_d, bnd1_d, bndX_d, bndX_e, gI_at, gI_ne, gI_sL, gL_sL, gL_sI, upd_at, updL_at, J_lit, J_add, J_mul, J_sub, J_lt, J_le, J_inj, J_ne, ne_J, m_lt, lt_m, m_le, le_m, J_cl, J_inB, if_true, if_false, ite_true, ite_false, reduceIte, isZ0, isZ1, J_and31, shrJ0, shlJ0, gI_sA, gL_sA, Nat.reduceEqDiff, Nat.reduceAdd, Nat.reduceMul, Nat.reduceLT, Nat.reduceLeDiff]
  refine ⟨sI σ2 32 x (zb v), ?_, (f1.tr (f2.mono (by decide))).tr (Fr.i (by decide)), fun i hi => ?_, fun q hq => ?_, by rw [hx', hv], fun o ho => ?_⟩
  · have := h1.tr hs
    rw [← hc] at this
    exact this
  · have : ¬ i = x := by omega
    rw [gI_at, upd_at, if_neg this, f2.gi (by decide)]
    exact g1 i (by omega)
  · rw [gI_ne _ _ _ (by decide)]
    exact g2 q hq
  · obtain ⟨r1, r2⟩ := hrows o ho
    refine ⟨fun h => ?_, fun h => ?_⟩
    · by_cases hk : (kC t x o).1 = x
      · have e : kC t x o = (x, 0) := Prod.ext hk h
        rw [e, ev_top, hx', hv]
      · rcases r1 h with h9 | h9
        · exact absurd h9 hk
        · rw [gI_at, upd_at, if_neg hk]
          exact h9
    · rw [gI_ne _ _ _ (by decide)]
      exact r2 h
theorem S_leaf (hl : l < 8) {t : Term} {x K : Nat} {σ : St} (hb : isBo t) (hR : RR F t x) (hx : x + nN t ≤ 150) (hn : nd σ = F) (hoC : oC t = 0) (hsem : sem V l t x = bs t l) : SOu N l s V du t x K σ := by
  obtain ⟨σ', a1, a2, a3, a4⟩ := s_bool (N := N) (l := l) (s := s) (F := F) hl t x σ hb hR hn hx
  exact ⟨σ', a1, a2.mono (by decide), a3, fun q _ => by rw [a2.gi (by decide)], by rw [a4, hsem], fun o ho => by rw [hoC] at ho; omega⟩
/-- both parts of a pair -/
theorem S_two {p q t : Term} {x K : Nat} {σ : St} (hok : ok p ∧ ok q) (hsh : sh p = 0 ∧ sh q = 0) (hR : RR F p (x + 1) ∧ RR F q (x + 1 + nN p)) (hx : x + nN t ≤ 150) (hnN : nN t = 1 + nN p + nN q) (hpC : pC t = pC p + pC q) (hoC : oC p + oC q ≤ oC t) (hkC : ∀ o, o < oC p + oC q → kC t x o = if o < oC p then kC p (x + 1) o else kC q (x + 1 + nN p) (o - oC p)) (hrn : ∀ o, o < oC p + oC q → rn du t x K o = if o < oC p then rn du p (x + 1) K o else rn du q (x + 1 + nN p) (K + pC p) (o - oC p)) (hRD : RD σ t x K → RD σ p (x + 1) K ∧ RD σ q (x + 1 + nN p) (K + pC p)) (hSP : ∀ z, SeqPos p (x + 1) z ∨ SeqPos q (x + 1 + nN p) z → SeqPos t x z) (hev : ∀ c, ¬ c.1 ≤ x → ev V l t x c = if c.1 < x + 1 + nN p then ev V l p (x + 1) c else ev V l q (x + 1 + nN p) c) (hH : SHy F V du k s t x K σ) (ip : ∀ σ, SHy F V du k s p (x + 1) K σ → SOu N l s V du p (x + 1) K σ) (iq : ∀ σ, SHy F V du k s q (x + 1 + nN p) (K + pC p) σ → SOu N l s V du q (x + 1 + nN p) (K + pC p) σ) : ∃ σ1, Sat N l s (nN p + nN q) (x + nN t) (x + 1) σ σ1 ∧ Fr [32, 33] σ σ1 ∧ (∀ i, (i < x + 1 ∨ x + nN t ≤ i) → gI σ1 32 i = gI σ 32 i) ∧ (∀ r, (r < K ∨ K + pC t ≤ r) → gI σ1 33 r = gI σ 33 r) ∧ gI σ1 32 (x + 1) = zb (sem V l p (x + 1)) ∧ gI σ1 32 (x + 1 + nN p) = zb (sem V l q (x + 1 + nN p)) ∧ ∀ o, o < oC p + oC q → ((kC t x o).2 = 0 → gI σ1 32 (kC t x o).1 = zb (ev V l t x (kC t x o))) ∧ (¬ (kC t x o).2 = 0 → gI σ1 33 (rn du t x K o) = zb (ev V l t x (kC t x o))) := by
  obtain ⟨⟨h1, h2, h3, h4⟩, h5, h6, h7, h8, h9⟩ := id hH
  obtain ⟨d1, d2⟩ := hRD h5
  have np := ok_nN p hok.1
  have nq := ok_nN q hok.2
  have hq : SHy F V du k s q (x + 1 + nN p) (K + pC p) σ := by
    refine ⟨⟨h1, h2, h3, by omega⟩, d2, fun o ho hz => ?_, fun o ho => ?_, fun z hz => h8 z (hSP z (Or.inr hz)), fun r r1 r2 => ?_⟩
    · have := h6 (oC p + o) (by omega)
      rw [hkC _ (by omega), if_neg (by omega), show oC p + o - oC p = o from by omega] at this
      exact this hz
    · have := h7 (oC p + o) (by omega)
      rw [hkC _ (by omega), hrn _ (by omega), if_neg (by omega), if_neg (by omega), show oC p + o - oC p = o from by omega] at this
      exact this
    · by_cases hr : K ≤ r ∧ r < K + pC p
      · obtain ⟨z, z1, z2, z3, Q, Q1, Q2, Q3⟩ := RD_oth p (x + 1) K σ hok.1 hR.1 (by omega) (fun z hz => h8 z (hSP z (Or.inl hz))) d1 r hr.1 hr.2
        exact ⟨z, z1, z2, Or.inr ⟨z3, Q, by omega, by omega, Q3⟩⟩
      · exact (h9 r r1 (by omega)).mono (by omega) (by omega)
  obtain ⟨σ1, a1, a2, a3, a4, a5, a6⟩ := iq σ hq
  have hp : SHy F V du k s p (x + 1) K σ1 := by
    refine SHy.fr ⟨⟨h1, h2, h3, by omega⟩, d1, fun o ho hz => ?_, fun o ho => ?_, fun z hz => h8 z (hSP z (Or.inl hz)), fun r r1 r2 => ?_⟩ a2 hok.1
    · have := h6 o (by omega)
      rw [hkC _ (by omega), if_pos ho] at this
      exact this hz
    · have := h7 o (by omega)
      rw [hkC _ (by omega), hrn _ (by omega), if_pos ho, if_pos ho] at this
      exact this
    · by_cases hr : K + pC p ≤ r ∧ r < K + pC p + pC q
      · obtain ⟨z, z1, z2, z3, Q, Q1, Q2, Q3⟩ := RD_oth q (x + 1 + nN p) (K + pC p) σ hok.2 hR.2 (by omega) (fun z hz => h8 z (hSP z (Or.inr hz))) d2 r hr.1 hr.2
        exact ⟨z, z1, z2, Or.inr ⟨z3, Q, by omega, by omega, Q3⟩⟩
      · exact (h9 r r1 (by omega)).mono (by omega) (by omega)
  obtain ⟨σ2, b1, b2, b3, b4, b5, b6⟩ := ip σ1 hp
  have h10 := a1.tr b1
  rw [show x + 1 + nN p + nN q = x + nN t from by omega, Nat.add_comm (nN q)] at h10
  refine ⟨σ2, h10, a2.tr b2, fun i hi => by rw [b3 i (by omega), a3 i (by omega)], fun r hr => by rw [b4 r (by omega), a4 r (by omega)], b5, by rw [b3 _ (by omega)]; exact a5, fun o ho => ?_⟩
  rw [hkC o ho, hrn o ho]
  by_cases h11 : o < oC p
  · have hin := kC_in p (x + 1) o hok.1 hsh.1 h11
    rw [if_pos h11, if_pos h11, hev _ (by omega), if_pos (by omega)]
    exact b6 o h11
  · have hin := kC_in q (x + 1 + nN p) (o - oC p) hok.2 hsh.2 (by omega)
    rw [if_neg h11, if_neg h11, hev _ (by omega), if_neg (by omega)]
    obtain ⟨c1, c2⟩ := a6 (o - oC p) (by omega)
    refine ⟨fun h => by rw [b3 _ (by omega)]; exact c1 h, fun h => ?_⟩
    rcases rn_in (du := du) q (x + 1 + nN p) (K + pC p) (o - oC p) hok.2 hsh.2 (by omega) with ⟨e1, _⟩ | ⟨_, e2, e3⟩
    · exact absurd e1 h
    · rw [b4 _ (by omega)]
      exact c2 h
end ST
