/-! what class and reference have in common -/
/-- -1 or a number below a bound -/
def Mx (b : Nat) (x : Int32) : Prop := x = -J 1 ∨ ∃ t, t < b ∧ x = J t
/-- the monitor: states, bits, table -/
def IvM (s b : Nat) (τ σ : St) : Prop := (s ≤ 40 ∧ 1 ≤ b ∧ b ≤ 6 ∧ s < 2 ^ b) ∧ (gI τ 71 0 = J s ∧ gI σ 40 0 = J s ∧ gI τ 81 0 = J b ∧ gI σ 41 0 = J b) ∧ (gI τ 11 0 = gI σ 43 0 ∧ gI τ 12 0 = gI σ 44 0) ∧ ∀ i, i < 8 * s → gI τ 72 i = gI σ 45 i ∧ Mx s (gI σ 45 i)
/-- the gates, counted or not -/
def IvG (N : Nat) (τ σ : St) : Prop := ∃ g, g < 4000 ∧ gI σ 42 0 = J g ∧ (gI τ 82 0 = J g ∨ (gI τ 82 0 = -J 1 ∧ ∀ τ', gI τ' 71 = gI τ 71 → gI τ' 72 = gI τ 72 → gI τ' 81 = gI τ 81 → ∃ τ'', fX2_countGates N τ' = some (J g, τ'') ∧ Fr [83, 84, 85] τ' τ''))
/-- the run -/
def IvR (s : Nat) (τ σ : St) : Prop := (gI τ 92 0 = J 0 ∧ gI σ 49 0 = -J 1) ∨ (gI τ 92 0 = J 1 ∧ ∃ t, t ≤ 60 ∧ gI τ 93 0 = J t ∧ gI σ 49 0 = J t ∧ gI τ 94 0 = gI σ 50 0 ∧ Mx s (gI σ 50 0) ∧ ∀ i, i < t → ∃ l, l < 8 ∧ gI τ 91 i = J l ∧ gI σ 51 i = J l)
/-- what was written -/
def IvS (τ σ : St) : Prop := ∃ w, w ≤ 16 ∧ gI τ 103 0 = J w ∧ gI σ 53 0 = J w ∧ gI τ 101 0 = J 0 ∧ ∀ i, i < w → ∃ c, c < 128 ∧ gI τ 100 i = J c ∧ gI σ 52 i = J c
def IvC (N : Nat) (τ σ : St) : Prop := (gI τ 10 0 = J 0 ∧ gI σ 40 0 = -J 1 ∧ gI τ 92 0 = J 0 ∧ gI σ 49 0 = -J 1) ∨ (gI τ 10 0 = J 1 ∧ ∃ s b, IvM s b τ σ ∧ IvG N τ σ ∧ IvR s τ σ)
def IvF (τ σ : St) : Prop := gI τ 44 0 = gI σ 3 0
def Inv (N : Nat) (τ σ : St) : Prop := IvT τ σ ∧ IvF τ σ ∧ IvS τ σ ∧ IvC N τ σ
section FRM
variable {S S' : List Nat} {τ τ' σ σ' : St}
theorem IvT.fr (h : IvT τ σ) (f : Fr S τ τ') (f' : Fr S' σ σ') (d : ∀ k ∈ [0, 1], k ∉ S) (d' : ∀ k ∈ [1, 2], k ∉ S') : IvT τ' σ' := by
  unfold IvT
  rw [f.gi (d 0 (by decide)), f.gi (d 1 (by decide)), f'.gi (d' 1 (by decide)), f'.gi (d' 2 (by decide))]
  exact h
theorem IvF.fr (h : IvF τ σ) (f : Fr S τ τ') (f' : Fr S' σ σ') (d : ∀ k ∈ [44], k ∉ S) (d' : ∀ k ∈ [3], k ∉ S') : IvF τ' σ' := by
  unfold IvF
  rw [f.gi (d 44 (by decide)), f'.gi (d' 3 (by decide))]
  exact h
theorem IvS.fr (h : IvS τ σ) (f : Fr S τ τ') (f' : Fr S' σ σ') (d : ∀ k ∈ [100, 101, 103], k ∉ S) (d' : ∀ k ∈ [52, 53], k ∉ S') : IvS τ' σ' := by
  unfold IvS
  rw [f.gi (d 100 (by decide)), f.gi (d 101 (by decide)), f.gi (d 103 (by decide)), f'.gi (d' 52 (by decide)), f'.gi (d' 53 (by decide))]
  exact h
theorem IvM.fr {s b : Nat} (h : IvM s b τ σ) (f : Fr S τ τ') (f' : Fr S' σ σ') (d : ∀ k ∈ [11, 12, 71, 72, 81], k ∉ S) (d' : ∀ k ∈ [40, 41, 43, 44, 45], k ∉ S') : IvM s b τ' σ' := by
  unfold IvM
  rw [f.gi (d 11 (by decide)), f.gi (d 12 (by decide)), f.gi (d 71 (by decide)), f.gi (d 72 (by decide)), f.gi (d 81 (by decide)), f'.gi (d' 40 (by decide)), f'.gi (d' 41 (by decide)), f'.gi (d' 43 (by decide)), f'.gi (d' 44 (by decide)), f'.gi (d' 45 (by decide))]
  exact h
theorem IvG.fr {N : Nat} (h : IvG N τ σ) (f : Fr S τ τ') (f' : Fr S' σ σ') (d : ∀ k ∈ [71, 72, 81, 82], k ∉ S) (d' : ∀ k ∈ [42], k ∉ S') : IvG N τ' σ' := by
  unfold IvG
  rw [f.gi (d 71 (by decide)), f.gi (d 72 (by decide)), f.gi (d 81 (by decide)), f.gi (d 82 (by decide)), f'.gi (d' 42 (by decide))]
  exact h
theorem IvR.fr {s : Nat} (h : IvR s τ σ) (f : Fr S τ τ') (f' : Fr S' σ σ') (d : ∀ k ∈ [91, 92, 93, 94], k ∉ S) (d' : ∀ k ∈ [49, 50, 51], k ∉ S') : IvR s τ' σ' := by
  unfold IvR
  rw [f.gi (d 91 (by decide)), f.gi (d 92 (by decide)), f.gi (d 93 (by decide)), f.gi (d 94 (by decide)), f'.gi (d' 49 (by decide)), f'.gi (d' 50 (by decide)), f'.gi (d' 51 (by decide))]
  exact h
theorem IvC.fr {N : Nat} (h : IvC N τ σ) (f : Fr S τ τ') (f' : Fr S' σ σ') (d : ∀ k ∈ [10, 11, 12, 71, 72, 81, 82, 91, 92, 93, 94], k ∉ S) (d' : ∀ k ∈ [40, 41, 42, 43, 44, 45, 49, 50, 51], k ∉ S') : IvC N τ' σ' := by
  rcases h with ⟨h1, h2, h3, h4⟩ | ⟨h1, s, b, h2, h3, h4⟩
  · left
    rw [f.gi (d 10 (by decide)), f.gi (d 92 (by decide)), f'.gi (d' 40 (by decide)), f'.gi (d' 49 (by decide))]
    exact ⟨h1, h2, h3, h4⟩
  · right
    refine ⟨by rw [f.gi (d 10 (by decide))]; exact h1, s, b, h2.fr f f' ?_ ?_, h3.fr f f' ?_ ?_, h4.fr f f' ?_ ?_⟩
    · intro k hk; exact d k (by simp at hk ⊢; omega)
    · intro k hk; exact d' k (by simp at hk ⊢; omega)
    · intro k hk; exact d k (by simp at hk ⊢; omega)
    · intro k hk; exact d' k (by simp at hk ⊢; omega)
    · intro k hk; exact d k (by simp at hk ⊢; omega)
    · intro k hk; exact d' k (by simp at hk ⊢; omega)
theorem Inv.fr {N : Nat} (h : Inv N τ σ) (f : Fr S τ τ') (f' : Fr S' σ σ') (d : ∀ k ∈ [0, 1, 10, 11, 12, 44, 71, 72, 81, 82, 91, 92, 93, 94, 100, 101, 103], k ∉ S) (d' : ∀ k ∈ [1, 2, 3, 40, 41, 42, 43, 44, 45, 49, 50, 51, 52, 53], k ∉ S') : Inv N τ' σ' := by
  obtain ⟨h1, h2, h3, h4⟩ := h
  refine ⟨h1.fr f f' ?_ ?_, h2.fr f f' ?_ ?_, h3.fr f f' ?_ ?_, h4.fr f f' ?_ ?_⟩
  · intro k hk; exact d k (by simp at hk ⊢; omega)
  · intro k hk; exact d' k (by simp at hk ⊢; omega)
  · intro k hk; exact d k (by simp at hk ⊢; omega)
  · intro k hk; exact d' k (by simp at hk ⊢; omega)
  · intro k hk; exact d k (by simp at hk ⊢; omega)
  · intro k hk; exact d' k (by simp at hk ⊢; omega)
  · intro k hk; exact d k (by simp at hk ⊢; omega)
  · intro k hk; exact d' k (by simp at hk ⊢; omega)
end FRM
/-- one of the numbers below a bound, or one below none, or one that is not -/
theorem Mx.lt {b : Nat} {x : Int32} (h : Mx b x) : (x = -J 1 ∧ x < J 0) ∨ (¬ x = -J 1 ∧ ∃ t, t < b ∧ x = J t) := by
  rcases h with rfl | ⟨t, h1, rfl⟩
  · left
    exact ⟨rfl, by decide⟩
  · by_cases h : J t = -J 1
    · left; exact ⟨h, by rw [h]; decide⟩
    · right; exact ⟨h, t, h1, rfl⟩
theorem lo_m : (-J 1 < J 0) = True := propext ⟨fun _ => trivial, fun _ => by decide⟩
theorem le_mz : (J 0 ≤ -J 1) = False := propext ⟨fun h => absurd h (by decide), fun h => h.elim⟩
/-- an int against 0 and a bound -/
theorem cut3 (x : Int32) {b : Nat} (hb : b < 2147483648) : (x < J 0 ∧ ¬ J 0 ≤ x) ∨ (∃ n, n < b ∧ x = J n) ∨ (¬ x < J 0 ∧ J 0 ≤ x ∧ J b ≤ x ∧ ¬ x < J b ∧ ∃ n, b ≤ n ∧ n < 2147483648 ∧ x = J n) := by
  rcases neg_or x with h | ⟨n, h1, rfl⟩
  · left
    refine ⟨h, fun h2 => ?_⟩
    rw [Int32.le_iff_toInt_le] at h2
    rw [Int32.lt_iff_toInt_lt] at h
    have : (J 0).toInt = 0 := rfl
    have : (0 : Int32).toInt = 0 := rfl
    omega
  · by_cases hn : n < b
    · exact Or.inr (Or.inl ⟨n, hn, rfl⟩)
    · right; right
      rw [J_lt (by omega) (by omega), J_le (by omega) (by omega), J_le (by omega) (by omega), J_lt (by omega) (by omega)]
      exact ⟨by omega, by omega, by omega, by omega, n, by omega, h1, rfl⟩
