set_option maxRecDepth 100000
theorem P_iff {D : va_G} {cl : List vw_C} {ws : va_W} {H : Heap} : va_P D cl ws H ↔ ∀ q ∈ ws, va_at D cl q H :=
  ⟨fun h q hq => by
    obtain ⟨k, hk⟩ := List.getElem?_of_mem hq
    exact h k q hk, fun h k q hk => h q (List.mem_of_getElem? hk)⟩
theorem D_iff {A : Nat → Prop} {ws : va_W} : va_D A ws ↔ (ws.map Prod.fst).Pairwise (· ≠ ·) ∧ ∀ q ∈ ws, A q.1 := by
  constructor
  · intro h
    refine ⟨?_, fun q hq => by
      obtain ⟨k, hk⟩ := List.getElem?_of_mem hq
      exact h.2 k q hk⟩
    rw [List.pairwise_iff_getElem]
    intro i j hi hj hij e
    simp only [List.length_map] at hi hj
    simp only [List.getElem_map] at e
    have := h.1 i j _ _ (List.getElem?_eq_getElem hi) (List.getElem?_eq_getElem hj) e
    omega
  · rintro ⟨h1, h2⟩
    rw [List.pairwise_iff_getElem] at h1
    refine ⟨fun i j p q hi hj e => ?_, fun k q hk => h2 q (List.mem_of_getElem? hk)⟩
    obtain ⟨li, ei⟩ := List.getElem?_eq_some_iff.mp hi
    obtain ⟨lj, ej⟩ := List.getElem?_eq_some_iff.mp hj
    rcases Nat.lt_trichotomy i j with h | h | h
    · refine absurd ?_ (h1 i j (by simpa using li) (by simpa using lj) h)
      rw [List.getElem_map, List.getElem_map, ei, ej]
      exact e
    · exact h
    · refine absurd ?_ (h1 j i (by simpa using lj) (by simpa using li) h)
      rw [List.getElem_map, List.getElem_map, ei, ej]
      exact e.symm
theorem join3 {D : va_G} {cl : List vw_C} {A : Nat → Prop} {X Y wc w1 : va_W} {H H1 : Heap} (hP : va_P D cl (X ++ (wc ++ Y)) H) (hD : va_D A (X ++ (wc ++ Y))) (hk : ∀ q : Nat, q < H.size → ¬ va_A wc H.size q → H1[q]? = H[q]?) (hF : ∀ q, va_A wc H.size q → A q) (hP1 : va_P D cl w1 H1) (hD1 : va_D (va_A wc H.size) w1) : va_P D cl (X ++ (w1 ++ Y)) H1 ∧ va_D A (X ++ (w1 ++ Y)) := by
  obtain ⟨n0, a0⟩ := D_iff.mp hD
  obtain ⟨n1, a1⟩ := D_iff.mp hD1
  simp only [List.map_append, List.pairwise_append, List.mem_append] at n0
  obtain ⟨nX, ⟨nC, nY, nCY⟩, nX2⟩ := n0
  have inC : ∀ q, va_A wc H.size q → q < H.size → q ∈ wc.map Prod.fst := fun q h hl => by
    rcases h with ⟨k, e, h⟩ | h
    · exact List.mem_map.mpr ⟨(q, e), List.mem_of_getElem? h, rfl⟩
    · omega
  have ltX : ∀ q ∈ X ++ (wc ++ Y), q.1 < H.size := fun q hq => (P_iff.mp hP q hq).lt
  have offX : ∀ q ∈ X, ¬ va_A wc H.size q.1 := fun q hq h => nX2 q.1 (List.mem_map.mpr ⟨q, hq, rfl⟩) q.1 (Or.inl (inC _ h (ltX q (List.mem_append_left _ hq)))) rfl
  have offY : ∀ q ∈ Y, ¬ va_A wc H.size q.1 := fun q hq h => nCY q.1 (inC _ h (ltX q (List.mem_append_right _ (List.mem_append_right _ hq)))) q.1 (List.mem_map.mpr ⟨q, hq, rfl⟩) rfl
  refine ⟨P_iff.mpr fun q hq => ?_, D_iff.mpr ⟨?_, fun q hq => ?_⟩⟩
  · rcases List.mem_append.mp hq with h | h
    · exact (P_iff.mp hP q (List.mem_append_left _ h)).kept (hk _ (ltX q (List.mem_append_left _ h)) (offX q h))
    · rcases List.mem_append.mp h with h | h
      · exact P_iff.mp hP1 q h
      · exact (P_iff.mp hP q (List.mem_append_right _ (List.mem_append_right _ h))).kept (hk _ (ltX q (List.mem_append_right _ (List.mem_append_right _ h))) (offY q h))
  · simp only [List.map_append, List.pairwise_append, List.mem_append]
    refine ⟨nX, ⟨n1, nY, fun x hx y hy e => ?_⟩, fun x hx y hy e => ?_⟩
    · obtain ⟨p, hp, rfl⟩ := List.mem_map.mp hx
      obtain ⟨q, hq, rfl⟩ := List.mem_map.mp hy
      have h9 := a1 p hp
      rw [e] at h9
      exact offY q hq h9
    · rcases hy with hy | hy
      · obtain ⟨p, hp, rfl⟩ := List.mem_map.mp hx
        obtain ⟨q, hq, rfl⟩ := List.mem_map.mp hy
        have h9 := a1 q hq
        rw [← e] at h9
        exact offX p hp h9
      · exact nX2 x hx y (Or.inr hy) e
  · rcases List.mem_append.mp hq with h | h
    · exact a0 q (List.mem_append_left _ h)
    · rcases List.mem_append.mp h with h | h
      · exact hF _ (a1 q h)
      · exact a0 q (List.mem_append_right _ (List.mem_append_right _ h))
theorem P_mid {D : va_G} {cl : List vw_C} {X Y wc : va_W} {H : Heap} (hP : va_P D cl (X ++ (wc ++ Y)) H) : va_P D cl wc H := P_iff.mpr fun q hq => P_iff.mp hP q (List.mem_append_right _ (List.mem_append_left _ hq))
theorem D_mid {A : Nat → Prop} {X Y wc : va_W} (hD : va_D A (X ++ (wc ++ Y))) : va_D A wc := by
  obtain ⟨n0, a0⟩ := D_iff.mp hD
  simp only [List.map_append, List.pairwise_append] at n0
  exact D_iff.mpr ⟨n0.2.1.1, fun q hq => a0 q (List.mem_append_right _ (List.mem_append_left _ hq))⟩
theorem free_mid {A : Nat → Prop} {X Y wc : va_W} {H0 H : Heap} {locs : List Loc} (hA : ∀ q, H0.size ≤ q → A q) (hD : va_D A (X ++ (wc ++ Y))) (hS : va_S A H0 H locs) : ∀ q, va_A wc H.size q → A q := fun q h => by
  rcases h with ⟨k, e, hk⟩ | h
  · exact (D_mid hD).2 k (q, e) hk
  · exact hA q (Nat.le_trans hS.1 h)
