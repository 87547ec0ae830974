set_option maxRecDepth 100000
section ENV
variable {b : Nat} {s : State}
abbrev aNew (s : State) : Nat → Prop := fun q => s.heap.size ≤ q
theorem aNew_out {s : State} : ∀ a : Nat, a < s.heap.size → ¬ aNew s a := fun _ h => Nat.not_le.mpr h
theorem fl (hgv : (Jvm.Cond.and given_1 narrow_1).before #[Value.ref b] s = true) {w : Cond} (h : w ∈ flatC (Jvm.Cond.and given_1 narrow_1)) : w.before #[Value.ref b] s = true := flat_of_before _ hgv w h
theorem env_WITH (hgv : (Jvm.Cond.and given_1 narrow_1).before #[Value.ref b] s = true) (hts : ∀ w ∈ lw_tbl, w.before #[Value.ref b] s = true) : ∃ t : Nat, va_Z "TraceWarden$Asking" "WITH" "[J" (.ref t) (aNew s) s s.heap ∧ va_T .long t 6 (fun j => .long (cWITH j)) (aNew s) s s.heap := by
  have hs := flat_of_before _ hgv
  have h0 := va_eqtl (hs (.eq (.elem (.static "TraceWarden$Asking" "WITH" "[J") (.int 0)) (.long (-6148914691236517206))) (by decide +kernel))
  have h1 := va_eqtl (hs (.eq (.elem (.static "TraceWarden$Asking" "WITH" "[J") (.int 1)) (.long (-3689348814741910324))) (by decide +kernel))
  have h2 := va_eqtl (hs (.eq (.elem (.static "TraceWarden$Asking" "WITH" "[J") (.int 2)) (.long (-1085102592571150096))) (by decide +kernel))
  have h3 := va_eqtl (hs (.eq (.elem (.static "TraceWarden$Asking" "WITH" "[J") (.int 3)) (.long (-71777214294589696))) (by decide +kernel))
  have h4 := va_eqtl (hs (.eq (.elem (.static "TraceWarden$Asking" "WITH" "[J") (.int 4)) (.long (-281470681808896))) (by decide +kernel))
  have h5 := va_eqtl (hs (.eq (.elem (.static "TraceWarden$Asking" "WITH" "[J") (.int 5)) (.long (-4294967296))) (by decide +kernel))
  obtain ⟨t, ht, hT⟩ := va_Tof (tm := (.static "TraceWarden$Asking" "WITH" "[J")) (ty := .long) (N := 6) (f := fun j => .long (cWITH j)) (A := aNew s) (by decide) (hs (.arrayOf (.static "TraceWarden$Asking" "WITH" "[J") .long) (by decide +kernel)) (va_eqt (z := 6) (hs (.eq (.length (.static "TraceWarden$Asking" "WITH" "[J")) (.int 6)) (by decide +kernel))) (fun j hj => by
    match j, hj with
    | 0, _ => exact h0
    | 1, _ => exact h1
    | 2, _ => exact h2
    | 3, _ => exact h3
    | 4, _ => exact h4
    | 5, _ => exact h5
    | j + 6, hj => exact absurd hj (by omega)) aNew_out
  exact ⟨t, va_Zof (hts (.laysStatic "TraceWarden$Asking" "WITH" "[J") (by decide +kernel)) (hts (.initialized "TraceWarden$Asking") (by decide +kernel)) ht aNew_out, hT⟩
theorem env_ATOM (hgv : (Jvm.Cond.and given_1 narrow_1).before #[Value.ref b] s = true) (hts : ∀ w ∈ lw_tbl, w.before #[Value.ref b] s = true) : ∃ t : Nat, va_Z "TraceWarden$Reader" "ATOM_LETTERS" "[I" (.ref t) (aNew s) s s.heap ∧ va_T .int t 5 (fun j => .int (cATOM j)) (aNew s) s s.heap := by
  have hs := flat_of_before _ hgv
  have h0 := va_eqt (hs (.eq (.elem (.static "TraceWarden$Reader" "ATOM_LETTERS" "[I") (.int 0)) (.int (170))) (by decide +kernel))
  have h1 := va_eqt (hs (.eq (.elem (.static "TraceWarden$Reader" "ATOM_LETTERS" "[I") (.int 1)) (.int (204))) (by decide +kernel))
  have h2 := va_eqt (hs (.eq (.elem (.static "TraceWarden$Reader" "ATOM_LETTERS" "[I") (.int 2)) (.int (240))) (by decide +kernel))
  have h3 := va_eqt (hs (.eq (.elem (.static "TraceWarden$Reader" "ATOM_LETTERS" "[I") (.int 3)) (.int (0))) (by decide +kernel))
  have h4 := va_eqt (hs (.eq (.elem (.static "TraceWarden$Reader" "ATOM_LETTERS" "[I") (.int 4)) (.int (255))) (by decide +kernel))
  obtain ⟨t, ht, hT⟩ := va_Tof (tm := (.static "TraceWarden$Reader" "ATOM_LETTERS" "[I")) (ty := .int) (N := 5) (f := fun j => .int (cATOM j)) (A := aNew s) (by decide) (hs (.arrayOf (.static "TraceWarden$Reader" "ATOM_LETTERS" "[I") .int) (by decide +kernel)) (va_eqt (z := 5) (hs (.eq (.length (.static "TraceWarden$Reader" "ATOM_LETTERS" "[I")) (.int 5)) (by decide +kernel))) (fun j hj => by
    match j, hj with
    | 0, _ => exact h0
    | 1, _ => exact h1
    | 2, _ => exact h2
    | 3, _ => exact h3
    | 4, _ => exact h4
    | j + 5, hj => exact absurd hj (by omega)) aNew_out
  exact ⟨t, va_Zof (hts (.laysStatic "TraceWarden$Reader" "ATOM_LETTERS" "[I") (by decide +kernel)) (hts (.initialized "TraceWarden$Reader") (by decide +kernel)) ht aNew_out, hT⟩
theorem env_ONES (hgv : (Jvm.Cond.and given_1 narrow_1).before #[Value.ref b] s = true) (hts : ∀ w ∈ lw_tbl, w.before #[Value.ref b] s = true) : ∃ t : Nat, va_Z "java/lang/Integer" "DigitOnes" "[B" (.ref t) (aNew s) s s.heap ∧ va_T .byte t 100 (fun j => .int (cONES j)) (aNew s) s s.heap := by
  have hs := flat_of_before _ hgv
  have hl : ((flatC (Jvm.Cond.and given_1 narrow_1)).drop 12).take 100 = (List.range 100).map (fun j => Cond.eq (.elem (.static "java/lang/Integer" "DigitOnes" "[B") (.int (Int32.ofNat j))) (.int (cONES j))) := by decide +kernel
  have hm : ∀ j, j < 100 → (Cond.eq (.elem (.static "java/lang/Integer" "DigitOnes" "[B") (.int (Int32.ofNat j))) (.int (cONES j))) ∈ flatC (Jvm.Cond.and given_1 narrow_1) := fun j hj => List.mem_of_mem_drop (List.mem_of_mem_take (by rw [hl]; exact List.mem_map.mpr ⟨j, List.mem_range.mpr hj, rfl⟩))
  obtain ⟨t, ht, hT⟩ := va_Tof (tm := (.static "java/lang/Integer" "DigitOnes" "[B")) (ty := .byte) (N := 100) (f := fun j => .int (cONES j)) (A := aNew s) (by decide) (hs (.arrayOf (.static "java/lang/Integer" "DigitOnes" "[B") .byte) (by decide +kernel)) (va_eqt (z := 100) (hs (.eq (.length (.static "java/lang/Integer" "DigitOnes" "[B")) (.int 100)) (by decide +kernel))) (fun j hj => va_eqt (hs _ (hm j hj))) aNew_out
  exact ⟨t, va_Zof (hts (.laysStatic "java/lang/Integer" "DigitOnes" "[B") (by decide +kernel)) (hts (.initialized "java/lang/Integer") (by decide +kernel)) ht aNew_out, hT⟩
theorem env_TENS (hgv : (Jvm.Cond.and given_1 narrow_1).before #[Value.ref b] s = true) (hts : ∀ w ∈ lw_tbl, w.before #[Value.ref b] s = true) : ∃ t : Nat, va_Z "java/lang/Integer" "DigitTens" "[B" (.ref t) (aNew s) s s.heap ∧ va_T .byte t 100 (fun j => .int (cTENS j)) (aNew s) s s.heap := by
  have hs := flat_of_before _ hgv
  have hl : ((flatC (Jvm.Cond.and given_1 narrow_1)).drop 115).take 100 = (List.range 100).map (fun j => Cond.eq (.elem (.static "java/lang/Integer" "DigitTens" "[B") (.int (Int32.ofNat j))) (.int (cTENS j))) := by decide +kernel
  have hm : ∀ j, j < 100 → (Cond.eq (.elem (.static "java/lang/Integer" "DigitTens" "[B") (.int (Int32.ofNat j))) (.int (cTENS j))) ∈ flatC (Jvm.Cond.and given_1 narrow_1) := fun j hj => List.mem_of_mem_drop (List.mem_of_mem_take (by rw [hl]; exact List.mem_map.mpr ⟨j, List.mem_range.mpr hj, rfl⟩))
  obtain ⟨t, ht, hT⟩ := va_Tof (tm := (.static "java/lang/Integer" "DigitTens" "[B")) (ty := .byte) (N := 100) (f := fun j => .int (cTENS j)) (A := aNew s) (by decide) (hs (.arrayOf (.static "java/lang/Integer" "DigitTens" "[B") .byte) (by decide +kernel)) (va_eqt (z := 100) (hs (.eq (.length (.static "java/lang/Integer" "DigitTens" "[B")) (.int 100)) (by decide +kernel))) (fun j hj => va_eqt (hs _ (hm j hj))) aNew_out
  exact ⟨t, va_Zof (hts (.laysStatic "java/lang/Integer" "DigitTens" "[B") (by decide +kernel)) (hts (.initialized "java/lang/Integer") (by decide +kernel)) ht aNew_out, hT⟩
theorem env_COMP (hgv : (Jvm.Cond.and given_1 narrow_1).before #[Value.ref b] s = true) (hts : ∀ w ∈ lw_tbl, w.before #[Value.ref b] s = true) : va_Z "java/lang/String" "COMPACT_STRINGS" "Z" (.int 1) (aNew s) s s.heap := va_Zof (hts (.laysStatic "java/lang/String" "COMPACT_STRINGS" "Z") (by decide +kernel)) (hts (.initialized "java/lang/String") (by decide +kernel)) (va_eqi (flat_of_before _ hgv (.eq (.static "java/lang/String" "COMPACT_STRINGS" "Z") (.int 1)) (by decide +kernel))) aNew_out
theorem env_SIO (hgv : (Jvm.Cond.and given_1 narrow_1).before #[Value.ref b] s = true) (hts : ∀ w ∈ lw_tbl, w.before #[Value.ref b] s = true) : va_Zq "jdk/internal/util/Preconditions" "SIOOBE_FORMATTER" "Ljava/util/function/BiFunction;" (aNew s) s s.heap := va_Zqof (hts (.laysStatic "jdk/internal/util/Preconditions" "SIOOBE_FORMATTER" "Ljava/util/function/BiFunction;") (by decide +kernel)) (hts (.initialized "jdk/internal/util/Preconditions") (by decide +kernel)) (flat_of_before _ hgv (.isRef (.static "jdk/internal/util/Preconditions" "SIOOBE_FORMATTER" "Ljava/util/function/BiFunction;")) (by decide +kernel)) aNew_out
theorem env_UN (hgv : (Jvm.Cond.and given_1 narrow_1).before #[Value.ref b] s = true) (hts : ∀ w ∈ lw_tbl, w.before #[Value.ref b] s = true) : vx_Zq Bundle.tN "UNASSIGNED_STACK" Bundle.steD (aNew s) s s.heap := vx_Zqof (hts (.laysStatic Bundle.tN "UNASSIGNED_STACK" Bundle.steD) (by decide +kernel)) (hts (.initialized Bundle.tN) (by decide +kernel)) (flat_of_before _ hgv (.isRef (.static Bundle.tN "UNASSIGNED_STACK" Bundle.steD)) (by decide +kernel)) aNew_out
theorem env_SE (hgv : (Jvm.Cond.and given_1 narrow_1).before #[Value.ref b] s = true) (hts : ∀ w ∈ lw_tbl, w.before #[Value.ref b] s = true) : vx_Zq Bundle.tN "SUPPRESSED_SENTINEL" Bundle.listD (aNew s) s s.heap := vx_Zqof (hts (.laysStatic Bundle.tN "SUPPRESSED_SENTINEL" Bundle.listD) (by decide +kernel)) (hts (.initialized Bundle.tN) (by decide +kernel)) (flat_of_before _ hgv (.isRef (.static Bundle.tN "SUPPRESSED_SENTINEL" Bundle.listD)) (by decide +kernel)) aNew_out
def sTm (i : Nat) : Term := match i with
  | 0 => .string RX6 143
  | 1 => .string RX8 227
  | 2 => .string RX8 233
  | 3 => .string RX8 239
  | 4 => .string RX8 241
  | 5 => .string RX8 243
  | _ => .string RX8 245
theorem env_STR (hgv : (Jvm.Cond.and given_1 narrow_1).before #[Value.ref b] s = true) : ∃ adK adV : Nat → Nat, vk_S 7 sLen sByt adK adV (aNew s) s s.heap ∧ ∀ i : Nat, i < 7 → (sTm i).eval #[Value.ref b] s none [] s = some (.ref (adK i)) := by
  have hs := flat_of_before _ hgv
  have c7 : ∀ {P : Nat → Prop}, P 0 → P 1 → P 2 → P 3 → P 4 → P 5 → P 6 → ∀ i, i < 7 → P i := fun h0 h1 h2 h3 h4 h5 h6 i hi => by
    match i, hi with
    | 0, _ => exact h0
    | 1, _ => exact h1
    | 2, _ => exact h2
    | 3, _ => exact h3
    | 4, _ => exact h4
    | 5, _ => exact h5
    | 6, _ => exact h6
    | i + 7, hi => exact absurd hi (by omega)
  refine vk_Sof (tm := sTm) (by decide) (c7 (hs _ (by decide +kernel)) (hs _ (by decide +kernel)) (hs _ (by decide +kernel)) (hs _ (by decide +kernel)) (hs _ (by decide +kernel)) (hs _ (by decide +kernel)) (hs _ (by decide +kernel))) (c7 (hs _ (by decide +kernel)) (hs _ (by decide +kernel)) (hs _ (by decide +kernel)) (hs _ (by decide +kernel)) (hs _ (by decide +kernel)) (hs _ (by decide +kernel)) (hs _ (by decide +kernel))) (c7 (hs _ (by decide +kernel)) (hs _ (by decide +kernel)) (hs _ (by decide +kernel)) (hs _ (by decide +kernel)) (hs _ (by decide +kernel)) (hs _ (by decide +kernel)) (hs _ (by decide +kernel))) (c7 (hs _ (by decide +kernel)) (hs _ (by decide +kernel)) (hs _ (by decide +kernel)) (hs _ (by decide +kernel)) (hs _ (by decide +kernel)) (hs _ (by decide +kernel)) (hs _ (by decide +kernel))) (c7 (fun j hj => by
    match j, hj with
    | 0, _ => exact hs _ (by decide +kernel)
    | 1, _ => exact hs _ (by decide +kernel)
    | 2, _ => exact hs _ (by decide +kernel)
    | 3, _ => exact hs _ (by decide +kernel)
    | 4, _ => exact hs _ (by decide +kernel)
    | j + 5, hj => exact absurd hj (by show ¬ j + 5 < 5; omega)) (fun j hj => by
    match j, hj with
    | 0, _ => exact hs _ (by decide +kernel)
    | 1, _ => exact hs _ (by decide +kernel)
    | 2, _ => exact hs _ (by decide +kernel)
    | 3, _ => exact hs _ (by decide +kernel)
    | j + 4, hj => exact absurd hj (by show ¬ j + 4 < 4; omega)) (fun j hj => by
    match j, hj with
    | 0, _ => exact hs _ (by decide +kernel)
    | 1, _ => exact hs _ (by decide +kernel)
    | 2, _ => exact hs _ (by decide +kernel)
    | 3, _ => exact hs _ (by decide +kernel)
    | 4, _ => exact hs _ (by decide +kernel)
    | 5, _ => exact hs _ (by decide +kernel)
    | j + 6, hj => exact absurd hj (by show ¬ j + 6 < 6; omega)) (fun j hj => by
    match j, hj with
    | 0, _ => exact hs _ (by decide +kernel)
    | 1, _ => exact hs _ (by decide +kernel)
    | 2, _ => exact hs _ (by decide +kernel)
    | 3, _ => exact hs _ (by decide +kernel)
    | 4, _ => exact hs _ (by decide +kernel)
    | 5, _ => exact hs _ (by decide +kernel)
    | 6, _ => exact hs _ (by decide +kernel)
    | j + 7, hj => exact absurd hj (by show ¬ j + 7 < 7; omega)) (fun j hj => by
    match j, hj with
    | 0, _ => exact hs _ (by decide +kernel)
    | 1, _ => exact hs _ (by decide +kernel)
    | 2, _ => exact hs _ (by decide +kernel)
    | 3, _ => exact hs _ (by decide +kernel)
    | j + 4, hj => exact absurd hj (by show ¬ j + 4 < 4; omega)) (fun j hj => by
    match j, hj with
    | 0, _ => exact hs _ (by decide +kernel)
    | 1, _ => exact hs _ (by decide +kernel)
    | 2, _ => exact hs _ (by decide +kernel)
    | 3, _ => exact hs _ (by decide +kernel)
    | j + 4, hj => exact absurd hj (by show ¬ j + 4 < 4; omega)) (fun j hj => by
    match j, hj with
    | 0, _ => exact hs _ (by decide +kernel)
    | 1, _ => exact hs _ (by decide +kernel)
    | 2, _ => exact hs _ (by decide +kernel)
    | 3, _ => exact hs _ (by decide +kernel)
    | j + 4, hj => exact absurd hj (by show ¬ j + 4 < 4; omega))) ?_ aNew_out
  · have hp : ∀ i j : Nat, i < j → i < 7 → j < 7 → (Cond.not (Cond.eq (sTm i) (sTm j))).before #[Value.ref b] s = true ∨ (Cond.not (Cond.eq (sTm j) (sTm i))).before #[Value.ref b] s = true := fun i j hij hi hj => by
      match i, j, hij, hi, hj with
      | 0, 1, _, _, _ => exact Or.inr (hs _ (by decide +kernel))
      | 0, 2, _, _, _ => exact Or.inr (hs _ (by decide +kernel))
      | 0, 3, _, _, _ => exact Or.inr (hs _ (by decide +kernel))
      | 0, 4, _, _, _ => exact Or.inr (hs _ (by decide +kernel))
      | 0, 5, _, _, _ => exact Or.inr (hs _ (by decide +kernel))
      | 0, 6, _, _, _ => exact Or.inr (hs _ (by decide +kernel))
      | 1, 2, _, _, _ => exact Or.inl (hs _ (by decide +kernel))
      | 1, 3, _, _, _ => exact Or.inl (hs _ (by decide +kernel))
      | 1, 4, _, _, _ => exact Or.inl (hs _ (by decide +kernel))
      | 1, 5, _, _, _ => exact Or.inl (hs _ (by decide +kernel))
      | 1, 6, _, _, _ => exact Or.inl (hs _ (by decide +kernel))
      | 2, 3, _, _, _ => exact Or.inl (hs _ (by decide +kernel))
      | 2, 4, _, _, _ => exact Or.inl (hs _ (by decide +kernel))
      | 2, 5, _, _, _ => exact Or.inl (hs _ (by decide +kernel))
      | 2, 6, _, _, _ => exact Or.inl (hs _ (by decide +kernel))
      | 3, 4, _, _, _ => exact Or.inl (hs _ (by decide +kernel))
      | 3, 5, _, _, _ => exact Or.inl (hs _ (by decide +kernel))
      | 3, 6, _, _, _ => exact Or.inl (hs _ (by decide +kernel))
      | 4, 5, _, _, _ => exact Or.inl (hs _ (by decide +kernel))
      | 4, 6, _, _, _ => exact Or.inl (hs _ (by decide +kernel))
      | 5, 6, _, _, _ => exact Or.inl (hs _ (by decide +kernel))
      | 0, 0, h, _, _ => exact absurd h (by omega)
      | i + 7, _, _, h, _ => exact absurd h (by omega)
      | _, j + 7, _, _, h => exact absurd h (by omega)
      | 1, 0, h, _, _ => exact absurd h (by omega)
      | 1, 1, h, _, _ => exact absurd h (by omega)
      | 2, 0, h, _, _ => exact absurd h (by omega)
      | 2, 1, h, _, _ => exact absurd h (by omega)
      | 2, 2, h, _, _ => exact absurd h (by omega)
      | 3, 0, h, _, _ => exact absurd h (by omega)
      | 3, 1, h, _, _ => exact absurd h (by omega)
      | 3, 2, h, _, _ => exact absurd h (by omega)
      | 3, 3, h, _, _ => exact absurd h (by omega)
      | 4, 0, h, _, _ => exact absurd h (by omega)
      | 4, 1, h, _, _ => exact absurd h (by omega)
      | 4, 2, h, _, _ => exact absurd h (by omega)
      | 4, 3, h, _, _ => exact absurd h (by omega)
      | 4, 4, h, _, _ => exact absurd h (by omega)
      | 5, 0, h, _, _ => exact absurd h (by omega)
      | 5, 1, h, _, _ => exact absurd h (by omega)
      | 5, 2, h, _, _ => exact absurd h (by omega)
      | 5, 3, h, _, _ => exact absurd h (by omega)
      | 5, 4, h, _, _ => exact absurd h (by omega)
      | 5, 5, h, _, _ => exact absurd h (by omega)
      | 6, 0, h, _, _ => exact absurd h (by omega)
      | 6, 1, h, _, _ => exact absurd h (by omega)
      | 6, 2, h, _, _ => exact absurd h (by omega)
      | 6, 3, h, _, _ => exact absurd h (by omega)
      | 6, 4, h, _, _ => exact absurd h (by omega)
      | 6, 5, h, _, _ => exact absurd h (by omega)
      | 6, 6, h, _, _ => exact absurd h (by omega)
    intro i j hi hj hne
    rcases Nat.lt_or_gt_of_ne hne with h | h
    · exact hp i j h hi hj
    · exact (hp j i h hj hi).symm
end ENV
