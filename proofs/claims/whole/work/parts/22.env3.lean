set_option maxRecDepth 100000
theorem inJ0_tbl : ∀ w ∈ u_ws RJ0 TJ0 4, w ∈ lw_tbl := by decide +kernel
theorem inJx00060_tbl : ∀ w ∈ u_ws RJx00060 TJx00060 6, w ∈ lw_tbl := by decide +kernel
theorem inJx7c733_tbl : ∀ w ∈ u_ws RJx7c733 TJx7c733 6, w ∈ lw_tbl := by decide +kernel
section ENV3
variable {b : Nat} {s : State} {args : Array Value}
theorem env_arr {ty : FieldType} (h : (Cond.arrayClass ty).before args s = true) : ∃ c : ClassId, ArrOfT s c ty ∧ s.vm.findClass ("[" ++ ty.toString) = some c := by
  obtain ⟨c, k, comp, h1, h2, h3⟩ := Cond.arrayClass_spec h
  exact ⟨c, fun n z => ⟨fun k h => (by cases h), k, h2, comp, h3⟩, h1⟩
theorem env_K (hts : ∀ w ∈ lw_tbl, w.before args s = true) : ∃ (D : va_G) (cc : Nat → ClassId), va_K D vwCl (tyT cc) s := by
  obtain ⟨c0, i0, k0⟩ := u_known (C := RJ0) (T := TJ0) (N := 4) (n := 4) hts inJ0_tbl (hts (.instantiable RJ0 4) (by decide +kernel))
  obtain ⟨c1, i1, k1⟩ := u_known (C := RJ4) (T := TJ4) (N := 4) (n := 4) hts inJ4_tbl (hts (.instantiable RJ4 4) (by decide +kernel))
  obtain ⟨c2, i2, k2⟩ := u_known (C := RJx00060) (T := TJx00060) (N := 6) (n := 6) hts inJx00060_tbl (hts (.instantiable RJx00060 6) (by decide +kernel))
  obtain ⟨c3, i3, k3⟩ := u_known (C := RJx7c733) (T := TJx7c733) (N := 6) (n := 6) hts inJx7c733_tbl (hts (.instantiable RJx7c733 6) (by decide +kernel))
  obtain ⟨c4, i4, k4⟩ := u_known (C := RX0) (T := TX0) (N := 5) (n := 5) hts inX0_tbl (hts (.instantiable RX0 5) (by decide +kernel))
  obtain ⟨c5, i5, k5⟩ := u_known (C := RX1) (T := TX1) (N := 6) (n := 6) hts inX1_tbl (hts (.instantiable RX1 6) (by decide +kernel))
  obtain ⟨c6, i6, k6⟩ := u_known (C := RX2) (T := TX2) (N := 6) (n := 6) hts inX2_tbl (hts (.instantiable RX2 6) (by decide +kernel))
  obtain ⟨c7, i7, k7⟩ := u_known (C := RX3) (T := TX3) (N := 7) (n := 7) hts inX3_tbl (hts (.instantiable RX3 7) (by decide +kernel))
  obtain ⟨c8, i8, k8⟩ := u_known (C := RX4) (T := TX4) (N := 8) (n := 8) hts inX4_tbl (hts (.instantiable RX4 8) (by decide +kernel))
  obtain ⟨c9, i9, k9⟩ := u_known (C := RX5) (T := TX5) (N := 9) (n := 9) hts inX5_tbl (hts (.instantiable RX5 9) (by decide +kernel))
  obtain ⟨c10, i10, k10⟩ := u_known (C := RX6) (T := TX6) (N := 7) (n := 7) hts inX6_tbl (hts (.instantiable RX6 7) (by decide +kernel))
  obtain ⟨c11, i11, k11⟩ := u_known (C := RX7) (T := TX7) (N := 5) (n := 5) hts inX7_tbl (hts (.instantiable RX7 5) (by decide +kernel))
  obtain ⟨c12, i12, k12⟩ := u_known (C := RX8) (T := TX8) (N := 13) (n := 13) hts inX8_tbl (hts (.instantiable RX8 13) (by decide +kernel))
  obtain ⟨c13, i13, k13⟩ := u_known (C := RX9) (T := TX9) (N := 54) (n := 54) hts inX9_tbl (hts (.instantiable RX9 54) (by decide +kernel))
  obtain ⟨a0, b0, d0⟩ := env_arr (hts (.arrayClass .int) (by decide +kernel))
  obtain ⟨a1, b1, d1⟩ := env_arr (hts (.arrayClass .char) (by decide +kernel))
  obtain ⟨a2, b2, d2⟩ := env_arr (hts (.arrayClass .boolean) (by decide +kernel))
  obtain ⟨a3, b3, d3⟩ := env_arr (hts (.arrayClass .long) (by decide +kernel))
  obtain ⟨a4, b4, d4⟩ := env_arr (hts (.arrayClass .byte) (by decide +kernel))
  obtain ⟨cm, a5, kA, g1, g2, g3, g4, g5⟩ := Cond.arrayOver_spec (hts (.arrayOver (.object "TraceWarden$Node")) (by decide +kernel))
  refine ⟨(fun k => match k with | 0 => c0 | 1 => c1 | 2 => c2 | 3 => c3 | 4 => c4 | 5 => c5 | 6 => c6 | 7 => c7 | 8 => c8 | 9 => c9 | 10 => c10 | 11 => c11 | 12 => c12 | _ => c13, fun k => match k with | 0 => i0 | 1 => i1 | 2 => i2 | 3 => i3 | 4 => i4 | 5 => i5 | 6 => i6 | 7 => i7 | 8 => i8 | 9 => i9 | 10 => i10 | 11 => i11 | 12 => i12 | _ => i13), fun k => match k with | 0 => a0 | 1 => a1 | 2 => a2 | 3 => a3 | 4 => a4 | _ => a5, fun k q hq => ?_, fun k q hq => ?_⟩
  · match k, hq with
    | 0, hq => cases hq; exact k0
    | 1, hq => cases hq; exact k1
    | 2, hq => cases hq; exact k2
    | 3, hq => cases hq; exact k3
    | 4, hq => cases hq; exact k4
    | 5, hq => cases hq; exact k5
    | 6, hq => cases hq; exact k6
    | 7, hq => cases hq; exact k7
    | 8, hq => cases hq; exact k8
    | 9, hq => cases hq; exact k9
    | 10, hq => cases hq; exact k10
    | 11, hq => cases hq; exact k11
    | 12, hq => cases hq; exact k12
    | 13, hq => cases hq; exact k13
    | k + 14, hq => simp [vwCl] at hq
  · match k, hq with
    | 0, hq => cases hq; exact ⟨b0, d0⟩
    | 1, hq => cases hq; exact ⟨b1, d1⟩
    | 2, hq => cases hq; exact ⟨b2, d2⟩
    | 3, hq => cases hq; exact ⟨b3, d3⟩
    | 4, hq => cases hq; exact ⟨b4, d4⟩
    | 5, hq => cases hq; exact ⟨fun N z => ⟨(fun k h => by cases h), kA, g3, cm, g4⟩, kA, cm, g3, g4, g1, g5⟩
    | k + 6, hq => simp [tyT] at hq
theorem env_sr {own tx : String} {k : Nat} (h : (Cond.stringRef own k tx).before args s = true) : ∃ a, vk_R own k tx a s := by
  cases hc : s.vm.findClass own with
  | none =>
    simp only [Cond.before, Cond.holds, Cond.value] at h
    simp [hc] at h
  | some cur =>
    obtain ⟨k1, cf, i, a, h1, h2, h3, h4, h5, h6⟩ := Cond.stringRef_spec hc h
    exact ⟨a, vk_R.of h h6⟩
theorem STX_in : ∀ q ∈ STX, Cond.stringRef q.1 q.2.1 q.2.2 ∈ lw_tbl := by decide +kernel
theorem STK_in : ∀ q ∈ STK, Cond.stringRef q.1 q.2.1 q.2.2.1 ∈ lw_tbl := by decide +kernel
theorem STK_tm : ∀ q ∈ STK, q.2.2.2 < 7 ∧ sTm q.2.2.2 = .string q.1 q.2.1 := by
  intro q hq
  simp only [STK, List.mem_cons, List.mem_nil_iff, or_false] at hq
  rcases hq with rfl | rfl | rfl | rfl | rfl | rfl | rfl <;> exact ⟨by decide, rfl⟩
theorem env_TS (hgv : (Jvm.Cond.and given_1 narrow_1).before #[Value.ref b] s = true) (hts : ∀ w ∈ lw_tbl, w.before #[Value.ref b] s = true) : ∃ st : Nat → Nat, TS st (aNew s) s s.heap := by
  obtain ⟨t0, z0, T0⟩ := env_WITH hgv hts
  obtain ⟨t1, z1, T1⟩ := env_ATOM hgv hts
  obtain ⟨t2, z2, T2⟩ := env_ONES hgv hts
  obtain ⟨t3, z3, T3⟩ := env_TENS hgv hts
  obtain ⟨adK, adV, hS, hE⟩ := env_STR hgv
  refine ⟨fun k => if k = 0 then t0 else if k = 1 then t1 else if k = 2 then t2 else if k = 3 then t3 else if k < 20 then adK (k - 10) else adV (k - 20), fun w hw => va_Nw.of (NW_on hw) (NW_ok hts w hw), ⟨z0, T0⟩, ⟨z1, T1⟩, env_UN hgv hts, env_SE hgv hts, fun q hq => env_sr (hts _ (STX_in q hq)), fun w hw => va_Nw.of (XW_on hw) (XW_ok hts w hw), ?_, fun q hq => ?_, env_COMP hgv hts, env_SIO hgv hts, ⟨z2, T2⟩, ⟨z3, T3⟩⟩
  · have e1 : ∀ i : Nat, i < 7 → (if 10 + i = 0 then t0 else if 10 + i = 1 then t1 else if 10 + i = 2 then t2 else if 10 + i = 3 then t3 else if 10 + i < 20 then adK (10 + i - 10) else adV (10 + i - 20)) = adK i := fun i hi => by
      rw [if_neg (by omega), if_neg (by omega), if_neg (by omega), if_neg (by omega), if_pos (by omega)]
      congr 1
      omega
    have e2 : ∀ i : Nat, (if 20 + i = 0 then t0 else if 20 + i = 1 then t1 else if 20 + i = 2 then t2 else if 20 + i = 3 then t3 else if 20 + i < 20 then adK (20 + i - 10) else adV (20 + i - 20)) = adV i := fun i => by
      rw [if_neg (by omega), if_neg (by omega), if_neg (by omega), if_neg (by omega), if_neg (by omega)]
      congr 1
      omega
    refine ⟨fun i hi => ?_, fun i j hi hj => ?_⟩
    · show va_O _ (if 10 + i = 0 then t0 else if 10 + i = 1 then t1 else if 10 + i = 2 then t2 else if 10 + i = 3 then t3 else if 10 + i < 20 then adK (10 + i - 10) else adV (10 + i - 20)) _ _ _ ∧ va_OF _ _ _ _ (if 10 + i = 0 then t0 else if 10 + i = 1 then t1 else if 10 + i = 2 then t2 else if 10 + i = 3 then t3 else if 10 + i < 20 then adK (10 + i - 10) else adV (10 + i - 20)) _ _ _ ∧ va_OF _ _ _ (.ref (if 20 + i = 0 then t0 else if 20 + i = 1 then t1 else if 20 + i = 2 then t2 else if 20 + i = 3 then t3 else if 20 + i < 20 then adK (20 + i - 10) else adV (20 + i - 20))) (if 10 + i = 0 then t0 else if 10 + i = 1 then t1 else if 10 + i = 2 then t2 else if 10 + i = 3 then t3 else if 10 + i < 20 then adK (10 + i - 10) else adV (10 + i - 20)) _ _ _ ∧ va_T _ (if 20 + i = 0 then t0 else if 20 + i = 1 then t1 else if 20 + i = 2 then t2 else if 20 + i = 3 then t3 else if 20 + i < 20 then adK (20 + i - 10) else adV (20 + i - 20)) _ _ _ _ _
      rw [e1 i hi, e2 i]
      exact hS.1 i hi
    · show (if 10 + i = 0 then t0 else if 10 + i = 1 then t1 else if 10 + i = 2 then t2 else if 10 + i = 3 then t3 else if 10 + i < 20 then adK (10 + i - 10) else adV (10 + i - 20)) = (if 10 + j = 0 then t0 else if 10 + j = 1 then t1 else if 10 + j = 2 then t2 else if 10 + j = 3 then t3 else if 10 + j < 20 then adK (10 + j - 10) else adV (10 + j - 20)) → i = j
      rw [e1 i hi, e1 j hj]
      exact hS.2 i j hi hj
  · obtain ⟨h7, htm⟩ := STK_tm q hq
    refine vk_R.of (hts _ (STK_in q hq)) ?_
    have h9 := hE q.2.2.2 h7
    rw [htm] at h9
    rw [h9]
    show some (Value.ref (adK q.2.2.2)) = some (.ref (if 10 + q.2.2.2 = 0 then t0 else if 10 + q.2.2.2 = 1 then t1 else if 10 + q.2.2.2 = 2 then t2 else if 10 + q.2.2.2 = 3 then t3 else if 10 + q.2.2.2 < 20 then adK (10 + q.2.2.2 - 10) else adV (10 + q.2.2.2 - 20)))
    rw [if_neg (by omega), if_neg (by omega), if_neg (by omega), if_neg (by omega), if_pos (by omega)]
    congr 3
    omega
theorem env_CIX (hgv : (Jvm.Cond.and given_1 narrow_1).before #[Value.ref b] s = true) (hts : ∀ w ∈ lw_tbl, w.before #[Value.ref b] s = true) : CIX (aNew s) s s.heap := ⟨fun w hw => va_Nw.of (NW_on hw) (NW_ok hts w hw), va_AO.of (hts (.arrayOver (.object "TraceWarden$Node")) (by decide +kernel)), env_COMP hgv hts⟩
end ENV3
