set_option maxRecDepth 100000
section LOPS
variable {st : Nat → Nat} {p : Program} {l : Launch} {e : Env} {s : State} {m : MethodId} {below : List Frame} {meth : Method} {c : Code} {H : Heap} {locs : List Loc} {cells slots : Nat} {Q : State → Prop} {D : va_G} {a a2 : Nat → Nat} {cc : Nat → ClassId} {b L q : Nat} {xs : Nat → Int32} {o : Nat → Int64} {N : Nat} {τ τ1 σ σ1 : St} {i : Int32} {ls : Array Slot}
set_option maxHeartbeats 4000000 in
theorem lw_op0 (C : L_Cx st l D cc p s m meth c b L xs) (hi1 : vp_in (i + 1) L) (hi2 : vp_in (i + 2) L) {r : Int32} (h1 : fX8_text N τ ((xs (i + 1).toNatClampNeg).toInt64 <<< ((32 : Int32).toInt64 &&& 63) ||| (xs (i + 2).toNatClampNeg).toInt64 &&& 4294967295) = some (r, τ1)) (h2 : fX9_text N σ ((xs (i + 1).toNatClampNeg).toInt64 <<< ((32 : Int32).toInt64 &&& 63) ||| (xs (i + 2).toNatClampNeg).toInt64 &&& 4294967295) = some (r, σ1)) (hf : cells + 1 ≤ room_1.cells ∧ slots + 6 ≤ room_1.slots) (hP : va_P D vwCl (wL cc a a2 q o τ σ) H) (hD : va_D (aNew s) (wL cc a a2 q o τ σ)) (hS : va_S (aNew s) s.heap H locs) (hl : lv_has ls 7 [(4, .int i), (3, .ref q), (2, .ref (a2 0)), (1, .ref (a 19)), (0, .ref b)])
    (kk : ∀ (o : Nat → Int64) (H : Heap) (locs : List Loc) (ls : Array Slot), va_P D vwCl (wL cc a a2 q o τ1 σ1) H → va_D (aNew s) (wL cc a a2 q o τ1 σ1) → va_S (aNew s) s.heap H locs → lv_has ls 7 [(4, .int i), (3, .ref q), (2, .ref (a2 0)), (1, .ref (a 19)), (0, .ref b)] → W p l e room_1 s m #[Value.ref b] below meth c H locs (cells + 1) (slots + 6) Q (F0 m 678 ls [])) : W p l e room_1 s m #[Value.ref b] below meth c H locs cells slots Q (F0 m 108 ls []) := by
  obtain ⟨hx, hb, hr, hml, hown, hts, hX, hbl, hlocks, hK, hTS, hLX, hl0⟩ := C
  have hA : ∀ q : Nat, s.heap.size ≤ q → aNew s q := fun _ h => h
  have hbA : ¬ aNew s b := Nat.not_le.mpr hbl
  have hKM : va_K D vwCl (tyM cc) s := hK.sub [0, 1, 2, 3] rfl
  refine lv_aload_n hx hb dL_law_108 rfl (lv_at hl 3 rfl) ?_
  refine lv_aload_n hx hb dL_law_109 rfl (lv_at hl 4 rfl) ?_
  refine lv_iload hx hb dL_law_110 (lv_at hl 0 rfl) ?_
  refine lv_iconst (v := 1) hx hb dL_law_112 (by decide) ?_
  refine lv_iadd hx hb dL_law_113 ?_
  refine va_sld hx hb hX hbl hbA hS hi1 dL_law_114 ?_
  refine lv_i2l hx hb dL_law_115 rfl ?_
  refine lv_bipush (v := 32) hx hb dL_law_116 (by decide) ?_
  refine lv_lshl hx hb dL_law_118 rfl ?_
  refine lv_aload_n hx hb dL_law_119 rfl (lv_at hl 4 rfl) ?_
  refine lv_iload hx hb dL_law_120 (lv_at hl 0 rfl) ?_
  refine lv_iconst (v := 2) hx hb dL_law_122 (by decide) ?_
  refine lv_iadd hx hb dL_law_123 ?_
  refine va_sld hx hb hX hbl hbA hS hi2 dL_law_124 ?_
  refine lv_i2l hx hb dL_law_125 rfl ?_
  refine lv_ldc2 (v := 4294967295) hx hb hown (hts (.constantLong RL 50 4294967295) (List.mem_append_left _ (List.mem_of_getElem? (i := 112) rfl))) dL_law_126 ?_
  refine lv_land hx hb dL_law_129 ?_
  refine lv_lor hx hb dL_law_130 ?_
  refine L_Ti (X := [oW cc q o]) (Y := wM a2 cc σ) (n := 1) (As := [.long ((xs (i + 1).toNatClampNeg).toInt64 <<< ((32 : Int32).toInt64 &&& 63) ||| (xs (i + 2).toNatClampNeg).toInt64 &&& 4294967295)]) (rest := []) ⟨hx, hb, hml, hown, hts⟩ (fun sz => kX8_text hl0 sz h1) (LA_gT iT_text) ⟨rfl, by decide +kernel⟩ hK hTS hP hD hS hA ⟨Nat.le_of_ble_eq_true rfl, Nat.le_of_ble_eq_true rfl⟩ ⟨rfl, rfl⟩ ⟨Nat.le_of_succ_le hf.1, Nat.le_trans (Nat.le_add_right _ 6) hf.2⟩ rfl hl.1 rfl (lv_room (Nat.le_of_ble_eq_true rfl)) dL_law_131 (fun H locs hP hD hS => ?_)
  have hP : va_P D vwCl (wL cc a a2 q o τ1 σ) H := hP
  have hD : va_D (aNew s) (wL cc a a2 q o τ1 σ) := hD
  refine lv_aload_n hx hb dL_law_134 rfl (lv_at hl 2 rfl) ?_
  refine lv_aload_n hx hb dL_law_135 rfl (lv_at hl 4 rfl) ?_
  refine lv_iload hx hb dL_law_136 (lv_at hl 0 rfl) ?_
  refine lv_iconst (v := 1) hx hb dL_law_138 (by decide) ?_
  refine lv_iadd hx hb dL_law_139 ?_
  refine va_sld hx hb hX hbl hbA hS hi1 dL_law_140 ?_
  refine lv_i2l hx hb dL_law_141 rfl ?_
  refine lv_bipush (v := 32) hx hb dL_law_142 (by decide) ?_
  refine lv_lshl hx hb dL_law_144 rfl ?_
  refine lv_aload_n hx hb dL_law_145 rfl (lv_at hl 4 rfl) ?_
  refine lv_iload hx hb dL_law_146 (lv_at hl 0 rfl) ?_
  refine lv_iconst (v := 2) hx hb dL_law_148 (by decide) ?_
  refine lv_iadd hx hb dL_law_149 ?_
  refine va_sld hx hb hX hbl hbA hS hi2 dL_law_150 ?_
  refine lv_i2l hx hb dL_law_151 rfl ?_
  refine lv_ldc2 (v := 4294967295) hx hb hown (hts (.constantLong RL 50 4294967295) (List.mem_append_left _ (List.mem_of_getElem? (i := 112) rfl))) dL_law_152 ?_
  refine lv_land hx hb dL_law_155 ?_
  refine lv_lor hx hb dL_law_156 ?_
  rw [wL_M] at hP hD
  refine L_Mi (X := oW cc q o :: wT a cc τ1) (Y := []) (n := 1) (As := [.long ((xs (i + 1).toNatClampNeg).toInt64 <<< ((32 : Int32).toInt64 &&& 63) ||| (xs (i + 2).toNatClampNeg).toInt64 &&& 4294967295)]) (rest := [.int r]) ⟨hx, hb, hml, hown, hts⟩ (fun sz => kX9_text l sz h2) (LA_gM iM_text) ⟨rfl, by decide +kernel⟩ hKM hP hD hS hA ⟨Nat.le_of_ble_eq_true rfl, Nat.le_of_ble_eq_true rfl⟩ ⟨rfl, rfl⟩ ⟨Nat.le_of_succ_le hf.1, Nat.le_trans (Nat.le_add_right _ 6) hf.2⟩ rfl hl.1 rfl (lv_room (Nat.le_of_ble_eq_true rfl)) dL_law_157 (fun H locs hP hD hS => ?_)
  rw [← wL_M] at hP hD
  refine lv_icmp_eq (tgt := 678) hx hb dL_law_160 (by decide) (fun _ => ?_) (fun h => absurd rfl h)
  exact W.widen (Nat.le_add_right _ _) (Nat.le_add_right _ _) (kk o H locs ls hP hD hS hl)
set_option maxHeartbeats 4000000 in
theorem lw_op1 (C : L_Cx st l D cc p s m meth c b L xs) (h1 : fX8_wipe N τ = some τ1) (h2 : fX9_wipe N σ = some σ1) (hf : cells + 1 ≤ room_1.cells ∧ slots + 6 ≤ room_1.slots) (hP : va_P D vwCl (wL cc a a2 q o τ σ) H) (hD : va_D (aNew s) (wL cc a a2 q o τ σ)) (hS : va_S (aNew s) s.heap H locs) (hl : lv_has ls 7 [(4, .int i), (3, .ref q), (2, .ref (a2 0)), (1, .ref (a 19)), (0, .ref b)])
    (kk : ∀ (o : Nat → Int64) (H : Heap) (locs : List Loc) (ls : Array Slot), va_P D vwCl (wL cc a a2 q o τ1 σ1) H → va_D (aNew s) (wL cc a a2 q o τ1 σ1) → va_S (aNew s) s.heap H locs → lv_has ls 7 [(4, .int i), (3, .ref q), (2, .ref (a2 0)), (1, .ref (a 19)), (0, .ref b)] → W p l e room_1 s m #[Value.ref b] below meth c H locs (cells + 1) (slots + 6) Q (F0 m 678 ls [])) : W p l e room_1 s m #[Value.ref b] below meth c H locs cells slots Q (F0 m 165 ls []) := by
  obtain ⟨hx, hb, hr, hml, hown, hts, hX, hbl, hlocks, hK, hTS, hLX, hl0⟩ := C
  have hA : ∀ q : Nat, s.heap.size ≤ q → aNew s q := fun _ h => h
  have hbA : ¬ aNew s b := Nat.not_le.mpr hbl
  have hKM : va_K D vwCl (tyM cc) s := hK.sub [0, 1, 2, 3] rfl
  refine lv_aload_n hx hb dL_law_165 rfl (lv_at hl 3 rfl) ?_
  refine L_Tv (X := [oW cc q o]) (Y := wM a2 cc σ) (n := 0) (As := []) (rest := []) ⟨hx, hb, hml, hown, hts⟩ (fun sz => kX8_wipe hl0 sz h1) (LA_gT iT_wipe) ⟨rfl, by decide +kernel⟩ hK hTS hP hD hS hA ⟨Nat.le_of_ble_eq_true rfl, Nat.le_of_ble_eq_true rfl⟩ ⟨rfl, rfl⟩ ⟨Nat.le_of_succ_le hf.1, Nat.le_trans (Nat.le_add_right _ 6) hf.2⟩ rfl hl.1 rfl (lv_room (Nat.le_of_ble_eq_true rfl)) dL_law_166 (fun H locs hP hD hS => ?_)
  have hP : va_P D vwCl (wL cc a a2 q o τ1 σ) H := hP
  have hD : va_D (aNew s) (wL cc a a2 q o τ1 σ) := hD
  refine lv_aload_n hx hb dL_law_169 rfl (lv_at hl 2 rfl) ?_
  rw [wL_M] at hP hD
  refine L_Mv (X := oW cc q o :: wT a cc τ1) (Y := []) (n := 0) (As := []) (rest := []) ⟨hx, hb, hml, hown, hts⟩ (fun sz => kX9_wipe l sz h2) (LA_gM iM_wipe) ⟨rfl, by decide +kernel⟩ hKM hP hD hS hA ⟨Nat.le_of_ble_eq_true rfl, Nat.le_of_ble_eq_true rfl⟩ ⟨rfl, rfl⟩ ⟨Nat.le_of_succ_le hf.1, Nat.le_trans (Nat.le_add_right _ 6) hf.2⟩ rfl hl.1 rfl (lv_room (Nat.le_of_ble_eq_true rfl)) dL_law_170 (fun H locs hP hD hS => ?_)
  rw [← wL_M] at hP hD
  refine lv_goto (tgt := 678) hx hb dL_law_173 (by decide) ?_
  exact W.widen (Nat.le_add_right _ _) (Nat.le_add_right _ _) (kk o H locs ls hP hD hS hl)
set_option maxHeartbeats 4000000 in
theorem lw_op2 (C : L_Cx st l D cc p s m meth c b L xs) {x v r : Int32} {σ2 : St} (h1 : fX8_compile N τ = some (x, v, τ1)) (hxx : x = 0 ∨ x = 1 ∨ x = 2) (h2 : fX9_compile N σ = some (r, σ2)) (h3 : fX9_thrown N σ2 = some (hL 1 x, σ1)) (h4 : x = 0 → v = r) (hf : cells + 1 ≤ room_1.cells ∧ slots + 6 ≤ room_1.slots) (hP : va_P D vwCl (wL cc a a2 q o τ σ) H) (hD : va_D (aNew s) (wL cc a a2 q o τ σ)) (hS : va_S (aNew s) s.heap H locs) (hl : lv_has ls 7 [(4, .int i), (3, .ref q), (2, .ref (a2 0)), (1, .ref (a 19)), (0, .ref b)])
    (kk : ∀ (o : Nat → Int64) (H : Heap) (locs : List Loc) (ls : Array Slot), va_P D vwCl (wL cc a a2 q o τ1 σ1) H → va_D (aNew s) (wL cc a a2 q o τ1 σ1) → va_S (aNew s) s.heap H locs → lv_has ls 7 [(4, .int i), (3, .ref q), (2, .ref (a2 0)), (1, .ref (a 19)), (0, .ref b)] → W p l e room_1 s m #[Value.ref b] below meth c H locs (cells + 1) (slots + 6) Q (F0 m 678 ls [])) : W p l e room_1 s m #[Value.ref b] below meth c H locs cells slots Q (F0 m 176 ls []) := by
  obtain ⟨hx, hb, hr, hml, hown, hts, hX, hbl, hlocks, hK, hTS, hLX, hl0⟩ := C
  have hA : ∀ q : Nat, s.heap.size ≤ q → aNew s q := fun _ h => h
  have hbA : ¬ aNew s b := Nat.not_le.mpr hbl
  have hKM : va_K D vwCl (tyM cc) s := hK.sub [0, 1, 2, 3] rfl
  refine lv_aload_n hx hb dL_law_176 rfl (lv_at hl 3 rfl) ?_
  refine lv_aload_n hx hb dL_law_177 rfl (lv_at hl 1 rfl) ?_
  refine L_H (Y := wM a2 cc σ) (n := 2) (As := [.ref (a 19), .ref q]) (rest := []) ⟨hx, hb, hml, hown, hts⟩ (fun sz => kL_compile hl0 sz h1 hxx) (LA_gH iH_compile) (by decide +kernel) hK hTS hLX hP hD hS hA ⟨Nat.le_of_ble_eq_true rfl, Nat.le_of_ble_eq_true rfl⟩ ⟨rfl, rfl⟩ hf rfl hl.1 rfl (lv_room (Nat.le_of_ble_eq_true rfl)) dL_law_178 (fun H locs hP hD hS => ?_)
  have hP : va_P D vwCl (wL cc a a2 q (oI o x v) τ1 σ) H := hP
  have hD : va_D (aNew s) (wL cc a a2 q (oI o x v) τ1 σ) := hD
  refine lv_istore (lv' := [(5, .int (hL 1 x)), (4, .int i), (3, .ref q), (2, .ref (a2 0)), (1, .ref (a 19)), (0, .ref b)]) hx hb dL_law_181 hl (by decide) rfl (fun ls hl => ?_)
  refine lv_aload_n hx hb dL_law_183 rfl (lv_at hl 3 rfl) ?_
  rw [wL_M] at hP hD
  refine L_Mi (X := oW cc q (oI o x v) :: wT a cc τ1) (Y := []) (n := 0) (As := []) (rest := []) ⟨hx, hb, hml, hown, hts⟩ (fun sz => kX9_compile l sz h2) (LA_gM iM_compile) ⟨rfl, by decide +kernel⟩ hKM hP hD hS hA ⟨Nat.le_of_ble_eq_true rfl, Nat.le_of_ble_eq_true rfl⟩ ⟨rfl, rfl⟩ hf rfl hl.1 rfl (lv_room (Nat.le_of_ble_eq_true rfl)) dL_law_184 (fun H locs hP hD hS => ?_)
  rw [← wL_M] at hP hD
  refine lv_istore (lv' := [(6, .int r), (5, .int (hL 1 x)), (4, .int i), (3, .ref q), (2, .ref (a2 0)), (1, .ref (a 19)), (0, .ref b)]) hx hb dL_law_187 hl (by decide) rfl (fun ls hl => ?_)
  refine lv_aload_n hx hb dL_law_189 rfl (lv_at hl 4 rfl) ?_
  rw [wL_M] at hP hD
  refine L_Mi (X := oW cc q (oI o x v) :: wT a cc τ1) (Y := []) (n := 0) (As := []) (rest := []) ⟨hx, hb, hml, hown, hts⟩ (fun sz => kX9_thrown l sz h3) (LA_gM iM_thrown) ⟨rfl, by decide +kernel⟩ hKM hP hD hS hA ⟨Nat.le_of_ble_eq_true rfl, Nat.le_of_ble_eq_true rfl⟩ ⟨rfl, rfl⟩ hf rfl hl.1 rfl (lv_room (Nat.le_of_ble_eq_true rfl)) dL_law_190 (fun H locs hP hD hS => ?_)
  rw [← wL_M] at hP hD
  refine lv_iload hx hb dL_law_193 (lv_at hl 1 rfl) ?_
  refine lv_icmp_eq (tgt := 200) hx hb dL_law_195 (by decide) (fun _ => ?_) (fun h => absurd rfl h)
  have hl0 : lv_has ls 7 [(4, .int i), (3, .ref q), (2, .ref (a2 0)), (1, .ref (a 19)), (0, .ref b)] := lv_sub hl [2, 3, 4, 5, 6] rfl
  refine lv_iload hx hb dL_law_200 (lv_at hl 1 rfl) ?_
  refine lv_if_ne (tgt := 217) hx hb dL_law_202 (by decide) (fun c1 => ?_) (fun c1 => ?_)
  · refine lv_goto (tgt := 678) hx hb dL_law_217 (by decide) ?_
    exact kk _ H locs ls hP hD hS hl0
  · have hx0 : x = 0 := by
      rcases hxx with rfl | rfl | rfl <;> first | rfl | exact absurd c1 (by decide)
    have e1 := h4 hx0
    refine lv_aload_n hx hb dL_law_205 rfl (lv_at hl 3 rfl) ?_
    refine lv_iconst (v := 0) hx hb dL_law_206 (by decide) ?_
    refine va_lald hx hb hK hP 0 3 rfl rfl vp_in01 dL_law_207 ?_
    refine lv_iload hx hb dL_law_208 (lv_at hl 0 rfl) ?_
    refine lv_i2l hx hb dL_law_210 rfl ?_
    refine W.lcmp hx hb dL_law_211 ?_
    refine lv_if_eq (tgt := 217) hx hb dL_law_212 (by decide) (fun _ => ?_) (fun h => absurd (by subst hx0; subst e1; exact cmp_l rfl) h)
    refine lv_goto (tgt := 678) hx hb dL_law_217 (by decide) ?_
    exact kk _ H locs ls hP hD hS hl0
set_option maxHeartbeats 4000000 in
theorem lw_op3 (C : L_Cx st l D cc p s m meth c b L xs) {r : Int32} (h1 : fX8_fault N τ = some (r, τ1)) (h2 : fX9_fault N σ = some (r, σ1)) (hf : cells + 1 ≤ room_1.cells ∧ slots + 6 ≤ room_1.slots) (hP : va_P D vwCl (wL cc a a2 q o τ σ) H) (hD : va_D (aNew s) (wL cc a a2 q o τ σ)) (hS : va_S (aNew s) s.heap H locs) (hl : lv_has ls 7 [(4, .int i), (3, .ref q), (2, .ref (a2 0)), (1, .ref (a 19)), (0, .ref b)])
    (kk : ∀ (o : Nat → Int64) (H : Heap) (locs : List Loc) (ls : Array Slot), va_P D vwCl (wL cc a a2 q o τ1 σ1) H → va_D (aNew s) (wL cc a a2 q o τ1 σ1) → va_S (aNew s) s.heap H locs → lv_has ls 7 [(4, .int i), (3, .ref q), (2, .ref (a2 0)), (1, .ref (a 19)), (0, .ref b)] → W p l e room_1 s m #[Value.ref b] below meth c H locs (cells + 1) (slots + 6) Q (F0 m 678 ls [])) : W p l e room_1 s m #[Value.ref b] below meth c H locs cells slots Q (F0 m 220 ls []) := by
  obtain ⟨hx, hb, hr, hml, hown, hts, hX, hbl, hlocks, hK, hTS, hLX, hl0⟩ := C
  have hA : ∀ q : Nat, s.heap.size ≤ q → aNew s q := fun _ h => h
  have hbA : ¬ aNew s b := Nat.not_le.mpr hbl
  have hKM : va_K D vwCl (tyM cc) s := hK.sub [0, 1, 2, 3] rfl
  refine lv_aload_n hx hb dL_law_220 rfl (lv_at hl 3 rfl) ?_
  refine L_Ti (X := [oW cc q o]) (Y := wM a2 cc σ) (n := 0) (As := []) (rest := []) ⟨hx, hb, hml, hown, hts⟩ (fun sz => kX8_fault hl0 sz h1) (LA_gT iT_fault) ⟨rfl, by decide +kernel⟩ hK hTS hP hD hS hA ⟨Nat.le_of_ble_eq_true rfl, Nat.le_of_ble_eq_true rfl⟩ ⟨rfl, rfl⟩ ⟨Nat.le_of_succ_le hf.1, Nat.le_trans (Nat.le_add_right _ 6) hf.2⟩ rfl hl.1 rfl (lv_room (Nat.le_of_ble_eq_true rfl)) dL_law_221 (fun H locs hP hD hS => ?_)
  have hP : va_P D vwCl (wL cc a a2 q o τ1 σ) H := hP
  have hD : va_D (aNew s) (wL cc a a2 q o τ1 σ) := hD
  refine lv_aload_n hx hb dL_law_224 rfl (lv_at hl 2 rfl) ?_
  rw [wL_M] at hP hD
  refine L_Mi (X := oW cc q o :: wT a cc τ1) (Y := []) (n := 0) (As := []) (rest := [.int r]) ⟨hx, hb, hml, hown, hts⟩ (fun sz => kX9_fault l sz h2) (LA_gM iM_fault) ⟨rfl, by decide +kernel⟩ hKM hP hD hS hA ⟨Nat.le_of_ble_eq_true rfl, Nat.le_of_ble_eq_true rfl⟩ ⟨rfl, rfl⟩ ⟨Nat.le_of_succ_le hf.1, Nat.le_trans (Nat.le_add_right _ 6) hf.2⟩ rfl hl.1 rfl (lv_room (Nat.le_of_ble_eq_true rfl)) dL_law_225 (fun H locs hP hD hS => ?_)
  rw [← wL_M] at hP hD
  refine lv_icmp_eq (tgt := 678) hx hb dL_law_228 (by decide) (fun _ => ?_) (fun h => absurd rfl h)
  exact W.widen (Nat.le_add_right _ _) (Nat.le_add_right _ _) (kk o H locs ls hP hD hS hl)
set_option maxHeartbeats 4000000 in
theorem lw_op4 (C : L_Cx st l D cc p s m meth c b L xs) (hi1 : vp_in (i + 1) L) {x v r : Int32} {σ2 : St} (h1 : fX8_size N τ (xs (i + 1).toNatClampNeg) = some (x, v, τ1)) (hxx : x = 0 ∨ x = 3 ∨ x = 1) (h2 : fX9_size N σ (xs (i + 1).toNatClampNeg) = some (r, σ2)) (h3 : fX9_thrown N σ2 = some (hL 3 x, σ1)) (h4 : x = 0 → v = r) (hf : cells + 1 ≤ room_1.cells ∧ slots + 6 ≤ room_1.slots) (hP : va_P D vwCl (wL cc a a2 q o τ σ) H) (hD : va_D (aNew s) (wL cc a a2 q o τ σ)) (hS : va_S (aNew s) s.heap H locs) (hl : lv_has ls 7 [(4, .int i), (3, .ref q), (2, .ref (a2 0)), (1, .ref (a 19)), (0, .ref b)])
    (kk : ∀ (o : Nat → Int64) (H : Heap) (locs : List Loc) (ls : Array Slot), va_P D vwCl (wL cc a a2 q o τ1 σ1) H → va_D (aNew s) (wL cc a a2 q o τ1 σ1) → va_S (aNew s) s.heap H locs → lv_has ls 7 [(4, .int i), (3, .ref q), (2, .ref (a2 0)), (1, .ref (a 19)), (0, .ref b)] → W p l e room_1 s m #[Value.ref b] below meth c H locs (cells + 1) (slots + 6) Q (F0 m 678 ls [])) : W p l e room_1 s m #[Value.ref b] below meth c H locs cells slots Q (F0 m 233 ls []) := by
  obtain ⟨hx, hb, hr, hml, hown, hts, hX, hbl, hlocks, hK, hTS, hLX, hl0⟩ := C
  have hA : ∀ q : Nat, s.heap.size ≤ q → aNew s q := fun _ h => h
  have hbA : ¬ aNew s b := Nat.not_le.mpr hbl
  have hKM : va_K D vwCl (tyM cc) s := hK.sub [0, 1, 2, 3] rfl
  refine lv_aload_n hx hb dL_law_233 rfl (lv_at hl 3 rfl) ?_
  refine lv_aload_n hx hb dL_law_234 rfl (lv_at hl 4 rfl) ?_
  refine lv_iload hx hb dL_law_235 (lv_at hl 0 rfl) ?_
  refine lv_iconst (v := 1) hx hb dL_law_237 (by decide) ?_
  refine lv_iadd hx hb dL_law_238 ?_
  refine va_sld hx hb hX hbl hbA hS hi1 dL_law_239 ?_
  refine lv_aload_n hx hb dL_law_240 rfl (lv_at hl 1 rfl) ?_
  refine L_H (Y := wM a2 cc σ) (n := 3) (As := [.ref (a 19), .int (xs (i + 1).toNatClampNeg), .ref q]) (rest := []) ⟨hx, hb, hml, hown, hts⟩ (fun sz => kL_size hl0 sz h1 hxx) (LA_gH iH_size) (by decide +kernel) hK hTS hLX hP hD hS hA ⟨Nat.le_of_ble_eq_true rfl, Nat.le_of_ble_eq_true rfl⟩ ⟨rfl, rfl⟩ hf rfl hl.1 rfl (lv_room (Nat.le_of_ble_eq_true rfl)) dL_law_241 (fun H locs hP hD hS => ?_)
  have hP : va_P D vwCl (wL cc a a2 q (oI o x v) τ1 σ) H := hP
  have hD : va_D (aNew s) (wL cc a a2 q (oI o x v) τ1 σ) := hD
  refine lv_istore (lv' := [(5, .int (hL 3 x)), (4, .int i), (3, .ref q), (2, .ref (a2 0)), (1, .ref (a 19)), (0, .ref b)]) hx hb dL_law_244 hl (by decide) rfl (fun ls hl => ?_)
  refine lv_aload_n hx hb dL_law_246 rfl (lv_at hl 3 rfl) ?_
  refine lv_aload_n hx hb dL_law_247 rfl (lv_at hl 5 rfl) ?_
  refine lv_iload hx hb dL_law_248 (lv_at hl 1 rfl) ?_
  refine lv_iconst (v := 1) hx hb dL_law_250 (by decide) ?_
  refine lv_iadd hx hb dL_law_251 ?_
  refine va_sld hx hb hX hbl hbA hS hi1 dL_law_252 ?_
  rw [wL_M] at hP hD
  refine L_Mi (X := oW cc q (oI o x v) :: wT a cc τ1) (Y := []) (n := 1) (As := [.int (xs (i + 1).toNatClampNeg)]) (rest := []) ⟨hx, hb, hml, hown, hts⟩ (fun sz => kX9_size l sz h2) (LA_gM iM_size) ⟨rfl, by decide +kernel⟩ hKM hP hD hS hA ⟨Nat.le_of_ble_eq_true rfl, Nat.le_of_ble_eq_true rfl⟩ ⟨rfl, rfl⟩ hf rfl hl.1 rfl (lv_room (Nat.le_of_ble_eq_true rfl)) dL_law_253 (fun H locs hP hD hS => ?_)
  rw [← wL_M] at hP hD
  refine lv_istore (lv' := [(6, .int r), (5, .int (hL 3 x)), (4, .int i), (3, .ref q), (2, .ref (a2 0)), (1, .ref (a 19)), (0, .ref b)]) hx hb dL_law_256 hl (by decide) rfl (fun ls hl => ?_)
  refine lv_aload_n hx hb dL_law_258 rfl (lv_at hl 4 rfl) ?_
  rw [wL_M] at hP hD
  refine L_Mi (X := oW cc q (oI o x v) :: wT a cc τ1) (Y := []) (n := 0) (As := []) (rest := []) ⟨hx, hb, hml, hown, hts⟩ (fun sz => kX9_thrown l sz h3) (LA_gM iM_thrown) ⟨rfl, by decide +kernel⟩ hKM hP hD hS hA ⟨Nat.le_of_ble_eq_true rfl, Nat.le_of_ble_eq_true rfl⟩ ⟨rfl, rfl⟩ hf rfl hl.1 rfl (lv_room (Nat.le_of_ble_eq_true rfl)) dL_law_259 (fun H locs hP hD hS => ?_)
  rw [← wL_M] at hP hD
  refine lv_iload hx hb dL_law_262 (lv_at hl 1 rfl) ?_
  refine lv_icmp_eq (tgt := 269) hx hb dL_law_264 (by decide) (fun _ => ?_) (fun h => absurd rfl h)
  have hl0 : lv_has ls 7 [(4, .int i), (3, .ref q), (2, .ref (a2 0)), (1, .ref (a 19)), (0, .ref b)] := lv_sub hl [2, 3, 4, 5, 6] rfl
  refine lv_iload hx hb dL_law_269 (lv_at hl 1 rfl) ?_
  refine lv_if_ne (tgt := 286) hx hb dL_law_271 (by decide) (fun c1 => ?_) (fun c1 => ?_)
  · refine lv_goto (tgt := 678) hx hb dL_law_286 (by decide) ?_
    exact kk _ H locs ls hP hD hS hl0
  · have hx0 : x = 0 := by
      rcases hxx with rfl | rfl | rfl <;> first | rfl | exact absurd c1 (by decide)
    have e1 := h4 hx0
    refine lv_aload_n hx hb dL_law_274 rfl (lv_at hl 3 rfl) ?_
    refine lv_iconst (v := 0) hx hb dL_law_275 (by decide) ?_
    refine va_lald hx hb hK hP 0 3 rfl rfl vp_in01 dL_law_276 ?_
    refine lv_iload hx hb dL_law_277 (lv_at hl 0 rfl) ?_
    refine lv_i2l hx hb dL_law_279 rfl ?_
    refine W.lcmp hx hb dL_law_280 ?_
    refine lv_if_eq (tgt := 286) hx hb dL_law_281 (by decide) (fun _ => ?_) (fun h => absurd (by subst hx0; subst e1; exact cmp_l rfl) h)
    refine lv_goto (tgt := 678) hx hb dL_law_286 (by decide) ?_
    exact kk _ H locs ls hP hD hS hl0
set_option maxHeartbeats 4000000 in
theorem lw_op5 (C : L_Cx st l D cc p s m meth c b L xs) (hi1 : vp_in (i + 1) L) (hi2 : vp_in (i + 2) L) {x v r : Int32} {σ2 : St} (h1 : fX8_next N τ (xs (i + 1).toNatClampNeg) (xs (i + 2).toNatClampNeg) = some (x, v, τ1)) (hxx : x = 0 ∨ x = 3 ∨ x = 4) (h2 : fX9_next N σ (xs (i + 1).toNatClampNeg) (xs (i + 2).toNatClampNeg) = some (r, σ2)) (h3 : fX9_thrown N σ2 = some (hL 3 x, σ1)) (h4 : x = 0 → v = r) (hf : cells + 1 ≤ room_1.cells ∧ slots + 6 ≤ room_1.slots) (hP : va_P D vwCl (wL cc a a2 q o τ σ) H) (hD : va_D (aNew s) (wL cc a a2 q o τ σ)) (hS : va_S (aNew s) s.heap H locs) (hl : lv_has ls 7 [(4, .int i), (3, .ref q), (2, .ref (a2 0)), (1, .ref (a 19)), (0, .ref b)])
    (kk : ∀ (o : Nat → Int64) (H : Heap) (locs : List Loc) (ls : Array Slot), va_P D vwCl (wL cc a a2 q o τ1 σ1) H → va_D (aNew s) (wL cc a a2 q o τ1 σ1) → va_S (aNew s) s.heap H locs → lv_has ls 7 [(4, .int i), (3, .ref q), (2, .ref (a2 0)), (1, .ref (a 19)), (0, .ref b)] → W p l e room_1 s m #[Value.ref b] below meth c H locs (cells + 1) (slots + 6) Q (F0 m 678 ls [])) : W p l e room_1 s m #[Value.ref b] below meth c H locs cells slots Q (F0 m 289 ls []) := by
  obtain ⟨hx, hb, hr, hml, hown, hts, hX, hbl, hlocks, hK, hTS, hLX, hl0⟩ := C
  have hA : ∀ q : Nat, s.heap.size ≤ q → aNew s q := fun _ h => h
  have hbA : ¬ aNew s b := Nat.not_le.mpr hbl
  have hKM : va_K D vwCl (tyM cc) s := hK.sub [0, 1, 2, 3] rfl
  refine lv_aload_n hx hb dL_law_289 rfl (lv_at hl 3 rfl) ?_
  refine lv_aload_n hx hb dL_law_290 rfl (lv_at hl 4 rfl) ?_
  refine lv_iload hx hb dL_law_291 (lv_at hl 0 rfl) ?_
  refine lv_iconst (v := 1) hx hb dL_law_293 (by decide) ?_
  refine lv_iadd hx hb dL_law_294 ?_
  refine va_sld hx hb hX hbl hbA hS hi1 dL_law_295 ?_
  refine lv_aload_n hx hb dL_law_296 rfl (lv_at hl 4 rfl) ?_
  refine lv_iload hx hb dL_law_297 (lv_at hl 0 rfl) ?_
  refine lv_iconst (v := 2) hx hb dL_law_299 (by decide) ?_
  refine lv_iadd hx hb dL_law_300 ?_
  refine va_sld hx hb hX hbl hbA hS hi2 dL_law_301 ?_
  refine lv_aload_n hx hb dL_law_302 rfl (lv_at hl 1 rfl) ?_
  refine L_H (Y := wM a2 cc σ) (n := 4) (As := [.ref (a 19), .int (xs (i + 1).toNatClampNeg), .int (xs (i + 2).toNatClampNeg), .ref q]) (rest := []) ⟨hx, hb, hml, hown, hts⟩ (fun sz => kL_next hl0 sz h1 hxx) (LA_gH iH_next) (by decide +kernel) hK hTS hLX hP hD hS hA ⟨Nat.le_of_ble_eq_true rfl, Nat.le_of_ble_eq_true rfl⟩ ⟨rfl, rfl⟩ hf rfl hl.1 rfl (lv_room (Nat.le_of_ble_eq_true rfl)) dL_law_303 (fun H locs hP hD hS => ?_)
  have hP : va_P D vwCl (wL cc a a2 q (oI o x v) τ1 σ) H := hP
  have hD : va_D (aNew s) (wL cc a a2 q (oI o x v) τ1 σ) := hD
  refine lv_istore (lv' := [(5, .int (hL 3 x)), (4, .int i), (3, .ref q), (2, .ref (a2 0)), (1, .ref (a 19)), (0, .ref b)]) hx hb dL_law_306 hl (by decide) rfl (fun ls hl => ?_)
  refine lv_aload_n hx hb dL_law_308 rfl (lv_at hl 3 rfl) ?_
  refine lv_aload_n hx hb dL_law_309 rfl (lv_at hl 5 rfl) ?_
  refine lv_iload hx hb dL_law_310 (lv_at hl 1 rfl) ?_
  refine lv_iconst (v := 1) hx hb dL_law_312 (by decide) ?_
  refine lv_iadd hx hb dL_law_313 ?_
  refine va_sld hx hb hX hbl hbA hS hi1 dL_law_314 ?_
  refine lv_aload_n hx hb dL_law_315 rfl (lv_at hl 5 rfl) ?_
  refine lv_iload hx hb dL_law_316 (lv_at hl 1 rfl) ?_
  refine lv_iconst (v := 2) hx hb dL_law_318 (by decide) ?_
  refine lv_iadd hx hb dL_law_319 ?_
  refine va_sld hx hb hX hbl hbA hS hi2 dL_law_320 ?_
  rw [wL_M] at hP hD
  refine L_Mi (X := oW cc q (oI o x v) :: wT a cc τ1) (Y := []) (n := 2) (As := [.int (xs (i + 1).toNatClampNeg), .int (xs (i + 2).toNatClampNeg)]) (rest := []) ⟨hx, hb, hml, hown, hts⟩ (fun sz => kX9_next l sz h2) (LA_gM iM_next) ⟨rfl, by decide +kernel⟩ hKM hP hD hS hA ⟨Nat.le_of_ble_eq_true rfl, Nat.le_of_ble_eq_true rfl⟩ ⟨rfl, rfl⟩ hf rfl hl.1 rfl (lv_room (Nat.le_of_ble_eq_true rfl)) dL_law_321 (fun H locs hP hD hS => ?_)
  rw [← wL_M] at hP hD
  refine lv_istore (lv' := [(6, .int r), (5, .int (hL 3 x)), (4, .int i), (3, .ref q), (2, .ref (a2 0)), (1, .ref (a 19)), (0, .ref b)]) hx hb dL_law_324 hl (by decide) rfl (fun ls hl => ?_)
  refine lv_aload_n hx hb dL_law_326 rfl (lv_at hl 4 rfl) ?_
  rw [wL_M] at hP hD
  refine L_Mi (X := oW cc q (oI o x v) :: wT a cc τ1) (Y := []) (n := 0) (As := []) (rest := []) ⟨hx, hb, hml, hown, hts⟩ (fun sz => kX9_thrown l sz h3) (LA_gM iM_thrown) ⟨rfl, by decide +kernel⟩ hKM hP hD hS hA ⟨Nat.le_of_ble_eq_true rfl, Nat.le_of_ble_eq_true rfl⟩ ⟨rfl, rfl⟩ hf rfl hl.1 rfl (lv_room (Nat.le_of_ble_eq_true rfl)) dL_law_327 (fun H locs hP hD hS => ?_)
  rw [← wL_M] at hP hD
  refine lv_iload hx hb dL_law_330 (lv_at hl 1 rfl) ?_
  refine lv_icmp_eq (tgt := 337) hx hb dL_law_332 (by decide) (fun _ => ?_) (fun h => absurd rfl h)
  have hl0 : lv_has ls 7 [(4, .int i), (3, .ref q), (2, .ref (a2 0)), (1, .ref (a 19)), (0, .ref b)] := lv_sub hl [2, 3, 4, 5, 6] rfl
  refine lv_iload hx hb dL_law_337 (lv_at hl 1 rfl) ?_
  refine lv_if_ne (tgt := 354) hx hb dL_law_339 (by decide) (fun c1 => ?_) (fun c1 => ?_)
  · refine lv_goto (tgt := 678) hx hb dL_law_354 (by decide) ?_
    exact kk _ H locs ls hP hD hS hl0
  · have hx0 : x = 0 := by
      rcases hxx with rfl | rfl | rfl <;> first | rfl | exact absurd c1 (by decide)
    have e1 := h4 hx0
    refine lv_aload_n hx hb dL_law_342 rfl (lv_at hl 3 rfl) ?_
    refine lv_iconst (v := 0) hx hb dL_law_343 (by decide) ?_
    refine va_lald hx hb hK hP 0 3 rfl rfl vp_in01 dL_law_344 ?_
    refine lv_iload hx hb dL_law_345 (lv_at hl 0 rfl) ?_
    refine lv_i2l hx hb dL_law_347 rfl ?_
    refine W.lcmp hx hb dL_law_348 ?_
    refine lv_if_eq (tgt := 354) hx hb dL_law_349 (by decide) (fun _ => ?_) (fun h => absurd (by subst hx0; subst e1; exact cmp_l rfl) h)
    refine lv_goto (tgt := 678) hx hb dL_law_354 (by decide) ?_
    exact kk _ H locs ls hP hD hS hl0
set_option maxHeartbeats 4000000 in
theorem lw_op6 (C : L_Cx st l D cc p s m meth c b L xs) (hi1 : vp_in (i + 1) L) (hi2 : vp_in (i + 2) L) (hi3 : vp_in (i + 3) L) {x v r : Int32} {σ2 : St} (h1 : fX8_output N τ (xs (i + 1).toNatClampNeg) (xs (i + 2).toNatClampNeg) (xs (i + 3).toNatClampNeg) = some (x, v, τ1)) (hxx : x = 0 ∨ x = 3 ∨ x = 5) (h2 : fX9_output N σ (xs (i + 1).toNatClampNeg) (xs (i + 2).toNatClampNeg) (xs (i + 3).toNatClampNeg) = some (r, σ2)) (h3 : fX9_thrown N σ2 = some (hL 3 x, σ1)) (h4 : x = 0 → v = r) (hf : cells + 1 ≤ room_1.cells ∧ slots + 6 ≤ room_1.slots) (hP : va_P D vwCl (wL cc a a2 q o τ σ) H) (hD : va_D (aNew s) (wL cc a a2 q o τ σ)) (hS : va_S (aNew s) s.heap H locs) (hl : lv_has ls 7 [(4, .int i), (3, .ref q), (2, .ref (a2 0)), (1, .ref (a 19)), (0, .ref b)])
    (kk : ∀ (o : Nat → Int64) (H : Heap) (locs : List Loc) (ls : Array Slot), va_P D vwCl (wL cc a a2 q o τ1 σ1) H → va_D (aNew s) (wL cc a a2 q o τ1 σ1) → va_S (aNew s) s.heap H locs → lv_has ls 7 [(4, .int i), (3, .ref q), (2, .ref (a2 0)), (1, .ref (a 19)), (0, .ref b)] → W p l e room_1 s m #[Value.ref b] below meth c H locs (cells + 1) (slots + 6) Q (F0 m 678 ls [])) : W p l e room_1 s m #[Value.ref b] below meth c H locs cells slots Q (F0 m 357 ls []) := by
  obtain ⟨hx, hb, hr, hml, hown, hts, hX, hbl, hlocks, hK, hTS, hLX, hl0⟩ := C
  have hA : ∀ q : Nat, s.heap.size ≤ q → aNew s q := fun _ h => h
  have hbA : ¬ aNew s b := Nat.not_le.mpr hbl
  have hKM : va_K D vwCl (tyM cc) s := hK.sub [0, 1, 2, 3] rfl
  refine lv_aload_n hx hb dL_law_357 rfl (lv_at hl 3 rfl) ?_
  refine lv_aload_n hx hb dL_law_358 rfl (lv_at hl 4 rfl) ?_
  refine lv_iload hx hb dL_law_359 (lv_at hl 0 rfl) ?_
  refine lv_iconst (v := 1) hx hb dL_law_361 (by decide) ?_
  refine lv_iadd hx hb dL_law_362 ?_
  refine va_sld hx hb hX hbl hbA hS hi1 dL_law_363 ?_
  refine lv_aload_n hx hb dL_law_364 rfl (lv_at hl 4 rfl) ?_
  refine lv_iload hx hb dL_law_365 (lv_at hl 0 rfl) ?_
  refine lv_iconst (v := 2) hx hb dL_law_367 (by decide) ?_
  refine lv_iadd hx hb dL_law_368 ?_
  refine va_sld hx hb hX hbl hbA hS hi2 dL_law_369 ?_
  refine lv_aload_n hx hb dL_law_370 rfl (lv_at hl 4 rfl) ?_
  refine lv_iload hx hb dL_law_371 (lv_at hl 0 rfl) ?_
  refine lv_iconst (v := 3) hx hb dL_law_373 (by decide) ?_
  refine lv_iadd hx hb dL_law_374 ?_
  refine va_sld hx hb hX hbl hbA hS hi3 dL_law_375 ?_
  refine lv_aload_n hx hb dL_law_376 rfl (lv_at hl 1 rfl) ?_
  refine L_H (Y := wM a2 cc σ) (n := 5) (As := [.ref (a 19), .int (xs (i + 1).toNatClampNeg), .int (xs (i + 2).toNatClampNeg), .int (xs (i + 3).toNatClampNeg), .ref q]) (rest := []) ⟨hx, hb, hml, hown, hts⟩ (fun sz => kL_output hl0 sz h1 hxx) (LA_gH iH_output) (by decide +kernel) hK hTS hLX hP hD hS hA ⟨Nat.le_of_ble_eq_true rfl, Nat.le_of_ble_eq_true rfl⟩ ⟨rfl, rfl⟩ hf rfl hl.1 rfl (lv_room (Nat.le_of_ble_eq_true rfl)) dL_law_377 (fun H locs hP hD hS => ?_)
  have hP : va_P D vwCl (wL cc a a2 q (oZ o x v) τ1 σ) H := hP
  have hD : va_D (aNew s) (wL cc a a2 q (oZ o x v) τ1 σ) := hD
  refine lv_istore (lv' := [(5, .int (hL 3 x)), (4, .int i), (3, .ref q), (2, .ref (a2 0)), (1, .ref (a 19)), (0, .ref b)]) hx hb dL_law_380 hl (by decide) rfl (fun ls hl => ?_)
  refine lv_aload_n hx hb dL_law_382 rfl (lv_at hl 3 rfl) ?_
  refine lv_aload_n hx hb dL_law_383 rfl (lv_at hl 5 rfl) ?_
  refine lv_iload hx hb dL_law_384 (lv_at hl 1 rfl) ?_
  refine lv_iconst (v := 1) hx hb dL_law_386 (by decide) ?_
  refine lv_iadd hx hb dL_law_387 ?_
  refine va_sld hx hb hX hbl hbA hS hi1 dL_law_388 ?_
  refine lv_aload_n hx hb dL_law_389 rfl (lv_at hl 5 rfl) ?_
  refine lv_iload hx hb dL_law_390 (lv_at hl 1 rfl) ?_
  refine lv_iconst (v := 2) hx hb dL_law_392 (by decide) ?_
  refine lv_iadd hx hb dL_law_393 ?_
  refine va_sld hx hb hX hbl hbA hS hi2 dL_law_394 ?_
  refine lv_aload_n hx hb dL_law_395 rfl (lv_at hl 5 rfl) ?_
  refine lv_iload hx hb dL_law_396 (lv_at hl 1 rfl) ?_
  refine lv_iconst (v := 3) hx hb dL_law_398 (by decide) ?_
  refine lv_iadd hx hb dL_law_399 ?_
  refine va_sld hx hb hX hbl hbA hS hi3 dL_law_400 ?_
  rw [wL_M] at hP hD
  refine L_Mi (X := oW cc q (oZ o x v) :: wT a cc τ1) (Y := []) (n := 3) (As := [.int (xs (i + 1).toNatClampNeg), .int (xs (i + 2).toNatClampNeg), .int (xs (i + 3).toNatClampNeg)]) (rest := []) ⟨hx, hb, hml, hown, hts⟩ (fun sz => kX9_output l sz h2) (LA_gM iM_output) ⟨rfl, by decide +kernel⟩ hKM hP hD hS hA ⟨Nat.le_of_ble_eq_true rfl, Nat.le_of_ble_eq_true rfl⟩ ⟨rfl, rfl⟩ hf rfl hl.1 rfl (lv_room (Nat.le_of_ble_eq_true rfl)) dL_law_401 (fun H locs hP hD hS => ?_)
  rw [← wL_M] at hP hD
  refine lv_istore (lv' := [(6, .int r), (5, .int (hL 3 x)), (4, .int i), (3, .ref q), (2, .ref (a2 0)), (1, .ref (a 19)), (0, .ref b)]) hx hb dL_law_404 hl (by decide) rfl (fun ls hl => ?_)
  refine lv_aload_n hx hb dL_law_406 rfl (lv_at hl 4 rfl) ?_
  rw [wL_M] at hP hD
  refine L_Mi (X := oW cc q (oZ o x v) :: wT a cc τ1) (Y := []) (n := 0) (As := []) (rest := []) ⟨hx, hb, hml, hown, hts⟩ (fun sz => kX9_thrown l sz h3) (LA_gM iM_thrown) ⟨rfl, by decide +kernel⟩ hKM hP hD hS hA ⟨Nat.le_of_ble_eq_true rfl, Nat.le_of_ble_eq_true rfl⟩ ⟨rfl, rfl⟩ hf rfl hl.1 rfl (lv_room (Nat.le_of_ble_eq_true rfl)) dL_law_407 (fun H locs hP hD hS => ?_)
  rw [← wL_M] at hP hD
  refine lv_iload hx hb dL_law_410 (lv_at hl 1 rfl) ?_
  refine lv_icmp_eq (tgt := 417) hx hb dL_law_412 (by decide) (fun _ => ?_) (fun h => absurd rfl h)
  have hl0 : lv_has ls 7 [(4, .int i), (3, .ref q), (2, .ref (a2 0)), (1, .ref (a 19)), (0, .ref b)] := lv_sub hl [2, 3, 4, 5, 6] rfl
  refine lv_iload hx hb dL_law_417 (lv_at hl 1 rfl) ?_
  refine lv_if_ne (tgt := 441) hx hb dL_law_419 (by decide) (fun c1 => ?_) (fun c1 => ?_)
  · refine lv_goto (tgt := 678) hx hb dL_law_441 (by decide) ?_
    exact kk _ H locs ls hP hD hS hl0
  · have hx0 : x = 0 := by
      rcases hxx with rfl | rfl | rfl <;> first | rfl | exact absurd c1 (by decide)
    have e1 := h4 hx0
    refine lv_aload_n hx hb dL_law_422 rfl (lv_at hl 3 rfl) ?_
    refine lv_iconst (v := 0) hx hb dL_law_423 (by decide) ?_
    refine va_lald hx hb hK hP 0 3 rfl rfl vp_in01 dL_law_424 ?_
    refine lv_iload hx hb dL_law_425 (lv_at hl 0 rfl) ?_
    refine lv_if_eq (tgt := 434) hx hb dL_law_427 (by decide) (fun c2 => ?_) (fun c2 => ?_)
    · refine lv_lconst hx hb dL_law_434 rfl ?_
      refine W.lcmp hx hb dL_law_435 ?_
      refine lv_if_eq (tgt := 441) hx hb dL_law_436 (by decide) (fun _ => ?_) (fun h => absurd (by subst hx0; subst e1; exact cmp_l (if_pos c2)) h)
      refine lv_goto (tgt := 678) hx hb dL_law_441 (by decide) ?_
      exact kk _ H locs ls hP hD hS hl0
    · refine lv_lconst hx hb dL_law_430 rfl ?_
      refine lv_goto (tgt := 435) hx hb dL_law_431 (by decide) ?_
      refine W.lcmp hx hb dL_law_435 ?_
      refine lv_if_eq (tgt := 441) hx hb dL_law_436 (by decide) (fun _ => ?_) (fun h => absurd (by subst hx0; subst e1; exact cmp_l (if_neg c2)) h)
      refine lv_goto (tgt := 678) hx hb dL_law_441 (by decide) ?_
      exact kk _ H locs ls hP hD hS hl0
set_option maxHeartbeats 4000000 in
theorem lw_op7 (C : L_Cx st l D cc p s m meth c b L xs) {x v r : Int32} {σ2 : St} (h1 : fX8_begin N τ = some (x, v, τ1)) (hxx : x = 0 ∨ x = 3) (h2 : fX9_begin N σ = some (r, σ2)) (h3 : fX9_thrown N σ2 = some (hL 3 x, σ1)) (h4 : x = 0 → v = r) (hf : cells + 1 ≤ room_1.cells ∧ slots + 6 ≤ room_1.slots) (hP : va_P D vwCl (wL cc a a2 q o τ σ) H) (hD : va_D (aNew s) (wL cc a a2 q o τ σ)) (hS : va_S (aNew s) s.heap H locs) (hl : lv_has ls 7 [(4, .int i), (3, .ref q), (2, .ref (a2 0)), (1, .ref (a 19)), (0, .ref b)])
    (kk : ∀ (o : Nat → Int64) (H : Heap) (locs : List Loc) (ls : Array Slot), va_P D vwCl (wL cc a a2 q o τ1 σ1) H → va_D (aNew s) (wL cc a a2 q o τ1 σ1) → va_S (aNew s) s.heap H locs → lv_has ls 7 [(4, .int i), (3, .ref q), (2, .ref (a2 0)), (1, .ref (a 19)), (0, .ref b)] → W p l e room_1 s m #[Value.ref b] below meth c H locs (cells + 1) (slots + 6) Q (F0 m 678 ls [])) : W p l e room_1 s m #[Value.ref b] below meth c H locs cells slots Q (F0 m 444 ls []) := by
  obtain ⟨hx, hb, hr, hml, hown, hts, hX, hbl, hlocks, hK, hTS, hLX, hl0⟩ := C
  have hA : ∀ q : Nat, s.heap.size ≤ q → aNew s q := fun _ h => h
  have hbA : ¬ aNew s b := Nat.not_le.mpr hbl
  have hKM : va_K D vwCl (tyM cc) s := hK.sub [0, 1, 2, 3] rfl
  refine lv_aload_n hx hb dL_law_444 rfl (lv_at hl 3 rfl) ?_
  refine lv_aload_n hx hb dL_law_445 rfl (lv_at hl 1 rfl) ?_
  refine L_H (Y := wM a2 cc σ) (n := 2) (As := [.ref (a 19), .ref q]) (rest := []) ⟨hx, hb, hml, hown, hts⟩ (fun sz => kL_begin hl0 sz h1 hxx) (LA_gH iH_begin) (by decide +kernel) hK hTS hLX hP hD hS hA ⟨Nat.le_of_ble_eq_true rfl, Nat.le_of_ble_eq_true rfl⟩ ⟨rfl, rfl⟩ hf rfl hl.1 rfl (lv_room (Nat.le_of_ble_eq_true rfl)) dL_law_446 (fun H locs hP hD hS => ?_)
  have hP : va_P D vwCl (wL cc a a2 q (oZ o x v) τ1 σ) H := hP
  have hD : va_D (aNew s) (wL cc a a2 q (oZ o x v) τ1 σ) := hD
  refine lv_istore (lv' := [(5, .int (hL 3 x)), (4, .int i), (3, .ref q), (2, .ref (a2 0)), (1, .ref (a 19)), (0, .ref b)]) hx hb dL_law_449 hl (by decide) rfl (fun ls hl => ?_)
  refine lv_aload_n hx hb dL_law_451 rfl (lv_at hl 3 rfl) ?_
  rw [wL_M] at hP hD
  refine L_Mi (X := oW cc q (oZ o x v) :: wT a cc τ1) (Y := []) (n := 0) (As := []) (rest := []) ⟨hx, hb, hml, hown, hts⟩ (fun sz => kX9_begin l sz h2) (LA_gM iM_begin) ⟨rfl, by decide +kernel⟩ hKM hP hD hS hA ⟨Nat.le_of_ble_eq_true rfl, Nat.le_of_ble_eq_true rfl⟩ ⟨rfl, rfl⟩ hf rfl hl.1 rfl (lv_room (Nat.le_of_ble_eq_true rfl)) dL_law_452 (fun H locs hP hD hS => ?_)
  rw [← wL_M] at hP hD
  refine lv_istore (lv' := [(6, .int r), (5, .int (hL 3 x)), (4, .int i), (3, .ref q), (2, .ref (a2 0)), (1, .ref (a 19)), (0, .ref b)]) hx hb dL_law_455 hl (by decide) rfl (fun ls hl => ?_)
  refine lv_aload_n hx hb dL_law_457 rfl (lv_at hl 4 rfl) ?_
  rw [wL_M] at hP hD
  refine L_Mi (X := oW cc q (oZ o x v) :: wT a cc τ1) (Y := []) (n := 0) (As := []) (rest := []) ⟨hx, hb, hml, hown, hts⟩ (fun sz => kX9_thrown l sz h3) (LA_gM iM_thrown) ⟨rfl, by decide +kernel⟩ hKM hP hD hS hA ⟨Nat.le_of_ble_eq_true rfl, Nat.le_of_ble_eq_true rfl⟩ ⟨rfl, rfl⟩ hf rfl hl.1 rfl (lv_room (Nat.le_of_ble_eq_true rfl)) dL_law_458 (fun H locs hP hD hS => ?_)
  rw [← wL_M] at hP hD
  refine lv_iload hx hb dL_law_461 (lv_at hl 1 rfl) ?_
  refine lv_icmp_eq (tgt := 468) hx hb dL_law_463 (by decide) (fun _ => ?_) (fun h => absurd rfl h)
  have hl0 : lv_has ls 7 [(4, .int i), (3, .ref q), (2, .ref (a2 0)), (1, .ref (a 19)), (0, .ref b)] := lv_sub hl [2, 3, 4, 5, 6] rfl
  refine lv_iload hx hb dL_law_468 (lv_at hl 1 rfl) ?_
  refine lv_if_ne (tgt := 492) hx hb dL_law_470 (by decide) (fun c1 => ?_) (fun c1 => ?_)
  · refine lv_goto (tgt := 678) hx hb dL_law_492 (by decide) ?_
    exact kk _ H locs ls hP hD hS hl0
  · have hx0 : x = 0 := by
      rcases hxx with rfl | rfl <;> first | rfl | exact absurd c1 (by decide)
    have e1 := h4 hx0
    refine lv_aload_n hx hb dL_law_473 rfl (lv_at hl 3 rfl) ?_
    refine lv_iconst (v := 0) hx hb dL_law_474 (by decide) ?_
    refine va_lald hx hb hK hP 0 3 rfl rfl vp_in01 dL_law_475 ?_
    refine lv_iload hx hb dL_law_476 (lv_at hl 0 rfl) ?_
    refine lv_if_eq (tgt := 485) hx hb dL_law_478 (by decide) (fun c2 => ?_) (fun c2 => ?_)
    · refine lv_lconst hx hb dL_law_485 rfl ?_
      refine W.lcmp hx hb dL_law_486 ?_
      refine lv_if_eq (tgt := 492) hx hb dL_law_487 (by decide) (fun _ => ?_) (fun h => absurd (by subst hx0; subst e1; exact cmp_l (if_pos c2)) h)
      refine lv_goto (tgt := 678) hx hb dL_law_492 (by decide) ?_
      exact kk _ H locs ls hP hD hS hl0
    · refine lv_lconst hx hb dL_law_481 rfl ?_
      refine lv_goto (tgt := 486) hx hb dL_law_482 (by decide) ?_
      refine W.lcmp hx hb dL_law_486 ?_
      refine lv_if_eq (tgt := 492) hx hb dL_law_487 (by decide) (fun _ => ?_) (fun h => absurd (by subst hx0; subst e1; exact cmp_l (if_neg c2)) h)
      refine lv_goto (tgt := 678) hx hb dL_law_492 (by decide) ?_
      exact kk _ H locs ls hP hD hS hl0
set_option maxHeartbeats 4000000 in
theorem lw_op8 (C : L_Cx st l D cc p s m meth c b L xs) (hi1 : vp_in (i + 1) L) {x v r : Int32} {σ2 : St} (h1 : fX8_step N τ (xs (i + 1).toNatClampNeg) = some (x, v, τ1)) (hxx : x = 0 ∨ x = 3 ∨ x = 1) (h2 : fX9_step N σ (xs (i + 1).toNatClampNeg) = some (r, σ2)) (h3 : fX9_thrown N σ2 = some (hL 3 x, σ1)) (h4 : x = 0 → v = r) (hf : cells + 1 ≤ room_1.cells ∧ slots + 6 ≤ room_1.slots) (hP : va_P D vwCl (wL cc a a2 q o τ σ) H) (hD : va_D (aNew s) (wL cc a a2 q o τ σ)) (hS : va_S (aNew s) s.heap H locs) (hl : lv_has ls 7 [(4, .int i), (3, .ref q), (2, .ref (a2 0)), (1, .ref (a 19)), (0, .ref b)])
    (kk : ∀ (o : Nat → Int64) (H : Heap) (locs : List Loc) (ls : Array Slot), va_P D vwCl (wL cc a a2 q o τ1 σ1) H → va_D (aNew s) (wL cc a a2 q o τ1 σ1) → va_S (aNew s) s.heap H locs → lv_has ls 7 [(4, .int i), (3, .ref q), (2, .ref (a2 0)), (1, .ref (a 19)), (0, .ref b)] → W p l e room_1 s m #[Value.ref b] below meth c H locs (cells + 1) (slots + 6) Q (F0 m 678 ls [])) : W p l e room_1 s m #[Value.ref b] below meth c H locs cells slots Q (F0 m 495 ls []) := by
  obtain ⟨hx, hb, hr, hml, hown, hts, hX, hbl, hlocks, hK, hTS, hLX, hl0⟩ := C
  have hA : ∀ q : Nat, s.heap.size ≤ q → aNew s q := fun _ h => h
  have hbA : ¬ aNew s b := Nat.not_le.mpr hbl
  have hKM : va_K D vwCl (tyM cc) s := hK.sub [0, 1, 2, 3] rfl
  refine lv_aload_n hx hb dL_law_495 rfl (lv_at hl 3 rfl) ?_
  refine lv_aload_n hx hb dL_law_496 rfl (lv_at hl 4 rfl) ?_
  refine lv_iload hx hb dL_law_497 (lv_at hl 0 rfl) ?_
  refine lv_iconst (v := 1) hx hb dL_law_499 (by decide) ?_
  refine lv_iadd hx hb dL_law_500 ?_
  refine va_sld hx hb hX hbl hbA hS hi1 dL_law_501 ?_
  refine lv_aload_n hx hb dL_law_502 rfl (lv_at hl 1 rfl) ?_
  refine L_H (Y := wM a2 cc σ) (n := 3) (As := [.ref (a 19), .int (xs (i + 1).toNatClampNeg), .ref q]) (rest := []) ⟨hx, hb, hml, hown, hts⟩ (fun sz => kL_step hl0 sz h1 hxx) (LA_gH iH_step) (by decide +kernel) hK hTS hLX hP hD hS hA ⟨Nat.le_of_ble_eq_true rfl, Nat.le_of_ble_eq_true rfl⟩ ⟨rfl, rfl⟩ hf rfl hl.1 rfl (lv_room (Nat.le_of_ble_eq_true rfl)) dL_law_503 (fun H locs hP hD hS => ?_)
  have hP : va_P D vwCl (wL cc a a2 q (oI o x v) τ1 σ) H := hP
  have hD : va_D (aNew s) (wL cc a a2 q (oI o x v) τ1 σ) := hD
  refine lv_istore (lv' := [(5, .int (hL 3 x)), (4, .int i), (3, .ref q), (2, .ref (a2 0)), (1, .ref (a 19)), (0, .ref b)]) hx hb dL_law_506 hl (by decide) rfl (fun ls hl => ?_)
  refine lv_aload_n hx hb dL_law_508 rfl (lv_at hl 3 rfl) ?_
  refine lv_aload_n hx hb dL_law_509 rfl (lv_at hl 5 rfl) ?_
  refine lv_iload hx hb dL_law_510 (lv_at hl 1 rfl) ?_
  refine lv_iconst (v := 1) hx hb dL_law_512 (by decide) ?_
  refine lv_iadd hx hb dL_law_513 ?_
  refine va_sld hx hb hX hbl hbA hS hi1 dL_law_514 ?_
  rw [wL_M] at hP hD
  refine L_Mi (X := oW cc q (oI o x v) :: wT a cc τ1) (Y := []) (n := 1) (As := [.int (xs (i + 1).toNatClampNeg)]) (rest := []) ⟨hx, hb, hml, hown, hts⟩ (fun sz => kX9_step l sz h2) (LA_gM iM_step) ⟨rfl, by decide +kernel⟩ hKM hP hD hS hA ⟨Nat.le_of_ble_eq_true rfl, Nat.le_of_ble_eq_true rfl⟩ ⟨rfl, rfl⟩ hf rfl hl.1 rfl (lv_room (Nat.le_of_ble_eq_true rfl)) dL_law_515 (fun H locs hP hD hS => ?_)
  rw [← wL_M] at hP hD
  refine lv_istore (lv' := [(6, .int r), (5, .int (hL 3 x)), (4, .int i), (3, .ref q), (2, .ref (a2 0)), (1, .ref (a 19)), (0, .ref b)]) hx hb dL_law_518 hl (by decide) rfl (fun ls hl => ?_)
  refine lv_aload_n hx hb dL_law_520 rfl (lv_at hl 4 rfl) ?_
  rw [wL_M] at hP hD
  refine L_Mi (X := oW cc q (oI o x v) :: wT a cc τ1) (Y := []) (n := 0) (As := []) (rest := []) ⟨hx, hb, hml, hown, hts⟩ (fun sz => kX9_thrown l sz h3) (LA_gM iM_thrown) ⟨rfl, by decide +kernel⟩ hKM hP hD hS hA ⟨Nat.le_of_ble_eq_true rfl, Nat.le_of_ble_eq_true rfl⟩ ⟨rfl, rfl⟩ hf rfl hl.1 rfl (lv_room (Nat.le_of_ble_eq_true rfl)) dL_law_521 (fun H locs hP hD hS => ?_)
  rw [← wL_M] at hP hD
  refine lv_iload hx hb dL_law_524 (lv_at hl 1 rfl) ?_
  refine lv_icmp_eq (tgt := 531) hx hb dL_law_526 (by decide) (fun _ => ?_) (fun h => absurd rfl h)
  have hl0 : lv_has ls 7 [(4, .int i), (3, .ref q), (2, .ref (a2 0)), (1, .ref (a 19)), (0, .ref b)] := lv_sub hl [2, 3, 4, 5, 6] rfl
  refine lv_iload hx hb dL_law_531 (lv_at hl 1 rfl) ?_
  refine lv_if_ne (tgt := 548) hx hb dL_law_533 (by decide) (fun c1 => ?_) (fun c1 => ?_)
  · refine lv_goto (tgt := 678) hx hb dL_law_548 (by decide) ?_
    exact kk _ H locs ls hP hD hS hl0
  · have hx0 : x = 0 := by
      rcases hxx with rfl | rfl | rfl <;> first | rfl | exact absurd c1 (by decide)
    have e1 := h4 hx0
    refine lv_aload_n hx hb dL_law_536 rfl (lv_at hl 3 rfl) ?_
    refine lv_iconst (v := 0) hx hb dL_law_537 (by decide) ?_
    refine va_lald hx hb hK hP 0 3 rfl rfl vp_in01 dL_law_538 ?_
    refine lv_iload hx hb dL_law_539 (lv_at hl 0 rfl) ?_
    refine lv_i2l hx hb dL_law_541 rfl ?_
    refine W.lcmp hx hb dL_law_542 ?_
    refine lv_if_eq (tgt := 548) hx hb dL_law_543 (by decide) (fun _ => ?_) (fun h => absurd (by subst hx0; subst e1; exact cmp_l rfl) h)
    refine lv_goto (tgt := 678) hx hb dL_law_548 (by decide) ?_
    exact kk _ H locs ls hP hD hS hl0
set_option maxHeartbeats 4000000 in
theorem lw_op9 (C : L_Cx st l D cc p s m meth c b L xs) {r : Int32} (h1 : fX8_time N τ = some (r, τ1)) (h2 : fX9_time N σ = some (r, σ1)) (hf : cells + 1 ≤ room_1.cells ∧ slots + 6 ≤ room_1.slots) (hP : va_P D vwCl (wL cc a a2 q o τ σ) H) (hD : va_D (aNew s) (wL cc a a2 q o τ σ)) (hS : va_S (aNew s) s.heap H locs) (hl : lv_has ls 7 [(4, .int i), (3, .ref q), (2, .ref (a2 0)), (1, .ref (a 19)), (0, .ref b)])
    (kk : ∀ (o : Nat → Int64) (H : Heap) (locs : List Loc) (ls : Array Slot), va_P D vwCl (wL cc a a2 q o τ1 σ1) H → va_D (aNew s) (wL cc a a2 q o τ1 σ1) → va_S (aNew s) s.heap H locs → lv_has ls 7 [(4, .int i), (3, .ref q), (2, .ref (a2 0)), (1, .ref (a 19)), (0, .ref b)] → W p l e room_1 s m #[Value.ref b] below meth c H locs (cells + 1) (slots + 6) Q (F0 m 678 ls [])) : W p l e room_1 s m #[Value.ref b] below meth c H locs cells slots Q (F0 m 551 ls []) := by
  obtain ⟨hx, hb, hr, hml, hown, hts, hX, hbl, hlocks, hK, hTS, hLX, hl0⟩ := C
  have hA : ∀ q : Nat, s.heap.size ≤ q → aNew s q := fun _ h => h
  have hbA : ¬ aNew s b := Nat.not_le.mpr hbl
  have hKM : va_K D vwCl (tyM cc) s := hK.sub [0, 1, 2, 3] rfl
  refine lv_aload_n hx hb dL_law_551 rfl (lv_at hl 3 rfl) ?_
  refine L_Ti (X := [oW cc q o]) (Y := wM a2 cc σ) (n := 0) (As := []) (rest := []) ⟨hx, hb, hml, hown, hts⟩ (fun sz => kX8_time hl0 sz h1) (LA_gT iT_time) ⟨rfl, by decide +kernel⟩ hK hTS hP hD hS hA ⟨Nat.le_of_ble_eq_true rfl, Nat.le_of_ble_eq_true rfl⟩ ⟨rfl, rfl⟩ ⟨Nat.le_of_succ_le hf.1, Nat.le_trans (Nat.le_add_right _ 6) hf.2⟩ rfl hl.1 rfl (lv_room (Nat.le_of_ble_eq_true rfl)) dL_law_552 (fun H locs hP hD hS => ?_)
  have hP : va_P D vwCl (wL cc a a2 q o τ1 σ) H := hP
  have hD : va_D (aNew s) (wL cc a a2 q o τ1 σ) := hD
  refine lv_aload_n hx hb dL_law_555 rfl (lv_at hl 2 rfl) ?_
  rw [wL_M] at hP hD
  refine L_Mi (X := oW cc q o :: wT a cc τ1) (Y := []) (n := 0) (As := []) (rest := [.int r]) ⟨hx, hb, hml, hown, hts⟩ (fun sz => kX9_time l sz h2) (LA_gM iM_time) ⟨rfl, by decide +kernel⟩ hKM hP hD hS hA ⟨Nat.le_of_ble_eq_true rfl, Nat.le_of_ble_eq_true rfl⟩ ⟨rfl, rfl⟩ ⟨Nat.le_of_succ_le hf.1, Nat.le_trans (Nat.le_add_right _ 6) hf.2⟩ rfl hl.1 rfl (lv_room (Nat.le_of_ble_eq_true rfl)) dL_law_556 (fun H locs hP hD hS => ?_)
  rw [← wL_M] at hP hD
  refine lv_icmp_eq (tgt := 678) hx hb dL_law_559 (by decide) (fun _ => ?_) (fun h => absurd rfl h)
  exact W.widen (Nat.le_add_right _ _) (Nat.le_add_right _ _) (kk o H locs ls hP hD hS hl)
set_option maxHeartbeats 4000000 in
theorem lw_op10 (C : L_Cx st l D cc p s m meth c b L xs) {r : Int32} (h1 : fX8_window N τ = some (r, τ1)) (h2 : fX9_window N σ = some (r, σ1)) (hf : cells + 1 ≤ room_1.cells ∧ slots + 6 ≤ room_1.slots) (hP : va_P D vwCl (wL cc a a2 q o τ σ) H) (hD : va_D (aNew s) (wL cc a a2 q o τ σ)) (hS : va_S (aNew s) s.heap H locs) (hl : lv_has ls 7 [(4, .int i), (3, .ref q), (2, .ref (a2 0)), (1, .ref (a 19)), (0, .ref b)])
    (kk : ∀ (o : Nat → Int64) (H : Heap) (locs : List Loc) (ls : Array Slot), va_P D vwCl (wL cc a a2 q o τ1 σ1) H → va_D (aNew s) (wL cc a a2 q o τ1 σ1) → va_S (aNew s) s.heap H locs → lv_has ls 7 [(4, .int i), (3, .ref q), (2, .ref (a2 0)), (1, .ref (a 19)), (0, .ref b)] → W p l e room_1 s m #[Value.ref b] below meth c H locs (cells + 1) (slots + 6) Q (F0 m 678 ls [])) : W p l e room_1 s m #[Value.ref b] below meth c H locs cells slots Q (F0 m 564 ls []) := by
  obtain ⟨hx, hb, hr, hml, hown, hts, hX, hbl, hlocks, hK, hTS, hLX, hl0⟩ := C
  have hA : ∀ q : Nat, s.heap.size ≤ q → aNew s q := fun _ h => h
  have hbA : ¬ aNew s b := Nat.not_le.mpr hbl
  have hKM : va_K D vwCl (tyM cc) s := hK.sub [0, 1, 2, 3] rfl
  refine lv_aload_n hx hb dL_law_564 rfl (lv_at hl 3 rfl) ?_
  refine L_Ti (X := [oW cc q o]) (Y := wM a2 cc σ) (n := 0) (As := []) (rest := []) ⟨hx, hb, hml, hown, hts⟩ (fun sz => kX8_window hl0 sz h1) (LA_gT iT_window) ⟨rfl, by decide +kernel⟩ hK hTS hP hD hS hA ⟨Nat.le_of_ble_eq_true rfl, Nat.le_of_ble_eq_true rfl⟩ ⟨rfl, rfl⟩ ⟨Nat.le_of_succ_le hf.1, Nat.le_trans (Nat.le_add_right _ 6) hf.2⟩ rfl hl.1 rfl (lv_room (Nat.le_of_ble_eq_true rfl)) dL_law_565 (fun H locs hP hD hS => ?_)
  have hP : va_P D vwCl (wL cc a a2 q o τ1 σ) H := hP
  have hD : va_D (aNew s) (wL cc a a2 q o τ1 σ) := hD
  refine lv_aload_n hx hb dL_law_568 rfl (lv_at hl 2 rfl) ?_
  rw [wL_M] at hP hD
  refine L_Mi (X := oW cc q o :: wT a cc τ1) (Y := []) (n := 0) (As := []) (rest := [.int r]) ⟨hx, hb, hml, hown, hts⟩ (fun sz => kX9_window l sz h2) (LA_gM iM_window) ⟨rfl, by decide +kernel⟩ hKM hP hD hS hA ⟨Nat.le_of_ble_eq_true rfl, Nat.le_of_ble_eq_true rfl⟩ ⟨rfl, rfl⟩ ⟨Nat.le_of_succ_le hf.1, Nat.le_trans (Nat.le_add_right _ 6) hf.2⟩ rfl hl.1 rfl (lv_room (Nat.le_of_ble_eq_true rfl)) dL_law_569 (fun H locs hP hD hS => ?_)
  rw [← wL_M] at hP hD
  refine lv_icmp_eq (tgt := 678) hx hb dL_law_572 (by decide) (fun _ => ?_) (fun h => absurd rfl h)
  exact W.widen (Nat.le_add_right _ _) (Nat.le_add_right _ _) (kk o H locs ls hP hD hS hl)
set_option maxHeartbeats 4000000 in
theorem lw_op11 (C : L_Cx st l D cc p s m meth c b L xs) (hi1 : vp_in (i + 1) L) {x v r : Int32} {σ2 : St} (h1 : fX8_loop N τ (xs (i + 1).toNatClampNeg) = some (x, v, τ1)) (hxx : x = 0 ∨ x = 3 ∨ x = 5) (h2 : fX9_loop N σ (xs (i + 1).toNatClampNeg) = some (r, σ2)) (h3 : fX9_thrown N σ2 = some (hL 3 x, σ1)) (h4 : x = 0 → v = r) (hf : cells + 1 ≤ room_1.cells ∧ slots + 6 ≤ room_1.slots) (hP : va_P D vwCl (wL cc a a2 q o τ σ) H) (hD : va_D (aNew s) (wL cc a a2 q o τ σ)) (hS : va_S (aNew s) s.heap H locs) (hl : lv_has ls 7 [(4, .int i), (3, .ref q), (2, .ref (a2 0)), (1, .ref (a 19)), (0, .ref b)])
    (kk : ∀ (o : Nat → Int64) (H : Heap) (locs : List Loc) (ls : Array Slot), va_P D vwCl (wL cc a a2 q o τ1 σ1) H → va_D (aNew s) (wL cc a a2 q o τ1 σ1) → va_S (aNew s) s.heap H locs → lv_has ls 7 [(4, .int i), (3, .ref q), (2, .ref (a2 0)), (1, .ref (a 19)), (0, .ref b)] → W p l e room_1 s m #[Value.ref b] below meth c H locs (cells + 1) (slots + 6) Q (F0 m 678 ls [])) : W p l e room_1 s m #[Value.ref b] below meth c H locs cells slots Q (F0 m 577 ls []) := by
  obtain ⟨hx, hb, hr, hml, hown, hts, hX, hbl, hlocks, hK, hTS, hLX, hl0⟩ := C
  have hA : ∀ q : Nat, s.heap.size ≤ q → aNew s q := fun _ h => h
  have hbA : ¬ aNew s b := Nat.not_le.mpr hbl
  have hKM : va_K D vwCl (tyM cc) s := hK.sub [0, 1, 2, 3] rfl
  refine lv_aload_n hx hb dL_law_577 rfl (lv_at hl 3 rfl) ?_
  refine lv_aload_n hx hb dL_law_578 rfl (lv_at hl 4 rfl) ?_
  refine lv_iload hx hb dL_law_579 (lv_at hl 0 rfl) ?_
  refine lv_iconst (v := 1) hx hb dL_law_581 (by decide) ?_
  refine lv_iadd hx hb dL_law_582 ?_
  refine va_sld hx hb hX hbl hbA hS hi1 dL_law_583 ?_
  refine lv_aload_n hx hb dL_law_584 rfl (lv_at hl 1 rfl) ?_
  refine L_H (Y := wM a2 cc σ) (n := 3) (As := [.ref (a 19), .int (xs (i + 1).toNatClampNeg), .ref q]) (rest := []) ⟨hx, hb, hml, hown, hts⟩ (fun sz => kL_loop hl0 sz h1 hxx) (LA_gH iH_loop) (by decide +kernel) hK hTS hLX hP hD hS hA ⟨Nat.le_of_ble_eq_true rfl, Nat.le_of_ble_eq_true rfl⟩ ⟨rfl, rfl⟩ hf rfl hl.1 rfl (lv_room (Nat.le_of_ble_eq_true rfl)) dL_law_585 (fun H locs hP hD hS => ?_)
  have hP : va_P D vwCl (wL cc a a2 q (oZ o x v) τ1 σ) H := hP
  have hD : va_D (aNew s) (wL cc a a2 q (oZ o x v) τ1 σ) := hD
  refine lv_istore (lv' := [(5, .int (hL 3 x)), (4, .int i), (3, .ref q), (2, .ref (a2 0)), (1, .ref (a 19)), (0, .ref b)]) hx hb dL_law_588 hl (by decide) rfl (fun ls hl => ?_)
  refine lv_aload_n hx hb dL_law_590 rfl (lv_at hl 3 rfl) ?_
  refine lv_aload_n hx hb dL_law_591 rfl (lv_at hl 5 rfl) ?_
  refine lv_iload hx hb dL_law_592 (lv_at hl 1 rfl) ?_
  refine lv_iconst (v := 1) hx hb dL_law_594 (by decide) ?_
  refine lv_iadd hx hb dL_law_595 ?_
  refine va_sld hx hb hX hbl hbA hS hi1 dL_law_596 ?_
  rw [wL_M] at hP hD
  refine L_Mi (X := oW cc q (oZ o x v) :: wT a cc τ1) (Y := []) (n := 1) (As := [.int (xs (i + 1).toNatClampNeg)]) (rest := []) ⟨hx, hb, hml, hown, hts⟩ (fun sz => kX9_loop l sz h2) (LA_gM iM_loop) ⟨rfl, by decide +kernel⟩ hKM hP hD hS hA ⟨Nat.le_of_ble_eq_true rfl, Nat.le_of_ble_eq_true rfl⟩ ⟨rfl, rfl⟩ hf rfl hl.1 rfl (lv_room (Nat.le_of_ble_eq_true rfl)) dL_law_597 (fun H locs hP hD hS => ?_)
  rw [← wL_M] at hP hD
  refine lv_istore (lv' := [(6, .int r), (5, .int (hL 3 x)), (4, .int i), (3, .ref q), (2, .ref (a2 0)), (1, .ref (a 19)), (0, .ref b)]) hx hb dL_law_600 hl (by decide) rfl (fun ls hl => ?_)
  refine lv_aload_n hx hb dL_law_602 rfl (lv_at hl 4 rfl) ?_
  rw [wL_M] at hP hD
  refine L_Mi (X := oW cc q (oZ o x v) :: wT a cc τ1) (Y := []) (n := 0) (As := []) (rest := []) ⟨hx, hb, hml, hown, hts⟩ (fun sz => kX9_thrown l sz h3) (LA_gM iM_thrown) ⟨rfl, by decide +kernel⟩ hKM hP hD hS hA ⟨Nat.le_of_ble_eq_true rfl, Nat.le_of_ble_eq_true rfl⟩ ⟨rfl, rfl⟩ hf rfl hl.1 rfl (lv_room (Nat.le_of_ble_eq_true rfl)) dL_law_603 (fun H locs hP hD hS => ?_)
  rw [← wL_M] at hP hD
  refine lv_iload hx hb dL_law_606 (lv_at hl 1 rfl) ?_
  refine lv_icmp_eq (tgt := 613) hx hb dL_law_608 (by decide) (fun _ => ?_) (fun h => absurd rfl h)
  have hl0 : lv_has ls 7 [(4, .int i), (3, .ref q), (2, .ref (a2 0)), (1, .ref (a 19)), (0, .ref b)] := lv_sub hl [2, 3, 4, 5, 6] rfl
  refine lv_iload hx hb dL_law_613 (lv_at hl 1 rfl) ?_
  refine lv_if_ne (tgt := 637) hx hb dL_law_615 (by decide) (fun c1 => ?_) (fun c1 => ?_)
  · refine lv_goto (tgt := 678) hx hb dL_law_637 (by decide) ?_
    exact kk _ H locs ls hP hD hS hl0
  · have hx0 : x = 0 := by
      rcases hxx with rfl | rfl | rfl <;> first | rfl | exact absurd c1 (by decide)
    have e1 := h4 hx0
    refine lv_aload_n hx hb dL_law_618 rfl (lv_at hl 3 rfl) ?_
    refine lv_iconst (v := 0) hx hb dL_law_619 (by decide) ?_
    refine va_lald hx hb hK hP 0 3 rfl rfl vp_in01 dL_law_620 ?_
    refine lv_iload hx hb dL_law_621 (lv_at hl 0 rfl) ?_
    refine lv_if_eq (tgt := 630) hx hb dL_law_623 (by decide) (fun c2 => ?_) (fun c2 => ?_)
    · refine lv_lconst hx hb dL_law_630 rfl ?_
      refine W.lcmp hx hb dL_law_631 ?_
      refine lv_if_eq (tgt := 637) hx hb dL_law_632 (by decide) (fun _ => ?_) (fun h => absurd (by subst hx0; subst e1; exact cmp_l (if_pos c2)) h)
      refine lv_goto (tgt := 678) hx hb dL_law_637 (by decide) ?_
      exact kk _ H locs ls hP hD hS hl0
    · refine lv_lconst hx hb dL_law_626 rfl ?_
      refine lv_goto (tgt := 631) hx hb dL_law_627 (by decide) ?_
      refine W.lcmp hx hb dL_law_631 ?_
      refine lv_if_eq (tgt := 637) hx hb dL_law_632 (by decide) (fun _ => ?_) (fun h => absurd (by subst hx0; subst e1; exact cmp_l (if_neg c2)) h)
      refine lv_goto (tgt := 678) hx hb dL_law_637 (by decide) ?_
      exact kk _ H locs ls hP hD hS hl0
set_option maxHeartbeats 4000000 in
theorem lw_op12 (C : L_Cx st l D cc p s m meth c b L xs) {r : Int32} (h1 : fX8_report N τ = some (r, τ1)) (h2 : fX9_report N σ = some (r, σ1)) (hf : cells + 1 ≤ room_1.cells ∧ slots + 6 ≤ room_1.slots) (hP : va_P D vwCl (wL cc a a2 q o τ σ) H) (hD : va_D (aNew s) (wL cc a a2 q o τ σ)) (hS : va_S (aNew s) s.heap H locs) (hl : lv_has ls 7 [(4, .int i), (3, .ref q), (2, .ref (a2 0)), (1, .ref (a 19)), (0, .ref b)])
    (kk : ∀ (o : Nat → Int64) (H : Heap) (locs : List Loc) (ls : Array Slot), va_P D vwCl (wL cc a a2 q o τ1 σ1) H → va_D (aNew s) (wL cc a a2 q o τ1 σ1) → va_S (aNew s) s.heap H locs → lv_has ls 7 [(4, .int i), (3, .ref q), (2, .ref (a2 0)), (1, .ref (a 19)), (0, .ref b)] → W p l e room_1 s m #[Value.ref b] below meth c H locs (cells + 1) (slots + 6) Q (F0 m 678 ls [])) : W p l e room_1 s m #[Value.ref b] below meth c H locs cells slots Q (F0 m 640 ls []) := by
  obtain ⟨hx, hb, hr, hml, hown, hts, hX, hbl, hlocks, hK, hTS, hLX, hl0⟩ := C
  have hA : ∀ q : Nat, s.heap.size ≤ q → aNew s q := fun _ h => h
  have hbA : ¬ aNew s b := Nat.not_le.mpr hbl
  have hKM : va_K D vwCl (tyM cc) s := hK.sub [0, 1, 2, 3] rfl
  refine lv_aload_n hx hb dL_law_640 rfl (lv_at hl 3 rfl) ?_
  refine L_Ti (X := [oW cc q o]) (Y := wM a2 cc σ) (n := 0) (As := []) (rest := []) ⟨hx, hb, hml, hown, hts⟩ (fun sz => kX8_report hl0 sz h1) (LA_gT iT_report) ⟨rfl, by decide +kernel⟩ hK hTS hP hD hS hA ⟨Nat.le_of_ble_eq_true rfl, Nat.le_of_ble_eq_true rfl⟩ ⟨rfl, rfl⟩ ⟨Nat.le_of_succ_le hf.1, Nat.le_trans (Nat.le_add_right _ 6) hf.2⟩ rfl hl.1 rfl (lv_room (Nat.le_of_ble_eq_true rfl)) dL_law_641 (fun H locs hP hD hS => ?_)
  have hP : va_P D vwCl (wL cc a a2 q o τ1 σ) H := hP
  have hD : va_D (aNew s) (wL cc a a2 q o τ1 σ) := hD
  refine lv_aload_n hx hb dL_law_644 rfl (lv_at hl 2 rfl) ?_
  rw [wL_M] at hP hD
  refine L_Mi (X := oW cc q o :: wT a cc τ1) (Y := []) (n := 0) (As := []) (rest := [.int r]) ⟨hx, hb, hml, hown, hts⟩ (fun sz => kX9_report l sz h2) (LA_gM iM_report) ⟨rfl, by decide +kernel⟩ hKM hP hD hS hA ⟨Nat.le_of_ble_eq_true rfl, Nat.le_of_ble_eq_true rfl⟩ ⟨rfl, rfl⟩ ⟨Nat.le_of_succ_le hf.1, Nat.le_trans (Nat.le_add_right _ 6) hf.2⟩ rfl hl.1 rfl (lv_room (Nat.le_of_ble_eq_true rfl)) dL_law_645 (fun H locs hP hD hS => ?_)
  rw [← wL_M] at hP hD
  refine lv_icmp_eq (tgt := 678) hx hb dL_law_648 (by decide) (fun _ => ?_) (fun h => absurd rfl h)
  exact W.widen (Nat.le_add_right _ _) (Nat.le_add_right _ _) (kk o H locs ls hP hD hS hl)
set_option maxHeartbeats 4000000 in
theorem lw_op13 (C : L_Cx st l D cc p s m meth c b L xs) (hi1 : vp_in (i + 1) L) {r : Int32} (h1 : fX8_said N τ (xs (i + 1).toNatClampNeg) = some (r, τ1)) (h2 : fX9_said N σ (xs (i + 1).toNatClampNeg) = some (r, σ1)) (hf : cells + 1 ≤ room_1.cells ∧ slots + 6 ≤ room_1.slots) (hP : va_P D vwCl (wL cc a a2 q o τ σ) H) (hD : va_D (aNew s) (wL cc a a2 q o τ σ)) (hS : va_S (aNew s) s.heap H locs) (hl : lv_has ls 7 [(4, .int i), (3, .ref q), (2, .ref (a2 0)), (1, .ref (a 19)), (0, .ref b)])
    (kk : ∀ (o : Nat → Int64) (H : Heap) (locs : List Loc) (ls : Array Slot), va_P D vwCl (wL cc a a2 q o τ1 σ1) H → va_D (aNew s) (wL cc a a2 q o τ1 σ1) → va_S (aNew s) s.heap H locs → lv_has ls 7 [(4, .int i), (3, .ref q), (2, .ref (a2 0)), (1, .ref (a 19)), (0, .ref b)] → W p l e room_1 s m #[Value.ref b] below meth c H locs (cells + 1) (slots + 6) Q (F0 m 678 ls [])) : W p l e room_1 s m #[Value.ref b] below meth c H locs cells slots Q (F0 m 653 ls []) := by
  obtain ⟨hx, hb, hr, hml, hown, hts, hX, hbl, hlocks, hK, hTS, hLX, hl0⟩ := C
  have hA : ∀ q : Nat, s.heap.size ≤ q → aNew s q := fun _ h => h
  have hbA : ¬ aNew s b := Nat.not_le.mpr hbl
  have hKM : va_K D vwCl (tyM cc) s := hK.sub [0, 1, 2, 3] rfl
  refine lv_aload_n hx hb dL_law_653 rfl (lv_at hl 3 rfl) ?_
  refine lv_aload_n hx hb dL_law_654 rfl (lv_at hl 4 rfl) ?_
  refine lv_iload hx hb dL_law_655 (lv_at hl 0 rfl) ?_
  refine lv_iconst (v := 1) hx hb dL_law_657 (by decide) ?_
  refine lv_iadd hx hb dL_law_658 ?_
  refine va_sld hx hb hX hbl hbA hS hi1 dL_law_659 ?_
  refine L_Ti (X := [oW cc q o]) (Y := wM a2 cc σ) (n := 1) (As := [.int (xs (i + 1).toNatClampNeg)]) (rest := []) ⟨hx, hb, hml, hown, hts⟩ (fun sz => kX8_said hl0 sz h1) (LA_gT iT_said) ⟨rfl, by decide +kernel⟩ hK hTS hP hD hS hA ⟨Nat.le_of_ble_eq_true rfl, Nat.le_of_ble_eq_true rfl⟩ ⟨rfl, rfl⟩ ⟨Nat.le_of_succ_le hf.1, Nat.le_trans (Nat.le_add_right _ 6) hf.2⟩ rfl hl.1 rfl (lv_room (Nat.le_of_ble_eq_true rfl)) dL_law_660 (fun H locs hP hD hS => ?_)
  have hP : va_P D vwCl (wL cc a a2 q o τ1 σ) H := hP
  have hD : va_D (aNew s) (wL cc a a2 q o τ1 σ) := hD
  refine lv_aload_n hx hb dL_law_663 rfl (lv_at hl 2 rfl) ?_
  refine lv_aload_n hx hb dL_law_664 rfl (lv_at hl 4 rfl) ?_
  refine lv_iload hx hb dL_law_665 (lv_at hl 0 rfl) ?_
  refine lv_iconst (v := 1) hx hb dL_law_667 (by decide) ?_
  refine lv_iadd hx hb dL_law_668 ?_
  refine va_sld hx hb hX hbl hbA hS hi1 dL_law_669 ?_
  rw [wL_M] at hP hD
  refine L_Mi (X := oW cc q o :: wT a cc τ1) (Y := []) (n := 1) (As := [.int (xs (i + 1).toNatClampNeg)]) (rest := [.int r]) ⟨hx, hb, hml, hown, hts⟩ (fun sz => kX9_said l sz h2) (LA_gM iM_said) ⟨rfl, by decide +kernel⟩ hKM hP hD hS hA ⟨Nat.le_of_ble_eq_true rfl, Nat.le_of_ble_eq_true rfl⟩ ⟨rfl, rfl⟩ ⟨Nat.le_of_succ_le hf.1, Nat.le_trans (Nat.le_add_right _ 6) hf.2⟩ rfl hl.1 rfl (lv_room (Nat.le_of_ble_eq_true rfl)) dL_law_670 (fun H locs hP hD hS => ?_)
  rw [← wL_M] at hP hD
  refine lv_icmp_eq (tgt := 678) hx hb dL_law_673 (by decide) (fun _ => ?_) (fun h => absurd rfl h)
  exact W.widen (Nat.le_add_right _ _) (Nat.le_add_right _ _) (kk o H locs ls hP hD hS hl)
end LOPS
