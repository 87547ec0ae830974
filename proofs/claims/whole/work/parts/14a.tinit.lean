set_option maxRecDepth 100000
abbrev rmX5_init : Room := { frames := 1, cells := 0, slots := 0, locals := 30 }
set_option maxHeartbeats 8000000 in
set_option maxRecDepth 100000 in
theorem kX5_init {l : Launch} (h0 sz : Nat) {D : va_G} {cc : Nat → ClassId} : Met l yX5_init (Cond.code yX5_init cX5_init 1 none :: WT) rmX5_init (CI_Pc D cc [.ref h0] [(h0, .inr (9, [.int 0, .int 0, .int 0, .int 0, .int 0, .int 0, .int 0, .int 0, .int 0]))] sz) (CI_Q D cc [(h0, .inr (9, [.int 0, .int 0, .int 0, .int 0, .int 0, .int 0, .int 0, .int 0, .int 0]))] sz 0 (fun u => [(h0, .inr (9, [.int 0, .int 0, .int 0, .int 0, .int 0, .int 0, .int 0, .int 0, .int 0]))])) 0 0 (va_A [(h0, .inr (9, [.int 0, .int 0, .int 0, .int 0, .int 0, .int 0, .int 0, .int 0, .int 0]))] sz) := by
  refine Met.ofW (cc := cX5_init) (maxL := 1) (ret := none) (by decide) rfl ?_
  intro p e s m args below meth c s₁ B hml hv
  obtain ⟨rfl, hsz, hP, hK, hD0, hcix⟩ := hv
  subst hsz
  have hx := B.exec
  have hb := B.bytes
  have hr := B.returns
  have hts := atoms_spec (ws := Cond.code yX5_init cX5_init 1 none :: WT) B.pre
  have hown : s.vm.findClass RX5 = some m.cls := findClass_of_methodNamed B.named
  have hlocks := B.notSynchronized
  have hinit : meth.name = "<init>" := (name_of_methodNamed B.named B.method).1
  have hin := fun (w : Cond) (h : w ∈ wsX50) => List.mem_cons_of_mem (Cond.code yX5_init cX5_init 1 none) (inX5_WT w h)
  have hD := hD0.self (sz := s.heap.size)
  unfold CI_Q
  generalize hAe : va_A [(h0, .inr (9, [.int 0, .int 0, .int 0, .int 0, .int 0, .int 0, .int 0, .int 0, .int 0]))] s.heap.size = A at hD hcix ⊢
  have hA : ∀ q : Nat, s.heap.size ≤ q → A q := fun q h => by rw [← hAe]; exact Or.inr h
  have hS : va_S A s.heap s.heap [] := va_S.rf
  have hl := lv_entry ([.ref h0]) (n := 1) (Nat.le_of_ble_eq_true rfl)
  rw [lg_entry_eq]
  generalize (lg_sl ([.ref h0]) ++ List.replicate (1 - (lg_sl ([.ref h0])).length) Slot.unset).toArray = ls at hl ⊢
  refine lv_aload_n hx hb dX5_init_0 rfl (lv_at hl 0 rfl) ?_
  refine W.objInit hx hb hown (hts _ (List.mem_cons_of_mem _ (memWT (i := 478) rfl))) (hts _ (List.mem_cons_of_mem _ (memWT (i := 483) rfl))) (hts _ (List.mem_cons_of_mem _ (memWT (i := 484) rfl))) rfl (by rw [hml]; exact hl.1) rfl dX5_init_1 (Nat.le_of_ble_eq_true rfl) (Nat.le_of_ble_eq_true rfl) ?_
  refine W.eq (g2 := F0 m 4 ls []) rfl ?_
  exact W.vret hx hb hr (fun t ht hW => ⟨⟨[], rfl, rfl, by rw [ht]; exact hP, va_K.moved hW.alike hK, hD⟩, hS.F ht⟩) hS.2.2 dX5_init_4
abbrev rmX6_init : Room := { frames := 1, cells := 0, slots := 0, locals := 30 }
set_option maxHeartbeats 8000000 in
set_option maxRecDepth 100000 in
theorem kX6_init {l : Launch} (h0 sz : Nat) (p0 : Nat) (p1 : Nat) {D : va_G} {cc : Nat → ClassId} : Met l yX6_init (Cond.code yX6_init cX6_init 3 none :: WT) rmX6_init (CI_Pc D cc [.ref h0, .ref p0, .ref p1] [(h0, .inr (10, [.null, .null, .int 0, .int 0, .int 0, .int 0, .int 0]))] sz) (CI_Q D cc [(h0, .inr (10, [.null, .null, .int 0, .int 0, .int 0, .int 0, .int 0]))] sz 0 (fun u => [(h0, .inr (10, [.ref p0, .ref p1, .int (0 : Int32), .int (0 : Int32), .int (-1 : Int32), .int 0, .int 0]))])) 0 0 (va_A [(h0, .inr (10, [.null, .null, .int 0, .int 0, .int 0, .int 0, .int 0]))] sz) := by
  refine Met.ofW (cc := cX6_init) (maxL := 3) (ret := none) (by decide) rfl ?_
  intro p e s m args below meth c s₁ B hml hv
  obtain ⟨rfl, hsz, hP, hK, hD0, hcix⟩ := hv
  subst hsz
  have hx := B.exec
  have hb := B.bytes
  have hr := B.returns
  have hts := atoms_spec (ws := Cond.code yX6_init cX6_init 3 none :: WT) B.pre
  have hown : s.vm.findClass RX6 = some m.cls := findClass_of_methodNamed B.named
  have hlocks := B.notSynchronized
  have hinit : meth.name = "<init>" := (name_of_methodNamed B.named B.method).1
  have hin := fun (w : Cond) (h : w ∈ wsX60) => List.mem_cons_of_mem (Cond.code yX6_init cX6_init 3 none) (inX6_WT w h)
  have hD := hD0.self (sz := s.heap.size)
  unfold CI_Q
  generalize hAe : va_A [(h0, .inr (10, [.null, .null, .int 0, .int 0, .int 0, .int 0, .int 0]))] s.heap.size = A at hD hcix ⊢
  have hA : ∀ q : Nat, s.heap.size ≤ q → A q := fun q h => by rw [← hAe]; exact Or.inr h
  have hS : va_S A s.heap s.heap [] := va_S.rf
  have hl := lv_entry ([.ref h0, .ref p0, .ref p1]) (n := 3) (Nat.le_of_ble_eq_true rfl)
  rw [lg_entry_eq]
  generalize (lg_sl ([.ref h0, .ref p0, .ref p1]) ++ List.replicate (3 - (lg_sl ([.ref h0, .ref p0, .ref p1])).length) Slot.unset).toArray = ls at hl ⊢
  refine lv_aload_n hx hb dX6_init_0 rfl (lv_at hl 0 rfl) ?_
  refine W.objInit hx hb hown (hts _ (List.mem_cons_of_mem _ (memWT (i := 479) rfl))) (hts _ (List.mem_cons_of_mem _ (memWT (i := 483) rfl))) (hts _ (List.mem_cons_of_mem _ (memWT (i := 484) rfl))) rfl (by rw [hml]; exact hl.1) rfl dX6_init_1 (Nat.le_of_ble_eq_true rfl) (Nat.le_of_ble_eq_true rfl) ?_
  refine W.eq (g2 := F0 m 4 ls []) rfl ?_
  refine lv_aload_n hx hb dX6_init_4 rfl (lv_at hl 0 rfl) ?_
  refine lv_aload_n hx hb dX6_init_5 rfl (lv_at hl 1 rfl) ?_
  refine va_putF (D := D) (ci := 10) (v := .ref p0) (ty := .array .char) (C := RX6) (T := TX6) (N := 7) hx hb hts hin tyX6 tyX6_ok nmX6 hown hK hP hD hS 0 rfl rfl 0 (by decide) (hts _ (List.mem_cons_of_mem _ (memWT (i := 77) rfl))) (fun _ h9 => h9) rfl hinit rfl (by decide +kernel) rfl rfl (Nat.le_of_ble_eq_true rfl) dX6_init_6 (fun H locs hP hD hS => ?_)
  have hP : va_P D vwCl [(h0, .inr (10, [.ref p0, .null, .int 0, .int 0, .int 0, .int 0, .int 0]))] H := hP
  have hD : va_D A [(h0, .inr (10, [.ref p0, .null, .int 0, .int 0, .int 0, .int 0, .int 0]))] := hD
  refine lv_aload_n hx hb dX6_init_9 rfl (lv_at hl 0 rfl) ?_
  refine lv_aload_n hx hb dX6_init_10 rfl (lv_at hl 2 rfl) ?_
  refine va_putF (D := D) (ci := 10) (v := .ref p1) (ty := .object "TraceWarden$Assertion") (C := RX6) (T := TX6) (N := 7) hx hb hts hin tyX6 tyX6_ok nmX6 hown hK hP hD hS 0 rfl rfl 1 (by decide) (hts _ (List.mem_cons_of_mem _ (memWT (i := 78) rfl))) (fun _ h9 => h9) rfl hinit rfl (by decide +kernel) rfl rfl (Nat.le_of_ble_eq_true rfl) dX6_init_11 (fun H locs hP hD hS => ?_)
  have hP : va_P D vwCl [(h0, .inr (10, [.ref p0, .ref p1, .int 0, .int 0, .int 0, .int 0, .int 0]))] H := hP
  have hD : va_D A [(h0, .inr (10, [.ref p0, .ref p1, .int 0, .int 0, .int 0, .int 0, .int 0]))] := hD
  refine lv_aload_n hx hb dX6_init_14 rfl (lv_at hl 0 rfl) ?_
  refine lv_iconst (v := (0 : Int32)) hx hb dX6_init_15 (by decide) ?_
  refine va_put (D := D) (ci := 10) (v := .int (0 : Int32)) (ty := .int) (C := RX6) (T := TX6) (N := 7) hx hb hts hin tyX6 tyX6_ok nmX6 hown hK hP hD hS 0 rfl rfl 2 (by decide) (hts _ (List.mem_cons_of_mem _ (memWT (i := 79) rfl))) (fun _ h9 => h9) rfl (by decide +kernel) rfl rfl (Nat.le_of_ble_eq_true rfl) dX6_init_16 (fun H locs hP hD hS => ?_)
  have hP : va_P D vwCl [(h0, .inr (10, [.ref p0, .ref p1, .int (0 : Int32), .int 0, .int 0, .int 0, .int 0]))] H := hP
  have hD : va_D A [(h0, .inr (10, [.ref p0, .ref p1, .int (0 : Int32), .int 0, .int 0, .int 0, .int 0]))] := hD
  refine lv_aload_n hx hb dX6_init_19 rfl (lv_at hl 0 rfl) ?_
  refine lv_iconst (v := (0 : Int32)) hx hb dX6_init_20 (by decide) ?_
  refine va_put (D := D) (ci := 10) (v := .int (0 : Int32)) (ty := .int) (C := RX6) (T := TX6) (N := 7) hx hb hts hin tyX6 tyX6_ok nmX6 hown hK hP hD hS 0 rfl rfl 3 (by decide) (hts _ (List.mem_cons_of_mem _ (memWT (i := 80) rfl))) (fun _ h9 => h9) rfl (by decide +kernel) rfl rfl (Nat.le_of_ble_eq_true rfl) dX6_init_21 (fun H locs hP hD hS => ?_)
  have hP : va_P D vwCl [(h0, .inr (10, [.ref p0, .ref p1, .int (0 : Int32), .int (0 : Int32), .int 0, .int 0, .int 0]))] H := hP
  have hD : va_D A [(h0, .inr (10, [.ref p0, .ref p1, .int (0 : Int32), .int (0 : Int32), .int 0, .int 0, .int 0]))] := hD
  refine lv_aload_n hx hb dX6_init_24 rfl (lv_at hl 0 rfl) ?_
  refine lv_iconst (v := (-1 : Int32)) hx hb dX6_init_25 (by decide) ?_
  refine va_put (D := D) (ci := 10) (v := .int (-1 : Int32)) (ty := .int) (C := RX6) (T := TX6) (N := 7) hx hb hts hin tyX6 tyX6_ok nmX6 hown hK hP hD hS 0 rfl rfl 4 (by decide) (hts _ (List.mem_cons_of_mem _ (memWT (i := 81) rfl))) (fun _ h9 => h9) rfl (by decide +kernel) rfl rfl (Nat.le_of_ble_eq_true rfl) dX6_init_26 (fun H locs hP hD hS => ?_)
  have hP : va_P D vwCl [(h0, .inr (10, [.ref p0, .ref p1, .int (0 : Int32), .int (0 : Int32), .int (-1 : Int32), .int 0, .int 0]))] H := hP
  have hD : va_D A [(h0, .inr (10, [.ref p0, .ref p1, .int (0 : Int32), .int (0 : Int32), .int (-1 : Int32), .int 0, .int 0]))] := hD
  exact W.vret hx hb hr (fun t ht hW => ⟨⟨[], rfl, rfl, by rw [ht]; exact hP, va_K.moved hW.alike hK, hD⟩, hS.F ht⟩) hS.2.2 dX6_init_29
abbrev rmX0_init : Room := { frames := 1, cells := 2, slots := 616, locals := 30 }
set_option maxHeartbeats 8000000 in
set_option maxRecDepth 100000 in
theorem kX0_init {l : Launch} (h0 sz : Nat) (p0 : Nat) {D : va_G} {cc : Nat → ClassId} : Met l yX0_init (Cond.code yX0_init cX0_init 2 none :: WT) rmX0_init (CI_Pc D cc [.ref h0, .ref p0] [(h0, .inr (4, [.null, .null, .null, .int 0, .int 0]))] sz) (CI_Q D cc [(h0, .inr (4, [.null, .null, .null, .int 0, .int 0]))] sz 2 (fun u => [(h0, .inr (4, [.ref p0, .ref (u.getD 0 0), .ref (u.getD 1 0), .int (0 : Int32), .int (0 : Int32)])), ((u.getD 0 0), .inl (cc 3, 576, .inr (.inl (fun _ => 0)))), ((u.getD 1 0), .inl (cc 3, 40, .inr (.inl (fun _ => 0))))])) 2 616 (va_A [(h0, .inr (4, [.null, .null, .null, .int 0, .int 0]))] sz) := by
  refine Met.ofW (cc := cX0_init) (maxL := 2) (ret := none) (by decide) rfl ?_
  intro p e s m args below meth c s₁ B hml hv
  obtain ⟨rfl, hsz, hP, hK, hD0, hcix⟩ := hv
  subst hsz
  have hx := B.exec
  have hb := B.bytes
  have hr := B.returns
  have hts := atoms_spec (ws := Cond.code yX0_init cX0_init 2 none :: WT) B.pre
  have hown : s.vm.findClass RX0 = some m.cls := findClass_of_methodNamed B.named
  have hlocks := B.notSynchronized
  have hinit : meth.name = "<init>" := (name_of_methodNamed B.named B.method).1
  have hin := fun (w : Cond) (h : w ∈ wsX00) => List.mem_cons_of_mem (Cond.code yX0_init cX0_init 2 none) (inX0_WT w h)
  have hD := hD0.self (sz := s.heap.size)
  unfold CI_Q
  generalize hAe : va_A [(h0, .inr (4, [.null, .null, .null, .int 0, .int 0]))] s.heap.size = A at hD hcix ⊢
  have hA : ∀ q : Nat, s.heap.size ≤ q → A q := fun q h => by rw [← hAe]; exact Or.inr h
  have hS : va_S A s.heap s.heap [] := va_S.rf
  have hl := lv_entry ([.ref h0, .ref p0]) (n := 2) (Nat.le_of_ble_eq_true rfl)
  rw [lg_entry_eq]
  generalize (lg_sl ([.ref h0, .ref p0]) ++ List.replicate (2 - (lg_sl ([.ref h0, .ref p0])).length) Slot.unset).toArray = ls at hl ⊢
  refine lv_aload_n hx hb dX0_init_0 rfl (lv_at hl 0 rfl) ?_
  refine W.objInit hx hb hown (hts _ (List.mem_cons_of_mem _ (memWT (i := 473) rfl))) (hts _ (List.mem_cons_of_mem _ (memWT (i := 483) rfl))) (hts _ (List.mem_cons_of_mem _ (memWT (i := 484) rfl))) rfl (by rw [hml]; exact hl.1) rfl dX0_init_1 (Nat.le_of_ble_eq_true rfl) (Nat.le_of_ble_eq_true rfl) ?_
  refine W.eq (g2 := F0 m 4 ls []) rfl ?_
  refine lv_aload_n hx hb dX0_init_4 rfl (lv_at hl 0 rfl) ?_
  refine lv_aload_n hx hb dX0_init_5 rfl (lv_at hl 1 rfl) ?_
  refine va_putF (D := D) (ci := 4) (v := .ref p0) (ty := .object "TraceWarden$Assertion") (C := RX0) (T := TX0) (N := 5) hx hb hts hin tyX0 tyX0_ok nmX0 hown hK hP hD hS 0 rfl rfl 0 (by decide) (hts _ (List.mem_cons_of_mem _ (memWT (i := 15) rfl))) (fun _ h9 => h9) rfl hinit rfl (by decide +kernel) rfl rfl (Nat.le_of_ble_eq_true rfl) dX0_init_6 (fun H locs hP hD hS => ?_)
  have hP : va_P D vwCl [(h0, .inr (4, [.ref p0, .null, .null, .int 0, .int 0]))] H := hP
  have hD : va_D A [(h0, .inr (4, [.ref p0, .null, .null, .int 0, .int 0]))] := hD
  refine lv_aload_n hx hb dX0_init_9 rfl (lv_at hl 0 rfl) ?_
  refine lv_sipush (v := (576 : Int32)) hx hb dX0_init_10 (by decide) ?_
  refine va_newa (atype := .long) (ty := .long) (N' := 576) (a0 := (576, .inr (.inl (fun _ => 0)))) hx hb (hts _ (List.mem_cons_of_mem _ (memWT (i := 507) rfl))) rfl hK hP hD hS hA (fun _ => rfl) (by decide) (by decide) (by decide) (by decide) (by decide) dX0_init_13 (fun q1 cA H hK1 hP hD hS => ?_)
  obtain rfl : cA = cc 3 := arrC hK hK1 3 rfl rfl
  refine W.cs (cells' := 1) (slots' := 576) rfl rfl ?_
  have hP : va_P D vwCl [(h0, .inr (4, [.ref p0, .null, .null, .int 0, .int 0])), (q1, .inl (cc 3, 576, .inr (.inl (fun _ => 0))))] H := hP
  have hD : va_D A [(h0, .inr (4, [.ref p0, .null, .null, .int 0, .int 0])), (q1, .inl (cc 3, 576, .inr (.inl (fun _ => 0))))] := hD
  refine va_putF (D := D) (ci := 4) (v := .ref q1) (ty := .array .long) (C := RX0) (T := TX0) (N := 5) hx hb hts hin tyX0 tyX0_ok nmX0 hown hK hP hD hS 0 rfl rfl 1 (by decide) (hts _ (List.mem_cons_of_mem _ (memWT (i := 16) rfl))) (fun _ h9 => h9) rfl hinit rfl (by decide +kernel) rfl rfl (Nat.le_of_ble_eq_true rfl) dX0_init_15 (fun H locs hP hD hS => ?_)
  have hP : va_P D vwCl [(h0, .inr (4, [.ref p0, .ref q1, .null, .int 0, .int 0])), (q1, .inl (cc 3, 576, .inr (.inl (fun _ => 0))))] H := hP
  have hD : va_D A [(h0, .inr (4, [.ref p0, .ref q1, .null, .int 0, .int 0])), (q1, .inl (cc 3, 576, .inr (.inl (fun _ => 0))))] := hD
  refine lv_aload_n hx hb dX0_init_18 rfl (lv_at hl 0 rfl) ?_
  refine lv_bipush (v := (40 : Int32)) hx hb dX0_init_19 (by decide) ?_
  refine va_newa (atype := .long) (ty := .long) (N' := 40) (a0 := (40, .inr (.inl (fun _ => 0)))) hx hb (hts _ (List.mem_cons_of_mem _ (memWT (i := 507) rfl))) rfl hK hP hD hS hA (fun _ => rfl) (by decide) (by decide) (by decide) (by decide) (by decide) dX0_init_21 (fun q2 cA H hK1 hP hD hS => ?_)
  obtain rfl : cA = cc 3 := arrC hK hK1 3 rfl rfl
  refine W.cs (cells' := 2) (slots' := 616) rfl rfl ?_
  have hP : va_P D vwCl [(h0, .inr (4, [.ref p0, .ref q1, .null, .int 0, .int 0])), (q1, .inl (cc 3, 576, .inr (.inl (fun _ => 0)))), (q2, .inl (cc 3, 40, .inr (.inl (fun _ => 0))))] H := hP
  have hD : va_D A [(h0, .inr (4, [.ref p0, .ref q1, .null, .int 0, .int 0])), (q1, .inl (cc 3, 576, .inr (.inl (fun _ => 0)))), (q2, .inl (cc 3, 40, .inr (.inl (fun _ => 0))))] := hD
  refine va_putF (D := D) (ci := 4) (v := .ref q2) (ty := .array .long) (C := RX0) (T := TX0) (N := 5) hx hb hts hin tyX0 tyX0_ok nmX0 hown hK hP hD hS 0 rfl rfl 2 (by decide) (hts _ (List.mem_cons_of_mem _ (memWT (i := 17) rfl))) (fun _ h9 => h9) rfl hinit rfl (by decide +kernel) rfl rfl (Nat.le_of_ble_eq_true rfl) dX0_init_23 (fun H locs hP hD hS => ?_)
  have hP : va_P D vwCl [(h0, .inr (4, [.ref p0, .ref q1, .ref q2, .int 0, .int 0])), (q1, .inl (cc 3, 576, .inr (.inl (fun _ => 0)))), (q2, .inl (cc 3, 40, .inr (.inl (fun _ => 0))))] H := hP
  have hD : va_D A [(h0, .inr (4, [.ref p0, .ref q1, .ref q2, .int 0, .int 0])), (q1, .inl (cc 3, 576, .inr (.inl (fun _ => 0)))), (q2, .inl (cc 3, 40, .inr (.inl (fun _ => 0))))] := hD
  refine lv_aload_n hx hb dX0_init_26 rfl (lv_at hl 0 rfl) ?_
  refine lv_iconst (v := (0 : Int32)) hx hb dX0_init_27 (by decide) ?_
  refine va_put (D := D) (ci := 4) (v := .int (0 : Int32)) (ty := .int) (C := RX0) (T := TX0) (N := 5) hx hb hts hin tyX0 tyX0_ok nmX0 hown hK hP hD hS 0 rfl rfl 3 (by decide) (hts _ (List.mem_cons_of_mem _ (memWT (i := 18) rfl))) (fun _ h9 => h9) rfl (by decide +kernel) rfl rfl (Nat.le_of_ble_eq_true rfl) dX0_init_28 (fun H locs hP hD hS => ?_)
  have hP : va_P D vwCl [(h0, .inr (4, [.ref p0, .ref q1, .ref q2, .int (0 : Int32), .int 0])), (q1, .inl (cc 3, 576, .inr (.inl (fun _ => 0)))), (q2, .inl (cc 3, 40, .inr (.inl (fun _ => 0))))] H := hP
  have hD : va_D A [(h0, .inr (4, [.ref p0, .ref q1, .ref q2, .int (0 : Int32), .int 0])), (q1, .inl (cc 3, 576, .inr (.inl (fun _ => 0)))), (q2, .inl (cc 3, 40, .inr (.inl (fun _ => 0))))] := hD
  refine lv_aload_n hx hb dX0_init_31 rfl (lv_at hl 0 rfl) ?_
  refine lv_iconst (v := (0 : Int32)) hx hb dX0_init_32 (by decide) ?_
  refine va_put (D := D) (ci := 4) (v := .int (0 : Int32)) (ty := .int) (C := RX0) (T := TX0) (N := 5) hx hb hts hin tyX0 tyX0_ok nmX0 hown hK hP hD hS 0 rfl rfl 4 (by decide) (hts _ (List.mem_cons_of_mem _ (memWT (i := 19) rfl))) (fun _ h9 => h9) rfl (by decide +kernel) rfl rfl (Nat.le_of_ble_eq_true rfl) dX0_init_33 (fun H locs hP hD hS => ?_)
  have hP : va_P D vwCl [(h0, .inr (4, [.ref p0, .ref q1, .ref q2, .int (0 : Int32), .int (0 : Int32)])), (q1, .inl (cc 3, 576, .inr (.inl (fun _ => 0)))), (q2, .inl (cc 3, 40, .inr (.inl (fun _ => 0))))] H := hP
  have hD : va_D A [(h0, .inr (4, [.ref p0, .ref q1, .ref q2, .int (0 : Int32), .int (0 : Int32)])), (q1, .inl (cc 3, 576, .inr (.inl (fun _ => 0)))), (q2, .inl (cc 3, 40, .inr (.inl (fun _ => 0))))] := hD
  exact W.vret hx hb hr (fun t ht hW => ⟨⟨[q1, q2], rfl, rfl, by rw [ht]; exact hP, va_K.moved hW.alike hK, hD⟩, hS.F ht⟩) hS.2.2 dX0_init_36
abbrev rmX3_init : Room := { frames := 1, cells := 3, slots := 1160, locals := 30 }
set_option maxHeartbeats 8000000 in
set_option maxRecDepth 100000 in
theorem kX3_init {l : Launch} (h0 sz : Nat) (p0 : Nat) {D : va_G} {cc : Nat → ClassId} : Met l yX3_init (Cond.code yX3_init cX3_init 2 none :: WT) rmX3_init (CI_Pc D cc [.ref h0, .ref p0] [(h0, .inr (7, [.null, .null, .null, .null, .int 0, .int 0, .int 0]))] sz) (CI_Q D cc [(h0, .inr (7, [.null, .null, .null, .null, .int 0, .int 0, .int 0]))] sz 3 (fun u => [(h0, .inr (7, [.ref p0, .ref (u.getD 0 0), .ref (u.getD 1 0), .ref (u.getD 2 0), .int (0 : Int32), .int (0 : Int32), .int (0 : Int32)])), ((u.getD 0 0), .inl (cc 3, 328, .inr (.inl (fun _ => 0)))), ((u.getD 1 0), .inl (cc 0, 320, .inl (fun _ => 0))), ((u.getD 2 0), .inl (cc 0, 512, .inl (fun _ => 0)))])) 3 1160 (va_A [(h0, .inr (7, [.null, .null, .null, .null, .int 0, .int 0, .int 0]))] sz) := by
  refine Met.ofW (cc := cX3_init) (maxL := 2) (ret := none) (by decide) rfl ?_
  intro p e s m args below meth c s₁ B hml hv
  obtain ⟨rfl, hsz, hP, hK, hD0, hcix⟩ := hv
  subst hsz
  have hx := B.exec
  have hb := B.bytes
  have hr := B.returns
  have hts := atoms_spec (ws := Cond.code yX3_init cX3_init 2 none :: WT) B.pre
  have hown : s.vm.findClass RX3 = some m.cls := findClass_of_methodNamed B.named
  have hlocks := B.notSynchronized
  have hinit : meth.name = "<init>" := (name_of_methodNamed B.named B.method).1
  have hin := fun (w : Cond) (h : w ∈ wsX30) => List.mem_cons_of_mem (Cond.code yX3_init cX3_init 2 none) (inX3_WT w h)
  have hD := hD0.self (sz := s.heap.size)
  unfold CI_Q
  generalize hAe : va_A [(h0, .inr (7, [.null, .null, .null, .null, .int 0, .int 0, .int 0]))] s.heap.size = A at hD hcix ⊢
  have hA : ∀ q : Nat, s.heap.size ≤ q → A q := fun q h => by rw [← hAe]; exact Or.inr h
  have hS : va_S A s.heap s.heap [] := va_S.rf
  have hl := lv_entry ([.ref h0, .ref p0]) (n := 2) (Nat.le_of_ble_eq_true rfl)
  rw [lg_entry_eq]
  generalize (lg_sl ([.ref h0, .ref p0]) ++ List.replicate (2 - (lg_sl ([.ref h0, .ref p0])).length) Slot.unset).toArray = ls at hl ⊢
  refine lv_aload_n hx hb dX3_init_0 rfl (lv_at hl 0 rfl) ?_
  refine W.objInit hx hb hown (hts _ (List.mem_cons_of_mem _ (memWT (i := 476) rfl))) (hts _ (List.mem_cons_of_mem _ (memWT (i := 483) rfl))) (hts _ (List.mem_cons_of_mem _ (memWT (i := 484) rfl))) rfl (by rw [hml]; exact hl.1) rfl dX3_init_1 (Nat.le_of_ble_eq_true rfl) (Nat.le_of_ble_eq_true rfl) ?_
  refine W.eq (g2 := F0 m 4 ls []) rfl ?_
  refine lv_aload_n hx hb dX3_init_4 rfl (lv_at hl 0 rfl) ?_
  refine lv_aload_n hx hb dX3_init_5 rfl (lv_at hl 1 rfl) ?_
  refine va_putF (D := D) (ci := 7) (v := .ref p0) (ty := .object "TraceWarden$Asking") (C := RX3) (T := TX3) (N := 7) hx hb hts hin tyX3 tyX3_ok nmX3 hown hK hP hD hS 0 rfl rfl 0 (by decide) (hts _ (List.mem_cons_of_mem _ (memWT (i := 47) rfl))) (fun _ h9 => h9) rfl hinit rfl (by decide +kernel) rfl rfl (Nat.le_of_ble_eq_true rfl) dX3_init_6 (fun H locs hP hD hS => ?_)
  have hP : va_P D vwCl [(h0, .inr (7, [.ref p0, .null, .null, .null, .int 0, .int 0, .int 0]))] H := hP
  have hD : va_D A [(h0, .inr (7, [.ref p0, .null, .null, .null, .int 0, .int 0, .int 0]))] := hD
  refine lv_aload_n hx hb dX3_init_9 rfl (lv_at hl 0 rfl) ?_
  refine lv_sipush (v := (328 : Int32)) hx hb dX3_init_10 (by decide) ?_
  refine va_newa (atype := .long) (ty := .long) (N' := 328) (a0 := (328, .inr (.inl (fun _ => 0)))) hx hb (hts _ (List.mem_cons_of_mem _ (memWT (i := 507) rfl))) rfl hK hP hD hS hA (fun _ => rfl) (by decide) (by decide) (by decide) (by decide) (by decide) dX3_init_13 (fun q1 cA H hK1 hP hD hS => ?_)
  obtain rfl : cA = cc 3 := arrC hK hK1 3 rfl rfl
  refine W.cs (cells' := 1) (slots' := 328) rfl rfl ?_
  have hP : va_P D vwCl [(h0, .inr (7, [.ref p0, .null, .null, .null, .int 0, .int 0, .int 0])), (q1, .inl (cc 3, 328, .inr (.inl (fun _ => 0))))] H := hP
  have hD : va_D A [(h0, .inr (7, [.ref p0, .null, .null, .null, .int 0, .int 0, .int 0])), (q1, .inl (cc 3, 328, .inr (.inl (fun _ => 0))))] := hD
  refine va_putF (D := D) (ci := 7) (v := .ref q1) (ty := .array .long) (C := RX3) (T := TX3) (N := 7) hx hb hts hin tyX3 tyX3_ok nmX3 hown hK hP hD hS 0 rfl rfl 1 (by decide) (hts _ (List.mem_cons_of_mem _ (memWT (i := 48) rfl))) (fun _ h9 => h9) rfl hinit rfl (by decide +kernel) rfl rfl (Nat.le_of_ble_eq_true rfl) dX3_init_15 (fun H locs hP hD hS => ?_)
  have hP : va_P D vwCl [(h0, .inr (7, [.ref p0, .ref q1, .null, .null, .int 0, .int 0, .int 0])), (q1, .inl (cc 3, 328, .inr (.inl (fun _ => 0))))] H := hP
  have hD : va_D A [(h0, .inr (7, [.ref p0, .ref q1, .null, .null, .int 0, .int 0, .int 0])), (q1, .inl (cc 3, 328, .inr (.inl (fun _ => 0))))] := hD
  refine lv_aload_n hx hb dX3_init_18 rfl (lv_at hl 0 rfl) ?_
  refine lv_sipush (v := (320 : Int32)) hx hb dX3_init_19 (by decide) ?_
  refine va_newa (atype := .int) (ty := .int) (N' := 320) (a0 := (320, .inl (fun _ => 0))) hx hb (hts _ (List.mem_cons_of_mem _ (memWT (i := 504) rfl))) rfl hK hP hD hS hA (fun _ => rfl) (by decide) (by decide) (by decide) (by decide) (by decide) dX3_init_22 (fun q2 cA H hK1 hP hD hS => ?_)
  obtain rfl : cA = cc 0 := arrC hK hK1 0 rfl rfl
  refine W.cs (cells' := 2) (slots' := 648) rfl rfl ?_
  have hP : va_P D vwCl [(h0, .inr (7, [.ref p0, .ref q1, .null, .null, .int 0, .int 0, .int 0])), (q1, .inl (cc 3, 328, .inr (.inl (fun _ => 0)))), (q2, .inl (cc 0, 320, .inl (fun _ => 0)))] H := hP
  have hD : va_D A [(h0, .inr (7, [.ref p0, .ref q1, .null, .null, .int 0, .int 0, .int 0])), (q1, .inl (cc 3, 328, .inr (.inl (fun _ => 0)))), (q2, .inl (cc 0, 320, .inl (fun _ => 0)))] := hD
  refine va_putF (D := D) (ci := 7) (v := .ref q2) (ty := .array .int) (C := RX3) (T := TX3) (N := 7) hx hb hts hin tyX3 tyX3_ok nmX3 hown hK hP hD hS 0 rfl rfl 2 (by decide) (hts _ (List.mem_cons_of_mem _ (memWT (i := 49) rfl))) (fun _ h9 => h9) rfl hinit rfl (by decide +kernel) rfl rfl (Nat.le_of_ble_eq_true rfl) dX3_init_24 (fun H locs hP hD hS => ?_)
  have hP : va_P D vwCl [(h0, .inr (7, [.ref p0, .ref q1, .ref q2, .null, .int 0, .int 0, .int 0])), (q1, .inl (cc 3, 328, .inr (.inl (fun _ => 0)))), (q2, .inl (cc 0, 320, .inl (fun _ => 0)))] H := hP
  have hD : va_D A [(h0, .inr (7, [.ref p0, .ref q1, .ref q2, .null, .int 0, .int 0, .int 0])), (q1, .inl (cc 3, 328, .inr (.inl (fun _ => 0)))), (q2, .inl (cc 0, 320, .inl (fun _ => 0)))] := hD
  refine lv_aload_n hx hb dX3_init_27 rfl (lv_at hl 0 rfl) ?_
  refine lv_sipush (v := (512 : Int32)) hx hb dX3_init_28 (by decide) ?_
  refine va_newa (atype := .int) (ty := .int) (N' := 512) (a0 := (512, .inl (fun _ => 0))) hx hb (hts _ (List.mem_cons_of_mem _ (memWT (i := 504) rfl))) rfl hK hP hD hS hA (fun _ => rfl) (by decide) (by decide) (by decide) (by decide) (by decide) dX3_init_31 (fun q3 cA H hK1 hP hD hS => ?_)
  obtain rfl : cA = cc 0 := arrC hK hK1 0 rfl rfl
  refine W.cs (cells' := 3) (slots' := 1160) rfl rfl ?_
  have hP : va_P D vwCl [(h0, .inr (7, [.ref p0, .ref q1, .ref q2, .null, .int 0, .int 0, .int 0])), (q1, .inl (cc 3, 328, .inr (.inl (fun _ => 0)))), (q2, .inl (cc 0, 320, .inl (fun _ => 0))), (q3, .inl (cc 0, 512, .inl (fun _ => 0)))] H := hP
  have hD : va_D A [(h0, .inr (7, [.ref p0, .ref q1, .ref q2, .null, .int 0, .int 0, .int 0])), (q1, .inl (cc 3, 328, .inr (.inl (fun _ => 0)))), (q2, .inl (cc 0, 320, .inl (fun _ => 0))), (q3, .inl (cc 0, 512, .inl (fun _ => 0)))] := hD
  refine va_putF (D := D) (ci := 7) (v := .ref q3) (ty := .array .int) (C := RX3) (T := TX3) (N := 7) hx hb hts hin tyX3 tyX3_ok nmX3 hown hK hP hD hS 0 rfl rfl 3 (by decide) (hts _ (List.mem_cons_of_mem _ (memWT (i := 50) rfl))) (fun _ h9 => h9) rfl hinit rfl (by decide +kernel) rfl rfl (Nat.le_of_ble_eq_true rfl) dX3_init_33 (fun H locs hP hD hS => ?_)
  have hP : va_P D vwCl [(h0, .inr (7, [.ref p0, .ref q1, .ref q2, .ref q3, .int 0, .int 0, .int 0])), (q1, .inl (cc 3, 328, .inr (.inl (fun _ => 0)))), (q2, .inl (cc 0, 320, .inl (fun _ => 0))), (q3, .inl (cc 0, 512, .inl (fun _ => 0)))] H := hP
  have hD : va_D A [(h0, .inr (7, [.ref p0, .ref q1, .ref q2, .ref q3, .int 0, .int 0, .int 0])), (q1, .inl (cc 3, 328, .inr (.inl (fun _ => 0)))), (q2, .inl (cc 0, 320, .inl (fun _ => 0))), (q3, .inl (cc 0, 512, .inl (fun _ => 0)))] := hD
  refine lv_aload_n hx hb dX3_init_36 rfl (lv_at hl 0 rfl) ?_
  refine lv_iconst (v := (0 : Int32)) hx hb dX3_init_37 (by decide) ?_
  refine va_put (D := D) (ci := 7) (v := .int (0 : Int32)) (ty := .int) (C := RX3) (T := TX3) (N := 7) hx hb hts hin tyX3 tyX3_ok nmX3 hown hK hP hD hS 0 rfl rfl 4 (by decide) (hts _ (List.mem_cons_of_mem _ (memWT (i := 51) rfl))) (fun _ h9 => h9) rfl (by decide +kernel) rfl rfl (Nat.le_of_ble_eq_true rfl) dX3_init_38 (fun H locs hP hD hS => ?_)
  have hP : va_P D vwCl [(h0, .inr (7, [.ref p0, .ref q1, .ref q2, .ref q3, .int (0 : Int32), .int 0, .int 0])), (q1, .inl (cc 3, 328, .inr (.inl (fun _ => 0)))), (q2, .inl (cc 0, 320, .inl (fun _ => 0))), (q3, .inl (cc 0, 512, .inl (fun _ => 0)))] H := hP
  have hD : va_D A [(h0, .inr (7, [.ref p0, .ref q1, .ref q2, .ref q3, .int (0 : Int32), .int 0, .int 0])), (q1, .inl (cc 3, 328, .inr (.inl (fun _ => 0)))), (q2, .inl (cc 0, 320, .inl (fun _ => 0))), (q3, .inl (cc 0, 512, .inl (fun _ => 0)))] := hD
  refine lv_aload_n hx hb dX3_init_41 rfl (lv_at hl 0 rfl) ?_
  refine lv_iconst (v := (0 : Int32)) hx hb dX3_init_42 (by decide) ?_
  refine va_put (D := D) (ci := 7) (v := .int (0 : Int32)) (ty := .int) (C := RX3) (T := TX3) (N := 7) hx hb hts hin tyX3 tyX3_ok nmX3 hown hK hP hD hS 0 rfl rfl 5 (by decide) (hts _ (List.mem_cons_of_mem _ (memWT (i := 52) rfl))) (fun _ h9 => h9) rfl (by decide +kernel) rfl rfl (Nat.le_of_ble_eq_true rfl) dX3_init_43 (fun H locs hP hD hS => ?_)
  have hP : va_P D vwCl [(h0, .inr (7, [.ref p0, .ref q1, .ref q2, .ref q3, .int (0 : Int32), .int (0 : Int32), .int 0])), (q1, .inl (cc 3, 328, .inr (.inl (fun _ => 0)))), (q2, .inl (cc 0, 320, .inl (fun _ => 0))), (q3, .inl (cc 0, 512, .inl (fun _ => 0)))] H := hP
  have hD : va_D A [(h0, .inr (7, [.ref p0, .ref q1, .ref q2, .ref q3, .int (0 : Int32), .int (0 : Int32), .int 0])), (q1, .inl (cc 3, 328, .inr (.inl (fun _ => 0)))), (q2, .inl (cc 0, 320, .inl (fun _ => 0))), (q3, .inl (cc 0, 512, .inl (fun _ => 0)))] := hD
  refine lv_aload_n hx hb dX3_init_46 rfl (lv_at hl 0 rfl) ?_
  refine lv_iconst (v := (0 : Int32)) hx hb dX3_init_47 (by decide) ?_
  refine va_put (D := D) (ci := 7) (v := .int (0 : Int32)) (ty := .int) (C := RX3) (T := TX3) (N := 7) hx hb hts hin tyX3 tyX3_ok nmX3 hown hK hP hD hS 0 rfl rfl 6 (by decide) (hts _ (List.mem_cons_of_mem _ (memWT (i := 53) rfl))) (fun _ h9 => h9) rfl (by decide +kernel) rfl rfl (Nat.le_of_ble_eq_true rfl) dX3_init_48 (fun H locs hP hD hS => ?_)
  have hP : va_P D vwCl [(h0, .inr (7, [.ref p0, .ref q1, .ref q2, .ref q3, .int (0 : Int32), .int (0 : Int32), .int (0 : Int32)])), (q1, .inl (cc 3, 328, .inr (.inl (fun _ => 0)))), (q2, .inl (cc 0, 320, .inl (fun _ => 0))), (q3, .inl (cc 0, 512, .inl (fun _ => 0)))] H := hP
  have hD : va_D A [(h0, .inr (7, [.ref p0, .ref q1, .ref q2, .ref q3, .int (0 : Int32), .int (0 : Int32), .int (0 : Int32)])), (q1, .inl (cc 3, 328, .inr (.inl (fun _ => 0)))), (q2, .inl (cc 0, 320, .inl (fun _ => 0))), (q3, .inl (cc 0, 512, .inl (fun _ => 0)))] := hD
  exact W.vret hx hb hr (fun t ht hW => ⟨⟨[q1, q2, q3], rfl, rfl, by rw [ht]; exact hP, va_K.moved hW.alike hK, hD⟩, hS.F ht⟩) hS.2.2 dX3_init_51
abbrev rmX4_init : Room := { frames := 1, cells := 6, slots := 520, locals := 30 }
set_option maxHeartbeats 8000000 in
set_option maxRecDepth 100000 in
theorem kX4_init {l : Launch} (h0 sz : Nat) (p0 : Nat) {D : va_G} {cc : Nat → ClassId} : Met l yX4_init (Cond.code yX4_init cX4_init 2 none :: WT) rmX4_init (CI_Pc D cc [.ref h0, .ref p0] [(h0, .inr (8, [.null, .int 0, .null, .null, .null, .null, .null, .null]))] sz) (CI_Q D cc [(h0, .inr (8, [.null, .int 0, .null, .null, .null, .null, .null, .null]))] sz 6 (fun u => [(h0, .inr (8, [.ref p0, .int (0 : Int32), .ref (u.getD 0 0), .ref (u.getD 1 0), .ref (u.getD 2 0), .ref (u.getD 3 0), .ref (u.getD 4 0), .ref (u.getD 5 0)])), ((u.getD 0 0), .inl (cc 0, 320, .inl (fun _ => 0))), ((u.getD 1 0), .inl (cc 2, 40, .inl (fun _ => 0))), ((u.getD 2 0), .inl (cc 0, 40, .inl (fun _ => 0))), ((u.getD 3 0), .inl (cc 0, 40, .inl (fun _ => 0))), ((u.getD 4 0), .inl (cc 0, 40, .inl (fun _ => 0))), ((u.getD 5 0), .inl (cc 0, 40, .inl (fun _ => 0)))])) 6 520 (va_A [(h0, .inr (8, [.null, .int 0, .null, .null, .null, .null, .null, .null]))] sz) := by
  refine Met.ofW (cc := cX4_init) (maxL := 2) (ret := none) (by decide) rfl ?_
  intro p e s m args below meth c s₁ B hml hv
  obtain ⟨rfl, hsz, hP, hK, hD0, hcix⟩ := hv
  subst hsz
  have hx := B.exec
  have hb := B.bytes
  have hr := B.returns
  have hts := atoms_spec (ws := Cond.code yX4_init cX4_init 2 none :: WT) B.pre
  have hown : s.vm.findClass RX4 = some m.cls := findClass_of_methodNamed B.named
  have hlocks := B.notSynchronized
  have hinit : meth.name = "<init>" := (name_of_methodNamed B.named B.method).1
  have hin := fun (w : Cond) (h : w ∈ wsX40) => List.mem_cons_of_mem (Cond.code yX4_init cX4_init 2 none) (inX4_WT w h)
  have hD := hD0.self (sz := s.heap.size)
  unfold CI_Q
  generalize hAe : va_A [(h0, .inr (8, [.null, .int 0, .null, .null, .null, .null, .null, .null]))] s.heap.size = A at hD hcix ⊢
  have hA : ∀ q : Nat, s.heap.size ≤ q → A q := fun q h => by rw [← hAe]; exact Or.inr h
  have hS : va_S A s.heap s.heap [] := va_S.rf
  have hl := lv_entry ([.ref h0, .ref p0]) (n := 2) (Nat.le_of_ble_eq_true rfl)
  rw [lg_entry_eq]
  generalize (lg_sl ([.ref h0, .ref p0]) ++ List.replicate (2 - (lg_sl ([.ref h0, .ref p0])).length) Slot.unset).toArray = ls at hl ⊢
  refine lv_aload_n hx hb dX4_init_0 rfl (lv_at hl 0 rfl) ?_
  refine W.objInit hx hb hown (hts _ (List.mem_cons_of_mem _ (memWT (i := 477) rfl))) (hts _ (List.mem_cons_of_mem _ (memWT (i := 483) rfl))) (hts _ (List.mem_cons_of_mem _ (memWT (i := 484) rfl))) rfl (by rw [hml]; exact hl.1) rfl dX4_init_1 (Nat.le_of_ble_eq_true rfl) (Nat.le_of_ble_eq_true rfl) ?_
  refine W.eq (g2 := F0 m 4 ls []) rfl ?_
  refine lv_aload_n hx hb dX4_init_4 rfl (lv_at hl 0 rfl) ?_
  refine lv_aload_n hx hb dX4_init_5 rfl (lv_at hl 1 rfl) ?_
  refine va_putF (D := D) (ci := 8) (v := .ref p0) (ty := .object "TraceWarden$Conditions") (C := RX4) (T := TX4) (N := 8) hx hb hts hin tyX4 tyX4_ok nmX4 hown hK hP hD hS 0 rfl rfl 0 (by decide) (hts _ (List.mem_cons_of_mem _ (memWT (i := 61) rfl))) (fun _ h9 => h9) rfl hinit rfl (by decide +kernel) rfl rfl (Nat.le_of_ble_eq_true rfl) dX4_init_6 (fun H locs hP hD hS => ?_)
  have hP : va_P D vwCl [(h0, .inr (8, [.ref p0, .int 0, .null, .null, .null, .null, .null, .null]))] H := hP
  have hD : va_D A [(h0, .inr (8, [.ref p0, .int 0, .null, .null, .null, .null, .null, .null]))] := hD
  refine lv_aload_n hx hb dX4_init_9 rfl (lv_at hl 0 rfl) ?_
  refine lv_iconst (v := (0 : Int32)) hx hb dX4_init_10 (by decide) ?_
  refine va_put (D := D) (ci := 8) (v := .int (0 : Int32)) (ty := .int) (C := RX4) (T := TX4) (N := 8) hx hb hts hin tyX4 tyX4_ok nmX4 hown hK hP hD hS 0 rfl rfl 1 (by decide) (hts _ (List.mem_cons_of_mem _ (memWT (i := 62) rfl))) (fun _ h9 => h9) rfl (by decide +kernel) rfl rfl (Nat.le_of_ble_eq_true rfl) dX4_init_11 (fun H locs hP hD hS => ?_)
  have hP : va_P D vwCl [(h0, .inr (8, [.ref p0, .int (0 : Int32), .null, .null, .null, .null, .null, .null]))] H := hP
  have hD : va_D A [(h0, .inr (8, [.ref p0, .int (0 : Int32), .null, .null, .null, .null, .null, .null]))] := hD
  refine lv_aload_n hx hb dX4_init_14 rfl (lv_at hl 0 rfl) ?_
  refine lv_sipush (v := (320 : Int32)) hx hb dX4_init_15 (by decide) ?_
  refine va_newa (atype := .int) (ty := .int) (N' := 320) (a0 := (320, .inl (fun _ => 0))) hx hb (hts _ (List.mem_cons_of_mem _ (memWT (i := 504) rfl))) rfl hK hP hD hS hA (fun _ => rfl) (by decide) (by decide) (by decide) (by decide) (by decide) dX4_init_18 (fun q1 cA H hK1 hP hD hS => ?_)
  obtain rfl : cA = cc 0 := arrC hK hK1 0 rfl rfl
  refine W.cs (cells' := 1) (slots' := 320) rfl rfl ?_
  have hP : va_P D vwCl [(h0, .inr (8, [.ref p0, .int (0 : Int32), .null, .null, .null, .null, .null, .null])), (q1, .inl (cc 0, 320, .inl (fun _ => 0)))] H := hP
  have hD : va_D A [(h0, .inr (8, [.ref p0, .int (0 : Int32), .null, .null, .null, .null, .null, .null])), (q1, .inl (cc 0, 320, .inl (fun _ => 0)))] := hD
  refine va_putF (D := D) (ci := 8) (v := .ref q1) (ty := .array .int) (C := RX4) (T := TX4) (N := 8) hx hb hts hin tyX4 tyX4_ok nmX4 hown hK hP hD hS 0 rfl rfl 2 (by decide) (hts _ (List.mem_cons_of_mem _ (memWT (i := 63) rfl))) (fun _ h9 => h9) rfl hinit rfl (by decide +kernel) rfl rfl (Nat.le_of_ble_eq_true rfl) dX4_init_20 (fun H locs hP hD hS => ?_)
  have hP : va_P D vwCl [(h0, .inr (8, [.ref p0, .int (0 : Int32), .ref q1, .null, .null, .null, .null, .null])), (q1, .inl (cc 0, 320, .inl (fun _ => 0)))] H := hP
  have hD : va_D A [(h0, .inr (8, [.ref p0, .int (0 : Int32), .ref q1, .null, .null, .null, .null, .null])), (q1, .inl (cc 0, 320, .inl (fun _ => 0)))] := hD
  refine lv_aload_n hx hb dX4_init_23 rfl (lv_at hl 0 rfl) ?_
  refine lv_bipush (v := (40 : Int32)) hx hb dX4_init_24 (by decide) ?_
  refine va_newa (atype := .boolean) (ty := .boolean) (N' := 40) (a0 := (40, .inl (fun _ => 0))) hx hb (hts _ (List.mem_cons_of_mem _ (memWT (i := 506) rfl))) rfl hK hP hD hS hA (fun _ => rfl) (by decide) (by decide) (by decide) (by decide) (by decide) dX4_init_26 (fun q2 cA H hK1 hP hD hS => ?_)
  obtain rfl : cA = cc 2 := arrC hK hK1 2 rfl rfl
  refine W.cs (cells' := 2) (slots' := 360) rfl rfl ?_
  have hP : va_P D vwCl [(h0, .inr (8, [.ref p0, .int (0 : Int32), .ref q1, .null, .null, .null, .null, .null])), (q1, .inl (cc 0, 320, .inl (fun _ => 0))), (q2, .inl (cc 2, 40, .inl (fun _ => 0)))] H := hP
  have hD : va_D A [(h0, .inr (8, [.ref p0, .int (0 : Int32), .ref q1, .null, .null, .null, .null, .null])), (q1, .inl (cc 0, 320, .inl (fun _ => 0))), (q2, .inl (cc 2, 40, .inl (fun _ => 0)))] := hD
  refine va_putF (D := D) (ci := 8) (v := .ref q2) (ty := .array .boolean) (C := RX4) (T := TX4) (N := 8) hx hb hts hin tyX4 tyX4_ok nmX4 hown hK hP hD hS 0 rfl rfl 3 (by decide) (hts _ (List.mem_cons_of_mem _ (memWT (i := 64) rfl))) (fun _ h9 => h9) rfl hinit rfl (by decide +kernel) rfl rfl (Nat.le_of_ble_eq_true rfl) dX4_init_28 (fun H locs hP hD hS => ?_)
  have hP : va_P D vwCl [(h0, .inr (8, [.ref p0, .int (0 : Int32), .ref q1, .ref q2, .null, .null, .null, .null])), (q1, .inl (cc 0, 320, .inl (fun _ => 0))), (q2, .inl (cc 2, 40, .inl (fun _ => 0)))] H := hP
  have hD : va_D A [(h0, .inr (8, [.ref p0, .int (0 : Int32), .ref q1, .ref q2, .null, .null, .null, .null])), (q1, .inl (cc 0, 320, .inl (fun _ => 0))), (q2, .inl (cc 2, 40, .inl (fun _ => 0)))] := hD
  refine lv_aload_n hx hb dX4_init_31 rfl (lv_at hl 0 rfl) ?_
  refine lv_bipush (v := (40 : Int32)) hx hb dX4_init_32 (by decide) ?_
  refine va_newa (atype := .int) (ty := .int) (N' := 40) (a0 := (40, .inl (fun _ => 0))) hx hb (hts _ (List.mem_cons_of_mem _ (memWT (i := 504) rfl))) rfl hK hP hD hS hA (fun _ => rfl) (by decide) (by decide) (by decide) (by decide) (by decide) dX4_init_34 (fun q3 cA H hK1 hP hD hS => ?_)
  obtain rfl : cA = cc 0 := arrC hK hK1 0 rfl rfl
  refine W.cs (cells' := 3) (slots' := 400) rfl rfl ?_
  have hP : va_P D vwCl [(h0, .inr (8, [.ref p0, .int (0 : Int32), .ref q1, .ref q2, .null, .null, .null, .null])), (q1, .inl (cc 0, 320, .inl (fun _ => 0))), (q2, .inl (cc 2, 40, .inl (fun _ => 0))), (q3, .inl (cc 0, 40, .inl (fun _ => 0)))] H := hP
  have hD : va_D A [(h0, .inr (8, [.ref p0, .int (0 : Int32), .ref q1, .ref q2, .null, .null, .null, .null])), (q1, .inl (cc 0, 320, .inl (fun _ => 0))), (q2, .inl (cc 2, 40, .inl (fun _ => 0))), (q3, .inl (cc 0, 40, .inl (fun _ => 0)))] := hD
  refine va_putF (D := D) (ci := 8) (v := .ref q3) (ty := .array .int) (C := RX4) (T := TX4) (N := 8) hx hb hts hin tyX4 tyX4_ok nmX4 hown hK hP hD hS 0 rfl rfl 4 (by decide) (hts _ (List.mem_cons_of_mem _ (memWT (i := 65) rfl))) (fun _ h9 => h9) rfl hinit rfl (by decide +kernel) rfl rfl (Nat.le_of_ble_eq_true rfl) dX4_init_36 (fun H locs hP hD hS => ?_)
  have hP : va_P D vwCl [(h0, .inr (8, [.ref p0, .int (0 : Int32), .ref q1, .ref q2, .ref q3, .null, .null, .null])), (q1, .inl (cc 0, 320, .inl (fun _ => 0))), (q2, .inl (cc 2, 40, .inl (fun _ => 0))), (q3, .inl (cc 0, 40, .inl (fun _ => 0)))] H := hP
  have hD : va_D A [(h0, .inr (8, [.ref p0, .int (0 : Int32), .ref q1, .ref q2, .ref q3, .null, .null, .null])), (q1, .inl (cc 0, 320, .inl (fun _ => 0))), (q2, .inl (cc 2, 40, .inl (fun _ => 0))), (q3, .inl (cc 0, 40, .inl (fun _ => 0)))] := hD
  refine lv_aload_n hx hb dX4_init_39 rfl (lv_at hl 0 rfl) ?_
  refine lv_bipush (v := (40 : Int32)) hx hb dX4_init_40 (by decide) ?_
  refine va_newa (atype := .int) (ty := .int) (N' := 40) (a0 := (40, .inl (fun _ => 0))) hx hb (hts _ (List.mem_cons_of_mem _ (memWT (i := 504) rfl))) rfl hK hP hD hS hA (fun _ => rfl) (by decide) (by decide) (by decide) (by decide) (by decide) dX4_init_42 (fun q4 cA H hK1 hP hD hS => ?_)
  obtain rfl : cA = cc 0 := arrC hK hK1 0 rfl rfl
  refine W.cs (cells' := 4) (slots' := 440) rfl rfl ?_
  have hP : va_P D vwCl [(h0, .inr (8, [.ref p0, .int (0 : Int32), .ref q1, .ref q2, .ref q3, .null, .null, .null])), (q1, .inl (cc 0, 320, .inl (fun _ => 0))), (q2, .inl (cc 2, 40, .inl (fun _ => 0))), (q3, .inl (cc 0, 40, .inl (fun _ => 0))), (q4, .inl (cc 0, 40, .inl (fun _ => 0)))] H := hP
  have hD : va_D A [(h0, .inr (8, [.ref p0, .int (0 : Int32), .ref q1, .ref q2, .ref q3, .null, .null, .null])), (q1, .inl (cc 0, 320, .inl (fun _ => 0))), (q2, .inl (cc 2, 40, .inl (fun _ => 0))), (q3, .inl (cc 0, 40, .inl (fun _ => 0))), (q4, .inl (cc 0, 40, .inl (fun _ => 0)))] := hD
  refine va_putF (D := D) (ci := 8) (v := .ref q4) (ty := .array .int) (C := RX4) (T := TX4) (N := 8) hx hb hts hin tyX4 tyX4_ok nmX4 hown hK hP hD hS 0 rfl rfl 5 (by decide) (hts _ (List.mem_cons_of_mem _ (memWT (i := 66) rfl))) (fun _ h9 => h9) rfl hinit rfl (by decide +kernel) rfl rfl (Nat.le_of_ble_eq_true rfl) dX4_init_44 (fun H locs hP hD hS => ?_)
  have hP : va_P D vwCl [(h0, .inr (8, [.ref p0, .int (0 : Int32), .ref q1, .ref q2, .ref q3, .ref q4, .null, .null])), (q1, .inl (cc 0, 320, .inl (fun _ => 0))), (q2, .inl (cc 2, 40, .inl (fun _ => 0))), (q3, .inl (cc 0, 40, .inl (fun _ => 0))), (q4, .inl (cc 0, 40, .inl (fun _ => 0)))] H := hP
  have hD : va_D A [(h0, .inr (8, [.ref p0, .int (0 : Int32), .ref q1, .ref q2, .ref q3, .ref q4, .null, .null])), (q1, .inl (cc 0, 320, .inl (fun _ => 0))), (q2, .inl (cc 2, 40, .inl (fun _ => 0))), (q3, .inl (cc 0, 40, .inl (fun _ => 0))), (q4, .inl (cc 0, 40, .inl (fun _ => 0)))] := hD
  refine lv_aload_n hx hb dX4_init_47 rfl (lv_at hl 0 rfl) ?_
  refine lv_bipush (v := (40 : Int32)) hx hb dX4_init_48 (by decide) ?_
  refine va_newa (atype := .int) (ty := .int) (N' := 40) (a0 := (40, .inl (fun _ => 0))) hx hb (hts _ (List.mem_cons_of_mem _ (memWT (i := 504) rfl))) rfl hK hP hD hS hA (fun _ => rfl) (by decide) (by decide) (by decide) (by decide) (by decide) dX4_init_50 (fun q5 cA H hK1 hP hD hS => ?_)
  obtain rfl : cA = cc 0 := arrC hK hK1 0 rfl rfl
  refine W.cs (cells' := 5) (slots' := 480) rfl rfl ?_
  have hP : va_P D vwCl [(h0, .inr (8, [.ref p0, .int (0 : Int32), .ref q1, .ref q2, .ref q3, .ref q4, .null, .null])), (q1, .inl (cc 0, 320, .inl (fun _ => 0))), (q2, .inl (cc 2, 40, .inl (fun _ => 0))), (q3, .inl (cc 0, 40, .inl (fun _ => 0))), (q4, .inl (cc 0, 40, .inl (fun _ => 0))), (q5, .inl (cc 0, 40, .inl (fun _ => 0)))] H := hP
  have hD : va_D A [(h0, .inr (8, [.ref p0, .int (0 : Int32), .ref q1, .ref q2, .ref q3, .ref q4, .null, .null])), (q1, .inl (cc 0, 320, .inl (fun _ => 0))), (q2, .inl (cc 2, 40, .inl (fun _ => 0))), (q3, .inl (cc 0, 40, .inl (fun _ => 0))), (q4, .inl (cc 0, 40, .inl (fun _ => 0))), (q5, .inl (cc 0, 40, .inl (fun _ => 0)))] := hD
  refine va_putF (D := D) (ci := 8) (v := .ref q5) (ty := .array .int) (C := RX4) (T := TX4) (N := 8) hx hb hts hin tyX4 tyX4_ok nmX4 hown hK hP hD hS 0 rfl rfl 6 (by decide) (hts _ (List.mem_cons_of_mem _ (memWT (i := 67) rfl))) (fun _ h9 => h9) rfl hinit rfl (by decide +kernel) rfl rfl (Nat.le_of_ble_eq_true rfl) dX4_init_52 (fun H locs hP hD hS => ?_)
  have hP : va_P D vwCl [(h0, .inr (8, [.ref p0, .int (0 : Int32), .ref q1, .ref q2, .ref q3, .ref q4, .ref q5, .null])), (q1, .inl (cc 0, 320, .inl (fun _ => 0))), (q2, .inl (cc 2, 40, .inl (fun _ => 0))), (q3, .inl (cc 0, 40, .inl (fun _ => 0))), (q4, .inl (cc 0, 40, .inl (fun _ => 0))), (q5, .inl (cc 0, 40, .inl (fun _ => 0)))] H := hP
  have hD : va_D A [(h0, .inr (8, [.ref p0, .int (0 : Int32), .ref q1, .ref q2, .ref q3, .ref q4, .ref q5, .null])), (q1, .inl (cc 0, 320, .inl (fun _ => 0))), (q2, .inl (cc 2, 40, .inl (fun _ => 0))), (q3, .inl (cc 0, 40, .inl (fun _ => 0))), (q4, .inl (cc 0, 40, .inl (fun _ => 0))), (q5, .inl (cc 0, 40, .inl (fun _ => 0)))] := hD
  refine lv_aload_n hx hb dX4_init_55 rfl (lv_at hl 0 rfl) ?_
  refine lv_bipush (v := (40 : Int32)) hx hb dX4_init_56 (by decide) ?_
  refine va_newa (atype := .int) (ty := .int) (N' := 40) (a0 := (40, .inl (fun _ => 0))) hx hb (hts _ (List.mem_cons_of_mem _ (memWT (i := 504) rfl))) rfl hK hP hD hS hA (fun _ => rfl) (by decide) (by decide) (by decide) (by decide) (by decide) dX4_init_58 (fun q6 cA H hK1 hP hD hS => ?_)
  obtain rfl : cA = cc 0 := arrC hK hK1 0 rfl rfl
  refine W.cs (cells' := 6) (slots' := 520) rfl rfl ?_
  have hP : va_P D vwCl [(h0, .inr (8, [.ref p0, .int (0 : Int32), .ref q1, .ref q2, .ref q3, .ref q4, .ref q5, .null])), (q1, .inl (cc 0, 320, .inl (fun _ => 0))), (q2, .inl (cc 2, 40, .inl (fun _ => 0))), (q3, .inl (cc 0, 40, .inl (fun _ => 0))), (q4, .inl (cc 0, 40, .inl (fun _ => 0))), (q5, .inl (cc 0, 40, .inl (fun _ => 0))), (q6, .inl (cc 0, 40, .inl (fun _ => 0)))] H := hP
  have hD : va_D A [(h0, .inr (8, [.ref p0, .int (0 : Int32), .ref q1, .ref q2, .ref q3, .ref q4, .ref q5, .null])), (q1, .inl (cc 0, 320, .inl (fun _ => 0))), (q2, .inl (cc 2, 40, .inl (fun _ => 0))), (q3, .inl (cc 0, 40, .inl (fun _ => 0))), (q4, .inl (cc 0, 40, .inl (fun _ => 0))), (q5, .inl (cc 0, 40, .inl (fun _ => 0))), (q6, .inl (cc 0, 40, .inl (fun _ => 0)))] := hD
  refine va_putF (D := D) (ci := 8) (v := .ref q6) (ty := .array .int) (C := RX4) (T := TX4) (N := 8) hx hb hts hin tyX4 tyX4_ok nmX4 hown hK hP hD hS 0 rfl rfl 7 (by decide) (hts _ (List.mem_cons_of_mem _ (memWT (i := 68) rfl))) (fun _ h9 => h9) rfl hinit rfl (by decide +kernel) rfl rfl (Nat.le_of_ble_eq_true rfl) dX4_init_60 (fun H locs hP hD hS => ?_)
  have hP : va_P D vwCl [(h0, .inr (8, [.ref p0, .int (0 : Int32), .ref q1, .ref q2, .ref q3, .ref q4, .ref q5, .ref q6])), (q1, .inl (cc 0, 320, .inl (fun _ => 0))), (q2, .inl (cc 2, 40, .inl (fun _ => 0))), (q3, .inl (cc 0, 40, .inl (fun _ => 0))), (q4, .inl (cc 0, 40, .inl (fun _ => 0))), (q5, .inl (cc 0, 40, .inl (fun _ => 0))), (q6, .inl (cc 0, 40, .inl (fun _ => 0)))] H := hP
  have hD : va_D A [(h0, .inr (8, [.ref p0, .int (0 : Int32), .ref q1, .ref q2, .ref q3, .ref q4, .ref q5, .ref q6])), (q1, .inl (cc 0, 320, .inl (fun _ => 0))), (q2, .inl (cc 2, 40, .inl (fun _ => 0))), (q3, .inl (cc 0, 40, .inl (fun _ => 0))), (q4, .inl (cc 0, 40, .inl (fun _ => 0))), (q5, .inl (cc 0, 40, .inl (fun _ => 0))), (q6, .inl (cc 0, 40, .inl (fun _ => 0)))] := hD
  exact W.vret hx hb hr (fun t ht hW => ⟨⟨[q1, q2, q3, q4, q5, q6], rfl, rfl, by rw [ht]; exact hP, va_K.moved hW.alike hK, hD⟩, hS.F ht⟩) hS.2.2 dX4_init_63
abbrev rmX2_init : Room := { frames := 1, cells := 2, slots := 5376, locals := 30 }
set_option maxHeartbeats 8000000 in
set_option maxRecDepth 100000 in
theorem kX2_init {l : Launch} (h0 sz : Nat) (p0 : Nat) {D : va_G} {cc : Nat → ClassId} : Met l yX2_init (Cond.code yX2_init cX2_init 2 none :: WT) rmX2_init (CI_Pc D cc [.ref h0, .ref p0] [(h0, .inr (6, [.null, .int 0, .int 0, .null, .null, .int 0]))] sz) (CI_Q D cc [(h0, .inr (6, [.null, .int 0, .int 0, .null, .null, .int 0]))] sz 2 (fun u => [(h0, .inr (6, [.ref p0, .int (1 : Int32), .int (-1 : Int32), .ref (u.getD 0 0), .ref (u.getD 1 0), .int (0 : Int32)])), ((u.getD 0 0), .inl (cc 0, 3584, .inl (fun _ => 0))), ((u.getD 1 0), .inl (cc 0, 1792, .inl (fun _ => 0)))])) 2 5376 (va_A [(h0, .inr (6, [.null, .int 0, .int 0, .null, .null, .int 0]))] sz) := by
  refine Met.ofW (cc := cX2_init) (maxL := 2) (ret := none) (by decide) rfl ?_
  intro p e s m args below meth c s₁ B hml hv
  obtain ⟨rfl, hsz, hP, hK, hD0, hcix⟩ := hv
  subst hsz
  have hx := B.exec
  have hb := B.bytes
  have hr := B.returns
  have hts := atoms_spec (ws := Cond.code yX2_init cX2_init 2 none :: WT) B.pre
  have hown : s.vm.findClass RX2 = some m.cls := findClass_of_methodNamed B.named
  have hlocks := B.notSynchronized
  have hinit : meth.name = "<init>" := (name_of_methodNamed B.named B.method).1
  have hin := fun (w : Cond) (h : w ∈ wsX20) => List.mem_cons_of_mem (Cond.code yX2_init cX2_init 2 none) (inX2_WT w h)
  have hD := hD0.self (sz := s.heap.size)
  unfold CI_Q
  generalize hAe : va_A [(h0, .inr (6, [.null, .int 0, .int 0, .null, .null, .int 0]))] s.heap.size = A at hD hcix ⊢
  have hA : ∀ q : Nat, s.heap.size ≤ q → A q := fun q h => by rw [← hAe]; exact Or.inr h
  have hS : va_S A s.heap s.heap [] := va_S.rf
  have hl := lv_entry ([.ref h0, .ref p0]) (n := 2) (Nat.le_of_ble_eq_true rfl)
  rw [lg_entry_eq]
  generalize (lg_sl ([.ref h0, .ref p0]) ++ List.replicate (2 - (lg_sl ([.ref h0, .ref p0])).length) Slot.unset).toArray = ls at hl ⊢
  refine lv_aload_n hx hb dX2_init_0 rfl (lv_at hl 0 rfl) ?_
  refine W.objInit hx hb hown (hts _ (List.mem_cons_of_mem _ (memWT (i := 475) rfl))) (hts _ (List.mem_cons_of_mem _ (memWT (i := 483) rfl))) (hts _ (List.mem_cons_of_mem _ (memWT (i := 484) rfl))) rfl (by rw [hml]; exact hl.1) rfl dX2_init_1 (Nat.le_of_ble_eq_true rfl) (Nat.le_of_ble_eq_true rfl) ?_
  refine W.eq (g2 := F0 m 4 ls []) rfl ?_
  refine lv_aload_n hx hb dX2_init_4 rfl (lv_at hl 0 rfl) ?_
  refine lv_aload_n hx hb dX2_init_5 rfl (lv_at hl 1 rfl) ?_
  refine va_putF (D := D) (ci := 6) (v := .ref p0) (ty := .object "TraceWarden$Monitor") (C := RX2) (T := TX2) (N := 6) hx hb hts hin tyX2 tyX2_ok nmX2 hown hK hP hD hS 0 rfl rfl 0 (by decide) (hts _ (List.mem_cons_of_mem _ (memWT (i := 36) rfl))) (fun _ h9 => h9) rfl hinit rfl (by decide +kernel) rfl rfl (Nat.le_of_ble_eq_true rfl) dX2_init_6 (fun H locs hP hD hS => ?_)
  have hP : va_P D vwCl [(h0, .inr (6, [.ref p0, .int 0, .int 0, .null, .null, .int 0]))] H := hP
  have hD : va_D A [(h0, .inr (6, [.ref p0, .int 0, .int 0, .null, .null, .int 0]))] := hD
  refine lv_aload_n hx hb dX2_init_9 rfl (lv_at hl 0 rfl) ?_
  refine lv_iconst (v := (1 : Int32)) hx hb dX2_init_10 (by decide) ?_
  refine va_put (D := D) (ci := 6) (v := .int (1 : Int32)) (ty := .int) (C := RX2) (T := TX2) (N := 6) hx hb hts hin tyX2 tyX2_ok nmX2 hown hK hP hD hS 0 rfl rfl 1 (by decide) (hts _ (List.mem_cons_of_mem _ (memWT (i := 37) rfl))) (fun _ h9 => h9) rfl (by decide +kernel) rfl rfl (Nat.le_of_ble_eq_true rfl) dX2_init_11 (fun H locs hP hD hS => ?_)
  have hP : va_P D vwCl [(h0, .inr (6, [.ref p0, .int (1 : Int32), .int 0, .null, .null, .int 0]))] H := hP
  have hD : va_D A [(h0, .inr (6, [.ref p0, .int (1 : Int32), .int 0, .null, .null, .int 0]))] := hD
  refine lv_aload_n hx hb dX2_init_14 rfl (lv_at hl 0 rfl) ?_
  refine lv_iconst (v := (-1 : Int32)) hx hb dX2_init_15 (by decide) ?_
  refine va_put (D := D) (ci := 6) (v := .int (-1 : Int32)) (ty := .int) (C := RX2) (T := TX2) (N := 6) hx hb hts hin tyX2 tyX2_ok nmX2 hown hK hP hD hS 0 rfl rfl 2 (by decide) (hts _ (List.mem_cons_of_mem _ (memWT (i := 38) rfl))) (fun _ h9 => h9) rfl (by decide +kernel) rfl rfl (Nat.le_of_ble_eq_true rfl) dX2_init_16 (fun H locs hP hD hS => ?_)
  have hP : va_P D vwCl [(h0, .inr (6, [.ref p0, .int (1 : Int32), .int (-1 : Int32), .null, .null, .int 0]))] H := hP
  have hD : va_D A [(h0, .inr (6, [.ref p0, .int (1 : Int32), .int (-1 : Int32), .null, .null, .int 0]))] := hD
  refine lv_aload_n hx hb dX2_init_19 rfl (lv_at hl 0 rfl) ?_
  refine lv_sipush (v := (3584 : Int32)) hx hb dX2_init_20 (by decide) ?_
  refine va_newa (atype := .int) (ty := .int) (N' := 3584) (a0 := (3584, .inl (fun _ => 0))) hx hb (hts _ (List.mem_cons_of_mem _ (memWT (i := 504) rfl))) rfl hK hP hD hS hA (fun _ => rfl) (by decide) (by decide) (by decide) (by decide) (by decide) dX2_init_23 (fun q1 cA H hK1 hP hD hS => ?_)
  obtain rfl : cA = cc 0 := arrC hK hK1 0 rfl rfl
  refine W.cs (cells' := 1) (slots' := 3584) rfl rfl ?_
  have hP : va_P D vwCl [(h0, .inr (6, [.ref p0, .int (1 : Int32), .int (-1 : Int32), .null, .null, .int 0])), (q1, .inl (cc 0, 3584, .inl (fun _ => 0)))] H := hP
  have hD : va_D A [(h0, .inr (6, [.ref p0, .int (1 : Int32), .int (-1 : Int32), .null, .null, .int 0])), (q1, .inl (cc 0, 3584, .inl (fun _ => 0)))] := hD
  refine va_putF (D := D) (ci := 6) (v := .ref q1) (ty := .array .int) (C := RX2) (T := TX2) (N := 6) hx hb hts hin tyX2 tyX2_ok nmX2 hown hK hP hD hS 0 rfl rfl 3 (by decide) (hts _ (List.mem_cons_of_mem _ (memWT (i := 39) rfl))) (fun _ h9 => h9) rfl hinit rfl (by decide +kernel) rfl rfl (Nat.le_of_ble_eq_true rfl) dX2_init_25 (fun H locs hP hD hS => ?_)
  have hP : va_P D vwCl [(h0, .inr (6, [.ref p0, .int (1 : Int32), .int (-1 : Int32), .ref q1, .null, .int 0])), (q1, .inl (cc 0, 3584, .inl (fun _ => 0)))] H := hP
  have hD : va_D A [(h0, .inr (6, [.ref p0, .int (1 : Int32), .int (-1 : Int32), .ref q1, .null, .int 0])), (q1, .inl (cc 0, 3584, .inl (fun _ => 0)))] := hD
  refine lv_aload_n hx hb dX2_init_28 rfl (lv_at hl 0 rfl) ?_
  refine lv_sipush (v := (1792 : Int32)) hx hb dX2_init_29 (by decide) ?_
  refine va_newa (atype := .int) (ty := .int) (N' := 1792) (a0 := (1792, .inl (fun _ => 0))) hx hb (hts _ (List.mem_cons_of_mem _ (memWT (i := 504) rfl))) rfl hK hP hD hS hA (fun _ => rfl) (by decide) (by decide) (by decide) (by decide) (by decide) dX2_init_32 (fun q2 cA H hK1 hP hD hS => ?_)
  obtain rfl : cA = cc 0 := arrC hK hK1 0 rfl rfl
  refine W.cs (cells' := 2) (slots' := 5376) rfl rfl ?_
  have hP : va_P D vwCl [(h0, .inr (6, [.ref p0, .int (1 : Int32), .int (-1 : Int32), .ref q1, .null, .int 0])), (q1, .inl (cc 0, 3584, .inl (fun _ => 0))), (q2, .inl (cc 0, 1792, .inl (fun _ => 0)))] H := hP
  have hD : va_D A [(h0, .inr (6, [.ref p0, .int (1 : Int32), .int (-1 : Int32), .ref q1, .null, .int 0])), (q1, .inl (cc 0, 3584, .inl (fun _ => 0))), (q2, .inl (cc 0, 1792, .inl (fun _ => 0)))] := hD
  refine va_putF (D := D) (ci := 6) (v := .ref q2) (ty := .array .int) (C := RX2) (T := TX2) (N := 6) hx hb hts hin tyX2 tyX2_ok nmX2 hown hK hP hD hS 0 rfl rfl 4 (by decide) (hts _ (List.mem_cons_of_mem _ (memWT (i := 40) rfl))) (fun _ h9 => h9) rfl hinit rfl (by decide +kernel) rfl rfl (Nat.le_of_ble_eq_true rfl) dX2_init_34 (fun H locs hP hD hS => ?_)
  have hP : va_P D vwCl [(h0, .inr (6, [.ref p0, .int (1 : Int32), .int (-1 : Int32), .ref q1, .ref q2, .int 0])), (q1, .inl (cc 0, 3584, .inl (fun _ => 0))), (q2, .inl (cc 0, 1792, .inl (fun _ => 0)))] H := hP
  have hD : va_D A [(h0, .inr (6, [.ref p0, .int (1 : Int32), .int (-1 : Int32), .ref q1, .ref q2, .int 0])), (q1, .inl (cc 0, 3584, .inl (fun _ => 0))), (q2, .inl (cc 0, 1792, .inl (fun _ => 0)))] := hD
  refine lv_aload_n hx hb dX2_init_37 rfl (lv_at hl 0 rfl) ?_
  refine lv_iconst (v := (0 : Int32)) hx hb dX2_init_38 (by decide) ?_
  refine va_put (D := D) (ci := 6) (v := .int (0 : Int32)) (ty := .int) (C := RX2) (T := TX2) (N := 6) hx hb hts hin tyX2 tyX2_ok nmX2 hown hK hP hD hS 0 rfl rfl 5 (by decide) (hts _ (List.mem_cons_of_mem _ (memWT (i := 41) rfl))) (fun _ h9 => h9) rfl (by decide +kernel) rfl rfl (Nat.le_of_ble_eq_true rfl) dX2_init_39 (fun H locs hP hD hS => ?_)
  have hP : va_P D vwCl [(h0, .inr (6, [.ref p0, .int (1 : Int32), .int (-1 : Int32), .ref q1, .ref q2, .int (0 : Int32)])), (q1, .inl (cc 0, 3584, .inl (fun _ => 0))), (q2, .inl (cc 0, 1792, .inl (fun _ => 0)))] H := hP
  have hD : va_D A [(h0, .inr (6, [.ref p0, .int (1 : Int32), .int (-1 : Int32), .ref q1, .ref q2, .int (0 : Int32)])), (q1, .inl (cc 0, 3584, .inl (fun _ => 0))), (q2, .inl (cc 0, 1792, .inl (fun _ => 0)))] := hD
  exact W.vret hx hb hr (fun t ht hW => ⟨⟨[q1, q2], rfl, rfl, by rw [ht]; exact hP, va_K.moved hW.alike hK, hD⟩, hS.F ht⟩) hS.2.2 dX2_init_42
abbrev rmX7_init : Room := { frames := 1, cells := 1, slots := 60, locals := 30 }
set_option maxHeartbeats 8000000 in
set_option maxRecDepth 100000 in
theorem kX7_init {l : Launch} (h0 sz : Nat) (p0 : Nat) {D : va_G} {cc : Nat → ClassId} : Met l yX7_init (Cond.code yX7_init cX7_init 2 none :: WT) rmX7_init (CI_Pc D cc [.ref h0, .ref p0] [(h0, .inr (11, [.null, .null, .int 0, .int 0, .int 0]))] sz) (CI_Q D cc [(h0, .inr (11, [.null, .null, .int 0, .int 0, .int 0]))] sz 1 (fun u => [(h0, .inr (11, [.ref p0, .ref (u.getD 0 0), .int (0 : Int32), .int (0 : Int32), .int (0 : Int32)])), ((u.getD 0 0), .inl (cc 0, 60, .inl (fun _ => 0)))])) 1 60 (va_A [(h0, .inr (11, [.null, .null, .int 0, .int 0, .int 0]))] sz) := by
  refine Met.ofW (cc := cX7_init) (maxL := 2) (ret := none) (by decide) rfl ?_
  intro p e s m args below meth c s₁ B hml hv
  obtain ⟨rfl, hsz, hP, hK, hD0, hcix⟩ := hv
  subst hsz
  have hx := B.exec
  have hb := B.bytes
  have hr := B.returns
  have hts := atoms_spec (ws := Cond.code yX7_init cX7_init 2 none :: WT) B.pre
  have hown : s.vm.findClass RX7 = some m.cls := findClass_of_methodNamed B.named
  have hlocks := B.notSynchronized
  have hinit : meth.name = "<init>" := (name_of_methodNamed B.named B.method).1
  have hin := fun (w : Cond) (h : w ∈ wsX70) => List.mem_cons_of_mem (Cond.code yX7_init cX7_init 2 none) (inX7_WT w h)
  have hD := hD0.self (sz := s.heap.size)
  unfold CI_Q
  generalize hAe : va_A [(h0, .inr (11, [.null, .null, .int 0, .int 0, .int 0]))] s.heap.size = A at hD hcix ⊢
  have hA : ∀ q : Nat, s.heap.size ≤ q → A q := fun q h => by rw [← hAe]; exact Or.inr h
  have hS : va_S A s.heap s.heap [] := va_S.rf
  have hl := lv_entry ([.ref h0, .ref p0]) (n := 2) (Nat.le_of_ble_eq_true rfl)
  rw [lg_entry_eq]
  generalize (lg_sl ([.ref h0, .ref p0]) ++ List.replicate (2 - (lg_sl ([.ref h0, .ref p0])).length) Slot.unset).toArray = ls at hl ⊢
  refine lv_aload_n hx hb dX7_init_0 rfl (lv_at hl 0 rfl) ?_
  refine W.objInit hx hb hown (hts _ (List.mem_cons_of_mem _ (memWT (i := 480) rfl))) (hts _ (List.mem_cons_of_mem _ (memWT (i := 483) rfl))) (hts _ (List.mem_cons_of_mem _ (memWT (i := 484) rfl))) rfl (by rw [hml]; exact hl.1) rfl dX7_init_1 (Nat.le_of_ble_eq_true rfl) (Nat.le_of_ble_eq_true rfl) ?_
  refine W.eq (g2 := F0 m 4 ls []) rfl ?_
  refine lv_aload_n hx hb dX7_init_4 rfl (lv_at hl 0 rfl) ?_
  refine lv_aload_n hx hb dX7_init_5 rfl (lv_at hl 1 rfl) ?_
  refine va_putF (D := D) (ci := 11) (v := .ref p0) (ty := .object "TraceWarden$Monitor") (C := RX7) (T := TX7) (N := 5) hx hb hts hin tyX7 tyX7_ok nmX7 hown hK hP hD hS 0 rfl rfl 0 (by decide) (hts _ (List.mem_cons_of_mem _ (memWT (i := 101) rfl))) (fun _ h9 => h9) rfl hinit rfl (by decide +kernel) rfl rfl (Nat.le_of_ble_eq_true rfl) dX7_init_6 (fun H locs hP hD hS => ?_)
  have hP : va_P D vwCl [(h0, .inr (11, [.ref p0, .null, .int 0, .int 0, .int 0]))] H := hP
  have hD : va_D A [(h0, .inr (11, [.ref p0, .null, .int 0, .int 0, .int 0]))] := hD
  refine lv_aload_n hx hb dX7_init_9 rfl (lv_at hl 0 rfl) ?_
  refine lv_bipush (v := (60 : Int32)) hx hb dX7_init_10 (by decide) ?_
  refine va_newa (atype := .int) (ty := .int) (N' := 60) (a0 := (60, .inl (fun _ => 0))) hx hb (hts _ (List.mem_cons_of_mem _ (memWT (i := 504) rfl))) rfl hK hP hD hS hA (fun _ => rfl) (by decide) (by decide) (by decide) (by decide) (by decide) dX7_init_12 (fun q1 cA H hK1 hP hD hS => ?_)
  obtain rfl : cA = cc 0 := arrC hK hK1 0 rfl rfl
  refine W.cs (cells' := 1) (slots' := 60) rfl rfl ?_
  have hP : va_P D vwCl [(h0, .inr (11, [.ref p0, .null, .int 0, .int 0, .int 0])), (q1, .inl (cc 0, 60, .inl (fun _ => 0)))] H := hP
  have hD : va_D A [(h0, .inr (11, [.ref p0, .null, .int 0, .int 0, .int 0])), (q1, .inl (cc 0, 60, .inl (fun _ => 0)))] := hD
  refine va_putF (D := D) (ci := 11) (v := .ref q1) (ty := .array .int) (C := RX7) (T := TX7) (N := 5) hx hb hts hin tyX7 tyX7_ok nmX7 hown hK hP hD hS 0 rfl rfl 1 (by decide) (hts _ (List.mem_cons_of_mem _ (memWT (i := 102) rfl))) (fun _ h9 => h9) rfl hinit rfl (by decide +kernel) rfl rfl (Nat.le_of_ble_eq_true rfl) dX7_init_14 (fun H locs hP hD hS => ?_)
  have hP : va_P D vwCl [(h0, .inr (11, [.ref p0, .ref q1, .int 0, .int 0, .int 0])), (q1, .inl (cc 0, 60, .inl (fun _ => 0)))] H := hP
  have hD : va_D A [(h0, .inr (11, [.ref p0, .ref q1, .int 0, .int 0, .int 0])), (q1, .inl (cc 0, 60, .inl (fun _ => 0)))] := hD
  refine lv_aload_n hx hb dX7_init_17 rfl (lv_at hl 0 rfl) ?_
  refine lv_iconst (v := (0 : Int32)) hx hb dX7_init_18 (by decide) ?_
  refine va_put (D := D) (ci := 11) (v := .int (0 : Int32)) (ty := .boolean) (C := RX7) (T := TX7) (N := 5) hx hb hts hin tyX7 tyX7_ok nmX7 hown hK hP hD hS 0 rfl rfl 2 (by decide) (hts _ (List.mem_cons_of_mem _ (memWT (i := 103) rfl))) (fun _ h9 => h9) rfl (by decide +kernel) rfl rfl (Nat.le_of_ble_eq_true rfl) dX7_init_19 (fun H locs hP hD hS => ?_)
  have hP : va_P D vwCl [(h0, .inr (11, [.ref p0, .ref q1, .int (0 : Int32), .int 0, .int 0])), (q1, .inl (cc 0, 60, .inl (fun _ => 0)))] H := hP
  have hD : va_D A [(h0, .inr (11, [.ref p0, .ref q1, .int (0 : Int32), .int 0, .int 0])), (q1, .inl (cc 0, 60, .inl (fun _ => 0)))] := hD
  refine lv_aload_n hx hb dX7_init_22 rfl (lv_at hl 0 rfl) ?_
  refine lv_iconst (v := (0 : Int32)) hx hb dX7_init_23 (by decide) ?_
  refine va_put (D := D) (ci := 11) (v := .int (0 : Int32)) (ty := .int) (C := RX7) (T := TX7) (N := 5) hx hb hts hin tyX7 tyX7_ok nmX7 hown hK hP hD hS 0 rfl rfl 3 (by decide) (hts _ (List.mem_cons_of_mem _ (memWT (i := 104) rfl))) (fun _ h9 => h9) rfl (by decide +kernel) rfl rfl (Nat.le_of_ble_eq_true rfl) dX7_init_24 (fun H locs hP hD hS => ?_)
  have hP : va_P D vwCl [(h0, .inr (11, [.ref p0, .ref q1, .int (0 : Int32), .int (0 : Int32), .int 0])), (q1, .inl (cc 0, 60, .inl (fun _ => 0)))] H := hP
  have hD : va_D A [(h0, .inr (11, [.ref p0, .ref q1, .int (0 : Int32), .int (0 : Int32), .int 0])), (q1, .inl (cc 0, 60, .inl (fun _ => 0)))] := hD
  refine lv_aload_n hx hb dX7_init_27 rfl (lv_at hl 0 rfl) ?_
  refine lv_iconst (v := (0 : Int32)) hx hb dX7_init_28 (by decide) ?_
  refine va_put (D := D) (ci := 11) (v := .int (0 : Int32)) (ty := .int) (C := RX7) (T := TX7) (N := 5) hx hb hts hin tyX7 tyX7_ok nmX7 hown hK hP hD hS 0 rfl rfl 4 (by decide) (hts _ (List.mem_cons_of_mem _ (memWT (i := 105) rfl))) (fun _ h9 => h9) rfl (by decide +kernel) rfl rfl (Nat.le_of_ble_eq_true rfl) dX7_init_29 (fun H locs hP hD hS => ?_)
  have hP : va_P D vwCl [(h0, .inr (11, [.ref p0, .ref q1, .int (0 : Int32), .int (0 : Int32), .int (0 : Int32)])), (q1, .inl (cc 0, 60, .inl (fun _ => 0)))] H := hP
  have hD : va_D A [(h0, .inr (11, [.ref p0, .ref q1, .int (0 : Int32), .int (0 : Int32), .int (0 : Int32)])), (q1, .inl (cc 0, 60, .inl (fun _ => 0)))] := hD
  exact W.vret hx hb hr (fun t ht hW => ⟨⟨[q1], rfl, rfl, by rw [ht]; exact hP, va_K.moved hW.alike hK, hD⟩, hS.F ht⟩) hS.2.2 dX7_init_32
abbrev rmJ5_init_d00df : Room := { frames := 1, cells := 1, slots := 16, locals := 30 }
set_option maxHeartbeats 8000000 in
set_option maxRecDepth 100000 in
theorem kJ5_init_d00df {l : Launch} (h0 sz : Nat) {D : va_G} {cc : Nat → ClassId} : Met l yJ5_init_d00df (Cond.code yJ5_init_d00df cJ5_init_d00df 2 none :: WT) rmJ5_init_d00df (CI_Pc D cc [.ref h0, .int (16 : Int32)] [(h0, .inr (1, [.null, .int 0, .int 0, .int 0]))] sz) (CI_Q D cc [(h0, .inr (1, [.null, .int 0, .int 0, .int 0]))] sz 1 (fun u => [(h0, .inr (1, [.ref (u.getD 0 0), .int (0 : Int32), .int 0, .int 0])), ((u.getD 0 0), .inl (cc 4, 16, .inl (fun _ => 0)))])) 1 16 (va_A [(h0, .inr (1, [.null, .int 0, .int 0, .int 0]))] sz) := by
  refine Met.ofW (cc := cJ5_init_d00df) (maxL := 2) (ret := none) (by decide) rfl ?_
  intro p e s m args below meth c s₁ B hml hv
  obtain ⟨rfl, hsz, hP, hK, hD0, hcix⟩ := hv
  subst hsz
  have hx := B.exec
  have hb := B.bytes
  have hr := B.returns
  have hts := atoms_spec (ws := Cond.code yJ5_init_d00df cJ5_init_d00df 2 none :: WT) B.pre
  have hown : s.vm.findClass RJ5 = some m.cls := findClass_of_methodNamed B.named
  have hlocks := B.notSynchronized
  have hinit : meth.name = "<init>" := (name_of_methodNamed B.named B.method).1
  have hin := fun (w : Cond) (h : w ∈ wsJ40) => List.mem_cons_of_mem (Cond.code yJ5_init_d00df cJ5_init_d00df 2 none) (inJ4_WT w h)
  have hD := hD0.self (sz := s.heap.size)
  unfold CI_Q
  generalize hAe : va_A [(h0, .inr (1, [.null, .int 0, .int 0, .int 0]))] s.heap.size = A at hD hcix ⊢
  have hA : ∀ q : Nat, s.heap.size ≤ q → A q := fun q h => by rw [← hAe]; exact Or.inr h
  have hS : va_S A s.heap s.heap [] := va_S.rf
  have hl := lv_entry ([.ref h0, .int (16 : Int32)]) (n := 2) (Nat.le_of_ble_eq_true rfl)
  rw [lg_entry_eq]
  generalize (lg_sl ([.ref h0, .int (16 : Int32)]) ++ List.replicate (2 - (lg_sl ([.ref h0, .int (16 : Int32)])).length) Slot.unset).toArray = ls at hl ⊢
  refine lv_aload_n hx hb dJ5_init_d00df_0 rfl (lv_at hl 0 rfl) ?_
  refine W.objInit hx hb hown (hts _ (List.mem_cons_of_mem _ (memWT (i := 482) rfl))) (hts _ (List.mem_cons_of_mem _ (memWT (i := 483) rfl))) (hts _ (List.mem_cons_of_mem _ (memWT (i := 484) rfl))) rfl (by rw [hml]; exact hl.1) rfl dJ5_init_d00df_1 (Nat.le_of_ble_eq_true rfl) (Nat.le_of_ble_eq_true rfl) ?_
  refine W.eq (g2 := F0 m 4 ls []) rfl ?_
  refine va_gets hx hb hcix.2.2 hS hown (hts _ (List.mem_cons_of_mem _ (memWT (i := 153) rfl))) (fun _ h => h) dJ5_init_d00df_4 ?_
  refine lv_if_eq (tgt := 25) hx hb dJ5_init_d00df_7 (by decide) (fun c1 => absurd c1 (by decide)) (fun _ => ?_)
  refine lv_aload_n hx hb dJ5_init_d00df_10 rfl (lv_at hl 0 rfl) ?_
  refine lv_iload_n hx hb dJ5_init_d00df_11 rfl (lv_at hl 1 rfl) ?_
  refine va_newa (atype := .byte) (ty := .byte) (N' := 16) (a0 := (16, .inl (fun _ => 0))) hx hb (hts _ (List.mem_cons_of_mem _ (memWT (i := 508) rfl))) rfl hK hP hD hS hA (fun _ => rfl) (by decide) (by decide) (by decide) (by decide) (by decide) dJ5_init_d00df_12 (fun q1 cA H hK1 hP hD hS => ?_)
  obtain rfl : cA = cc 4 := arrC hK hK1 4 rfl rfl
  refine W.cs (cells' := 1) (slots' := 16) rfl rfl ?_
  have hP : va_P D vwCl [(h0, .inr (1, [.null, .int 0, .int 0, .int 0])), (q1, .inl (cc 4, 16, .inl (fun _ => 0)))] H := hP
  have hD : va_D A [(h0, .inr (1, [.null, .int 0, .int 0, .int 0])), (q1, .inl (cc 4, 16, .inl (fun _ => 0)))] := hD
  refine va_put (D := D) (ci := 1) (v := .ref q1) (ty := .array .byte) (C := RJ4) (T := TJ4) (N := 4) hx hb hts hin tyJ4 tyJ4_ok nmJ4 hown hK hP hD hS 0 rfl rfl 0 (by decide) (hts _ (List.mem_cons_of_mem _ (memWT (i := 152) rfl))) (fun _ h9 => h9) rfl (by decide +kernel) rfl rfl (Nat.le_of_ble_eq_true rfl) dJ5_init_d00df_14 (fun H locs hP hD hS => ?_)
  have hP : va_P D vwCl [(h0, .inr (1, [.ref q1, .int 0, .int 0, .int 0])), (q1, .inl (cc 4, 16, .inl (fun _ => 0)))] H := hP
  have hD : va_D A [(h0, .inr (1, [.ref q1, .int 0, .int 0, .int 0])), (q1, .inl (cc 4, 16, .inl (fun _ => 0)))] := hD
  refine lv_aload_n hx hb dJ5_init_d00df_17 rfl (lv_at hl 0 rfl) ?_
  refine lv_iconst (v := (0 : Int32)) hx hb dJ5_init_d00df_18 (by decide) ?_
  refine va_put (D := D) (ci := 1) (v := .int (0 : Int32)) (ty := .byte) (C := RJ4) (T := TJ4) (N := 4) hx hb hts hin tyJ4 tyJ4_ok nmJ4 hown hK hP hD hS 0 rfl rfl 1 (by decide) (hts _ (List.mem_cons_of_mem _ (memWT (i := 154) rfl))) (fun _ h9 => h9) rfl (by decide +kernel) rfl rfl (Nat.le_of_ble_eq_true rfl) dJ5_init_d00df_19 (fun H locs hP hD hS => ?_)
  have hP : va_P D vwCl [(h0, .inr (1, [.ref q1, .int (0 : Int32), .int 0, .int 0])), (q1, .inl (cc 4, 16, .inl (fun _ => 0)))] H := hP
  have hD : va_D A [(h0, .inr (1, [.ref q1, .int (0 : Int32), .int 0, .int 0])), (q1, .inl (cc 4, 16, .inl (fun _ => 0)))] := hD
  refine lv_goto (tgt := 38) hx hb dJ5_init_d00df_22 (by decide) ?_
  refine W.eq (g2 := F0 m 38 ls []) rfl ?_
  exact W.vret hx hb hr (fun t ht hW => ⟨⟨[q1], rfl, rfl, by rw [ht]; exact hP, va_K.moved hW.alike hK, hD⟩, hS.F ht⟩) hS.2.2 dJ5_init_d00df_38
abbrev rmJ4_init_da8c8 : Room := { frames := 2, cells := 1, slots := 16, locals := 60 }
set_option maxHeartbeats 8000000 in
set_option maxRecDepth 100000 in
theorem kJ4_init_da8c8 {l : Launch} (h0 sz : Nat) {D : va_G} {cc : Nat → ClassId} : Met l yJ4_init_da8c8 (Cond.code yJ4_init_da8c8 cJ4_init_da8c8 1 none :: WT) rmJ4_init_da8c8 (CI_Pc D cc [.ref h0] [(h0, .inr (1, [.null, .int 0, .int 0, .int 0]))] sz) (CI_Q D cc [(h0, .inr (1, [.null, .int 0, .int 0, .int 0]))] sz 1 (fun u => [(h0, .inr (1, [.ref (u.getD 0 0), .int (0 : Int32), .int 0, .int 0])), ((u.getD 0 0), .inl (cc 4, 16, .inl (fun _ => 0)))])) 1 16 (va_A [(h0, .inr (1, [.null, .int 0, .int 0, .int 0]))] sz) := by
  refine Met.ofW (cc := cJ4_init_da8c8) (maxL := 1) (ret := none) (by decide) rfl ?_
  intro p e s m args below meth c s₁ B hml hv
  obtain ⟨rfl, hsz, hP, hK, hD0, hcix⟩ := hv
  subst hsz
  have hx := B.exec
  have hb := B.bytes
  have hr := B.returns
  have hts := atoms_spec (ws := Cond.code yJ4_init_da8c8 cJ4_init_da8c8 1 none :: WT) B.pre
  have hown : s.vm.findClass RJ4 = some m.cls := findClass_of_methodNamed B.named
  have hlocks := B.notSynchronized
  have hinit : meth.name = "<init>" := (name_of_methodNamed B.named B.method).1
  have hin := fun (w : Cond) (h : w ∈ wsJ40) => List.mem_cons_of_mem (Cond.code yJ4_init_da8c8 cJ4_init_da8c8 1 none) (inJ4_WT w h)
  have hD := hD0.self (sz := s.heap.size)
  unfold CI_Q
  generalize hAe : va_A [(h0, .inr (1, [.null, .int 0, .int 0, .int 0]))] s.heap.size = A at hD hcix ⊢
  have hA : ∀ q : Nat, s.heap.size ≤ q → A q := fun q h => by rw [← hAe]; exact Or.inr h
  have hS : va_S A s.heap s.heap [] := va_S.rf
  have hl := lv_entry ([.ref h0]) (n := 1) (Nat.le_of_ble_eq_true rfl)
  rw [lg_entry_eq]
  generalize (lg_sl ([.ref h0]) ++ List.replicate (1 - (lg_sl ([.ref h0])).length) Slot.unset).toArray = ls at hl ⊢
  refine lv_aload_n hx hb dJ4_init_da8c8_0 rfl (lv_at hl 0 rfl) ?_
  refine lv_bipush (v := (16 : Int32)) hx hb dJ4_init_da8c8_1 (by decide) ?_
  refine T_ciL (ci := 1) (wr := []) (As := [.int (16 : Int32)]) (rest := []) ⟨hx, hb, hml, hown, hts⟩ (fun sz => kJ5_init_d00df (l := l) h0 sz) rfl (T_gd (T_cons (memWT (i := 527) rfl))) (hts _ (List.mem_cons_of_mem _ (memWT (i := 13) rfl))) (hts _ (List.mem_cons_of_mem _ (memWT (i := 530) rfl))) (hts _ (List.mem_cons_of_mem _ (memWT (i := 528) rfl))) rfl (by decide +kernel) ⟨by decide, by decide⟩ ⟨rfl, rfl⟩ hK hP hD hS hA hcix rfl hl.1 rfl (lv_room (Nat.le_of_ble_eq_true rfl)) dJ4_init_da8c8_3 ⟨by decide, by decide⟩ (fun u hu H locs hP hD hS => ?_)
  refine W.cs (cells' := 1) (slots' := 16) rfl rfl ?_
  have hP : va_P D vwCl [(h0, .inr (1, [.ref (u.getD 0 0), .int (0 : Int32), .int 0, .int 0])), ((u.getD 0 0), .inl (cc 4, 16, .inl (fun _ => 0)))] H := hP
  have hD : va_D A [(h0, .inr (1, [.ref (u.getD 0 0), .int (0 : Int32), .int 0, .int 0])), ((u.getD 0 0), .inl (cc 4, 16, .inl (fun _ => 0)))] := hD
  exact W.vret hx hb hr (fun t ht hW => ⟨⟨u, rfl, hu, by rw [ht]; exact hP, va_K.moved hW.alike hK, hD⟩, hS.F ht⟩) hS.2.2 dJ4_init_da8c8_6
