set_option maxRecDepth 100000
def nodeC (q : Nat) : Nat × va_E := (q, .inr (9, [.int 0, .int 0, .int 0, .int 0, .int 0, .int 0, .int 0, .int 0, .int 0]))
abbrev rmX1_init : Room := { frames := 2, cells := 43, slots := 418, locals := 60 }
theorem nodeAt {x y : Nat × va_E} (L : List Nat) (q : Nat) : (([x, y] ++ L.map nodeC) ++ [(q, Sum.inr (9, [Value.int 0, Value.int 0, Value.int 0, Value.int 0, Value.int 0, Value.int 0, Value.int 0, Value.int 0, Value.int 0]))])[2 + L.length]? = some (q, Sum.inr (9, [Value.int 0, Value.int 0, Value.int 0, Value.int 0, Value.int 0, Value.int 0, Value.int 0, Value.int 0, Value.int 0])) := by
  rw [List.getElem?_append_right (by simp; omega)]
  have h : 2 + L.length - ([x, y] ++ L.map nodeC).length = 0 := by simp; omega
  rw [h]
  rfl
theorem nodes_set {x y z : Nat × va_E} (L : List Nat) (q : Nat) : (([x, y] ++ L.map nodeC) ++ [(q, Sum.inr (9, [Value.int 0, Value.int 0, Value.int 0, Value.int 0, Value.int 0, Value.int 0, Value.int 0, Value.int 0, Value.int 0]))]).set 1 z = [x, z] ++ (L ++ [q]).map nodeC := by
  rw [List.map_append]
  rfl
theorem nodes_push (L : List Nat) (q : Nat) : va_up (fun j => L[j]?) L.length (some q) = fun j => (L ++ [q])[j]? := by
  funext j
  unfold va_up
  by_cases h : j = L.length
  · subst h; simp
  · rw [if_neg h]
    show L[j]? = (L ++ [q])[j]?
    by_cases h2 : j < L.length
    · rw [List.getElem?_append_left h2]
    · have h3 : (L ++ [q]).length ≤ j := by simp; omega
      have h4 : L.length ≤ j := by omega
      rw [List.getElem?_eq_none h3, List.getElem?_eq_none h4]
set_option maxHeartbeats 8000000 in
set_option maxRecDepth 100000 in
theorem tX1_loop {l : Launch} {p : Program} {e : Env} {s : State} {m : MethodId} {args : Array Value} {below : List Frame} {meth : Method} {c : Code} {D : va_G} {cc : Nat → ClassId} {A : Nat → Prop} {Q : State → Prop} {h0 qn : Nat} (hx : p.tables.exec = Jvm.exec) (hb : c.code = cX1_init) (hml : c.maxLocals = 2) (hown : s.vm.findClass RX1 = some m.cls) (hts : ∀ w ∈ Cond.code yX1_init cX1_init 2 none :: WT, w.before args s = true) (hK : va_K D vwCl (tyT cc) s) (hA : ∀ q, s.heap.size ≤ q → A q) (hcix : CIX A s s.heap)
    (kk : ∀ (L : List Nat) (H : Heap) (locs : List Loc) (ls : Array Slot), L.length = 40 → va_P D vwCl ([(h0, .inr (5, [.ref qn, .int 0, .int 0, .int 0, .null, .null])), (qn, .inl (cc 5, 40, .inr (.inr (.inr (.inr (fun j => L[j]?))))))] ++ L.map nodeC) H → va_D A ([(h0, .inr (5, [.ref qn, .int 0, .int 0, .int 0, .null, .null])), (qn, .inl (cc 5, 40, .inr (.inr (.inr (.inr (fun j => L[j]?))))))] ++ L.map nodeC) → va_S A s.heap H locs → lv_has ls 2 [(0, .ref h0)] → W p l e rmX1_init s m args below meth c H locs 41 400 Q (F0 m 40 ls [])) :
    ∀ (n : Nat) (L : List Nat) {H : Heap} {locs : List Loc} {ls : Array Slot}, L.length + n = 40 → va_P D vwCl ([(h0, .inr (5, [.ref qn, .int 0, .int 0, .int 0, .null, .null])), (qn, .inl (cc 5, 40, .inr (.inr (.inr (.inr (fun j => L[j]?))))))] ++ L.map nodeC) H → va_D A ([(h0, .inr (5, [.ref qn, .int 0, .int 0, .int 0, .null, .null])), (qn, .inl (cc 5, 40, .inr (.inr (.inr (.inr (fun j => L[j]?))))))] ++ L.map nodeC) → va_S A s.heap H locs → lv_has ls 2 [(1, .int (nI L.length)), (0, .ref h0)] → W p l e rmX1_init s m args below meth c H locs (1 + L.length) (40 + 9 * L.length) Q (F0 m 15 ls []) := by
  have hin := fun (w : Cond) (h : w ∈ wsX10) => List.mem_cons_of_mem (Cond.code yX1_init cX1_init 2 none) (inX1_WT w h)
  intro n
  induction n with
  | zero =>
    intro L H locs ls hn hP hD hS hl
    refine lv_iload_n hx hb dX1_init_15 rfl (lv_at hl 0 rfl) ?_
    refine lv_bipush (v := (40 : Int32)) hx hb dX1_init_16 (by decide) ?_
    refine lv_icmp_ge (tgt := 40) hx hb dX1_init_18 (by decide) (fun c1 => ?_) (fun c1 => ?_)
    · refine W.cs (cells' := 41) (slots' := 400) (by omega) (by omega) ?_
      exact kk L H locs ls (by omega) hP hD hS (lv_sub hl [1] rfl)
    · exact absurd (nI_le (a := 40) (b := L.length) (by omega) (by omega)) c1
  | succ n ih =>
    intro L H locs ls hn hP hD hS hl
    refine lv_iload_n hx hb dX1_init_15 rfl (lv_at hl 0 rfl) ?_
    refine lv_bipush (v := (40 : Int32)) hx hb dX1_init_16 (by decide) ?_
    refine lv_icmp_ge (tgt := 40) hx hb dX1_init_18 (by decide) (fun c1 => ?_) (fun c1 => ?_)
    · exact absurd c1 (nI_ge (a := L.length) (b := 40) (by omega) (by decide))
    · refine lv_aload_n hx hb dX1_init_21 rfl (lv_at hl 1 rfl) ?_
      refine va_get (D := D) (ci := 5) (C := RX1) (T := TX1) (N := 6) hx hb hts hin hown hK hP 0 rfl rfl 0 (by decide) (hts _ (List.mem_cons_of_mem _ (memWT (i := 28) rfl))) (fun _ h9 => h9) rfl dX1_init_22 ?_
      refine lv_iload_n hx hb dX1_init_25 rfl (lv_at hl 0 rfl) ?_
      refine va_new (ci := 9) (fs := [.int 0, .int 0, .int 0, .int 0, .int 0, .int 0, .int 0, .int 0, .int 0]) (C := RX5) (T := TX5) (N := 9) hx hb hts (fun w h => List.mem_cons_of_mem _ (inX5_WT w h)) tyX5 tyX5_ok hown (hts _ (List.mem_cons_of_mem _ (memWT (i := 493) rfl))) (hts _ (List.mem_cons_of_mem _ (memWT (i := 496) rfl))) (hts _ (List.mem_cons_of_mem _ (memWT (i := 5) rfl))) hK hP hD hS hA rfl (by decide +kernel) (by show 1 + L.length + 1 ≤ 43; omega) (by show 40 + 9 * L.length + 9 ≤ 418; omega) dX1_init_26 (fun q H hP hD hS => ?_)
      refine lv_dup hx hb dX1_init_29 rfl ?_
      refine T_ciN (ci := 9) (wr := ([(h0, .inr (5, [.ref qn, .int 0, .int 0, .int 0, .null, .null])), (qn, .inl (cc 5, 40, .inr (.inr (.inr (.inr (fun j => L[j]?))))))] ++ L.map nodeC)) (As := []) (rest := [.ref q, .int (nI L.length), .ref qn]) ⟨hx, hb, hml, hown, hts⟩ (fun sz => kX5_init (l := l) q sz) rfl (T_gd (T_cons (memWT (i := 509) rfl))) (hts _ (List.mem_cons_of_mem _ (memWT (i := 5) rfl))) (hcix.1 _ (memNW (i := 15) rfl)) (hts _ (List.mem_cons_of_mem _ (memWT (i := 510) rfl))) rfl (by decide +kernel) ⟨by decide, by decide⟩ ⟨rfl, rfl⟩ hK hP hD hS hA hcix rfl hl.1 rfl (lv_room (Nat.le_of_ble_eq_true rfl)) dX1_init_30 ⟨by show 1 + L.length + 1 + 0 ≤ 43; omega, by show 40 + 9 * L.length + 9 + 0 ≤ 418; omega⟩ (fun u hu H locs hP hD hS => ?_)
      refine va_astq hx hb hK hP hD hS 1 5 (2 + L.length) 9 (r := (RX5, TX5, 9)) (vs := [.int 0, .int 0, .int 0, .int 0, .int 0, .int 0, .int 0, .int 0, .int 0]) rfl rfl (nodeAt L q) rfl (vp_in_nI (by omega) (by decide)) dX1_init_33 (fun H locs hP hD hS => ?_)
      rw [nI_clamp (by omega), nodes_push, nodes_set] at hP hD
      refine W.cs (cells' := 1 + (L ++ [q]).length) (slots' := 40 + 9 * (L ++ [q]).length) (by simp; omega) (by simp; omega) ?_
      refine lv_iinc (v := nI (L ++ [q]).length) (lv' := [(1, .int (nI (L ++ [q]).length)), (0, .ref h0)]) hx hb dX1_init_34 hl (k := 0) rfl (by rw [List.length_append]; exact nI_1 L.length) (by decide) rfl (fun ls hl => ?_)
      refine lv_goto (tgt := 15) hx hb dX1_init_37 (by decide) ?_
      exact ih (L ++ [q]) (by simp; omega) hP hD hS hl
set_option maxHeartbeats 8000000 in
set_option maxRecDepth 100000 in
theorem kX1_init {l : Launch} (h0 sz : Nat) {D : va_G} {cc : Nat → ClassId} : Met l yX1_init (Cond.code yX1_init cX1_init 2 none :: WT) rmX1_init (CI_Pc D cc [.ref h0] [(h0, .inr (5, [.null, .int 0, .int 0, .int 0, .null, .null]))] sz) (CI_Q D cc [(h0, .inr (5, [.null, .int 0, .int 0, .int 0, .null, .null]))] sz 43 (fun u => ([(h0, .inr (5, [.ref (u.getD 0 0), .int (0 : Int32), .int (0 : Int32), .int (1 : Int32), .ref (u.getD 1 0), .ref (u.getD 2 0)])), ((u.getD 0 0), .inl (cc 5, 40, .inr (.inr (.inr (.inr (fun j => (u.drop 3)[j]?)))))), ((u.getD 1 0), .inl (cc 0, 9, .inl (fun _ => 0))), ((u.getD 2 0), .inl (cc 0, 9, .inl (fun _ => 0)))] ++ (u.drop 3).map nodeC))) 43 418 (va_A [(h0, .inr (5, [.null, .int 0, .int 0, .int 0, .null, .null]))] sz) := by
  refine Met.ofW (cc := cX1_init) (maxL := 2) (ret := none) (by decide) rfl ?_
  intro p e s m args below meth c s₁ B hml hv
  obtain ⟨rfl, hsz, hP, hK, hD0, hcix⟩ := hv
  subst hsz
  have hx := B.exec
  have hb := B.bytes
  have hr := B.returns
  have hts := atoms_spec (ws := Cond.code yX1_init cX1_init 2 none :: WT) B.pre
  have hown : s.vm.findClass RX1 = some m.cls := findClass_of_methodNamed B.named
  have hlocks := B.notSynchronized
  have hinit : meth.name = "<init>" := (name_of_methodNamed B.named B.method).1
  have hin := fun (w : Cond) (h : w ∈ wsX10) => List.mem_cons_of_mem (Cond.code yX1_init cX1_init 2 none) (inX1_WT w h)
  have hD := hD0.self (sz := s.heap.size)
  unfold CI_Q
  generalize hAe : va_A [(h0, .inr (5, [.null, .int 0, .int 0, .int 0, .null, .null]))] s.heap.size = A at hD hcix ⊢
  have hA : ∀ q : Nat, s.heap.size ≤ q → A q := fun q h => by rw [← hAe]; exact Or.inr h
  have hS : va_S A s.heap s.heap [] := va_S.rf
  have hl := lv_entry ([.ref h0]) (n := 2) (Nat.le_of_ble_eq_true rfl)
  rw [lg_entry_eq]
  generalize (lg_sl ([.ref h0]) ++ List.replicate (2 - (lg_sl ([.ref h0])).length) Slot.unset).toArray = ls at hl ⊢
  refine lv_aload_n hx hb dX1_init_0 rfl (lv_at hl 0 rfl) ?_
  refine W.objInit hx hb hown (hts _ (List.mem_cons_of_mem _ (memWT (i := 474) rfl))) (hts _ (List.mem_cons_of_mem _ (memWT (i := 483) rfl))) (hts _ (List.mem_cons_of_mem _ (memWT (i := 484) rfl))) rfl (by rw [hml]; exact hl.1) rfl dX1_init_1 (Nat.le_of_ble_eq_true rfl) (Nat.le_of_ble_eq_true rfl) ?_
  refine W.eq (g2 := F0 m 4 ls []) rfl ?_
  refine lv_aload_n hx hb dX1_init_4 rfl (lv_at hl 0 rfl) ?_
  refine lv_bipush (v := (40 : Int32)) hx hb dX1_init_5 (by decide) ?_
  refine va_newq (C := RX5) (N' := 40) hx hb hown (hts _ (List.mem_cons_of_mem _ (memWT (i := 493) rfl))) hcix.2.1 hK hP hD hS hA (by decide) (by decide) (by decide) (by decide) (by decide) dX1_init_7 (fun qn cA H hK1 hP hD hS => ?_)
  obtain rfl : cA = cc 5 := arrQ hK hK1 5 rfl
  refine W.cs (cells' := 1) (slots' := 40) rfl rfl ?_
  refine va_putF (D := D) (ci := 5) (v := .ref qn) (ty := .array (.object "TraceWarden$Node")) (C := RX1) (T := TX1) (N := 6) hx hb hts hin tyX1 tyX1_ok nmX1 hown hK hP hD hS 0 rfl rfl 0 (by decide) (hts _ (List.mem_cons_of_mem _ (memWT (i := 28) rfl))) (fun _ h9 => h9) rfl hinit rfl (by decide +kernel) rfl rfl (Nat.le_of_ble_eq_true rfl) dX1_init_10 (fun H locs hP hD hS => ?_)
  refine lv_iconst (v := (0 : Int32)) hx hb dX1_init_13 (by decide) ?_
  refine lv_istore_n (lv' := [(1, .int (0 : Int32)), (0, .ref h0)]) hx hb dX1_init_14 rfl hl (by decide) rfl (fun ls hl => ?_)
  refine tX1_loop (h0 := h0) (qn := qn) hx hb hml hown hts hK hA hcix (fun L H locs ls hL hP hD hS hl => ?_) 40 [] rfl hP hD hS hl
  refine lv_aload_n hx hb dX1_init_40 rfl (lv_at hl 0 rfl) ?_
  refine lv_bipush (v := (9 : Int32)) hx hb dX1_init_41 (by decide) ?_
  refine va_newa (atype := .int) (ty := .int) (N' := 9) (a0 := (9, .inl (fun _ => 0))) hx hb (hts _ (List.mem_cons_of_mem _ (memWT (i := 504) rfl))) rfl hK hP hD hS hA (fun _ => rfl) (by decide) (by decide) (by decide) (by decide) (by decide) dX1_init_43 (fun q1 cA H hK1 hP hD hS => ?_)
  obtain rfl : cA = cc 0 := arrC hK hK1 0 rfl rfl
  refine W.cs (cells' := 42) (slots' := 409) rfl rfl ?_
  have hP := P_mv hP
  have hD := D_mv hD
  have hP : va_P D vwCl ([(h0, .inr (5, [.ref qn, .int 0, .int 0, .int 0, .null, .null])), (qn, .inl (cc 5, 40, .inr (.inr (.inr (.inr (fun j => L[j]?)))))), (q1, .inl (cc 0, 9, .inl (fun _ => 0)))] ++ L.map nodeC) H := hP
  have hD : va_D A ([(h0, .inr (5, [.ref qn, .int 0, .int 0, .int 0, .null, .null])), (qn, .inl (cc 5, 40, .inr (.inr (.inr (.inr (fun j => L[j]?)))))), (q1, .inl (cc 0, 9, .inl (fun _ => 0)))] ++ L.map nodeC) := hD
  refine va_putF (D := D) (ci := 5) (v := .ref q1) (ty := .array .int) (C := RX1) (T := TX1) (N := 6) hx hb hts hin tyX1 tyX1_ok nmX1 hown hK hP hD hS 0 rfl rfl 4 (by decide) (hts _ (List.mem_cons_of_mem _ (memWT (i := 29) rfl))) (fun _ h9 => h9) rfl hinit rfl (by decide +kernel) rfl rfl (Nat.le_of_ble_eq_true rfl) dX1_init_45 (fun H locs hP hD hS => ?_)
  have hP : va_P D vwCl ([(h0, .inr (5, [.ref qn, .int 0, .int 0, .int 0, .ref q1, .null])), (qn, .inl (cc 5, 40, .inr (.inr (.inr (.inr (fun j => L[j]?)))))), (q1, .inl (cc 0, 9, .inl (fun _ => 0)))] ++ L.map nodeC) H := hP
  have hD : va_D A ([(h0, .inr (5, [.ref qn, .int 0, .int 0, .int 0, .ref q1, .null])), (qn, .inl (cc 5, 40, .inr (.inr (.inr (.inr (fun j => L[j]?)))))), (q1, .inl (cc 0, 9, .inl (fun _ => 0)))] ++ L.map nodeC) := hD
  refine lv_aload_n hx hb dX1_init_48 rfl (lv_at hl 0 rfl) ?_
  refine lv_bipush (v := (9 : Int32)) hx hb dX1_init_49 (by decide) ?_
  refine va_newa (atype := .int) (ty := .int) (N' := 9) (a0 := (9, .inl (fun _ => 0))) hx hb (hts _ (List.mem_cons_of_mem _ (memWT (i := 504) rfl))) rfl hK hP hD hS hA (fun _ => rfl) (by decide) (by decide) (by decide) (by decide) (by decide) dX1_init_51 (fun q2 cA H hK1 hP hD hS => ?_)
  obtain rfl : cA = cc 0 := arrC hK hK1 0 rfl rfl
  refine W.cs (cells' := 43) (slots' := 418) rfl rfl ?_
  have hP := P_mv hP
  have hD := D_mv hD
  have hP : va_P D vwCl ([(h0, .inr (5, [.ref qn, .int 0, .int 0, .int 0, .ref q1, .null])), (qn, .inl (cc 5, 40, .inr (.inr (.inr (.inr (fun j => L[j]?)))))), (q1, .inl (cc 0, 9, .inl (fun _ => 0))), (q2, .inl (cc 0, 9, .inl (fun _ => 0)))] ++ L.map nodeC) H := hP
  have hD : va_D A ([(h0, .inr (5, [.ref qn, .int 0, .int 0, .int 0, .ref q1, .null])), (qn, .inl (cc 5, 40, .inr (.inr (.inr (.inr (fun j => L[j]?)))))), (q1, .inl (cc 0, 9, .inl (fun _ => 0))), (q2, .inl (cc 0, 9, .inl (fun _ => 0)))] ++ L.map nodeC) := hD
  refine va_putF (D := D) (ci := 5) (v := .ref q2) (ty := .array .int) (C := RX1) (T := TX1) (N := 6) hx hb hts hin tyX1 tyX1_ok nmX1 hown hK hP hD hS 0 rfl rfl 5 (by decide) (hts _ (List.mem_cons_of_mem _ (memWT (i := 30) rfl))) (fun _ h9 => h9) rfl hinit rfl (by decide +kernel) rfl rfl (Nat.le_of_ble_eq_true rfl) dX1_init_53 (fun H locs hP hD hS => ?_)
  have hP : va_P D vwCl ([(h0, .inr (5, [.ref qn, .int 0, .int 0, .int 0, .ref q1, .ref q2])), (qn, .inl (cc 5, 40, .inr (.inr (.inr (.inr (fun j => L[j]?)))))), (q1, .inl (cc 0, 9, .inl (fun _ => 0))), (q2, .inl (cc 0, 9, .inl (fun _ => 0)))] ++ L.map nodeC) H := hP
  have hD : va_D A ([(h0, .inr (5, [.ref qn, .int 0, .int 0, .int 0, .ref q1, .ref q2])), (qn, .inl (cc 5, 40, .inr (.inr (.inr (.inr (fun j => L[j]?)))))), (q1, .inl (cc 0, 9, .inl (fun _ => 0))), (q2, .inl (cc 0, 9, .inl (fun _ => 0)))] ++ L.map nodeC) := hD
  refine lv_aload_n hx hb dX1_init_56 rfl (lv_at hl 0 rfl) ?_
  refine lv_iconst (v := (0 : Int32)) hx hb dX1_init_57 (by decide) ?_
  refine va_put (D := D) (ci := 5) (v := .int (0 : Int32)) (ty := .int) (C := RX1) (T := TX1) (N := 6) hx hb hts hin tyX1 tyX1_ok nmX1 hown hK hP hD hS 0 rfl rfl 1 (by decide) (hts _ (List.mem_cons_of_mem _ (memWT (i := 31) rfl))) (fun _ h9 => h9) rfl (by decide +kernel) rfl rfl (Nat.le_of_ble_eq_true rfl) dX1_init_58 (fun H locs hP hD hS => ?_)
  have hP : va_P D vwCl ([(h0, .inr (5, [.ref qn, .int (0 : Int32), .int 0, .int 0, .ref q1, .ref q2])), (qn, .inl (cc 5, 40, .inr (.inr (.inr (.inr (fun j => L[j]?)))))), (q1, .inl (cc 0, 9, .inl (fun _ => 0))), (q2, .inl (cc 0, 9, .inl (fun _ => 0)))] ++ L.map nodeC) H := hP
  have hD : va_D A ([(h0, .inr (5, [.ref qn, .int (0 : Int32), .int 0, .int 0, .ref q1, .ref q2])), (qn, .inl (cc 5, 40, .inr (.inr (.inr (.inr (fun j => L[j]?)))))), (q1, .inl (cc 0, 9, .inl (fun _ => 0))), (q2, .inl (cc 0, 9, .inl (fun _ => 0)))] ++ L.map nodeC) := hD
  refine lv_aload_n hx hb dX1_init_61 rfl (lv_at hl 0 rfl) ?_
  refine lv_iconst (v := (0 : Int32)) hx hb dX1_init_62 (by decide) ?_
  refine va_put (D := D) (ci := 5) (v := .int (0 : Int32)) (ty := .int) (C := RX1) (T := TX1) (N := 6) hx hb hts hin tyX1 tyX1_ok nmX1 hown hK hP hD hS 0 rfl rfl 2 (by decide) (hts _ (List.mem_cons_of_mem _ (memWT (i := 32) rfl))) (fun _ h9 => h9) rfl (by decide +kernel) rfl rfl (Nat.le_of_ble_eq_true rfl) dX1_init_63 (fun H locs hP hD hS => ?_)
  have hP : va_P D vwCl ([(h0, .inr (5, [.ref qn, .int (0 : Int32), .int (0 : Int32), .int 0, .ref q1, .ref q2])), (qn, .inl (cc 5, 40, .inr (.inr (.inr (.inr (fun j => L[j]?)))))), (q1, .inl (cc 0, 9, .inl (fun _ => 0))), (q2, .inl (cc 0, 9, .inl (fun _ => 0)))] ++ L.map nodeC) H := hP
  have hD : va_D A ([(h0, .inr (5, [.ref qn, .int (0 : Int32), .int (0 : Int32), .int 0, .ref q1, .ref q2])), (qn, .inl (cc 5, 40, .inr (.inr (.inr (.inr (fun j => L[j]?)))))), (q1, .inl (cc 0, 9, .inl (fun _ => 0))), (q2, .inl (cc 0, 9, .inl (fun _ => 0)))] ++ L.map nodeC) := hD
  refine lv_aload_n hx hb dX1_init_66 rfl (lv_at hl 0 rfl) ?_
  refine lv_iconst (v := (1 : Int32)) hx hb dX1_init_67 (by decide) ?_
  refine va_put (D := D) (ci := 5) (v := .int (1 : Int32)) (ty := .boolean) (C := RX1) (T := TX1) (N := 6) hx hb hts hin tyX1 tyX1_ok nmX1 hown hK hP hD hS 0 rfl rfl 3 (by decide) (hts _ (List.mem_cons_of_mem _ (memWT (i := 33) rfl))) (fun _ h9 => h9) rfl (by decide +kernel) rfl rfl (Nat.le_of_ble_eq_true rfl) dX1_init_68 (fun H locs hP hD hS => ?_)
  have hP : va_P D vwCl ([(h0, .inr (5, [.ref qn, .int (0 : Int32), .int (0 : Int32), .int (1 : Int32), .ref q1, .ref q2])), (qn, .inl (cc 5, 40, .inr (.inr (.inr (.inr (fun j => L[j]?)))))), (q1, .inl (cc 0, 9, .inl (fun _ => 0))), (q2, .inl (cc 0, 9, .inl (fun _ => 0)))] ++ L.map nodeC) H := hP
  have hD : va_D A ([(h0, .inr (5, [.ref qn, .int (0 : Int32), .int (0 : Int32), .int (1 : Int32), .ref q1, .ref q2])), (qn, .inl (cc 5, 40, .inr (.inr (.inr (.inr (fun j => L[j]?)))))), (q1, .inl (cc 0, 9, .inl (fun _ => 0))), (q2, .inl (cc 0, 9, .inl (fun _ => 0)))] ++ L.map nodeC) := hD
  exact W.vret hx hb hr (fun t ht hW => ⟨⟨[qn, q1, q2] ++ L, rfl, by simp [hL], by rw [ht]; exact hP, va_K.moved hW.alike hK, hD⟩, hS.F ht⟩) hS.2.2 dX1_init_71
