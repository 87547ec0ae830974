set_option maxHeartbeats 4000000 in
set_option maxRecDepth 100000 in
theorem tX9_thrown {p : Program} {l : Launch} {e : Env} {s : State} {m : MethodId} {args : Array Value} {below : List Frame} {meth : Method} {c : Code} {D : va_G} {a : Nat → Nat} {cc : Nat → ClassId} {A : Nat → Prop} {N : Nat} {r : Int32} {σr : St} (C : M_Cx RX9 p s m args meth c D cc cX9_thrown (Cond.code yX9_thrown cX9_thrown 1 (some .int) :: WM) 1 (some .int)) (hA : ∀ q, s.heap.size ≤ q → A q) {σ : St} {H : Heap} {locs : List Loc} {ls : Array Slot} (h : fX9_thrown N σ = some (r, σr)) : va_P D vwCl (wM a cc σ) H → va_D A (wM a cc σ) → va_S A s.heap H locs → lv_has ls 1 [(0, .ref (a 0))] → W p l e rmX9_thrown s m args below meth c H locs 0 0 (M_Mi D a cc A below args s r σr) (F0 m 0 ls []) := by
  obtain ⟨hx, hb, hr, hml, hown, hts, hin, hK, hlocks⟩ := id C
  intro hP hD hS hl
  refine lv_aload_n hx hb dX9_thrown_0 rfl (lv_at hl 0 rfl) ?_
  refine M_gt0 C hP dX9_thrown_1 ?_
  exact M_iret C h hP hD hS dX9_thrown_4
set_option maxRecDepth 100000 in
theorem kX9_thrown (l : Launch) (sz : Nat) {D : va_G} {a : Nat → Nat} {cc : Nat → ClassId} {N : Nat} {r : Int32} {σr : St} {σ : St} (h : fX9_thrown N σ = some (r, σr)) : Met l yX9_thrown ((Cond.code yX9_thrown cX9_thrown 1 (some .int) :: WM)) rmX9_thrown (M_Pc D a cc [.ref (a 0)] σ sz) (M_Qi D a cc σ sz r σr) 0 0 (va_A (wM a cc σ) sz) := by
  refine Met.ofW (cc := cX9_thrown) (maxL := 1) (ret := (some .int)) (by decide) rfl ?_
  intro p e s m args below meth c s₁ B hml hv
  obtain ⟨rfl, hsz, hP, hK, hD0⟩ := hv
  subst hsz
  have hl := lv_entry ([.ref (a 0)]) (n := 1) (Nat.le_of_ble_eq_true rfl)
  rw [lg_entry_eq]
  generalize (lg_sl ([.ref (a 0)]) ++ List.replicate (1 - (lg_sl ([.ref (a 0)])).length) Slot.unset).toArray = ls at hl ⊢
  exact tX9_thrown ⟨B.exec, B.bytes, B.returns, hml, findClass_of_methodNamed B.named, atoms_spec (ws := (Cond.code yX9_thrown cX9_thrown 1 (some .int) :: WM)) B.pre, (fun w h => List.mem_cons_of_mem _ (inWM w h)), hK, B.notSynchronized⟩ (fun q h => Or.inr h) h hP hD0.self va_S.rf hl
set_option maxHeartbeats 4000000 in
set_option maxRecDepth 100000 in
theorem tX9_raise {p : Program} {l : Launch} {e : Env} {s : State} {m : MethodId} {args : Array Value} {below : List Frame} {meth : Method} {c : Code} {D : va_G} {a : Nat → Nat} {cc : Nat → ClassId} {A : Nat → Prop} {N : Nat} {r : Int32} {σr : St} (C : M_Cx RX9 p s m args meth c D cc cX9_raise (Cond.code yX9_raise cX9_raise 2 (some .int) :: WM) 2 (some .int)) (hA : ∀ q, s.heap.size ≤ q → A q) {σ : St} {p0 : Int32} {H : Heap} {locs : List Loc} {ls : Array Slot} (h : fX9_raise N σ p0 = some (r, σr)) : va_P D vwCl (wM a cc σ) H → va_D A (wM a cc σ) → va_S A s.heap H locs → lv_has ls 2 [(0, .ref (a 0)), (1, .int p0)] → W p l e rmX9_raise s m args below meth c H locs 0 0 (M_Mi D a cc A below args s r σr) (F0 m 0 ls []) := by
  obtain ⟨hx, hb, hr, hml, hown, hts, hin, hK, hlocks⟩ := id C
  intro hP hD hS hl
  refine lv_aload_n hx hb dX9_raise_0 rfl (lv_at hl 0 rfl) ?_
  refine lv_iload_n hx hb dX9_raise_1 rfl (lv_at hl 1 rfl) ?_
  obtain ⟨σ1, eσ1, h⟩ := letS_n h
  refine M_pt0 C hP hD hS eσ1 dX9_raise_2 (fun H locs hP hD hS => ?_)
  refine lv_iconst (v := (0 : Int32)) hx hb dX9_raise_5 (by decide) ?_
  exact M_iret C h hP hD hS dX9_raise_6
set_option maxRecDepth 100000 in
theorem kX9_raise (l : Launch) (sz : Nat) {D : va_G} {a : Nat → Nat} {cc : Nat → ClassId} {N : Nat} {r : Int32} {σr : St} {σ : St} {p0 : Int32} (h : fX9_raise N σ p0 = some (r, σr)) : Met l yX9_raise ((Cond.code yX9_raise cX9_raise 2 (some .int) :: WM)) rmX9_raise (M_Pc D a cc [.ref (a 0), .int p0] σ sz) (M_Qi D a cc σ sz r σr) 0 0 (va_A (wM a cc σ) sz) := by
  refine Met.ofW (cc := cX9_raise) (maxL := 2) (ret := (some .int)) (by decide) rfl ?_
  intro p e s m args below meth c s₁ B hml hv
  obtain ⟨rfl, hsz, hP, hK, hD0⟩ := hv
  subst hsz
  have hl := lv_entry ([.ref (a 0), .int p0]) (n := 2) (Nat.le_of_ble_eq_true rfl)
  rw [lg_entry_eq]
  generalize (lg_sl ([.ref (a 0), .int p0]) ++ List.replicate (2 - (lg_sl ([.ref (a 0), .int p0])).length) Slot.unset).toArray = ls at hl ⊢
  exact tX9_raise ⟨B.exec, B.bytes, B.returns, hml, findClass_of_methodNamed B.named, atoms_spec (ws := (Cond.code yX9_raise cX9_raise 2 (some .int) :: WM)) B.pre, (fun w h => List.mem_cons_of_mem _ (inWM w h)), hK, B.notSynchronized⟩ (fun q h => Or.inr h) h hP hD0.self va_S.rf hl
set_option maxHeartbeats 4000000 in
set_option maxRecDepth 100000 in
theorem tX9_text_82 {p : Program} {l : Launch} {e : Env} {s : State} {m : MethodId} {args : Array Value} {below : List Frame} {meth : Method} {c : Code} {D : va_G} {a : Nat → Nat} {cc : Nat → ClassId} {A : Nat → Prop} {N : Nat} {r : Int32} {σr : St} {k24 : St → Int64 → Int32 → Int32 → Option (Int32 × St)} (C : M_Cx RX9 p s m args meth c D cc cX9_text (Cond.code yX9_text cX9_text 6 (some .int) :: WM) 6 (some .int)) (hA : ∀ q, s.heap.size ≤ q → A q) (hk24 : ∀ {σ : St} {x1 : Int64} {x3 : Int32} {x4 : Int32} {H : Heap} {locs : List Loc} {ls : Array Slot}, k24 σ x1 x3 x4 = some (r, σr) → va_P D vwCl (wM a cc σ) H → va_D A (wM a cc σ) → va_S A s.heap H locs → lv_has ls 6 [(0, .ref (a 0)), (1, .long x1), (3, .int x3), (4, .int x4)] → W p l e rmX9_text s m args below meth c H locs 0 0 (M_Mi D a cc A below args s r σr) (F0 m 24 ls [])) {σ : St} {x1 : Int64} {x3 : Int32} {y0 : Int32} {H : Heap} {locs : List Loc} {ls : Array Slot} (h : fX9_text_82 N k24 σ x1 x3 y0 = some (r, σr)) : va_P D vwCl (wM a cc σ) H → va_D A (wM a cc σ) → va_S A s.heap H locs → lv_has ls 6 [(0, .ref (a 0)), (1, .long x1), (3, .int x3)] → W p l e rmX9_text s m args below meth c H locs 0 0 (M_Mi D a cc A below args s r σr) (F0 m 82 ls [.int y0]) := by
  obtain ⟨hx, hb, hr, hml, hown, hts, hin, hK, hlocks⟩ := id C
  intro hP hD hS hl
  refine lv_istore (lv' := [(4, .int y0), (0, .ref (a 0)), (1, .long x1), (3, .int x3)]) hx hb dX9_text_82 hl (by decide) rfl (fun ls hl => ?_)
  obtain ⟨u9, eu9, h⟩ := letS_n h
  refine lv_iinc (v := u9) (lv' := [(3, .int u9), (4, .int y0), (0, .ref (a 0)), (1, .long x1)]) hx hb dX9_text_84 hl (k := 3) rfl (by rw [eu9]; rfl) (by decide) rfl (fun ls hl => ?_)
  refine lv_goto (tgt := 24) hx hb dX9_text_87 (by decide) ?_
  exact hk24 h hP hD hS (lv_sub hl [2, 3, 0, 1] rfl)
set_option maxHeartbeats 4000000 in
set_option maxRecDepth 100000 in
theorem tX9_text_81 {p : Program} {l : Launch} {e : Env} {s : State} {m : MethodId} {args : Array Value} {below : List Frame} {meth : Method} {c : Code} {D : va_G} {a : Nat → Nat} {cc : Nat → ClassId} {A : Nat → Prop} {N : Nat} {r : Int32} {σr : St} {k24 : St → Int64 → Int32 → Int32 → Option (Int32 × St)} (C : M_Cx RX9 p s m args meth c D cc cX9_text (Cond.code yX9_text cX9_text 6 (some .int) :: WM) 6 (some .int)) (hA : ∀ q, s.heap.size ≤ q → A q) (hk24 : ∀ {σ : St} {x1 : Int64} {x3 : Int32} {x4 : Int32} {H : Heap} {locs : List Loc} {ls : Array Slot}, k24 σ x1 x3 x4 = some (r, σr) → va_P D vwCl (wM a cc σ) H → va_D A (wM a cc σ) → va_S A s.heap H locs → lv_has ls 6 [(0, .ref (a 0)), (1, .long x1), (3, .int x3), (4, .int x4)] → W p l e rmX9_text s m args below meth c H locs 0 0 (M_Mi D a cc A below args s r σr) (F0 m 24 ls [])) {σ : St} {x1 : Int64} {x3 : Int32} {H : Heap} {locs : List Loc} {ls : Array Slot} (h : fX9_text_81 N k24 σ x1 x3 = some (r, σr)) : va_P D vwCl (wM a cc σ) H → va_D A (wM a cc σ) → va_S A s.heap H locs → lv_has ls 6 [(0, .ref (a 0)), (1, .long x1), (3, .int x3)] → W p l e rmX9_text s m args below meth c H locs 0 0 (M_Mi D a cc A below args s r σr) (F0 m 81 ls []) := by
  obtain ⟨hx, hb, hr, hml, hown, hts, hin, hK, hlocks⟩ := id C
  intro hP hD hS hl
  refine lv_iconst (v := (0 : Int32)) hx hb dX9_text_81 (by decide) ?_
  exact tX9_text_82 C hA hk24 h hP hD hS (lv_sub hl [0, 1, 2] rfl)
set_option maxHeartbeats 4000000 in
set_option maxRecDepth 100000 in
theorem tX9_text_106 {p : Program} {l : Launch} {e : Env} {s : State} {m : MethodId} {args : Array Value} {below : List Frame} {meth : Method} {c : Code} {D : va_G} {a : Nat → Nat} {cc : Nat → ClassId} {A : Nat → Prop} {N : Nat} {r : Int32} {σr : St} (C : M_Cx RX9 p s m args meth c D cc cX9_text (Cond.code yX9_text cX9_text 6 (some .int) :: WM) 6 (some .int)) (hA : ∀ q, s.heap.size ≤ q → A q) {σ : St} {H : Heap} {locs : List Loc} {ls : Array Slot} (h : fX9_text_106 N σ = some (r, σr)) : va_P D vwCl (wM a cc σ) H → va_D A (wM a cc σ) → va_S A s.heap H locs → lv_has ls 6 [] → W p l e rmX9_text s m args below meth c H locs 0 0 (M_Mi D a cc A below args s r σr) (F0 m 106 ls []) := by
  obtain ⟨hx, hb, hr, hml, hown, hts, hin, hK, hlocks⟩ := id C
  intro hP hD hS hl
  refine lv_iconst (v := (-1 : Int32)) hx hb dX9_text_106 (by decide) ?_
  exact M_iret C h hP hD hS dX9_text_107
set_option maxHeartbeats 4000000 in
set_option maxRecDepth 100000 in
theorem tX9_text_111 {p : Program} {l : Launch} {e : Env} {s : State} {m : MethodId} {args : Array Value} {below : List Frame} {meth : Method} {c : Code} {D : va_G} {a : Nat → Nat} {cc : Nat → ClassId} {A : Nat → Prop} {N : Nat} {r : Int32} {σr : St} (C : M_Cx RX9 p s m args meth c D cc cX9_text (Cond.code yX9_text cX9_text 6 (some .int) :: WM) 6 (some .int)) (hA : ∀ q, s.heap.size ≤ q → A q) : ∀ (n : Nat) {σ : St} {x1 : Int64} {x3 : Int32} {x5 : Int32} {H : Heap} {locs : List Loc} {ls : Array Slot}, fX9_text_111 N n σ x1 x3 x5 = some (r, σr) → va_P D vwCl (wM a cc σ) H → va_D A (wM a cc σ) → va_S A s.heap H locs → lv_has ls 6 [(0, .ref (a 0)), (1, .long x1), (3, .int x3), (5, .int x5)] → W p l e rmX9_text s m args below meth c H locs 0 0 (M_Mi D a cc A below args s r σr) (F0 m 111 ls []) := by
  obtain ⟨hx, hb, hr, hml, hown, hts, hin, hK, hlocks⟩ := id C
  intro n
  induction n with
  | zero => intro σ x1 x3 x5 H locs ls h; exact none_s h
  | succ n ih =>
    intro σ x1 x3 x5 H locs ls h hP hD hS hl
    refine lv_iload hx hb dX9_text_111 (lv_at hl 3 rfl) ?_
    refine lv_iload_n hx hb dX9_text_113 rfl (lv_at hl 2 rfl) ?_
    refine lv_icmp_ge (tgt := 148) hx hb dX9_text_114 (by decide) (fun c12 => ?_) (fun c12 => ?_)
    · have h := ifT c12 h
      refine lv_aload_n hx hb dX9_text_148 rfl (lv_at hl 0 rfl) ?_
      refine lv_dup hx hb dX9_text_149 rfl ?_
      refine M_gt2 C hP dX9_text_150 ?_
      refine lv_iload_n hx hb dX9_text_153 rfl (lv_at hl 2 rfl) ?_
      refine lv_iadd hx hb dX9_text_154 ?_
      obtain ⟨σ13, eσ13, h⟩ := letS_n h
      refine M_pt2 C hP hD hS eσ13 dX9_text_155 (fun H locs hP hD hS => ?_)
      refine lv_aload_n hx hb dX9_text_158 rfl (lv_at hl 0 rfl) ?_
      refine M_gt2 C hP dX9_text_159 ?_
      exact M_iret C h hP hD hS dX9_text_162
    · have h := ifF c12 h
      refine lv_aload_n hx hb dX9_text_117 rfl (lv_at hl 0 rfl) ?_
      refine M_gt1 C hP dX9_text_118 ?_
      refine lv_aload_n hx hb dX9_text_121 rfl (lv_at hl 0 rfl) ?_
      refine M_gt2 C hP dX9_text_122 ?_
      refine lv_iload hx hb dX9_text_125 (lv_at hl 3 rfl) ?_
      refine lv_iadd hx hb dX9_text_127 ?_
      refine lv_lload_n hx hb dX9_text_128 rfl (lv_at hl 1 rfl) ?_
      refine lv_bipush (v := (8 : Int32)) hx hb dX9_text_129 (by decide) ?_
      refine lv_iload hx hb dX9_text_131 (lv_at hl 3 rfl) ?_
      refine lv_imul hx hb dX9_text_133 ?_
      refine lv_lshr hx hb dX9_text_134 rfl ?_
      refine lv_ldc2 (v := (255 : Int64)) hx hb hown (hts (.constantLong RX9 131 (255)) (by decide +kernel)) dX9_text_135 ?_
      refine lv_land hx hb dX9_text_138 ?_
      refine lv_l2i hx hb dX9_text_139 rfl ?_
      refine lv_i2c hx hb dX9_text_140 rfl ?_
      obtain ⟨g14, h⟩ := grd_s h
      obtain ⟨σ15, eσ15, h⟩ := letS_n h
      refine M_st1 C hP hD hS g14 eσ15 dX9_text_141 (fun H locs hP hD hS => ?_)
      obtain ⟨u16, eu16, h⟩ := letS_n h
      refine lv_iinc (v := u16) (lv' := [(5, .int u16), (0, .ref (a 0)), (1, .long x1), (3, .int x3)]) hx hb dX9_text_142 hl (k := 3) rfl (by rw [eu16]; rfl) (by decide) rfl (fun ls hl => ?_)
      refine lv_goto (tgt := 111) hx hb dX9_text_145 (by decide) ?_
      exact ih h hP hD hS (lv_sub hl [1, 2, 3, 0] rfl)
set_option maxHeartbeats 4000000 in
set_option maxRecDepth 100000 in
theorem tX9_text_90 {p : Program} {l : Launch} {e : Env} {s : State} {m : MethodId} {args : Array Value} {below : List Frame} {meth : Method} {c : Code} {D : va_G} {a : Nat → Nat} {cc : Nat → ClassId} {A : Nat → Prop} {N : Nat} {r : Int32} {σr : St} (C : M_Cx RX9 p s m args meth c D cc cX9_text (Cond.code yX9_text cX9_text 6 (some .int) :: WM) 6 (some .int)) (hA : ∀ q, s.heap.size ≤ q → A q) {σ : St} {x1 : Int64} {x3 : Int32} {x4 : Int32} {H : Heap} {locs : List Loc} {ls : Array Slot} (h : fX9_text_90 N σ x1 x3 x4 = some (r, σr)) : va_P D vwCl (wM a cc σ) H → va_D A (wM a cc σ) → va_S A s.heap H locs → lv_has ls 6 [(0, .ref (a 0)), (1, .long x1), (3, .int x3), (4, .int x4)] → W p l e rmX9_text s m args below meth c H locs 0 0 (M_Mi D a cc A below args s r σr) (F0 m 90 ls []) := by
  obtain ⟨hx, hb, hr, hml, hown, hts, hin, hK, hlocks⟩ := id C
  intro hP hD hS hl
  refine lv_iload hx hb dX9_text_90 (lv_at hl 3 rfl) ?_
  refine lv_if_eq (tgt := 106) hx hb dX9_text_92 (by decide) (fun c10 => ?_) (fun c10 => ?_)
  · have h := ifT c10 h
    exact tX9_text_106 C hA h hP hD hS (lv_sub hl [] rfl)
  · have h := ifF c10 h
    refine lv_aload_n hx hb dX9_text_95 rfl (lv_at hl 0 rfl) ?_
    refine M_gt2 C hP dX9_text_96 ?_
    refine lv_iload_n hx hb dX9_text_99 rfl (lv_at hl 2 rfl) ?_
    refine lv_iadd hx hb dX9_text_100 ?_
    refine lv_bipush (v := (40 : Int32)) hx hb dX9_text_101 (by decide) ?_
    refine lv_icmp_le (tgt := 108) hx hb dX9_text_103 (by decide) (fun c11 => ?_) (fun c11 => ?_)
    · have h := ifT c11 h
      refine lv_iconst (v := (0 : Int32)) hx hb dX9_text_108 (by decide) ?_
      refine lv_istore (lv' := [(5, .int (0 : Int32)), (0, .ref (a 0)), (1, .long x1), (3, .int x3), (4, .int x4)]) hx hb dX9_text_109 hl (by decide) rfl (fun ls hl => ?_)
      exact tX9_text_111 C hA N h hP hD hS (lv_sub hl [1, 2, 3, 0] rfl)
    · have h := ifF c11 h
      exact tX9_text_106 C hA h hP hD hS (lv_sub hl [] rfl)
set_option maxHeartbeats 4000000 in
set_option maxRecDepth 100000 in
theorem tX9_text_24 {p : Program} {l : Launch} {e : Env} {s : State} {m : MethodId} {args : Array Value} {below : List Frame} {meth : Method} {c : Code} {D : va_G} {a : Nat → Nat} {cc : Nat → ClassId} {A : Nat → Prop} {N : Nat} {r : Int32} {σr : St} (C : M_Cx RX9 p s m args meth c D cc cX9_text (Cond.code yX9_text cX9_text 6 (some .int) :: WM) 6 (some .int)) (hA : ∀ q, s.heap.size ≤ q → A q) : ∀ (n : Nat) {σ : St} {x1 : Int64} {x3 : Int32} {x4 : Int32} {H : Heap} {locs : List Loc} {ls : Array Slot}, fX9_text_24 N n σ x1 x3 x4 = some (r, σr) → va_P D vwCl (wM a cc σ) H → va_D A (wM a cc σ) → va_S A s.heap H locs → lv_has ls 6 [(0, .ref (a 0)), (1, .long x1), (3, .int x3), (4, .int x4)] → W p l e rmX9_text s m args below meth c H locs 0 0 (M_Mi D a cc A below args s r σr) (F0 m 24 ls []) := by
  obtain ⟨hx, hb, hr, hml, hown, hts, hin, hK, hlocks⟩ := id C
  intro n
  induction n with
  | zero => intro σ x1 x3 x4 H locs ls h; exact none_s h
  | succ n ih =>
    intro σ x1 x3 x4 H locs ls h hP hD hS hl
    refine lv_iload_n hx hb dX9_text_24 rfl (lv_at hl 2 rfl) ?_
    refine lv_bipush (v := (8 : Int32)) hx hb dX9_text_25 (by decide) ?_
    refine lv_icmp_ge (tgt := 90) hx hb dX9_text_27 (by decide) (fun c3 => ?_) (fun c3 => ?_)
    · have h := ifT c3 h
      exact tX9_text_90 C hA h hP hD hS (lv_sub hl [0, 1, 2, 3] rfl)
    · have h := ifF c3 h
      refine lv_lload_n hx hb dX9_text_30 rfl (lv_at hl 1 rfl) ?_
      refine lv_bipush (v := (8 : Int32)) hx hb dX9_text_31 (by decide) ?_
      refine lv_iload_n hx hb dX9_text_33 rfl (lv_at hl 2 rfl) ?_
      refine lv_imul hx hb dX9_text_34 ?_
      refine lv_lshr hx hb dX9_text_35 rfl ?_
      refine lv_ldc2 (v := (255 : Int64)) hx hb hown (hts (.constantLong RX9 131 (255)) (by decide +kernel)) dX9_text_36 ?_
      refine lv_land hx hb dX9_text_39 ?_
      refine lv_lconst (v := (0 : Int64)) hx hb dX9_text_40 (by decide) ?_
      refine W.lcmp hx hb dX9_text_41 ?_
      refine lv_if_eq (tgt := 90) hx hb dX9_text_42 (by decide) (fun c4 => ?_) (fun c4 => ?_)
      · have h := ifT c4 h
        exact tX9_text_90 C hA h hP hD hS (lv_sub hl [0, 1, 2, 3] rfl)
      · have h := ifF c4 h
        refine lv_lload_n hx hb dX9_text_45 rfl (lv_at hl 1 rfl) ?_
        refine lv_bipush (v := (8 : Int32)) hx hb dX9_text_46 (by decide) ?_
        refine lv_iload_n hx hb dX9_text_48 rfl (lv_at hl 2 rfl) ?_
        refine lv_imul hx hb dX9_text_49 ?_
        refine lv_lshr hx hb dX9_text_50 rfl ?_
        refine lv_ldc2 (v := (255 : Int64)) hx hb hown (hts (.constantLong RX9 131 (255)) (by decide +kernel)) dX9_text_51 ?_
        refine lv_land hx hb dX9_text_54 ?_
        refine lv_l2i hx hb dX9_text_55 rfl ?_
        obtain ⟨u5, eu5, h⟩ := letS_n h
        refine lv_topE eu5 ?_
        refine lv_istore (lv' := [(5, .int u5), (0, .ref (a 0)), (1, .long x1), (3, .int x3), (4, .int x4)]) hx hb dX9_text_56 hl (by decide) rfl (fun ls hl => ?_)
        refine lv_iload hx hb dX9_text_58 (lv_at hl 4 rfl) ?_
        refine lv_if_eq (tgt := 81) hx hb dX9_text_60 (by decide) (fun c6 => ?_) (fun c6 => ?_)
        · have h := ifT c6 h
          exact tX9_text_81 C hA ih h hP hD hS (lv_sub hl [1, 2, 3] rfl)
        · have h := ifF c6 h
          refine lv_iload hx hb dX9_text_63 (lv_at hl 0 rfl) ?_
          refine lv_bipush (v := (33 : Int32)) hx hb dX9_text_65 (by decide) ?_
          refine lv_icmp_lt (tgt := 81) hx hb dX9_text_67 (by decide) (fun c7 => ?_) (fun c7 => ?_)
          · have h := ifT c7 h
            exact tX9_text_81 C hA ih h hP hD hS (lv_sub hl [1, 2, 3] rfl)
          · have h := ifF c7 h
            refine lv_iload hx hb dX9_text_70 (lv_at hl 0 rfl) ?_
            refine lv_bipush (v := (126 : Int32)) hx hb dX9_text_72 (by decide) ?_
            refine lv_icmp_gt (tgt := 81) hx hb dX9_text_74 (by decide) (fun c8 => ?_) (fun c8 => ?_)
            · have h := ifT c8 h
              exact tX9_text_81 C hA ih h hP hD hS (lv_sub hl [1, 2, 3] rfl)
            · have h := ifF c8 h
              refine lv_iconst (v := (1 : Int32)) hx hb dX9_text_77 (by decide) ?_
              refine lv_goto (tgt := 82) hx hb dX9_text_78 (by decide) ?_
              exact tX9_text_82 C hA ih h hP hD hS (lv_sub hl [1, 2, 3] rfl)
set_option maxHeartbeats 4000000 in
set_option maxRecDepth 100000 in
theorem tX9_text_22 {p : Program} {l : Launch} {e : Env} {s : State} {m : MethodId} {args : Array Value} {below : List Frame} {meth : Method} {c : Code} {D : va_G} {a : Nat → Nat} {cc : Nat → ClassId} {A : Nat → Prop} {N : Nat} {r : Int32} {σr : St} (C : M_Cx RX9 p s m args meth c D cc cX9_text (Cond.code yX9_text cX9_text 6 (some .int) :: WM) 6 (some .int)) (hA : ∀ q, s.heap.size ≤ q → A q) {σ : St} {x1 : Int64} {x3 : Int32} {y0 : Int32} {H : Heap} {locs : List Loc} {ls : Array Slot} (h : fX9_text_22 N σ x1 x3 y0 = some (r, σr)) : va_P D vwCl (wM a cc σ) H → va_D A (wM a cc σ) → va_S A s.heap H locs → lv_has ls 6 [(0, .ref (a 0)), (1, .long x1), (3, .int x3)] → W p l e rmX9_text s m args below meth c H locs 0 0 (M_Mi D a cc A below args s r σr) (F0 m 22 ls [.int y0]) := by
  obtain ⟨hx, hb, hr, hml, hown, hts, hin, hK, hlocks⟩ := id C
  intro hP hD hS hl
  refine lv_istore (lv' := [(4, .int y0), (0, .ref (a 0)), (1, .long x1), (3, .int x3)]) hx hb dX9_text_22 hl (by decide) rfl (fun ls hl => ?_)
  exact tX9_text_24 C hA N h hP hD hS (lv_sub hl [1, 2, 3, 0] rfl)
set_option maxHeartbeats 4000000 in
set_option maxRecDepth 100000 in
theorem tX9_text {p : Program} {l : Launch} {e : Env} {s : State} {m : MethodId} {args : Array Value} {below : List Frame} {meth : Method} {c : Code} {D : va_G} {a : Nat → Nat} {cc : Nat → ClassId} {A : Nat → Prop} {N : Nat} {r : Int32} {σr : St} (C : M_Cx RX9 p s m args meth c D cc cX9_text (Cond.code yX9_text cX9_text 6 (some .int) :: WM) 6 (some .int)) (hA : ∀ q, s.heap.size ≤ q → A q) {σ : St} {p0 : Int64} {H : Heap} {locs : List Loc} {ls : Array Slot} (h : fX9_text N σ p0 = some (r, σr)) : va_P D vwCl (wM a cc σ) H → va_D A (wM a cc σ) → va_S A s.heap H locs → lv_has ls 6 [(0, .ref (a 0)), (1, .long p0)] → W p l e rmX9_text s m args below meth c H locs 0 0 (M_Mi D a cc A below args s r σr) (F0 m 0 ls []) := by
  obtain ⟨hx, hb, hr, hml, hown, hts, hin, hK, hlocks⟩ := id C
  intro hP hD hS hl
  refine lv_aload_n hx hb dX9_text_0 rfl (lv_at hl 0 rfl) ?_
  refine lv_iconst (v := (0 : Int32)) hx hb dX9_text_1 (by decide) ?_
  obtain ⟨σ1, eσ1, h⟩ := letS_n h
  refine M_pt0 C hP hD hS eσ1 dX9_text_2 (fun H locs hP hD hS => ?_)
  refine lv_iconst (v := (0 : Int32)) hx hb dX9_text_5 (by decide) ?_
  refine lv_istore_n (lv' := [(3, .int (0 : Int32)), (0, .ref (a 0)), (1, .long p0)]) hx hb dX9_text_6 rfl hl (by decide) rfl (fun ls hl => ?_)
  refine lv_lload_n hx hb dX9_text_7 rfl (lv_at hl 2 rfl) ?_
  refine lv_ldc2 (v := (255 : Int64)) hx hb hown (hts (.constantLong RX9 131 (255)) (by decide +kernel)) dX9_text_8 ?_
  refine lv_land hx hb dX9_text_11 ?_
  refine lv_lconst (v := (0 : Int64)) hx hb dX9_text_12 (by decide) ?_
  refine W.lcmp hx hb dX9_text_13 ?_
  refine lv_if_eq (tgt := 21) hx hb dX9_text_14 (by decide) (fun c2 => ?_) (fun c2 => ?_)
  · have h := ifT c2 h
    refine lv_iconst (v := (0 : Int32)) hx hb dX9_text_21 (by decide) ?_
    exact tX9_text_22 C hA h hP hD hS (lv_sub hl [1, 2, 0] rfl)
  · have h := ifF c2 h
    refine lv_iconst (v := (1 : Int32)) hx hb dX9_text_17 (by decide) ?_
    refine lv_goto (tgt := 22) hx hb dX9_text_18 (by decide) ?_
    exact tX9_text_22 C hA h hP hD hS (lv_sub hl [1, 2, 0] rfl)
set_option maxRecDepth 100000 in
theorem kX9_text (l : Launch) (sz : Nat) {D : va_G} {a : Nat → Nat} {cc : Nat → ClassId} {N : Nat} {r : Int32} {σr : St} {σ : St} {p0 : Int64} (h : fX9_text N σ p0 = some (r, σr)) : Met l yX9_text ((Cond.code yX9_text cX9_text 6 (some .int) :: WM)) rmX9_text (M_Pc D a cc [.ref (a 0), .long p0] σ sz) (M_Qi D a cc σ sz r σr) 0 0 (va_A (wM a cc σ) sz) := by
  refine Met.ofW (cc := cX9_text) (maxL := 6) (ret := (some .int)) (by decide) rfl ?_
  intro p e s m args below meth c s₁ B hml hv
  obtain ⟨rfl, hsz, hP, hK, hD0⟩ := hv
  subst hsz
  have hl := lv_entry ([.ref (a 0), .long p0]) (n := 6) (Nat.le_of_ble_eq_true rfl)
  rw [lg_entry_eq]
  generalize (lg_sl ([.ref (a 0), .long p0]) ++ List.replicate (6 - (lg_sl ([.ref (a 0), .long p0])).length) Slot.unset).toArray = ls at hl ⊢
  exact tX9_text ⟨B.exec, B.bytes, B.returns, hml, findClass_of_methodNamed B.named, atoms_spec (ws := (Cond.code yX9_text cX9_text 6 (some .int) :: WM)) B.pre, (fun w h => List.mem_cons_of_mem _ (inWM w h)), hK, B.notSynchronized⟩ (fun q h => Or.inr h) h hP hD0.self va_S.rf hl
set_option maxHeartbeats 4000000 in
set_option maxRecDepth 100000 in
theorem tX9_wipe {p : Program} {l : Launch} {e : Env} {s : State} {m : MethodId} {args : Array Value} {below : List Frame} {meth : Method} {c : Code} {D : va_G} {a : Nat → Nat} {cc : Nat → ClassId} {A : Nat → Prop} {N : Nat} {σr : St} (C : M_Cx RX9 p s m args meth c D cc cX9_wipe (Cond.code yX9_wipe cX9_wipe 1 none :: WM) 1 none) (hA : ∀ q, s.heap.size ≤ q → A q) {σ : St} {H : Heap} {locs : List Loc} {ls : Array Slot} (h : fX9_wipe N σ = some σr) : va_P D vwCl (wM a cc σ) H → va_D A (wM a cc σ) → va_S A s.heap H locs → lv_has ls 1 [(0, .ref (a 0))] → W p l e rmX9_wipe s m args below meth c H locs 0 0 (M_Mv D a cc A below args s σr) (F0 m 0 ls []) := by
  obtain ⟨hx, hb, hr, hml, hown, hts, hin, hK, hlocks⟩ := id C
  intro hP hD hS hl
  refine lv_aload_n hx hb dX9_wipe_0 rfl (lv_at hl 0 rfl) ?_
  refine lv_iconst (v := (0 : Int32)) hx hb dX9_wipe_1 (by decide) ?_
  obtain ⟨σ1, eσ1, h⟩ := letS_n h
  refine M_pt0 C hP hD hS eσ1 dX9_wipe_2 (fun H locs hP hD hS => ?_)
  refine lv_aload_n hx hb dX9_wipe_5 rfl (lv_at hl 0 rfl) ?_
  refine lv_iconst (v := (0 : Int32)) hx hb dX9_wipe_6 (by decide) ?_
  obtain ⟨σ2, eσ2, h⟩ := letS_n h
  refine M_pt2 C hP hD hS eσ2 dX9_wipe_7 (fun H locs hP hD hS => ?_)
  exact M_vret C h hP hD hS dX9_wipe_10
set_option maxRecDepth 100000 in
theorem kX9_wipe (l : Launch) (sz : Nat) {D : va_G} {a : Nat → Nat} {cc : Nat → ClassId} {N : Nat} {σr : St} {σ : St} (h : fX9_wipe N σ = some σr) : Met l yX9_wipe ((Cond.code yX9_wipe cX9_wipe 1 none :: WM)) rmX9_wipe (M_Pc D a cc [.ref (a 0)] σ sz) (M_Qv D a cc σ sz σr) 0 0 (va_A (wM a cc σ) sz) := by
  refine Met.ofW (cc := cX9_wipe) (maxL := 1) (ret := none) (by decide) rfl ?_
  intro p e s m args below meth c s₁ B hml hv
  obtain ⟨rfl, hsz, hP, hK, hD0⟩ := hv
  subst hsz
  have hl := lv_entry ([.ref (a 0)]) (n := 1) (Nat.le_of_ble_eq_true rfl)
  rw [lg_entry_eq]
  generalize (lg_sl ([.ref (a 0)]) ++ List.replicate (1 - (lg_sl ([.ref (a 0)])).length) Slot.unset).toArray = ls at hl ⊢
  exact tX9_wipe ⟨B.exec, B.bytes, B.returns, hml, findClass_of_methodNamed B.named, atoms_spec (ws := (Cond.code yX9_wipe cX9_wipe 1 none :: WM)) B.pre, (fun w h => List.mem_cons_of_mem _ (inWM w h)), hK, B.notSynchronized⟩ (fun q h => Or.inr h) h hP hD0.self va_S.rf hl
set_option maxHeartbeats 4000000 in
set_option maxRecDepth 100000 in
theorem tX9_fault {p : Program} {l : Launch} {e : Env} {s : State} {m : MethodId} {args : Array Value} {below : List Frame} {meth : Method} {c : Code} {D : va_G} {a : Nat → Nat} {cc : Nat → ClassId} {A : Nat → Prop} {N : Nat} {r : Int32} {σr : St} (C : M_Cx RX9 p s m args meth c D cc cX9_fault (Cond.code yX9_fault cX9_fault 1 (some .int) :: WM) 1 (some .int)) (hA : ∀ q, s.heap.size ≤ q → A q) {σ : St} {H : Heap} {locs : List Loc} {ls : Array Slot} (h : fX9_fault N σ = some (r, σr)) : va_P D vwCl (wM a cc σ) H → va_D A (wM a cc σ) → va_S A s.heap H locs → lv_has ls 1 [(0, .ref (a 0))] → W p l e rmX9_fault s m args below meth c H locs 0 0 (M_Mi D a cc A below args s r σr) (F0 m 0 ls []) := by
  obtain ⟨hx, hb, hr, hml, hown, hts, hin, hK, hlocks⟩ := id C
  intro hP hD hS hl
  refine lv_aload_n hx hb dX9_fault_0 rfl (lv_at hl 0 rfl) ?_
  refine lv_iconst (v := (0 : Int32)) hx hb dX9_fault_1 (by decide) ?_
  obtain ⟨σ1, eσ1, h⟩ := letS_n h
  refine M_pt0 C hP hD hS eσ1 dX9_fault_2 (fun H locs hP hD hS => ?_)
  refine lv_aload_n hx hb dX9_fault_5 rfl (lv_at hl 0 rfl) ?_
  refine M_gt3 C hP dX9_fault_6 ?_
  exact M_iret C h hP hD hS dX9_fault_9
set_option maxRecDepth 100000 in
theorem kX9_fault (l : Launch) (sz : Nat) {D : va_G} {a : Nat → Nat} {cc : Nat → ClassId} {N : Nat} {r : Int32} {σr : St} {σ : St} (h : fX9_fault N σ = some (r, σr)) : Met l yX9_fault ((Cond.code yX9_fault cX9_fault 1 (some .int) :: WM)) rmX9_fault (M_Pc D a cc [.ref (a 0)] σ sz) (M_Qi D a cc σ sz r σr) 0 0 (va_A (wM a cc σ) sz) := by
  refine Met.ofW (cc := cX9_fault) (maxL := 1) (ret := (some .int)) (by decide) rfl ?_
  intro p e s m args below meth c s₁ B hml hv
  obtain ⟨rfl, hsz, hP, hK, hD0⟩ := hv
  subst hsz
  have hl := lv_entry ([.ref (a 0)]) (n := 1) (Nat.le_of_ble_eq_true rfl)
  rw [lg_entry_eq]
  generalize (lg_sl ([.ref (a 0)]) ++ List.replicate (1 - (lg_sl ([.ref (a 0)])).length) Slot.unset).toArray = ls at hl ⊢
  exact tX9_fault ⟨B.exec, B.bytes, B.returns, hml, findClass_of_methodNamed B.named, atoms_spec (ws := (Cond.code yX9_fault cX9_fault 1 (some .int) :: WM)) B.pre, (fun w h => List.mem_cons_of_mem _ (inWM w h)), hK, B.notSynchronized⟩ (fun q h => Or.inr h) h hP hD0.self va_S.rf hl
set_option maxHeartbeats 4000000 in
set_option maxRecDepth 100000 in
theorem tX9_now {p : Program} {l : Launch} {e : Env} {s : State} {m : MethodId} {args : Array Value} {below : List Frame} {meth : Method} {c : Code} {D : va_G} {a : Nat → Nat} {cc : Nat → ClassId} {A : Nat → Prop} {N : Nat} {r : Int32} {σr : St} (C : M_Cx RX9 p s m args meth c D cc cX9_now (Cond.code yX9_now cX9_now 1 (some .char) :: WM) 1 (some .char)) (hA : ∀ q, s.heap.size ≤ q → A q) {σ : St} {H : Heap} {locs : List Loc} {ls : Array Slot} (h : fX9_now N σ = some (r, σr)) : va_P D vwCl (wM a cc σ) H → va_D A (wM a cc σ) → va_S A s.heap H locs → lv_has ls 1 [(0, .ref (a 0))] → W p l e rmX9_now s m args below meth c H locs 0 0 (M_Mi D a cc A below args s r σr) (F0 m 0 ls []) := by
  obtain ⟨hx, hb, hr, hml, hown, hts, hin, hK, hlocks⟩ := id C
  intro hP hD hS hl
  refine lv_aload_n hx hb dX9_now_0 rfl (lv_at hl 0 rfl) ?_
  refine M_gt11 C hP dX9_now_1 ?_
  refine lv_aload_n hx hb dX9_now_4 rfl (lv_at hl 0 rfl) ?_
  refine M_gt2 C hP dX9_now_5 ?_
  refine lv_icmp_ge (tgt := 23) hx hb dX9_now_8 (by decide) (fun c1 => ?_) (fun c1 => ?_)
  · have h := ifT c1 h
    refine lv_iconst (v := (0 : Int32)) hx hb dX9_now_23 (by decide) ?_
    exact M_zretC C h hP hD hS dX9_now_24
  · have h := ifF c1 h
    refine lv_aload_n hx hb dX9_now_11 rfl (lv_at hl 0 rfl) ?_
    refine M_gt1 C hP dX9_now_12 ?_
    refine lv_aload_n hx hb dX9_now_15 rfl (lv_at hl 0 rfl) ?_
    refine M_gt11 C hP dX9_now_16 ?_
    obtain ⟨g2, h⟩ := grd_s h
    refine M_ld1 C hP g2 dX9_now_19 ?_
    refine lv_goto (tgt := 24) hx hb dX9_now_20 (by decide) ?_
    exact M_zretC C h hP hD hS dX9_now_24
set_option maxRecDepth 100000 in
theorem kX9_now (l : Launch) (sz : Nat) {D : va_G} {a : Nat → Nat} {cc : Nat → ClassId} {N : Nat} {r : Int32} {σr : St} {σ : St} (h : fX9_now N σ = some (r, σr)) : Met l yX9_now ((Cond.code yX9_now cX9_now 1 (some .char) :: WM)) rmX9_now (M_Pc D a cc [.ref (a 0)] σ sz) (M_Qi D a cc σ sz r σr) 0 0 (va_A (wM a cc σ) sz) := by
  refine Met.ofW (cc := cX9_now) (maxL := 1) (ret := (some .char)) (by decide) rfl ?_
  intro p e s m args below meth c s₁ B hml hv
  obtain ⟨rfl, hsz, hP, hK, hD0⟩ := hv
  subst hsz
  have hl := lv_entry ([.ref (a 0)]) (n := 1) (Nat.le_of_ble_eq_true rfl)
  rw [lg_entry_eq]
  generalize (lg_sl ([.ref (a 0)]) ++ List.replicate (1 - (lg_sl ([.ref (a 0)])).length) Slot.unset).toArray = ls at hl ⊢
  exact tX9_now ⟨B.exec, B.bytes, B.returns, hml, findClass_of_methodNamed B.named, atoms_spec (ws := (Cond.code yX9_now cX9_now 1 (some .char) :: WM)) B.pre, (fun w h => List.mem_cons_of_mem _ (inWM w h)), hK, B.notSynchronized⟩ (fun q h => Or.inr h) h hP hD0.self va_S.rf hl
set_option maxHeartbeats 4000000 in
set_option maxRecDepth 100000 in
theorem tX9_expect {p : Program} {l : Launch} {e : Env} {s : State} {m : MethodId} {args : Array Value} {below : List Frame} {meth : Method} {c : Code} {D : va_G} {a : Nat → Nat} {cc : Nat → ClassId} {A : Nat → Prop} {N : Nat} {σr : St} (C : M_Cx RX9 p s m args meth c D cc cX9_expect (Cond.code yX9_expect cX9_expect 4 none :: WM) 4 none) (hA : ∀ q, s.heap.size ≤ q → A q) {σ : St} {p0 : Int32} {p1 : Int32} {p2 : Int32} {H : Heap} {locs : List Loc} {ls : Array Slot} (h : fX9_expect N σ p0 p1 p2 = some σr) : va_P D vwCl (wM a cc σ) H → va_D A (wM a cc σ) → va_S A s.heap H locs → lv_has ls 4 [(0, .ref (a 0)), (1, .int p0), (2, .int p1), (3, .int p2)] → W p l e rmX9_expect s m args below meth c H locs 0 0 (M_Mv D a cc A below args s σr) (F0 m 0 ls []) := by
  obtain ⟨hx, hb, hr, hml, hown, hts, hin, hK, hlocks⟩ := id C
  intro hP hD hS hl
  refine lv_aload_n hx hb dX9_expect_0 rfl (lv_at hl 0 rfl) ?_
  refine M_gt14 C hP dX9_expect_1 ?_
  refine lv_aload_n hx hb dX9_expect_4 rfl (lv_at hl 0 rfl) ?_
  refine M_gt13 C hP dX9_expect_5 ?_
  refine lv_iload_n hx hb dX9_expect_8 rfl (lv_at hl 1 rfl) ?_
  obtain ⟨g1, h⟩ := grd_s h
  obtain ⟨σ2, eσ2, h⟩ := letS_n h
  refine M_st14 C hP hD hS g1 eσ2 dX9_expect_9 (fun H locs hP hD hS => ?_)
  refine lv_aload_n hx hb dX9_expect_10 rfl (lv_at hl 0 rfl) ?_
  refine M_gt15 C hP dX9_expect_11 ?_
  refine lv_aload_n hx hb dX9_expect_14 rfl (lv_at hl 0 rfl) ?_
  refine M_gt13 C hP dX9_expect_15 ?_
  refine lv_iload_n hx hb dX9_expect_18 rfl (lv_at hl 2 rfl) ?_
  obtain ⟨g3, h⟩ := grd_s h
  obtain ⟨σ4, eσ4, h⟩ := letS_n h
  refine M_st15 C hP hD hS g3 eσ4 dX9_expect_19 (fun H locs hP hD hS => ?_)
  refine lv_aload_n hx hb dX9_expect_20 rfl (lv_at hl 0 rfl) ?_
  refine M_gt16 C hP dX9_expect_21 ?_
  refine lv_aload_n hx hb dX9_expect_24 rfl (lv_at hl 0 rfl) ?_
  refine M_gt13 C hP dX9_expect_25 ?_
  refine lv_iload_n hx hb dX9_expect_28 rfl (lv_at hl 3 rfl) ?_
  obtain ⟨g5, h⟩ := grd_s h
  obtain ⟨σ6, eσ6, h⟩ := letS_n h
  refine M_st16 C hP hD hS g5 eσ6 dX9_expect_29 (fun H locs hP hD hS => ?_)
  refine lv_aload_n hx hb dX9_expect_30 rfl (lv_at hl 0 rfl) ?_
  refine lv_dup hx hb dX9_expect_31 rfl ?_
  refine M_gt13 C hP dX9_expect_32 ?_
  refine lv_iconst (v := (1 : Int32)) hx hb dX9_expect_35 (by decide) ?_
  refine lv_iadd hx hb dX9_expect_36 ?_
  obtain ⟨σ7, eσ7, h⟩ := letS_n h
  refine M_pt13 C hP hD hS eσ7 dX9_expect_37 (fun H locs hP hD hS => ?_)
  exact M_vret C h hP hD hS dX9_expect_40
set_option maxRecDepth 100000 in
theorem kX9_expect (l : Launch) (sz : Nat) {D : va_G} {a : Nat → Nat} {cc : Nat → ClassId} {N : Nat} {σr : St} {σ : St} {p0 : Int32} {p1 : Int32} {p2 : Int32} (h : fX9_expect N σ p0 p1 p2 = some σr) : Met l yX9_expect ((Cond.code yX9_expect cX9_expect 4 none :: WM)) rmX9_expect (M_Pc D a cc [.ref (a 0), .int p0, .int p1, .int p2] σ sz) (M_Qv D a cc σ sz σr) 0 0 (va_A (wM a cc σ) sz) := by
  refine Met.ofW (cc := cX9_expect) (maxL := 4) (ret := none) (by decide) rfl ?_
  intro p e s m args below meth c s₁ B hml hv
  obtain ⟨rfl, hsz, hP, hK, hD0⟩ := hv
  subst hsz
  have hl := lv_entry ([.ref (a 0), .int p0, .int p1, .int p2]) (n := 4) (Nat.le_of_ble_eq_true rfl)
  rw [lg_entry_eq]
  generalize (lg_sl ([.ref (a 0), .int p0, .int p1, .int p2]) ++ List.replicate (4 - (lg_sl ([.ref (a 0), .int p0, .int p1, .int p2])).length) Slot.unset).toArray = ls at hl ⊢
  exact tX9_expect ⟨B.exec, B.bytes, B.returns, hml, findClass_of_methodNamed B.named, atoms_spec (ws := (Cond.code yX9_expect cX9_expect 4 none :: WM)) B.pre, (fun w h => List.mem_cons_of_mem _ (inWM w h)), hK, B.notSynchronized⟩ (fun q h => Or.inr h) h hP hD0.self va_S.rf hl
set_option maxHeartbeats 4000000 in
set_option maxRecDepth 100000 in
theorem tX9_node {p : Program} {l : Launch} {e : Env} {s : State} {m : MethodId} {args : Array Value} {below : List Frame} {meth : Method} {c : Code} {D : va_G} {a : Nat → Nat} {cc : Nat → ClassId} {A : Nat → Prop} {N : Nat} {r : Int32} {σr : St} (C : M_Cx RX9 p s m args meth c D cc cX9_node (Cond.code yX9_node cX9_node 2 (some .int) :: WM) 2 (some .int)) (hA : ∀ q, s.heap.size ≤ q → A q) {σ : St} {p0 : Int32} {H : Heap} {locs : List Loc} {ls : Array Slot} (h : fX9_node N σ p0 = some (r, σr)) : va_P D vwCl (wM a cc σ) H → va_D A (wM a cc σ) → va_S A s.heap H locs → lv_has ls 2 [(0, .ref (a 0)), (1, .int p0)] → W p l e rmX9_node s m args below meth c H locs 0 0 (M_Mi D a cc A below args s r σr) (F0 m 0 ls []) := by
  obtain ⟨hx, hb, hr, hml, hown, hts, hin, hK, hlocks⟩ := id C
  intro hP hD hS hl
  refine lv_aload_n hx hb dX9_node_0 rfl (lv_at hl 0 rfl) ?_
  refine M_gt5 C hP dX9_node_1 ?_
  refine lv_aload_n hx hb dX9_node_4 rfl (lv_at hl 0 rfl) ?_
  refine M_gt4 C hP dX9_node_5 ?_
  refine lv_iload_n hx hb dX9_node_8 rfl (lv_at hl 1 rfl) ?_
  obtain ⟨g1, h⟩ := grd_s h
  obtain ⟨σ2, eσ2, h⟩ := letS_n h
  refine M_st5 C hP hD hS g1 eσ2 dX9_node_9 (fun H locs hP hD hS => ?_)
  refine lv_aload_n hx hb dX9_node_10 rfl (lv_at hl 0 rfl) ?_
  refine M_gt6 C hP dX9_node_11 ?_
  refine lv_aload_n hx hb dX9_node_14 rfl (lv_at hl 0 rfl) ?_
  refine M_gt4 C hP dX9_node_15 ?_
  refine lv_iconst (v := (-1 : Int32)) hx hb dX9_node_18 (by decide) ?_
  obtain ⟨g3, h⟩ := grd_s h
  obtain ⟨σ4, eσ4, h⟩ := letS_n h
  refine M_st6 C hP hD hS g3 eσ4 dX9_node_19 (fun H locs hP hD hS => ?_)
  refine lv_aload_n hx hb dX9_node_20 rfl (lv_at hl 0 rfl) ?_
  refine M_gt7 C hP dX9_node_21 ?_
  refine lv_aload_n hx hb dX9_node_24 rfl (lv_at hl 0 rfl) ?_
  refine M_gt4 C hP dX9_node_25 ?_
  refine lv_iconst (v := (-1 : Int32)) hx hb dX9_node_28 (by decide) ?_
  obtain ⟨g5, h⟩ := grd_s h
  obtain ⟨σ6, eσ6, h⟩ := letS_n h
  refine M_st7 C hP hD hS g5 eσ6 dX9_node_29 (fun H locs hP hD hS => ?_)
  refine lv_aload_n hx hb dX9_node_30 rfl (lv_at hl 0 rfl) ?_
  refine M_gt8 C hP dX9_node_31 ?_
  refine lv_aload_n hx hb dX9_node_34 rfl (lv_at hl 0 rfl) ?_
  refine M_gt4 C hP dX9_node_35 ?_
  refine lv_iconst (v := (-1 : Int32)) hx hb dX9_node_38 (by decide) ?_
  obtain ⟨g7, h⟩ := grd_s h
  obtain ⟨σ8, eσ8, h⟩ := letS_n h
  refine M_st8 C hP hD hS g7 eσ8 dX9_node_39 (fun H locs hP hD hS => ?_)
  refine lv_aload_n hx hb dX9_node_40 rfl (lv_at hl 0 rfl) ?_
  refine M_gt9 C hP dX9_node_41 ?_
  refine lv_aload_n hx hb dX9_node_44 rfl (lv_at hl 0 rfl) ?_
  refine M_gt4 C hP dX9_node_45 ?_
  refine lv_iconst (v := (1 : Int32)) hx hb dX9_node_48 (by decide) ?_
  obtain ⟨g9, h⟩ := grd_s h
  obtain ⟨σ10, eσ10, h⟩ := letS_n h
  refine M_st9 C hP hD hS g9 eσ10 dX9_node_49 (fun H locs hP hD hS => ?_)
  refine lv_aload_n hx hb dX9_node_50 rfl (lv_at hl 0 rfl) ?_
  refine M_gt10 C hP dX9_node_51 ?_
  refine lv_aload_n hx hb dX9_node_54 rfl (lv_at hl 0 rfl) ?_
  refine M_gt4 C hP dX9_node_55 ?_
  refine lv_iconst (v := (1 : Int32)) hx hb dX9_node_58 (by decide) ?_
  obtain ⟨g11, h⟩ := grd_s h
  obtain ⟨σ12, eσ12, h⟩ := letS_n h
  refine M_st10 C hP hD hS g11 eσ12 dX9_node_59 (fun H locs hP hD hS => ?_)
  refine lv_aload_n hx hb dX9_node_60 rfl (lv_at hl 0 rfl) ?_
  refine M_gt18 C hP dX9_node_61 ?_
  refine lv_aload_n hx hb dX9_node_64 rfl (lv_at hl 0 rfl) ?_
  refine M_gt4 C hP dX9_node_65 ?_
  refine lv_iconst (v := (-1 : Int32)) hx hb dX9_node_68 (by decide) ?_
  obtain ⟨g13, h⟩ := grd_s h
  obtain ⟨σ14, eσ14, h⟩ := letS_n h
  refine M_st18 C hP hD hS g13 eσ14 dX9_node_69 (fun H locs hP hD hS => ?_)
  refine lv_aload_n hx hb dX9_node_70 rfl (lv_at hl 0 rfl) ?_
  refine lv_dup hx hb dX9_node_71 rfl ?_
  refine M_gt4 C hP dX9_node_72 ?_
  refine lv_iconst (v := (1 : Int32)) hx hb dX9_node_75 (by decide) ?_
  refine lv_iadd hx hb dX9_node_76 ?_
  obtain ⟨σ15, eσ15, h⟩ := letS_n h
  refine M_pt4 C hP hD hS eσ15 dX9_node_77 (fun H locs hP hD hS => ?_)
  refine lv_aload_n hx hb dX9_node_80 rfl (lv_at hl 0 rfl) ?_
  refine M_gt4 C hP dX9_node_81 ?_
  refine lv_iconst (v := (1 : Int32)) hx hb dX9_node_84 (by decide) ?_
  refine lv_isub hx hb dX9_node_85 ?_
  exact M_iret C h hP hD hS dX9_node_86
set_option maxRecDepth 100000 in
theorem kX9_node (l : Launch) (sz : Nat) {D : va_G} {a : Nat → Nat} {cc : Nat → ClassId} {N : Nat} {r : Int32} {σr : St} {σ : St} {p0 : Int32} (h : fX9_node N σ p0 = some (r, σr)) : Met l yX9_node ((Cond.code yX9_node cX9_node 2 (some .int) :: WM)) rmX9_node (M_Pc D a cc [.ref (a 0), .int p0] σ sz) (M_Qi D a cc σ sz r σr) 0 0 (va_A (wM a cc σ) sz) := by
  refine Met.ofW (cc := cX9_node) (maxL := 2) (ret := (some .int)) (by decide) rfl ?_
  intro p e s m args below meth c s₁ B hml hv
  obtain ⟨rfl, hsz, hP, hK, hD0⟩ := hv
  subst hsz
  have hl := lv_entry ([.ref (a 0), .int p0]) (n := 2) (Nat.le_of_ble_eq_true rfl)
  rw [lg_entry_eq]
  generalize (lg_sl ([.ref (a 0), .int p0]) ++ List.replicate (2 - (lg_sl ([.ref (a 0), .int p0])).length) Slot.unset).toArray = ls at hl ⊢
  exact tX9_node ⟨B.exec, B.bytes, B.returns, hml, findClass_of_methodNamed B.named, atoms_spec (ws := (Cond.code yX9_node cX9_node 2 (some .int) :: WM)) B.pre, (fun w h => List.mem_cons_of_mem _ (inWM w h)), hK, B.notSynchronized⟩ (fun q h => Or.inr h) h hP hD0.self va_S.rf hl
set_option maxHeartbeats 4000000 in
set_option maxRecDepth 100000 in
theorem tX9_hang {p : Program} {l : Launch} {e : Env} {s : State} {m : MethodId} {args : Array Value} {below : List Frame} {meth : Method} {c : Code} {D : va_G} {a : Nat → Nat} {cc : Nat → ClassId} {A : Nat → Prop} {N : Nat} {σr : St} (C : M_Cx RX9 p s m args meth c D cc cX9_hang (Cond.code yX9_hang cX9_hang 3 none :: WM) 3 none) (hA : ∀ q, s.heap.size ≤ q → A q) {σ : St} {p0 : Int32} {p1 : Int32} {H : Heap} {locs : List Loc} {ls : Array Slot} (h : fX9_hang N σ p0 p1 = some σr) : va_P D vwCl (wM a cc σ) H → va_D A (wM a cc σ) → va_S A s.heap H locs → lv_has ls 3 [(0, .ref (a 0)), (1, .int p0), (2, .int p1)] → W p l e rmX9_hang s m args below meth c H locs 0 0 (M_Mv D a cc A below args s σr) (F0 m 0 ls []) := by
  obtain ⟨hx, hb, hr, hml, hown, hts, hin, hK, hlocks⟩ := id C
  intro hP hD hS hl
  refine lv_iload_n hx hb dX9_hang_0 rfl (lv_at hl 1 rfl) ?_
  refine lv_if_ge (tgt := 5) hx hb dX9_hang_1 (by decide) (fun c1 => ?_) (fun c1 => ?_)
  · have h := ifT c1 h
    refine lv_aload_n hx hb dX9_hang_5 rfl (lv_at hl 0 rfl) ?_
    refine M_gt6 C hP dX9_hang_6 ?_
    refine lv_iload_n hx hb dX9_hang_9 rfl (lv_at hl 1 rfl) ?_
    obtain ⟨g2, h⟩ := grd_s h
    refine M_ld6 C hP g2 dX9_hang_10 ?_
    refine lv_if_ge (tgt := 24) hx hb dX9_hang_11 (by decide) (fun c3 => ?_) (fun c3 => ?_)
    · have h := ifT c3 h
      refine lv_aload_n hx hb dX9_hang_24 rfl (lv_at hl 0 rfl) ?_
      refine M_gt7 C hP dX9_hang_25 ?_
      refine lv_iload_n hx hb dX9_hang_28 rfl (lv_at hl 1 rfl) ?_
      refine lv_iload_n hx hb dX9_hang_29 rfl (lv_at hl 2 rfl) ?_
      obtain ⟨g4, h⟩ := grd_s h
      obtain ⟨σ5, eσ5, h⟩ := letS_n h
      refine M_st7 C hP hD hS g4 eσ5 dX9_hang_30 (fun H locs hP hD hS => ?_)
      exact M_vret C h hP hD hS dX9_hang_31
    · have h := ifF c3 h
      refine lv_aload_n hx hb dX9_hang_14 rfl (lv_at hl 0 rfl) ?_
      refine M_gt6 C hP dX9_hang_15 ?_
      refine lv_iload_n hx hb dX9_hang_18 rfl (lv_at hl 1 rfl) ?_
      refine lv_iload_n hx hb dX9_hang_19 rfl (lv_at hl 2 rfl) ?_
      obtain ⟨g6, h⟩ := grd_s h
      obtain ⟨σ7, eσ7, h⟩ := letS_n h
      refine M_st6 C hP hD hS g6 eσ7 dX9_hang_20 (fun H locs hP hD hS => ?_)
      refine lv_goto (tgt := 31) hx hb dX9_hang_21 (by decide) ?_
      exact M_vret C h hP hD hS dX9_hang_31
  · have h := ifF c1 h
    exact M_vret C h hP hD hS dX9_hang_4
set_option maxRecDepth 100000 in
theorem kX9_hang (l : Launch) (sz : Nat) {D : va_G} {a : Nat → Nat} {cc : Nat → ClassId} {N : Nat} {σr : St} {σ : St} {p0 : Int32} {p1 : Int32} (h : fX9_hang N σ p0 p1 = some σr) : Met l yX9_hang ((Cond.code yX9_hang cX9_hang 3 none :: WM)) rmX9_hang (M_Pc D a cc [.ref (a 0), .int p0, .int p1] σ sz) (M_Qv D a cc σ sz σr) 0 0 (va_A (wM a cc σ) sz) := by
  refine Met.ofW (cc := cX9_hang) (maxL := 3) (ret := none) (by decide) rfl ?_
  intro p e s m args below meth c s₁ B hml hv
  obtain ⟨rfl, hsz, hP, hK, hD0⟩ := hv
  subst hsz
  have hl := lv_entry ([.ref (a 0), .int p0, .int p1]) (n := 3) (Nat.le_of_ble_eq_true rfl)
  rw [lg_entry_eq]
  generalize (lg_sl ([.ref (a 0), .int p0, .int p1]) ++ List.replicate (3 - (lg_sl ([.ref (a 0), .int p0, .int p1])).length) Slot.unset).toArray = ls at hl ⊢
  exact tX9_hang ⟨B.exec, B.bytes, B.returns, hml, findClass_of_methodNamed B.named, atoms_spec (ws := (Cond.code yX9_hang cX9_hang 3 none :: WM)) B.pre, (fun w h => List.mem_cons_of_mem _ (inWM w h)), hK, B.notSynchronized⟩ (fun q h => Or.inr h) h hP hD0.self va_S.rf hl
set_option maxHeartbeats 4000000 in
set_option maxRecDepth 100000 in
theorem tX9_literal {p : Program} {l : Launch} {e : Env} {s : State} {m : MethodId} {args : Array Value} {below : List Frame} {meth : Method} {c : Code} {D : va_G} {a : Nat → Nat} {cc : Nat → ClassId} {A : Nat → Prop} {N : Nat} {r : Int32} {σr : St} (C : M_Cx RX9 p s m args meth c D cc cX9_literal (Cond.code yX9_literal cX9_literal 1 (some .int) :: WM) 1 (some .int)) (hA : ∀ q, s.heap.size ≤ q → A q) {σ : St} {p0 : Int32} {H : Heap} {locs : List Loc} {ls : Array Slot} (h : fX9_literal N σ p0 = some (r, σr)) : va_P D vwCl (wM a cc σ) H → va_D A (wM a cc σ) → va_S A s.heap H locs → lv_has ls 1 [(0, .int p0)] → W p l e rmX9_literal s m args below meth c H locs 0 0 (M_Mi D a cc A below args s r σr) (F0 m 0 ls []) := by
  obtain ⟨hx, hb, hr, hml, hown, hts, hin, hK, hlocks⟩ := id C
  intro hP hD hS hl
  refine lv_iload_n hx hb dX9_literal_0 rfl (lv_at hl 0 rfl) ?_
  refine lv_bipush (v := (97 : Int32)) hx hb dX9_literal_1 (by decide) ?_
  refine lv_icmp_ne (tgt := 10) hx hb dX9_literal_3 (by decide) (fun c1 => ?_) (fun c1 => ?_)
  · have h := ifF c1 h
    refine lv_iload_n hx hb dX9_literal_10 rfl (lv_at hl 0 rfl) ?_
    refine lv_bipush (v := (98 : Int32)) hx hb dX9_literal_11 (by decide) ?_
    refine lv_icmp_ne (tgt := 20) hx hb dX9_literal_13 (by decide) (fun c2 => ?_) (fun c2 => ?_)
    · have h := ifF c2 h
      refine lv_iload_n hx hb dX9_literal_20 rfl (lv_at hl 0 rfl) ?_
      refine lv_bipush (v := (99 : Int32)) hx hb dX9_literal_21 (by decide) ?_
      refine lv_icmp_ne (tgt := 30) hx hb dX9_literal_23 (by decide) (fun c3 => ?_) (fun c3 => ?_)
      · have h := ifF c3 h
        refine lv_iload_n hx hb dX9_literal_30 rfl (lv_at hl 0 rfl) ?_
        refine lv_bipush (v := (48 : Int32)) hx hb dX9_literal_31 (by decide) ?_
        refine lv_icmp_ne (tgt := 40) hx hb dX9_literal_33 (by decide) (fun c4 => ?_) (fun c4 => ?_)
        · have h := ifF c4 h
          refine lv_iload_n hx hb dX9_literal_40 rfl (lv_at hl 0 rfl) ?_
          refine lv_bipush (v := (49 : Int32)) hx hb dX9_literal_41 (by decide) ?_
          refine lv_icmp_ne (tgt := 51) hx hb dX9_literal_43 (by decide) (fun c5 => ?_) (fun c5 => ?_)
          · have h := ifF c5 h
            refine lv_iconst (v := (-1 : Int32)) hx hb dX9_literal_51 (by decide) ?_
            exact M_iret C h hP hD hS dX9_literal_52
          · have h := ifT c5 h
            refine lv_bipush (v := (8 : Int32)) hx hb dX9_literal_46 (by decide) ?_
            refine lv_goto (tgt := 52) hx hb dX9_literal_48 (by decide) ?_
            exact M_iret C h hP hD hS dX9_literal_52
        · have h := ifT c4 h
          refine lv_iconst (v := (0 : Int32)) hx hb dX9_literal_36 (by decide) ?_
          refine lv_goto (tgt := 52) hx hb dX9_literal_37 (by decide) ?_
          exact M_iret C h hP hD hS dX9_literal_52
      · have h := ifT c3 h
        refine lv_iconst (v := (4 : Int32)) hx hb dX9_literal_26 (by decide) ?_
        refine lv_goto (tgt := 52) hx hb dX9_literal_27 (by decide) ?_
        exact M_iret C h hP hD hS dX9_literal_52
    · have h := ifT c2 h
      refine lv_iconst (v := (2 : Int32)) hx hb dX9_literal_16 (by decide) ?_
      refine lv_goto (tgt := 52) hx hb dX9_literal_17 (by decide) ?_
      exact M_iret C h hP hD hS dX9_literal_52
  · have h := ifT c1 h
    refine lv_iconst (v := (1 : Int32)) hx hb dX9_literal_6 (by decide) ?_
    refine lv_goto (tgt := 52) hx hb dX9_literal_7 (by decide) ?_
    exact M_iret C h hP hD hS dX9_literal_52
set_option maxRecDepth 100000 in
theorem kX9_literal (l : Launch) (sz : Nat) {D : va_G} {a : Nat → Nat} {cc : Nat → ClassId} {N : Nat} {r : Int32} {σr : St} {σ : St} {p0 : Int32} (h : fX9_literal N σ p0 = some (r, σr)) : Met l yX9_literal ((Cond.code yX9_literal cX9_literal 1 (some .int) :: WM)) rmX9_literal (M_Pc D a cc [.int p0] σ sz) (M_Qi D a cc σ sz r σr) 0 0 (va_A (wM a cc σ) sz) := by
  refine Met.ofW (cc := cX9_literal) (maxL := 1) (ret := (some .int)) (by decide) rfl ?_
  intro p e s m args below meth c s₁ B hml hv
  obtain ⟨rfl, hsz, hP, hK, hD0⟩ := hv
  subst hsz
  have hl := lv_entry ([.int p0]) (n := 1) (Nat.le_of_ble_eq_true rfl)
  rw [lg_entry_eq]
  generalize (lg_sl ([.int p0]) ++ List.replicate (1 - (lg_sl ([.int p0])).length) Slot.unset).toArray = ls at hl ⊢
  exact tX9_literal ⟨B.exec, B.bytes, B.returns, hml, findClass_of_methodNamed B.named, atoms_spec (ws := (Cond.code yX9_literal cX9_literal 1 (some .int) :: WM)) B.pre, (fun w h => List.mem_cons_of_mem _ (inWM w h)), hK, B.notSynchronized⟩ (fun q h => Or.inr h) h hP hD0.self va_S.rf hl
set_option maxHeartbeats 4000000 in
set_option maxRecDepth 100000 in
theorem tX9_sprout_218 {p : Program} {l : Launch} {e : Env} {s : State} {m : MethodId} {args : Array Value} {below : List Frame} {meth : Method} {c : Code} {D : va_G} {a : Nat → Nat} {cc : Nat → ClassId} {A : Nat → Prop} {N : Nat} {σr : St} (C : M_Cx RX9 p s m args meth c D cc cX9_sprout (Cond.code yX9_sprout cX9_sprout 9 none :: WM) 9 none) (hA : ∀ q, s.heap.size ≤ q → A q) {σ : St} {x1 : Int32} {x3 : Int32} {x7 : Int32} {y0 : Int32} {H : Heap} {locs : List Loc} {ls : Array Slot} (h : fX9_sprout_218 N σ x1 x3 x7 y0 = some σr) : va_P D vwCl (wM a cc σ) H → va_D A (wM a cc σ) → va_S A s.heap H locs → lv_has ls 9 [(0, .ref (a 0)), (1, .int x1), (3, .int x3), (7, .int x7)] → W p l e rmX9_sprout s m args below meth c H locs 0 0 (M_Mv D a cc A below args s σr) (F0 m 218 ls [.int y0, .ref (a 0)]) := by
  obtain ⟨hx, hb, hr, hml, hown, hts, hin, hK, hlocks⟩ := id C
  intro hP hD hS hl
  refine lv_iload hx hb dX9_sprout_218 (lv_at hl 3 rfl) ?_
  refine lv_iconst (v := (0 : Int32)) hx hb dX9_sprout_220 (by decide) ?_
  obtain ⟨σ40, hc, h⟩ := bnd1_s h
  refine M_callVv (As := [.int y0, .int x7, .int (0 : Int32)]) (rest := []) C hA (fun sz => kX9_expect l sz hc) gX9_expect hP hD hS ⟨by decide, by decide⟩ ⟨rfl, rfl⟩ rfl hl.1 rfl (lv_room (Nat.le_of_ble_eq_true rfl)) dX9_sprout_221 (fun H locs hP hD hS => ?_)
  refine lv_aload_n hx hb dX9_sprout_224 rfl (lv_at hl 0 rfl) ?_
  refine lv_iload_n hx hb dX9_sprout_225 rfl (lv_at hl 1 rfl) ?_
  refine lv_iload hx hb dX9_sprout_226 (lv_at hl 3 rfl) ?_
  refine lv_iload_n hx hb dX9_sprout_228 rfl (lv_at hl 2 rfl) ?_
  refine lv_iconst (v := (1 : Int32)) hx hb dX9_sprout_229 (by decide) ?_
  refine lv_iadd hx hb dX9_sprout_230 ?_
  obtain ⟨σ41, hc, h⟩ := bnd1_s h
  refine M_callVv (As := [.int x1, .int x7, .int (x3 + (1 : Int32))]) (rest := []) C hA (fun sz => kX9_expect l sz hc) gX9_expect hP hD hS ⟨by decide, by decide⟩ ⟨rfl, rfl⟩ rfl hl.1 rfl (lv_room (Nat.le_of_ble_eq_true rfl)) dX9_sprout_231 (fun H locs hP hD hS => ?_)
  refine lv_goto (tgt := 322) hx hb dX9_sprout_234 (by decide) ?_
  exact M_vret C h hP hD hS dX9_sprout_322
set_option maxHeartbeats 4000000 in
set_option maxRecDepth 100000 in
theorem tX9_sprout_314 {p : Program} {l : Launch} {e : Env} {s : State} {m : MethodId} {args : Array Value} {below : List Frame} {meth : Method} {c : Code} {D : va_G} {a : Nat → Nat} {cc : Nat → ClassId} {A : Nat → Prop} {N : Nat} {σr : St} (C : M_Cx RX9 p s m args meth c D cc cX9_sprout (Cond.code yX9_sprout cX9_sprout 9 none :: WM) 9 none) (hA : ∀ q, s.heap.size ≤ q → A q) {σ : St} {x3 : Int32} {x7 : Int32} {y0 : Int32} {H : Heap} {locs : List Loc} {ls : Array Slot} (h : fX9_sprout_314 N σ x3 x7 y0 = some σr) : va_P D vwCl (wM a cc σ) H → va_D A (wM a cc σ) → va_S A s.heap H locs → lv_has ls 9 [(3, .int x3), (7, .int x7)] → W p l e rmX9_sprout s m args below meth c H locs 0 0 (M_Mv D a cc A below args s σr) (F0 m 314 ls [.int y0, .ref (a 0)]) := by
  obtain ⟨hx, hb, hr, hml, hown, hts, hin, hK, hlocks⟩ := id C
  intro hP hD hS hl
  refine lv_iload hx hb dX9_sprout_314 (lv_at hl 1 rfl) ?_
  refine lv_iload_n hx hb dX9_sprout_316 rfl (lv_at hl 0 rfl) ?_
  refine lv_iconst (v := (1 : Int32)) hx hb dX9_sprout_317 (by decide) ?_
  refine lv_iadd hx hb dX9_sprout_318 ?_
  obtain ⟨σ42, hc, h⟩ := bnd1_s h
  refine M_callVv (As := [.int y0, .int x7, .int (x3 + (1 : Int32))]) (rest := []) C hA (fun sz => kX9_expect l sz hc) gX9_expect hP hD hS ⟨by decide, by decide⟩ ⟨rfl, rfl⟩ rfl hl.1 rfl (lv_room (Nat.le_of_ble_eq_true rfl)) dX9_sprout_319 (fun H locs hP hD hS => ?_)
  exact M_vret C h hP hD hS dX9_sprout_322
set_option maxHeartbeats 4000000 in
set_option maxRecDepth 100000 in
theorem tX9_sprout_155 {p : Program} {l : Launch} {e : Env} {s : State} {m : MethodId} {args : Array Value} {below : List Frame} {meth : Method} {c : Code} {D : va_G} {a : Nat → Nat} {cc : Nat → ClassId} {A : Nat → Prop} {N : Nat} {σr : St} (C : M_Cx RX9 p s m args meth c D cc cX9_sprout (Cond.code yX9_sprout cX9_sprout 9 none :: WM) 9 none) (hA : ∀ q, s.heap.size ≤ q → A q) {σ : St} {x1 : Int32} {x2 : Int32} {x3 : Int32} {x4 : Int32} {x5 : Int32} {x6 : Int32} {y0 : Int32} {H : Heap} {locs : List Loc} {ls : Array Slot} (h : fX9_sprout_155 N σ x1 x2 x3 x4 x5 x6 y0 = some σr) : va_P D vwCl (wM a cc σ) H → va_D A (wM a cc σ) → va_S A s.heap H locs → lv_has ls 9 [(0, .ref (a 0)), (1, .int x1), (2, .int x2), (3, .int x3), (4, .int x4), (5, .int x5), (6, .int x6)] → W p l e rmX9_sprout s m args below meth c H locs 0 0 (M_Mv D a cc A below args s σr) (F0 m 155 ls [.int y0, .ref (a 0)]) := by
  obtain ⟨hx, hb, hr, hml, hown, hts, hin, hK, hlocks⟩ := id C
  intro hP hD hS hl
  obtain ⟨r22, σ21, hc, h⟩ := bnd_s h
  refine M_callVi (As := [.int y0]) (rest := []) C hA (fun sz => kX9_node l sz hc) gX9_node hP hD hS ⟨by decide, by decide⟩ ⟨rfl, rfl⟩ rfl hl.1 rfl (lv_room (Nat.le_of_ble_eq_true rfl)) dX9_sprout_155 (fun H locs hP hD hS => ?_)
  refine lv_istore (lv' := [(7, .int r22), (0, .ref (a 0)), (1, .int x1), (2, .int x2), (3, .int x3), (4, .int x4), (5, .int x5), (6, .int x6)]) hx hb dX9_sprout_158 hl (by decide) rfl (fun ls hl => ?_)
  refine lv_aload_n hx hb dX9_sprout_160 rfl (lv_at hl 1 rfl) ?_
  refine lv_iload_n hx hb dX9_sprout_161 rfl (lv_at hl 3 rfl) ?_
  refine lv_iload hx hb dX9_sprout_162 (lv_at hl 0 rfl) ?_
  obtain ⟨σ23, hc, h⟩ := bnd1_s h
  refine M_callVv (As := [.int x2, .int r22]) (rest := []) C hA (fun sz => kX9_hang l sz hc) gX9_hang hP hD hS ⟨by decide, by decide⟩ ⟨rfl, rfl⟩ rfl hl.1 rfl (lv_room (Nat.le_of_ble_eq_true rfl)) dX9_sprout_164 (fun H locs hP hD hS => ?_)
  refine lv_aload_n hx hb dX9_sprout_167 rfl (lv_at hl 1 rfl) ?_
  refine M_gt9 C hP dX9_sprout_168 ?_
  refine lv_iload hx hb dX9_sprout_171 (lv_at hl 0 rfl) ?_
  refine lv_iload hx hb dX9_sprout_173 (lv_at hl 7 rfl) ?_
  obtain ⟨g24, h⟩ := grd_s h
  obtain ⟨σ25, eσ25, h⟩ := letS_n h
  refine M_st9 C hP hD hS g24 eσ25 dX9_sprout_175 (fun H locs hP hD hS => ?_)
  refine lv_iload hx hb dX9_sprout_176 (lv_at hl 7 rfl) ?_
  refine lv_if_lt (tgt := 182) hx hb dX9_sprout_178 (by decide) (fun c26 => ?_) (fun c26 => ?_)
  · have h := ifT c26 h
    refine lv_iload hx hb dX9_sprout_182 (lv_at hl 5 rfl) ?_
    refine lv_bipush (v := (40 : Int32)) hx hb dX9_sprout_184 (by decide) ?_
    refine lv_icmp_ne (tgt := 237) hx hb dX9_sprout_186 (by decide) (fun c27 => ?_) (fun c27 => ?_)
    · have h := ifF c27 h
      refine lv_iload hx hb dX9_sprout_237 (lv_at hl 5 rfl) ?_
      refine lv_bipush (v := (123 : Int32)) hx hb dX9_sprout_239 (by decide) ?_
      refine lv_icmp_ne (tgt := 301) hx hb dX9_sprout_241 (by decide) (fun c28 => ?_) (fun c28 => ?_)
      · have h := ifF c28 h
        refine lv_aload_n hx hb dX9_sprout_301 rfl (lv_at hl 1 rfl) ?_
        refine lv_iload hx hb dX9_sprout_302 (lv_at hl 5 rfl) ?_
        refine lv_bipush (v := (33 : Int32)) hx hb dX9_sprout_304 (by decide) ?_
        refine lv_icmp_ne (tgt := 313) hx hb dX9_sprout_306 (by decide) (fun c29 => ?_) (fun c29 => ?_)
        · have h := ifF c29 h
          refine lv_iconst (v := (1 : Int32)) hx hb dX9_sprout_313 (by decide) ?_
          exact tX9_sprout_314 C hA h hP hD hS (lv_sub hl [4, 0] rfl)
        · have h := ifT c29 h
          refine lv_iconst (v := (2 : Int32)) hx hb dX9_sprout_309 (by decide) ?_
          refine lv_goto (tgt := 314) hx hb dX9_sprout_310 (by decide) ?_
          exact tX9_sprout_314 C hA h hP hD hS (lv_sub hl [4, 0] rfl)
      · have h := ifT c28 h
        refine lv_aload_n hx hb dX9_sprout_244 rfl (lv_at hl 1 rfl) ?_
        refine lv_iconst (v := (1 : Int32)) hx hb dX9_sprout_245 (by decide) ?_
        refine lv_iload hx hb dX9_sprout_246 (lv_at hl 0 rfl) ?_
        refine lv_iload_n hx hb dX9_sprout_248 rfl (lv_at hl 4 rfl) ?_
        refine lv_iconst (v := (1 : Int32)) hx hb dX9_sprout_249 (by decide) ?_
        refine lv_iadd hx hb dX9_sprout_250 ?_
        obtain ⟨σ30, hc, h⟩ := bnd1_s h
        refine M_callVv (As := [.int (1 : Int32), .int r22, .int (x3 + (1 : Int32))]) (rest := []) C hA (fun sz => kX9_expect l sz hc) gX9_expect hP hD hS ⟨by decide, by decide⟩ ⟨rfl, rfl⟩ rfl hl.1 rfl (lv_room (Nat.le_of_ble_eq_true rfl)) dX9_sprout_251 (fun H locs hP hD hS => ?_)
        refine lv_aload_n hx hb dX9_sprout_254 rfl (lv_at hl 1 rfl) ?_
        refine lv_bipush (v := (6 : Int32)) hx hb dX9_sprout_255 (by decide) ?_
        refine lv_iload hx hb dX9_sprout_257 (lv_at hl 0 rfl) ?_
        refine lv_iconst (v := (0 : Int32)) hx hb dX9_sprout_259 (by decide) ?_
        obtain ⟨σ31, hc, h⟩ := bnd1_s h
        refine M_callVv (As := [.int (6 : Int32), .int r22, .int (0 : Int32)]) (rest := []) C hA (fun sz => kX9_expect l sz hc) gX9_expect hP hD hS ⟨by decide, by decide⟩ ⟨rfl, rfl⟩ rfl hl.1 rfl (lv_room (Nat.le_of_ble_eq_true rfl)) dX9_sprout_260 (fun H locs hP hD hS => ?_)
        refine lv_aload_n hx hb dX9_sprout_263 rfl (lv_at hl 1 rfl) ?_
        refine lv_iconst (v := (3 : Int32)) hx hb dX9_sprout_264 (by decide) ?_
        refine lv_bipush (v := (125 : Int32)) hx hb dX9_sprout_265 (by decide) ?_
        refine lv_iconst (v := (0 : Int32)) hx hb dX9_sprout_267 (by decide) ?_
        obtain ⟨σ32, hc, h⟩ := bnd1_s h
        refine M_callVv (As := [.int (3 : Int32), .int (125 : Int32), .int (0 : Int32)]) (rest := []) C hA (fun sz => kX9_expect l sz hc) gX9_expect hP hD hS ⟨by decide, by decide⟩ ⟨rfl, rfl⟩ rfl hl.1 rfl (lv_room (Nat.le_of_ble_eq_true rfl)) dX9_sprout_268 (fun H locs hP hD hS => ?_)
        refine lv_aload_n hx hb dX9_sprout_271 rfl (lv_at hl 1 rfl) ?_
        refine lv_bipush (v := (10 : Int32)) hx hb dX9_sprout_272 (by decide) ?_
        obtain ⟨r34, σ33, hc, h⟩ := bnd_s h
        refine M_callVi (As := [.int (10 : Int32)]) (rest := []) C hA (fun sz => kX9_node l sz hc) gX9_node hP hD hS ⟨by decide, by decide⟩ ⟨rfl, rfl⟩ rfl hl.1 rfl (lv_room (Nat.le_of_ble_eq_true rfl)) dX9_sprout_274 (fun H locs hP hD hS => ?_)
        refine lv_istore (lv' := [(8, .int r34), (7, .int r22), (0, .ref (a 0)), (1, .int x1), (2, .int x2), (3, .int x3), (4, .int x4), (5, .int x5), (6, .int x6)]) hx hb dX9_sprout_277 hl (by decide) rfl (fun ls hl => ?_)
        refine lv_aload_n hx hb dX9_sprout_279 rfl (lv_at hl 2 rfl) ?_
        refine lv_iload hx hb dX9_sprout_280 (lv_at hl 1 rfl) ?_
        refine lv_iload hx hb dX9_sprout_282 (lv_at hl 0 rfl) ?_
        obtain ⟨σ35, hc, h⟩ := bnd1_s h
        refine M_callVv (As := [.int r22, .int r34]) (rest := []) C hA (fun sz => kX9_hang l sz hc) gX9_hang hP hD hS ⟨by decide, by decide⟩ ⟨rfl, rfl⟩ rfl hl.1 rfl (lv_room (Nat.le_of_ble_eq_true rfl)) dX9_sprout_284 (fun H locs hP hD hS => ?_)
        refine lv_aload_n hx hb dX9_sprout_287 rfl (lv_at hl 2 rfl) ?_
        refine lv_bipush (v := (7 : Int32)) hx hb dX9_sprout_288 (by decide) ?_
        refine lv_iload hx hb dX9_sprout_290 (lv_at hl 0 rfl) ?_
        refine lv_iload_n hx hb dX9_sprout_292 rfl (lv_at hl 5 rfl) ?_
        refine lv_iconst (v := (1 : Int32)) hx hb dX9_sprout_293 (by decide) ?_
        refine lv_iadd hx hb dX9_sprout_294 ?_
        obtain ⟨σ36, hc, h⟩ := bnd1_s h
        refine M_callVv (As := [.int (7 : Int32), .int r34, .int (x3 + (1 : Int32))]) (rest := []) C hA (fun sz => kX9_expect l sz hc) gX9_expect hP hD hS ⟨by decide, by decide⟩ ⟨rfl, rfl⟩ rfl hl.1 rfl (lv_room (Nat.le_of_ble_eq_true rfl)) dX9_sprout_295 (fun H locs hP hD hS => ?_)
        refine lv_goto (tgt := 322) hx hb dX9_sprout_298 (by decide) ?_
        exact M_vret C h hP hD hS dX9_sprout_322
    · have h := ifT c27 h
      refine lv_aload_n hx hb dX9_sprout_189 rfl (lv_at hl 1 rfl) ?_
      refine lv_iconst (v := (3 : Int32)) hx hb dX9_sprout_190 (by decide) ?_
      refine lv_bipush (v := (41 : Int32)) hx hb dX9_sprout_191 (by decide) ?_
      refine lv_iconst (v := (0 : Int32)) hx hb dX9_sprout_193 (by decide) ?_
      obtain ⟨σ37, hc, h⟩ := bnd1_s h
      refine M_callVv (As := [.int (3 : Int32), .int (41 : Int32), .int (0 : Int32)]) (rest := []) C hA (fun sz => kX9_expect l sz hc) gX9_expect hP hD hS ⟨by decide, by decide⟩ ⟨rfl, rfl⟩ rfl hl.1 rfl (lv_room (Nat.le_of_ble_eq_true rfl)) dX9_sprout_194 (fun H locs hP hD hS => ?_)
      refine lv_aload_n hx hb dX9_sprout_197 rfl (lv_at hl 1 rfl) ?_
      refine lv_iload_n hx hb dX9_sprout_198 rfl (lv_at hl 2 rfl) ?_
      refine lv_iload hx hb dX9_sprout_199 (lv_at hl 0 rfl) ?_
      refine lv_iload_n hx hb dX9_sprout_201 rfl (lv_at hl 4 rfl) ?_
      refine lv_iconst (v := (1 : Int32)) hx hb dX9_sprout_202 (by decide) ?_
      refine lv_iadd hx hb dX9_sprout_203 ?_
      obtain ⟨σ38, hc, h⟩ := bnd1_s h
      refine M_callVv (As := [.int x1, .int r22, .int (x3 + (1 : Int32))]) (rest := []) C hA (fun sz => kX9_expect l sz hc) gX9_expect hP hD hS ⟨by decide, by decide⟩ ⟨rfl, rfl⟩ rfl hl.1 rfl (lv_room (Nat.le_of_ble_eq_true rfl)) dX9_sprout_204 (fun H locs hP hD hS => ?_)
      refine lv_aload_n hx hb dX9_sprout_207 rfl (lv_at hl 1 rfl) ?_
      refine lv_iload hx hb dX9_sprout_208 (lv_at hl 6 rfl) ?_
      refine lv_if_eq (tgt := 217) hx hb dX9_sprout_210 (by decide) (fun c39 => ?_) (fun c39 => ?_)
      · have h := ifT c39 h
        refine lv_iconst (v := (5 : Int32)) hx hb dX9_sprout_217 (by decide) ?_
        exact tX9_sprout_218 C hA h hP hD hS (lv_sub hl [1, 2, 4, 0] rfl)
      · have h := ifF c39 h
        refine lv_iconst (v := (4 : Int32)) hx hb dX9_sprout_213 (by decide) ?_
        refine lv_goto (tgt := 218) hx hb dX9_sprout_214 (by decide) ?_
        exact tX9_sprout_218 C hA h hP hD hS (lv_sub hl [1, 2, 4, 0] rfl)
  · have h := ifF c26 h
    exact M_vret C h hP hD hS dX9_sprout_181
set_option maxHeartbeats 4000000 in
set_option maxRecDepth 100000 in
theorem tX9_sprout_76 {p : Program} {l : Launch} {e : Env} {s : State} {m : MethodId} {args : Array Value} {below : List Frame} {meth : Method} {c : Code} {D : va_G} {a : Nat → Nat} {cc : Nat → ClassId} {A : Nat → Prop} {N : Nat} {σr : St} (C : M_Cx RX9 p s m args meth c D cc cX9_sprout (Cond.code yX9_sprout cX9_sprout 9 none :: WM) 9 none) (hA : ∀ q, s.heap.size ≤ q → A q) {σ : St} {x1 : Int32} {x2 : Int32} {x3 : Int32} {x4 : Int32} {x5 : Int32} {x6 : Int32} {y0 : Int32} {H : Heap} {locs : List Loc} {ls : Array Slot} (h : fX9_sprout_76 N σ x1 x2 x3 x4 x5 x6 y0 = some σr) : va_P D vwCl (wM a cc σ) H → va_D A (wM a cc σ) → va_S A s.heap H locs → lv_has ls 9 [(0, .ref (a 0)), (1, .int x1), (2, .int x2), (3, .int x3), (4, .int x4), (5, .int x5), (6, .int x6)] → W p l e rmX9_sprout s m args below meth c H locs 0 0 (M_Mv D a cc A below args s σr) (F0 m 76 ls [.int y0, .ref (a 0)]) := by
  obtain ⟨hx, hb, hr, hml, hown, hts, hin, hK, hlocks⟩ := id C
  intro hP hD hS hl
  obtain ⟨g13, h⟩ := grd_s h
  obtain ⟨σ12, eσ12, h⟩ := letS_n h
  refine M_pt12 C hP hD hS g13 eσ12 dX9_sprout_76 (fun H locs hP hD hS => ?_)
  refine lv_aload_n hx hb dX9_sprout_79 rfl (lv_at hl 0 rfl) ?_
  refine M_gt12 C hP dX9_sprout_80 ?_
  refine lv_if_ne (tgt := 87) hx hb dX9_sprout_83 (by decide) (fun c14 => ?_) (fun c14 => ?_)
  · have h := ifF c14 h
    refine lv_aload_n hx hb dX9_sprout_87 rfl (lv_at hl 0 rfl) ?_
    refine lv_dup hx hb dX9_sprout_88 rfl ?_
    refine M_gt11 C hP dX9_sprout_89 ?_
    refine lv_iconst (v := (1 : Int32)) hx hb dX9_sprout_92 (by decide) ?_
    refine lv_iadd hx hb dX9_sprout_93 ?_
    obtain ⟨σ15, eσ15, h⟩ := letS_n h
    refine M_pt11 C hP hD hS eσ15 dX9_sprout_94 (fun H locs hP hD hS => ?_)
    refine lv_aload_n hx hb dX9_sprout_97 rfl (lv_at hl 0 rfl) ?_
    refine lv_iload hx hb dX9_sprout_98 (lv_at hl 6 rfl) ?_
    refine lv_if_lt (tgt := 107) hx hb dX9_sprout_100 (by decide) (fun c16 => ?_) (fun c16 => ?_)
    · have h := ifT c16 h
      refine lv_iload hx hb dX9_sprout_107 (lv_at hl 4 rfl) ?_
      refine lv_bipush (v := (33 : Int32)) hx hb dX9_sprout_109 (by decide) ?_
      refine lv_icmp_ne (tgt := 118) hx hb dX9_sprout_111 (by decide) (fun c17 => ?_) (fun c17 => ?_)
      · have h := ifF c17 h
        refine lv_iload hx hb dX9_sprout_118 (lv_at hl 4 rfl) ?_
        refine lv_bipush (v := (40 : Int32)) hx hb dX9_sprout_120 (by decide) ?_
        refine lv_icmp_ne (tgt := 129) hx hb dX9_sprout_122 (by decide) (fun c18 => ?_) (fun c18 => ?_)
        · have h := ifF c18 h
          refine lv_iload hx hb dX9_sprout_129 (lv_at hl 4 rfl) ?_
          refine lv_bipush (v := (71 : Int32)) hx hb dX9_sprout_131 (by decide) ?_
          refine lv_icmp_ne (tgt := 141) hx hb dX9_sprout_133 (by decide) (fun c19 => ?_) (fun c19 => ?_)
          · have h := ifF c19 h
            refine lv_iload hx hb dX9_sprout_141 (lv_at hl 4 rfl) ?_
            refine lv_bipush (v := (88 : Int32)) hx hb dX9_sprout_143 (by decide) ?_
            refine lv_icmp_ne (tgt := 153) hx hb dX9_sprout_145 (by decide) (fun c20 => ?_) (fun c20 => ?_)
            · have h := ifF c20 h
              refine lv_bipush (v := (8 : Int32)) hx hb dX9_sprout_153 (by decide) ?_
              exact tX9_sprout_155 C hA h hP hD hS (lv_sub hl [0, 1, 2, 3, 4, 5, 6] rfl)
            · have h := ifT c20 h
              refine lv_bipush (v := (7 : Int32)) hx hb dX9_sprout_148 (by decide) ?_
              refine lv_goto (tgt := 155) hx hb dX9_sprout_150 (by decide) ?_
              exact tX9_sprout_155 C hA h hP hD hS (lv_sub hl [0, 1, 2, 3, 4, 5, 6] rfl)
          · have h := ifT c19 h
            refine lv_bipush (v := (6 : Int32)) hx hb dX9_sprout_136 (by decide) ?_
            refine lv_goto (tgt := 155) hx hb dX9_sprout_138 (by decide) ?_
            exact tX9_sprout_155 C hA h hP hD hS (lv_sub hl [0, 1, 2, 3, 4, 5, 6] rfl)
        · have h := ifT c18 h
          refine lv_iconst (v := (3 : Int32)) hx hb dX9_sprout_125 (by decide) ?_
          refine lv_goto (tgt := 155) hx hb dX9_sprout_126 (by decide) ?_
          exact tX9_sprout_155 C hA h hP hD hS (lv_sub hl [0, 1, 2, 3, 4, 5, 6] rfl)
      · have h := ifT c17 h
        refine lv_iconst (v := (2 : Int32)) hx hb dX9_sprout_114 (by decide) ?_
        refine lv_goto (tgt := 155) hx hb dX9_sprout_115 (by decide) ?_
        exact tX9_sprout_155 C hA h hP hD hS (lv_sub hl [0, 1, 2, 3, 4, 5, 6] rfl)
    · have h := ifF c16 h
      refine lv_iconst (v := (1 : Int32)) hx hb dX9_sprout_103 (by decide) ?_
      refine lv_goto (tgt := 155) hx hb dX9_sprout_104 (by decide) ?_
      exact tX9_sprout_155 C hA h hP hD hS (lv_sub hl [0, 1, 2, 3, 4, 5, 6] rfl)
  · have h := ifT c14 h
    exact M_vret C h hP hD hS dX9_sprout_86
set_option maxHeartbeats 4000000 in
set_option maxRecDepth 100000 in
theorem tX9_sprout_71 {p : Program} {l : Launch} {e : Env} {s : State} {m : MethodId} {args : Array Value} {below : List Frame} {meth : Method} {c : Code} {D : va_G} {a : Nat → Nat} {cc : Nat → ClassId} {A : Nat → Prop} {N : Nat} {σr : St} (C : M_Cx RX9 p s m args meth c D cc cX9_sprout (Cond.code yX9_sprout cX9_sprout 9 none :: WM) 9 none) (hA : ∀ q, s.heap.size ≤ q → A q) {σ : St} {x1 : Int32} {x2 : Int32} {x3 : Int32} {x4 : Int32} {x5 : Int32} {x6 : Int32} {H : Heap} {locs : List Loc} {ls : Array Slot} (h : fX9_sprout_71 N σ x1 x2 x3 x4 x5 x6 = some σr) : va_P D vwCl (wM a cc σ) H → va_D A (wM a cc σ) → va_S A s.heap H locs → lv_has ls 9 [(0, .ref (a 0)), (1, .int x1), (2, .int x2), (3, .int x3), (4, .int x4), (5, .int x5), (6, .int x6)] → W p l e rmX9_sprout s m args below meth c H locs 0 0 (M_Mv D a cc A below args s σr) (F0 m 71 ls [.ref (a 0)]) := by
  obtain ⟨hx, hb, hr, hml, hown, hts, hin, hK, hlocks⟩ := id C
  intro hP hD hS hl
  refine lv_iconst (v := (1 : Int32)) hx hb dX9_sprout_71 (by decide) ?_
  refine lv_goto (tgt := 76) hx hb dX9_sprout_72 (by decide) ?_
  exact tX9_sprout_76 C hA h hP hD hS (lv_sub hl [0, 1, 2, 3, 4, 5, 6] rfl)
set_option maxHeartbeats 4000000 in
set_option maxRecDepth 100000 in
theorem tX9_sprout_75 {p : Program} {l : Launch} {e : Env} {s : State} {m : MethodId} {args : Array Value} {below : List Frame} {meth : Method} {c : Code} {D : va_G} {a : Nat → Nat} {cc : Nat → ClassId} {A : Nat → Prop} {N : Nat} {σr : St} (C : M_Cx RX9 p s m args meth c D cc cX9_sprout (Cond.code yX9_sprout cX9_sprout 9 none :: WM) 9 none) (hA : ∀ q, s.heap.size ≤ q → A q) {σ : St} {x1 : Int32} {x2 : Int32} {x3 : Int32} {x4 : Int32} {x5 : Int32} {x6 : Int32} {H : Heap} {locs : List Loc} {ls : Array Slot} (h : fX9_sprout_75 N σ x1 x2 x3 x4 x5 x6 = some σr) : va_P D vwCl (wM a cc σ) H → va_D A (wM a cc σ) → va_S A s.heap H locs → lv_has ls 9 [(0, .ref (a 0)), (1, .int x1), (2, .int x2), (3, .int x3), (4, .int x4), (5, .int x5), (6, .int x6)] → W p l e rmX9_sprout s m args below meth c H locs 0 0 (M_Mv D a cc A below args s σr) (F0 m 75 ls [.ref (a 0)]) := by
  obtain ⟨hx, hb, hr, hml, hown, hts, hin, hK, hlocks⟩ := id C
  intro hP hD hS hl
  refine lv_iconst (v := (0 : Int32)) hx hb dX9_sprout_75 (by decide) ?_
  exact tX9_sprout_76 C hA h hP hD hS (lv_sub hl [0, 1, 2, 3, 4, 5, 6] rfl)
set_option maxHeartbeats 4000000 in
set_option maxRecDepth 100000 in
theorem tX9_sprout_10 {p : Program} {l : Launch} {e : Env} {s : State} {m : MethodId} {args : Array Value} {below : List Frame} {meth : Method} {c : Code} {D : va_G} {a : Nat → Nat} {cc : Nat → ClassId} {A : Nat → Prop} {N : Nat} {σr : St} (C : M_Cx RX9 p s m args meth c D cc cX9_sprout (Cond.code yX9_sprout cX9_sprout 9 none :: WM) 9 none) (hA : ∀ q, s.heap.size ≤ q → A q) {σ : St} {x1 : Int32} {x2 : Int32} {x3 : Int32} {x4 : Int32} {y0 : Int32} {H : Heap} {locs : List Loc} {ls : Array Slot} (h : fX9_sprout_10 N σ x1 x2 x3 x4 y0 = some σr) : va_P D vwCl (wM a cc σ) H → va_D A (wM a cc σ) → va_S A s.heap H locs → lv_has ls 9 [(0, .ref (a 0)), (1, .int x1), (2, .int x2), (3, .int x3), (4, .int x4)] → W p l e rmX9_sprout s m args below meth c H locs 0 0 (M_Mv D a cc A below args s σr) (F0 m 10 ls [.int y0]) := by
  obtain ⟨hx, hb, hr, hml, hown, hts, hin, hK, hlocks⟩ := id C
  intro hP hD hS hl
  refine lv_istore (lv' := [(5, .int y0), (0, .ref (a 0)), (1, .int x1), (2, .int x2), (3, .int x3), (4, .int x4)]) hx hb dX9_sprout_10 hl (by decide) rfl (fun ls hl => ?_)
  refine lv_iload hx hb dX9_sprout_12 (lv_at hl 5 rfl) ?_
  obtain ⟨r3, σ2, hc, h⟩ := bnd_s h
  refine M_callSi (As := [.int x4]) (rest := []) C hA (fun sz => kX9_literal l sz hc) gX9_literal hP hD hS ⟨by decide, by decide⟩ ⟨rfl, rfl⟩ rfl hl.1 rfl (lv_room (Nat.le_of_ble_eq_true rfl)) dX9_sprout_14 (fun H locs hP hD hS => ?_)
  refine lv_istore (lv' := [(6, .int r3), (5, .int y0), (0, .ref (a 0)), (1, .int x1), (2, .int x2), (3, .int x3), (4, .int x4)]) hx hb dX9_sprout_17 hl (by decide) rfl (fun ls hl => ?_)
  refine lv_aload_n hx hb dX9_sprout_19 rfl (lv_at hl 2 rfl) ?_
  refine lv_iload_n hx hb dX9_sprout_20 rfl (lv_at hl 5 rfl) ?_
  refine lv_bipush (v := (12 : Int32)) hx hb dX9_sprout_21 (by decide) ?_
  refine lv_icmp_gt (tgt := 75) hx hb dX9_sprout_23 (by decide) (fun c4 => ?_) (fun c4 => ?_)
  · have h := ifT c4 h
    exact tX9_sprout_75 C hA h hP hD hS (lv_sub hl [2, 3, 4, 5, 6, 1, 0] rfl)
  · have h := ifF c4 h
    refine lv_iload hx hb dX9_sprout_26 (lv_at hl 0 rfl) ?_
    refine lv_if_ge (tgt := 71) hx hb dX9_sprout_28 (by decide) (fun c5 => ?_) (fun c5 => ?_)
    · have h := ifT c5 h
      exact tX9_sprout_71 C hA h hP hD hS (lv_sub hl [2, 3, 4, 5, 6, 1, 0] rfl)
    · have h := ifF c5 h
      refine lv_iload hx hb dX9_sprout_31 (lv_at hl 6 rfl) ?_
      refine lv_bipush (v := (33 : Int32)) hx hb dX9_sprout_33 (by decide) ?_
      refine lv_icmp_eq (tgt := 71) hx hb dX9_sprout_35 (by decide) (fun c6 => ?_) (fun c6 => ?_)
      · have h := ifT c6 h
        exact tX9_sprout_71 C hA h hP hD hS (lv_sub hl [2, 3, 4, 5, 6, 1, 0] rfl)
      · have h := ifF c6 h
        refine lv_iload hx hb dX9_sprout_38 (lv_at hl 6 rfl) ?_
        refine lv_bipush (v := (40 : Int32)) hx hb dX9_sprout_40 (by decide) ?_
        refine lv_icmp_eq (tgt := 71) hx hb dX9_sprout_42 (by decide) (fun c7 => ?_) (fun c7 => ?_)
        · have h := ifT c7 h
          exact tX9_sprout_71 C hA h hP hD hS (lv_sub hl [2, 3, 4, 5, 6, 1, 0] rfl)
        · have h := ifF c7 h
          refine lv_iload hx hb dX9_sprout_45 (lv_at hl 1 rfl) ?_
          refine lv_if_eq (tgt := 75) hx hb dX9_sprout_47 (by decide) (fun c8 => ?_) (fun c8 => ?_)
          · have h := ifT c8 h
            exact tX9_sprout_75 C hA h hP hD hS (lv_sub hl [2, 3, 4, 5, 6, 1, 0] rfl)
          · have h := ifF c8 h
            refine lv_iload hx hb dX9_sprout_50 (lv_at hl 6 rfl) ?_
            refine lv_bipush (v := (71 : Int32)) hx hb dX9_sprout_52 (by decide) ?_
            refine lv_icmp_eq (tgt := 71) hx hb dX9_sprout_54 (by decide) (fun c9 => ?_) (fun c9 => ?_)
            · have h := ifT c9 h
              exact tX9_sprout_71 C hA h hP hD hS (lv_sub hl [2, 3, 4, 5, 6, 1, 0] rfl)
            · have h := ifF c9 h
              refine lv_iload hx hb dX9_sprout_57 (lv_at hl 6 rfl) ?_
              refine lv_bipush (v := (88 : Int32)) hx hb dX9_sprout_59 (by decide) ?_
              refine lv_icmp_eq (tgt := 71) hx hb dX9_sprout_61 (by decide) (fun c10 => ?_) (fun c10 => ?_)
              · have h := ifT c10 h
                exact tX9_sprout_71 C hA h hP hD hS (lv_sub hl [2, 3, 4, 5, 6, 1, 0] rfl)
              · have h := ifF c10 h
                refine lv_iload hx hb dX9_sprout_64 (lv_at hl 6 rfl) ?_
                refine lv_bipush (v := (123 : Int32)) hx hb dX9_sprout_66 (by decide) ?_
                refine lv_icmp_ne (tgt := 75) hx hb dX9_sprout_68 (by decide) (fun c11 => ?_) (fun c11 => ?_)
                · have h := ifF c11 h
                  exact tX9_sprout_75 C hA h hP hD hS (lv_sub hl [2, 3, 4, 5, 6, 1, 0] rfl)
                · have h := ifT c11 h
                  exact tX9_sprout_71 C hA h hP hD hS (lv_sub hl [2, 3, 4, 5, 6, 1, 0] rfl)
set_option maxHeartbeats 4000000 in
set_option maxRecDepth 100000 in
theorem tX9_sprout {p : Program} {l : Launch} {e : Env} {s : State} {m : MethodId} {args : Array Value} {below : List Frame} {meth : Method} {c : Code} {D : va_G} {a : Nat → Nat} {cc : Nat → ClassId} {A : Nat → Prop} {N : Nat} {σr : St} (C : M_Cx RX9 p s m args meth c D cc cX9_sprout (Cond.code yX9_sprout cX9_sprout 9 none :: WM) 9 none) (hA : ∀ q, s.heap.size ≤ q → A q) {σ : St} {p0 : Int32} {p1 : Int32} {p2 : Int32} {p3 : Int32} {H : Heap} {locs : List Loc} {ls : Array Slot} (h : fX9_sprout N σ p0 p1 p2 p3 = some σr) : va_P D vwCl (wM a cc σ) H → va_D A (wM a cc σ) → va_S A s.heap H locs → lv_has ls 9 [(0, .ref (a 0)), (1, .int p0), (2, .int p1), (3, .int p2), (4, .int p3)] → W p l e rmX9_sprout s m args below meth c H locs 0 0 (M_Mv D a cc A below args s σr) (F0 m 0 ls []) := by
  obtain ⟨hx, hb, hr, hml, hown, hts, hin, hK, hlocks⟩ := id C
  intro hP hD hS hl
  refine lv_iload_n hx hb dX9_sprout_0 rfl (lv_at hl 1 rfl) ?_
  refine lv_iconst (v := (1 : Int32)) hx hb dX9_sprout_1 (by decide) ?_
  refine lv_icmp_ne (tgt := 9) hx hb dX9_sprout_2 (by decide) (fun c1 => ?_) (fun c1 => ?_)
  · have h := ifF c1 h
    refine lv_iconst (v := (0 : Int32)) hx hb dX9_sprout_9 (by decide) ?_
    exact tX9_sprout_10 C hA h hP hD hS (lv_sub hl [0, 1, 2, 3, 4] rfl)
  · have h := ifT c1 h
    refine lv_iconst (v := (1 : Int32)) hx hb dX9_sprout_5 (by decide) ?_
    refine lv_goto (tgt := 10) hx hb dX9_sprout_6 (by decide) ?_
    exact tX9_sprout_10 C hA h hP hD hS (lv_sub hl [0, 1, 2, 3, 4] rfl)
set_option maxRecDepth 100000 in
theorem kX9_sprout (l : Launch) (sz : Nat) {D : va_G} {a : Nat → Nat} {cc : Nat → ClassId} {N : Nat} {σr : St} {σ : St} {p0 : Int32} {p1 : Int32} {p2 : Int32} {p3 : Int32} (h : fX9_sprout N σ p0 p1 p2 p3 = some σr) : Met l yX9_sprout ((Cond.code yX9_sprout cX9_sprout 9 none :: WM)) rmX9_sprout (M_Pc D a cc [.ref (a 0), .int p0, .int p1, .int p2, .int p3] σ sz) (M_Qv D a cc σ sz σr) 0 0 (va_A (wM a cc σ) sz) := by
  refine Met.ofW (cc := cX9_sprout) (maxL := 9) (ret := none) (by decide) rfl ?_
  intro p e s m args below meth c s₁ B hml hv
  obtain ⟨rfl, hsz, hP, hK, hD0⟩ := hv
  subst hsz
  have hl := lv_entry ([.ref (a 0), .int p0, .int p1, .int p2, .int p3]) (n := 9) (Nat.le_of_ble_eq_true rfl)
  rw [lg_entry_eq]
  generalize (lg_sl ([.ref (a 0), .int p0, .int p1, .int p2, .int p3]) ++ List.replicate (9 - (lg_sl ([.ref (a 0), .int p0, .int p1, .int p2, .int p3])).length) Slot.unset).toArray = ls at hl ⊢
  exact tX9_sprout ⟨B.exec, B.bytes, B.returns, hml, findClass_of_methodNamed B.named, atoms_spec (ws := (Cond.code yX9_sprout cX9_sprout 9 none :: WM)) B.pre, (fun w h => List.mem_cons_of_mem _ (inWM w h)), hK, B.notSynchronized⟩ (fun q h => Or.inr h) h hP hD0.self va_S.rf hl
set_option maxHeartbeats 4000000 in
set_option maxRecDepth 100000 in
theorem tX9_sequences_65 {p : Program} {l : Launch} {e : Env} {s : State} {m : MethodId} {args : Array Value} {below : List Frame} {meth : Method} {c : Code} {D : va_G} {a : Nat → Nat} {cc : Nat → ClassId} {A : Nat → Prop} {N : Nat} {σr : St} (C : M_Cx RX9 p s m args meth c D cc cX9_sequences (Cond.code yX9_sequences cX9_sequences 5 none :: WM) 5 none) (hA : ∀ q, s.heap.size ≤ q → A q) {σ : St} {x1 : Int32} {x2 : Int32} {x3 : Int32} {H : Heap} {locs : List Loc} {ls : Array Slot} (h : fX9_sequences_65 N σ x1 x2 x3 = some σr) : va_P D vwCl (wM a cc σ) H → va_D A (wM a cc σ) → va_S A s.heap H locs → lv_has ls 5 [(0, .ref (a 0)), (1, .int x1), (2, .int x2), (3, .int x3)] → W p l e rmX9_sequences s m args below meth c H locs 0 0 (M_Mv D a cc A below args s σr) (F0 m 65 ls []) := by
  obtain ⟨hx, hb, hr, hml, hown, hts, hin, hK, hlocks⟩ := id C
  intro hP hD hS hl
  refine lv_aload_n hx hb dX9_sequences_65 rfl (lv_at hl 0 rfl) ?_
  refine lv_bipush (v := (10 : Int32)) hx hb dX9_sequences_66 (by decide) ?_
  refine lv_iload_n hx hb dX9_sequences_68 rfl (lv_at hl 1 rfl) ?_
  refine lv_iload_n hx hb dX9_sequences_69 rfl (lv_at hl 2 rfl) ?_
  obtain ⟨σ15, hc, h⟩ := bnd1_s h
  refine M_callVv (As := [.int (10 : Int32), .int x1, .int x2]) (rest := []) C hA (fun sz => kX9_expect l sz hc) gX9_expect hP hD hS ⟨by decide, by decide⟩ ⟨rfl, rfl⟩ rfl hl.1 rfl (lv_room (Nat.le_of_ble_eq_true rfl)) dX9_sequences_70 (fun H locs hP hD hS => ?_)
  refine lv_aload_n hx hb dX9_sequences_73 rfl (lv_at hl 0 rfl) ?_
  refine lv_bipush (v := (7 : Int32)) hx hb dX9_sequences_74 (by decide) ?_
  refine lv_iload_n hx hb dX9_sequences_76 rfl (lv_at hl 3 rfl) ?_
  refine lv_iload_n hx hb dX9_sequences_77 rfl (lv_at hl 2 rfl) ?_
  refine lv_iconst (v := (1 : Int32)) hx hb dX9_sequences_78 (by decide) ?_
  refine lv_iadd hx hb dX9_sequences_79 ?_
  obtain ⟨σ16, hc, h⟩ := bnd1_s h
  refine M_callVv (As := [.int (7 : Int32), .int x3, .int (x2 + (1 : Int32))]) (rest := []) C hA (fun sz => kX9_expect l sz hc) gX9_expect hP hD hS ⟨by decide, by decide⟩ ⟨rfl, rfl⟩ rfl hl.1 rfl (lv_room (Nat.le_of_ble_eq_true rfl)) dX9_sequences_80 (fun H locs hP hD hS => ?_)
  exact M_vret C h hP hD hS dX9_sequences_83
set_option maxHeartbeats 4000000 in
set_option maxRecDepth 100000 in
theorem tX9_sequences_42 {p : Program} {l : Launch} {e : Env} {s : State} {m : MethodId} {args : Array Value} {below : List Frame} {meth : Method} {c : Code} {D : va_G} {a : Nat → Nat} {cc : Nat → ClassId} {A : Nat → Prop} {N : Nat} {σr : St} (C : M_Cx RX9 p s m args meth c D cc cX9_sequences (Cond.code yX9_sequences cX9_sequences 5 none :: WM) 5 none) (hA : ∀ q, s.heap.size ≤ q → A q) {σ : St} {x1 : Int32} {x2 : Int32} {x3 : Int32} {x4 : Int32} {H : Heap} {locs : List Loc} {ls : Array Slot} (h : fX9_sequences_42 N σ x1 x2 x3 x4 = some σr) : va_P D vwCl (wM a cc σ) H → va_D A (wM a cc σ) → va_S A s.heap H locs → lv_has ls 5 [(0, .ref (a 0)), (1, .int x1), (2, .int x2), (3, .int x3), (4, .int x4)] → W p l e rmX9_sequences s m args below meth c H locs 0 0 (M_Mv D a cc A below args s σr) (F0 m 42 ls []) := by
  obtain ⟨hx, hb, hr, hml, hown, hts, hin, hK, hlocks⟩ := id C
  intro hP hD hS hl
  refine lv_iload hx hb dX9_sequences_42 (lv_at hl 4 rfl) ?_
  refine lv_if_ge (tgt := 57) hx hb dX9_sequences_44 (by decide) (fun c10 => ?_) (fun c10 => ?_)
  · have h := ifT c10 h
    refine lv_aload_n hx hb dX9_sequences_57 rfl (lv_at hl 0 rfl) ?_
    refine M_gt8 C hP dX9_sequences_58 ?_
    refine lv_iload hx hb dX9_sequences_61 (lv_at hl 4 rfl) ?_
    refine lv_iload_n hx hb dX9_sequences_63 rfl (lv_at hl 3 rfl) ?_
    obtain ⟨g11, h⟩ := grd_s h
    obtain ⟨σ12, eσ12, h⟩ := letS_n h
    refine M_st8 C hP hD hS g11 eσ12 dX9_sequences_64 (fun H locs hP hD hS => ?_)
    exact tX9_sequences_65 C hA h hP hD hS (lv_sub hl [0, 1, 2, 3] rfl)
  · have h := ifF c10 h
    refine lv_aload_n hx hb dX9_sequences_47 rfl (lv_at hl 0 rfl) ?_
    refine M_gt6 C hP dX9_sequences_48 ?_
    refine lv_iload_n hx hb dX9_sequences_51 rfl (lv_at hl 1 rfl) ?_
    refine lv_iload_n hx hb dX9_sequences_52 rfl (lv_at hl 3 rfl) ?_
    obtain ⟨g13, h⟩ := grd_s h
    obtain ⟨σ14, eσ14, h⟩ := letS_n h
    refine M_st6 C hP hD hS g13 eσ14 dX9_sequences_53 (fun H locs hP hD hS => ?_)
    refine lv_goto (tgt := 65) hx hb dX9_sequences_54 (by decide) ?_
    exact tX9_sequences_65 C hA h hP hD hS (lv_sub hl [0, 1, 2, 3] rfl)
set_option maxHeartbeats 4000000 in
set_option maxRecDepth 100000 in
theorem tX9_sequences_15 {p : Program} {l : Launch} {e : Env} {s : State} {m : MethodId} {args : Array Value} {below : List Frame} {meth : Method} {c : Code} {D : va_G} {a : Nat → Nat} {cc : Nat → ClassId} {A : Nat → Prop} {N : Nat} {σr : St} (C : M_Cx RX9 p s m args meth c D cc cX9_sequences (Cond.code yX9_sequences cX9_sequences 5 none :: WM) 5 none) (hA : ∀ q, s.heap.size ≤ q → A q) : ∀ (n : Nat) {σ : St} {x1 : Int32} {x2 : Int32} {x3 : Int32} {x4 : Int32} {H : Heap} {locs : List Loc} {ls : Array Slot}, fX9_sequences_15 N n σ x1 x2 x3 x4 = some σr → va_P D vwCl (wM a cc σ) H → va_D A (wM a cc σ) → va_S A s.heap H locs → lv_has ls 5 [(0, .ref (a 0)), (1, .int x1), (2, .int x2), (3, .int x3), (4, .int x4)] → W p l e rmX9_sequences s m args below meth c H locs 0 0 (M_Mv D a cc A below args s σr) (F0 m 15 ls []) := by
  obtain ⟨hx, hb, hr, hml, hown, hts, hin, hK, hlocks⟩ := id C
  intro n
  induction n with
  | zero => intro σ x1 x2 x3 x4 H locs ls h; exact none_s h
  | succ n ih =>
    intro σ x1 x2 x3 x4 H locs ls h hP hD hS hl
    refine lv_iload hx hb dX9_sequences_15 (lv_at hl 4 rfl) ?_
    refine lv_if_lt (tgt := 42) hx hb dX9_sequences_17 (by decide) (fun c5 => ?_) (fun c5 => ?_)
    · have h := ifT c5 h
      exact tX9_sequences_42 C hA h hP hD hS (lv_sub hl [0, 1, 2, 3, 4] rfl)
    · have h := ifF c5 h
      refine lv_aload_n hx hb dX9_sequences_20 rfl (lv_at hl 0 rfl) ?_
      refine M_gt8 C hP dX9_sequences_21 ?_
      refine lv_iload hx hb dX9_sequences_24 (lv_at hl 4 rfl) ?_
      obtain ⟨g6, h⟩ := grd_s h
      refine M_ld8 C hP g6 dX9_sequences_26 ?_
      refine lv_if_lt (tgt := 42) hx hb dX9_sequences_27 (by decide) (fun c7 => ?_) (fun c7 => ?_)
      · have h := ifT c7 h
        exact tX9_sequences_42 C hA h hP hD hS (lv_sub hl [0, 1, 2, 3, 4] rfl)
      · have h := ifF c7 h
        refine lv_aload_n hx hb dX9_sequences_30 rfl (lv_at hl 0 rfl) ?_
        refine M_gt8 C hP dX9_sequences_31 ?_
        refine lv_iload hx hb dX9_sequences_34 (lv_at hl 4 rfl) ?_
        obtain ⟨g8, h⟩ := grd_s h
        refine M_ld8 C hP g8 dX9_sequences_36 ?_
        obtain ⟨u9, eu9, h⟩ := letS_n h
        refine lv_topE eu9 ?_
        refine lv_istore (lv' := [(4, .int u9), (0, .ref (a 0)), (1, .int x1), (2, .int x2), (3, .int x3)]) hx hb dX9_sequences_37 hl (by decide) rfl (fun ls hl => ?_)
        refine lv_goto (tgt := 15) hx hb dX9_sequences_39 (by decide) ?_
        exact ih h hP hD hS (lv_sub hl [1, 2, 3, 4, 0] rfl)
set_option maxHeartbeats 4000000 in
set_option maxRecDepth 100000 in
theorem tX9_sequences {p : Program} {l : Launch} {e : Env} {s : State} {m : MethodId} {args : Array Value} {below : List Frame} {meth : Method} {c : Code} {D : va_G} {a : Nat → Nat} {cc : Nat → ClassId} {A : Nat → Prop} {N : Nat} {σr : St} (C : M_Cx RX9 p s m args meth c D cc cX9_sequences (Cond.code yX9_sequences cX9_sequences 5 none :: WM) 5 none) (hA : ∀ q, s.heap.size ≤ q → A q) {σ : St} {p0 : Int32} {p1 : Int32} {H : Heap} {locs : List Loc} {ls : Array Slot} (h : fX9_sequences N σ p0 p1 = some σr) : va_P D vwCl (wM a cc σ) H → va_D A (wM a cc σ) → va_S A s.heap H locs → lv_has ls 5 [(0, .ref (a 0)), (1, .int p0), (2, .int p1)] → W p l e rmX9_sequences s m args below meth c H locs 0 0 (M_Mv D a cc A below args s σr) (F0 m 0 ls []) := by
  obtain ⟨hx, hb, hr, hml, hown, hts, hin, hK, hlocks⟩ := id C
  intro hP hD hS hl
  refine lv_aload_n hx hb dX9_sequences_0 rfl (lv_at hl 0 rfl) ?_
  refine lv_bipush (v := (10 : Int32)) hx hb dX9_sequences_1 (by decide) ?_
  obtain ⟨r2, σ1, hc, h⟩ := bnd_s h
  refine M_callVi (As := [.int (10 : Int32)]) (rest := []) C hA (fun sz => kX9_node l sz hc) gX9_node hP hD hS ⟨by decide, by decide⟩ ⟨rfl, rfl⟩ rfl hl.1 rfl (lv_room (Nat.le_of_ble_eq_true rfl)) dX9_sequences_3 (fun H locs hP hD hS => ?_)
  refine lv_istore_n (lv' := [(3, .int r2), (0, .ref (a 0)), (1, .int p0), (2, .int p1)]) hx hb dX9_sequences_6 rfl hl (by decide) rfl (fun ls hl => ?_)
  refine lv_aload_n hx hb dX9_sequences_7 rfl (lv_at hl 1 rfl) ?_
  refine M_gt6 C hP dX9_sequences_8 ?_
  refine lv_iload_n hx hb dX9_sequences_11 rfl (lv_at hl 2 rfl) ?_
  obtain ⟨g3, h⟩ := grd_s h
  refine M_ld6 C hP g3 dX9_sequences_12 ?_
  obtain ⟨u4, eu4, h⟩ := letS_n h
  refine lv_topE eu4 ?_
  refine lv_istore (lv' := [(4, .int u4), (3, .int r2), (0, .ref (a 0)), (1, .int p0), (2, .int p1)]) hx hb dX9_sequences_13 hl (by decide) rfl (fun ls hl => ?_)
  exact tX9_sequences_15 C hA N h hP hD hS (lv_sub hl [2, 3, 4, 1, 0] rfl)
set_option maxRecDepth 100000 in
theorem kX9_sequences (l : Launch) (sz : Nat) {D : va_G} {a : Nat → Nat} {cc : Nat → ClassId} {N : Nat} {σr : St} {σ : St} {p0 : Int32} {p1 : Int32} (h : fX9_sequences N σ p0 p1 = some σr) : Met l yX9_sequences ((Cond.code yX9_sequences cX9_sequences 5 none :: WM)) rmX9_sequences (M_Pc D a cc [.ref (a 0), .int p0, .int p1] σ sz) (M_Qv D a cc σ sz σr) 0 0 (va_A (wM a cc σ) sz) := by
  refine Met.ofW (cc := cX9_sequences) (maxL := 5) (ret := none) (by decide) rfl ?_
  intro p e s m args below meth c s₁ B hml hv
  obtain ⟨rfl, hsz, hP, hK, hD0⟩ := hv
  subst hsz
  have hl := lv_entry ([.ref (a 0), .int p0, .int p1]) (n := 5) (Nat.le_of_ble_eq_true rfl)
  rw [lg_entry_eq]
  generalize (lg_sl ([.ref (a 0), .int p0, .int p1]) ++ List.replicate (5 - (lg_sl ([.ref (a 0), .int p0, .int p1])).length) Slot.unset).toArray = ls at hl ⊢
  exact tX9_sequences ⟨B.exec, B.bytes, B.returns, hml, findClass_of_methodNamed B.named, atoms_spec (ws := (Cond.code yX9_sequences cX9_sequences 5 none :: WM)) B.pre, (fun w h => List.mem_cons_of_mem _ (inWM w h)), hK, B.notSynchronized⟩ (fun q h => Or.inr h) h hP hD0.self va_S.rf hl
set_option maxHeartbeats 4000000 in
set_option maxRecDepth 100000 in
theorem tX9_piece_91 {p : Program} {l : Launch} {e : Env} {s : State} {m : MethodId} {args : Array Value} {below : List Frame} {meth : Method} {c : Code} {D : va_G} {a : Nat → Nat} {cc : Nat → ClassId} {A : Nat → Prop} {N : Nat} {σr : St} (C : M_Cx RX9 p s m args meth c D cc cX9_piece (Cond.code yX9_piece cX9_piece 7 none :: WM) 7 none) (hA : ∀ q, s.heap.size ≤ q → A q) {σ : St} {x1 : Int32} {x2 : Int32} {x3 : Int32} {x4 : Int32} {H : Heap} {locs : List Loc} {ls : Array Slot} (h : fX9_piece_91 N σ x1 x2 x3 x4 = some σr) : va_P D vwCl (wM a cc σ) H → va_D A (wM a cc σ) → va_S A s.heap H locs → lv_has ls 7 [(0, .ref (a 0)), (1, .int x1), (2, .int x2), (3, .int x3), (4, .int x4)] → W p l e rmX9_piece s m args below meth c H locs 0 0 (M_Mv D a cc A below args s σr) (F0 m 91 ls []) := by
  obtain ⟨hx, hb, hr, hml, hown, hts, hin, hK, hlocks⟩ := id C
  intro hP hD hS hl
  refine lv_aload_n hx hb dX9_piece_91 rfl (lv_at hl 0 rfl) ?_
  refine lv_bipush (v := (9 : Int32)) hx hb dX9_piece_92 (by decide) ?_
  refine lv_iload_n hx hb dX9_piece_94 rfl (lv_at hl 1 rfl) ?_
  refine lv_iload_n hx hb dX9_piece_95 rfl (lv_at hl 2 rfl) ?_
  obtain ⟨σ19, hc, h⟩ := bnd1_s h
  refine M_callVv (As := [.int (9 : Int32), .int x1, .int x2]) (rest := []) C hA (fun sz => kX9_expect l sz hc) gX9_expect hP hD hS ⟨by decide, by decide⟩ ⟨rfl, rfl⟩ rfl hl.1 rfl (lv_room (Nat.le_of_ble_eq_true rfl)) dX9_piece_96 (fun H locs hP hD hS => ?_)
  refine lv_aload_n hx hb dX9_piece_99 rfl (lv_at hl 0 rfl) ?_
  refine lv_bipush (v := (8 : Int32)) hx hb dX9_piece_100 (by decide) ?_
  refine lv_iload hx hb dX9_piece_102 (lv_at hl 4 rfl) ?_
  refine lv_iconst (v := (0 : Int32)) hx hb dX9_piece_104 (by decide) ?_
  obtain ⟨σ20, hc, h⟩ := bnd1_s h
  refine M_callVv (As := [.int (8 : Int32), .int x4, .int (0 : Int32)]) (rest := []) C hA (fun sz => kX9_expect l sz hc) gX9_expect hP hD hS ⟨by decide, by decide⟩ ⟨rfl, rfl⟩ rfl hl.1 rfl (lv_room (Nat.le_of_ble_eq_true rfl)) dX9_piece_105 (fun H locs hP hD hS => ?_)
  refine lv_iload_n hx hb dX9_piece_108 rfl (lv_at hl 3 rfl) ?_
  refine lv_bipush (v := (91 : Int32)) hx hb dX9_piece_109 (by decide) ?_
  refine lv_icmp_eq (tgt := 125) hx hb dX9_piece_111 (by decide) (fun c21 => ?_) (fun c21 => ?_)
  · have h := ifT c21 h
    refine lv_aload_n hx hb dX9_piece_125 rfl (lv_at hl 0 rfl) ?_
    refine lv_dup hx hb dX9_piece_126 rfl ?_
    refine M_gt11 C hP dX9_piece_127 ?_
    refine lv_iconst (v := (1 : Int32)) hx hb dX9_piece_130 (by decide) ?_
    refine lv_iadd hx hb dX9_piece_131 ?_
    obtain ⟨σ22, eσ22, h⟩ := letS_n h
    refine M_pt11 C hP hD hS eσ22 dX9_piece_132 (fun H locs hP hD hS => ?_)
    refine lv_aload_n hx hb dX9_piece_135 rfl (lv_at hl 0 rfl) ?_
    refine lv_bipush (v := (12 : Int32)) hx hb dX9_piece_136 (by decide) ?_
    obtain ⟨r24, σ23, hc, h⟩ := bnd_s h
    refine M_callVi (As := [.int (12 : Int32)]) (rest := []) C hA (fun sz => kX9_node l sz hc) gX9_node hP hD hS ⟨by decide, by decide⟩ ⟨rfl, rfl⟩ rfl hl.1 rfl (lv_room (Nat.le_of_ble_eq_true rfl)) dX9_piece_138 (fun H locs hP hD hS => ?_)
    refine lv_istore (lv' := [(6, .int r24), (0, .ref (a 0)), (1, .int x1), (2, .int x2), (3, .int x3), (4, .int x4)]) hx hb dX9_piece_141 hl (by decide) rfl (fun ls hl => ?_)
    refine lv_aload_n hx hb dX9_piece_143 rfl (lv_at hl 1 rfl) ?_
    refine lv_iload hx hb dX9_piece_144 (lv_at hl 5 rfl) ?_
    refine lv_iload hx hb dX9_piece_146 (lv_at hl 0 rfl) ?_
    obtain ⟨σ25, hc, h⟩ := bnd1_s h
    refine M_callVv (As := [.int x4, .int r24]) (rest := []) C hA (fun sz => kX9_hang l sz hc) gX9_hang hP hD hS ⟨by decide, by decide⟩ ⟨rfl, rfl⟩ rfl hl.1 rfl (lv_room (Nat.le_of_ble_eq_true rfl)) dX9_piece_148 (fun H locs hP hD hS => ?_)
    refine lv_aload_n hx hb dX9_piece_151 rfl (lv_at hl 1 rfl) ?_
    refine lv_iload hx hb dX9_piece_152 (lv_at hl 0 rfl) ?_
    refine lv_iload_n hx hb dX9_piece_154 rfl (lv_at hl 3 rfl) ?_
    obtain ⟨σ26, hc, h⟩ := bnd1_s h
    refine M_callVv (As := [.int r24, .int x2]) (rest := []) C hA (fun sz => kX9_sequences l sz hc) gX9_sequences hP hD hS ⟨by decide, by decide⟩ ⟨rfl, rfl⟩ rfl hl.1 rfl (lv_room (Nat.le_of_ble_eq_true rfl)) dX9_piece_155 (fun H locs hP hD hS => ?_)
    exact M_vret C h hP hD hS dX9_piece_158
  · have h := ifF c21 h
    refine lv_aload_n hx hb dX9_piece_114 rfl (lv_at hl 0 rfl) ?_
    refine lv_iconst (v := (2 : Int32)) hx hb dX9_piece_115 (by decide) ?_
    refine lv_iload hx hb dX9_piece_116 (lv_at hl 4 rfl) ?_
    refine lv_iload_n hx hb dX9_piece_118 rfl (lv_at hl 2 rfl) ?_
    refine lv_iconst (v := (1 : Int32)) hx hb dX9_piece_119 (by decide) ?_
    refine lv_iadd hx hb dX9_piece_120 ?_
    obtain ⟨σ27, hc, h⟩ := bnd1_s h
    refine M_callVv (As := [.int (2 : Int32), .int x4, .int (x2 + (1 : Int32))]) (rest := []) C hA (fun sz => kX9_expect l sz hc) gX9_expect hP hD hS ⟨by decide, by decide⟩ ⟨rfl, rfl⟩ rfl hl.1 rfl (lv_room (Nat.le_of_ble_eq_true rfl)) dX9_piece_121 (fun H locs hP hD hS => ?_)
    exact M_vret C h hP hD hS dX9_piece_124
set_option maxHeartbeats 4000000 in
set_option maxRecDepth 100000 in
theorem tX9_piece_66 {p : Program} {l : Launch} {e : Env} {s : State} {m : MethodId} {args : Array Value} {below : List Frame} {meth : Method} {c : Code} {D : va_G} {a : Nat → Nat} {cc : Nat → ClassId} {A : Nat → Prop} {N : Nat} {σr : St} (C : M_Cx RX9 p s m args meth c D cc cX9_piece (Cond.code yX9_piece cX9_piece 7 none :: WM) 7 none) (hA : ∀ q, s.heap.size ≤ q → A q) {σ : St} {x1 : Int32} {x2 : Int32} {x3 : Int32} {x4 : Int32} {x5 : Int32} {H : Heap} {locs : List Loc} {ls : Array Slot} (h : fX9_piece_66 N σ x1 x2 x3 x4 x5 = some σr) : va_P D vwCl (wM a cc σ) H → va_D A (wM a cc σ) → va_S A s.heap H locs → lv_has ls 7 [(0, .ref (a 0)), (1, .int x1), (2, .int x2), (3, .int x3), (4, .int x4), (5, .int x5)] → W p l e rmX9_piece s m args below meth c H locs 0 0 (M_Mv D a cc A below args s σr) (F0 m 66 ls []) := by
  obtain ⟨hx, hb, hr, hml, hown, hts, hin, hK, hlocks⟩ := id C
  intro hP hD hS hl
  refine lv_iload hx hb dX9_piece_66 (lv_at hl 5 rfl) ?_
  refine lv_if_ge (tgt := 82) hx hb dX9_piece_68 (by decide) (fun c14 => ?_) (fun c14 => ?_)
  · have h := ifT c14 h
    refine lv_aload_n hx hb dX9_piece_82 rfl (lv_at hl 0 rfl) ?_
    refine M_gt8 C hP dX9_piece_83 ?_
    refine lv_iload hx hb dX9_piece_86 (lv_at hl 5 rfl) ?_
    refine lv_iload hx hb dX9_piece_88 (lv_at hl 4 rfl) ?_
    obtain ⟨g15, h⟩ := grd_s h
    obtain ⟨σ16, eσ16, h⟩ := letS_n h
    refine M_st8 C hP hD hS g15 eσ16 dX9_piece_90 (fun H locs hP hD hS => ?_)
    exact tX9_piece_91 C hA h hP hD hS (lv_sub hl [0, 1, 2, 3, 4] rfl)
  · have h := ifF c14 h
    refine lv_aload_n hx hb dX9_piece_71 rfl (lv_at hl 0 rfl) ?_
    refine M_gt6 C hP dX9_piece_72 ?_
    refine lv_iload_n hx hb dX9_piece_75 rfl (lv_at hl 1 rfl) ?_
    refine lv_iload hx hb dX9_piece_76 (lv_at hl 4 rfl) ?_
    obtain ⟨g17, h⟩ := grd_s h
    obtain ⟨σ18, eσ18, h⟩ := letS_n h
    refine M_st6 C hP hD hS g17 eσ18 dX9_piece_78 (fun H locs hP hD hS => ?_)
    refine lv_goto (tgt := 91) hx hb dX9_piece_79 (by decide) ?_
    exact tX9_piece_91 C hA h hP hD hS (lv_sub hl [0, 1, 2, 3, 4] rfl)
set_option maxHeartbeats 4000000 in
set_option maxRecDepth 100000 in
theorem tX9_piece_39 {p : Program} {l : Launch} {e : Env} {s : State} {m : MethodId} {args : Array Value} {below : List Frame} {meth : Method} {c : Code} {D : va_G} {a : Nat → Nat} {cc : Nat → ClassId} {A : Nat → Prop} {N : Nat} {σr : St} (C : M_Cx RX9 p s m args meth c D cc cX9_piece (Cond.code yX9_piece cX9_piece 7 none :: WM) 7 none) (hA : ∀ q, s.heap.size ≤ q → A q) : ∀ (n : Nat) {σ : St} {x1 : Int32} {x2 : Int32} {x3 : Int32} {x4 : Int32} {x5 : Int32} {H : Heap} {locs : List Loc} {ls : Array Slot}, fX9_piece_39 N n σ x1 x2 x3 x4 x5 = some σr → va_P D vwCl (wM a cc σ) H → va_D A (wM a cc σ) → va_S A s.heap H locs → lv_has ls 7 [(0, .ref (a 0)), (1, .int x1), (2, .int x2), (3, .int x3), (4, .int x4), (5, .int x5)] → W p l e rmX9_piece s m args below meth c H locs 0 0 (M_Mv D a cc A below args s σr) (F0 m 39 ls []) := by
  obtain ⟨hx, hb, hr, hml, hown, hts, hin, hK, hlocks⟩ := id C
  intro n
  induction n with
  | zero => intro σ x1 x2 x3 x4 x5 H locs ls h; exact none_s h
  | succ n ih =>
    intro σ x1 x2 x3 x4 x5 H locs ls h hP hD hS hl
    refine lv_iload hx hb dX9_piece_39 (lv_at hl 5 rfl) ?_
    refine lv_if_lt (tgt := 66) hx hb dX9_piece_41 (by decide) (fun c9 => ?_) (fun c9 => ?_)
    · have h := ifT c9 h
      exact tX9_piece_66 C hA h hP hD hS (lv_sub hl [0, 1, 2, 3, 4, 5] rfl)
    · have h := ifF c9 h
      refine lv_aload_n hx hb dX9_piece_44 rfl (lv_at hl 0 rfl) ?_
      refine M_gt8 C hP dX9_piece_45 ?_
      refine lv_iload hx hb dX9_piece_48 (lv_at hl 5 rfl) ?_
      obtain ⟨g10, h⟩ := grd_s h
      refine M_ld8 C hP g10 dX9_piece_50 ?_
      refine lv_if_lt (tgt := 66) hx hb dX9_piece_51 (by decide) (fun c11 => ?_) (fun c11 => ?_)
      · have h := ifT c11 h
        exact tX9_piece_66 C hA h hP hD hS (lv_sub hl [0, 1, 2, 3, 4, 5] rfl)
      · have h := ifF c11 h
        refine lv_aload_n hx hb dX9_piece_54 rfl (lv_at hl 0 rfl) ?_
        refine M_gt8 C hP dX9_piece_55 ?_
        refine lv_iload hx hb dX9_piece_58 (lv_at hl 5 rfl) ?_
        obtain ⟨g12, h⟩ := grd_s h
        refine M_ld8 C hP g12 dX9_piece_60 ?_
        obtain ⟨u13, eu13, h⟩ := letS_n h
        refine lv_topE eu13 ?_
        refine lv_istore (lv' := [(5, .int u13), (0, .ref (a 0)), (1, .int x1), (2, .int x2), (3, .int x3), (4, .int x4)]) hx hb dX9_piece_61 hl (by decide) rfl (fun ls hl => ?_)
        refine lv_goto (tgt := 39) hx hb dX9_piece_63 (by decide) ?_
        exact ih h hP hD hS (lv_sub hl [1, 2, 3, 4, 5, 0] rfl)
set_option maxHeartbeats 4000000 in
set_option maxRecDepth 100000 in
theorem tX9_piece_12 {p : Program} {l : Launch} {e : Env} {s : State} {m : MethodId} {args : Array Value} {below : List Frame} {meth : Method} {c : Code} {D : va_G} {a : Nat → Nat} {cc : Nat → ClassId} {A : Nat → Prop} {N : Nat} {σr : St} (C : M_Cx RX9 p s m args meth c D cc cX9_piece (Cond.code yX9_piece cX9_piece 7 none :: WM) 7 none) (hA : ∀ q, s.heap.size ≤ q → A q) {σ : St} {x1 : Int32} {x2 : Int32} {x3 : Int32} {y0 : Int32} {H : Heap} {locs : List Loc} {ls : Array Slot} (h : fX9_piece_12 N σ x1 x2 x3 y0 = some σr) : va_P D vwCl (wM a cc σ) H → va_D A (wM a cc σ) → va_S A s.heap H locs → lv_has ls 7 [(0, .ref (a 0)), (1, .int x1), (2, .int x2), (3, .int x3)] → W p l e rmX9_piece s m args below meth c H locs 0 0 (M_Mv D a cc A below args s σr) (F0 m 12 ls [.int y0, .ref (a 0)]) := by
  obtain ⟨hx, hb, hr, hml, hown, hts, hin, hK, hlocks⟩ := id C
  intro hP hD hS hl
  obtain ⟨g3, h⟩ := grd_s h
  obtain ⟨σ2, eσ2, h⟩ := letS_n h
  refine M_pt12 C hP hD hS g3 eσ2 dX9_piece_12 (fun H locs hP hD hS => ?_)
  refine lv_aload_n hx hb dX9_piece_15 rfl (lv_at hl 0 rfl) ?_
  refine M_gt12 C hP dX9_piece_16 ?_
  refine lv_if_ne (tgt := 23) hx hb dX9_piece_19 (by decide) (fun c4 => ?_) (fun c4 => ?_)
  · have h := ifF c4 h
    refine lv_aload_n hx hb dX9_piece_23 rfl (lv_at hl 0 rfl) ?_
    refine lv_bipush (v := (11 : Int32)) hx hb dX9_piece_24 (by decide) ?_
    obtain ⟨r6, σ5, hc, h⟩ := bnd_s h
    refine M_callVi (As := [.int (11 : Int32)]) (rest := []) C hA (fun sz => kX9_node l sz hc) gX9_node hP hD hS ⟨by decide, by decide⟩ ⟨rfl, rfl⟩ rfl hl.1 rfl (lv_room (Nat.le_of_ble_eq_true rfl)) dX9_piece_26 (fun H locs hP hD hS => ?_)
    refine lv_istore (lv' := [(4, .int r6), (0, .ref (a 0)), (1, .int x1), (2, .int x2), (3, .int x3)]) hx hb dX9_piece_29 hl (by decide) rfl (fun ls hl => ?_)
    refine lv_aload_n hx hb dX9_piece_31 rfl (lv_at hl 1 rfl) ?_
    refine M_gt6 C hP dX9_piece_32 ?_
    refine lv_iload_n hx hb dX9_piece_35 rfl (lv_at hl 2 rfl) ?_
    obtain ⟨g7, h⟩ := grd_s h
    refine M_ld6 C hP g7 dX9_piece_36 ?_
    obtain ⟨u8, eu8, h⟩ := letS_n h
    refine lv_topE eu8 ?_
    refine lv_istore (lv' := [(5, .int u8), (4, .int r6), (0, .ref (a 0)), (1, .int x1), (2, .int x2), (3, .int x3)]) hx hb dX9_piece_37 hl (by decide) rfl (fun ls hl => ?_)
    exact tX9_piece_39 C hA N h hP hD hS (lv_sub hl [2, 3, 4, 5, 1, 0] rfl)
  · have h := ifT c4 h
    exact M_vret C h hP hD hS dX9_piece_22
set_option maxHeartbeats 4000000 in
set_option maxRecDepth 100000 in
theorem tX9_piece {p : Program} {l : Launch} {e : Env} {s : State} {m : MethodId} {args : Array Value} {below : List Frame} {meth : Method} {c : Code} {D : va_G} {a : Nat → Nat} {cc : Nat → ClassId} {A : Nat → Prop} {N : Nat} {σr : St} (C : M_Cx RX9 p s m args meth c D cc cX9_piece (Cond.code yX9_piece cX9_piece 7 none :: WM) 7 none) (hA : ∀ q, s.heap.size ≤ q → A q) {σ : St} {p0 : Int32} {p1 : Int32} {p2 : Int32} {H : Heap} {locs : List Loc} {ls : Array Slot} (h : fX9_piece N σ p0 p1 p2 = some σr) : va_P D vwCl (wM a cc σ) H → va_D A (wM a cc σ) → va_S A s.heap H locs → lv_has ls 7 [(0, .ref (a 0)), (1, .int p0), (2, .int p1), (3, .int p2)] → W p l e rmX9_piece s m args below meth c H locs 0 0 (M_Mv D a cc A below args s σr) (F0 m 0 ls []) := by
  obtain ⟨hx, hb, hr, hml, hown, hts, hin, hK, hlocks⟩ := id C
  intro hP hD hS hl
  refine lv_aload_n hx hb dX9_piece_0 rfl (lv_at hl 0 rfl) ?_
  refine lv_iload_n hx hb dX9_piece_1 rfl (lv_at hl 2 rfl) ?_
  refine lv_bipush (v := (12 : Int32)) hx hb dX9_piece_2 (by decide) ?_
  refine lv_icmp_gt (tgt := 11) hx hb dX9_piece_4 (by decide) (fun c1 => ?_) (fun c1 => ?_)
  · have h := ifT c1 h
    refine lv_iconst (v := (0 : Int32)) hx hb dX9_piece_11 (by decide) ?_
    exact tX9_piece_12 C hA h hP hD hS (lv_sub hl [0, 1, 2, 3] rfl)
  · have h := ifF c1 h
    refine lv_iconst (v := (1 : Int32)) hx hb dX9_piece_7 (by decide) ?_
    refine lv_goto (tgt := 12) hx hb dX9_piece_8 (by decide) ?_
    exact tX9_piece_12 C hA h hP hD hS (lv_sub hl [0, 1, 2, 3] rfl)
set_option maxRecDepth 100000 in
theorem kX9_piece (l : Launch) (sz : Nat) {D : va_G} {a : Nat → Nat} {cc : Nat → ClassId} {N : Nat} {σr : St} {σ : St} {p0 : Int32} {p1 : Int32} {p2 : Int32} (h : fX9_piece N σ p0 p1 p2 = some σr) : Met l yX9_piece ((Cond.code yX9_piece cX9_piece 7 none :: WM)) rmX9_piece (M_Pc D a cc [.ref (a 0), .int p0, .int p1, .int p2] σ sz) (M_Qv D a cc σ sz σr) 0 0 (va_A (wM a cc σ) sz) := by
  refine Met.ofW (cc := cX9_piece) (maxL := 7) (ret := none) (by decide) rfl ?_
  intro p e s m args below meth c s₁ B hml hv
  obtain ⟨rfl, hsz, hP, hK, hD0⟩ := hv
  subst hsz
  have hl := lv_entry ([.ref (a 0), .int p0, .int p1, .int p2]) (n := 7) (Nat.le_of_ble_eq_true rfl)
  rw [lg_entry_eq]
  generalize (lg_sl ([.ref (a 0), .int p0, .int p1, .int p2]) ++ List.replicate (7 - (lg_sl ([.ref (a 0), .int p0, .int p1, .int p2])).length) Slot.unset).toArray = ls at hl ⊢
  exact tX9_piece ⟨B.exec, B.bytes, B.returns, hml, findClass_of_methodNamed B.named, atoms_spec (ws := (Cond.code yX9_piece cX9_piece 7 none :: WM)) B.pre, (fun w h => List.mem_cons_of_mem _ (inWM w h)), hK, B.notSynchronized⟩ (fun q h => Or.inr h) h hP hD0.self va_S.rf hl
set_option maxHeartbeats 4000000 in
set_option maxRecDepth 100000 in
theorem tX9_times_176 {p : Program} {l : Launch} {e : Env} {s : State} {m : MethodId} {args : Array Value} {below : List Frame} {meth : Method} {c : Code} {D : va_G} {a : Nat → Nat} {cc : Nat → ClassId} {A : Nat → Prop} {N : Nat} {σr : St} (C : M_Cx RX9 p s m args meth c D cc cX9_times (Cond.code yX9_times cX9_times 5 none :: WM) 5 none) (hA : ∀ q, s.heap.size ≤ q → A q) {σ : St} {y0 : Int32} {y1 : Int32} {H : Heap} {locs : List Loc} {ls : Array Slot} (h : fX9_times_176 N σ y0 y1 = some σr) : va_P D vwCl (wM a cc σ) H → va_D A (wM a cc σ) → va_S A s.heap H locs → lv_has ls 5 [] → W p l e rmX9_times s m args below meth c H locs 0 0 (M_Mv D a cc A below args s σr) (F0 m 176 ls [.int y0, .int y1, .ref (a 0)]) := by
  obtain ⟨hx, hb, hr, hml, hown, hts, hin, hK, hlocks⟩ := id C
  intro hP hD hS hl
  refine lv_iadd hx hb dX9_times_176 ?_
  obtain ⟨σ34, eσ34, h⟩ := letS_n h
  refine M_pt11 C hP hD hS eσ34 dX9_times_177 (fun H locs hP hD hS => ?_)
  exact M_vret C h hP hD hS dX9_times_180
set_option maxHeartbeats 4000000 in
set_option maxRecDepth 100000 in
theorem tX9_times_148 {p : Program} {l : Launch} {e : Env} {s : State} {m : MethodId} {args : Array Value} {below : List Frame} {meth : Method} {c : Code} {D : va_G} {a : Nat → Nat} {cc : Nat → ClassId} {A : Nat → Prop} {N : Nat} {σr : St} (C : M_Cx RX9 p s m args meth c D cc cX9_times (Cond.code yX9_times cX9_times 5 none :: WM) 5 none) (hA : ∀ q, s.heap.size ≤ q → A q) {σ : St} {x1 : Int32} {x4 : Int32} {y0 : Int32} {H : Heap} {locs : List Loc} {ls : Array Slot} (h : fX9_times_148 N σ x1 x4 y0 = some σr) : va_P D vwCl (wM a cc σ) H → va_D A (wM a cc σ) → va_S A s.heap H locs → lv_has ls 5 [(0, .ref (a 0)), (1, .int x1), (4, .int x4)] → W p l e rmX9_times s m args below meth c H locs 0 0 (M_Mv D a cc A below args s σr) (F0 m 148 ls [.int y0, .ref (a 0)]) := by
  obtain ⟨hx, hb, hr, hml, hown, hts, hin, hK, hlocks⟩ := id C
  intro hP hD hS hl
  obtain ⟨g30, h⟩ := grd_s h
  obtain ⟨σ29, eσ29, h⟩ := letS_n h
  refine M_pt12 C hP hD hS g30 eσ29 dX9_times_148 (fun H locs hP hD hS => ?_)
  refine lv_aload_n hx hb dX9_times_151 rfl (lv_at hl 0 rfl) ?_
  refine M_gt10 C hP dX9_times_152 ?_
  refine lv_iload_n hx hb dX9_times_155 rfl (lv_at hl 1 rfl) ?_
  refine lv_iload hx hb dX9_times_156 (lv_at hl 2 rfl) ?_
  obtain ⟨g31, h⟩ := grd_s h
  obtain ⟨σ32, eσ32, h⟩ := letS_n h
  refine M_st10 C hP hD hS g31 eσ32 dX9_times_158 (fun H locs hP hD hS => ?_)
  refine lv_aload_n hx hb dX9_times_159 rfl (lv_at hl 0 rfl) ?_
  refine lv_dup hx hb dX9_times_160 rfl ?_
  refine M_gt11 C hP dX9_times_161 ?_
  refine lv_aload_n hx hb dX9_times_164 rfl (lv_at hl 0 rfl) ?_
  refine M_gt12 C hP dX9_times_165 ?_
  refine lv_if_eq (tgt := 175) hx hb dX9_times_168 (by decide) (fun c33 => ?_) (fun c33 => ?_)
  · have h := ifT c33 h
    refine lv_iconst (v := (0 : Int32)) hx hb dX9_times_175 (by decide) ?_
    exact tX9_times_176 C hA h hP hD hS (lv_sub hl [] rfl)
  · have h := ifF c33 h
    refine lv_iconst (v := (1 : Int32)) hx hb dX9_times_171 (by decide) ?_
    refine lv_goto (tgt := 176) hx hb dX9_times_172 (by decide) ?_
    exact tX9_times_176 C hA h hP hD hS (lv_sub hl [] rfl)
set_option maxHeartbeats 4000000 in
set_option maxRecDepth 100000 in
theorem tX9_times_147 {p : Program} {l : Launch} {e : Env} {s : State} {m : MethodId} {args : Array Value} {below : List Frame} {meth : Method} {c : Code} {D : va_G} {a : Nat → Nat} {cc : Nat → ClassId} {A : Nat → Prop} {N : Nat} {σr : St} (C : M_Cx RX9 p s m args meth c D cc cX9_times (Cond.code yX9_times cX9_times 5 none :: WM) 5 none) (hA : ∀ q, s.heap.size ≤ q → A q) {σ : St} {x1 : Int32} {x4 : Int32} {H : Heap} {locs : List Loc} {ls : Array Slot} (h : fX9_times_147 N σ x1 x4 = some σr) : va_P D vwCl (wM a cc σ) H → va_D A (wM a cc σ) → va_S A s.heap H locs → lv_has ls 5 [(0, .ref (a 0)), (1, .int x1), (4, .int x4)] → W p l e rmX9_times s m args below meth c H locs 0 0 (M_Mv D a cc A below args s σr) (F0 m 147 ls [.ref (a 0)]) := by
  obtain ⟨hx, hb, hr, hml, hown, hts, hin, hK, hlocks⟩ := id C
  intro hP hD hS hl
  refine lv_iconst (v := (0 : Int32)) hx hb dX9_times_147 (by decide) ?_
  exact tX9_times_148 C hA h hP hD hS (lv_sub hl [0, 1, 2] rfl)
set_option maxHeartbeats 4000000 in
set_option maxRecDepth 100000 in
theorem tX9_times_65 {p : Program} {l : Launch} {e : Env} {s : State} {m : MethodId} {args : Array Value} {below : List Frame} {meth : Method} {c : Code} {D : va_G} {a : Nat → Nat} {cc : Nat → ClassId} {A : Nat → Prop} {N : Nat} {σr : St} (C : M_Cx RX9 p s m args meth c D cc cX9_times (Cond.code yX9_times cX9_times 5 none :: WM) 5 none) (hA : ∀ q, s.heap.size ≤ q → A q) {σ : St} {x1 : Int32} {x3 : Int32} {y0 : Int32} {H : Heap} {locs : List Loc} {ls : Array Slot} (h : fX9_times_65 N σ x1 x3 y0 = some σr) : va_P D vwCl (wM a cc σ) H → va_D A (wM a cc σ) → va_S A s.heap H locs → lv_has ls 5 [(0, .ref (a 0)), (1, .int x1), (3, .int x3)] → W p l e rmX9_times s m args below meth c H locs 0 0 (M_Mv D a cc A below args s σr) (F0 m 65 ls [.int y0, .ref (a 0)]) := by
  obtain ⟨hx, hb, hr, hml, hown, hts, hin, hK, hlocks⟩ := id C
  intro hP hD hS hl
  obtain ⟨g13, h⟩ := grd_s h
  obtain ⟨σ12, eσ12, h⟩ := letS_n h
  refine M_pt12 C hP hD hS g13 eσ12 dX9_times_65 (fun H locs hP hD hS => ?_)
  refine lv_aload_n hx hb dX9_times_68 rfl (lv_at hl 0 rfl) ?_
  refine M_gt12 C hP dX9_times_69 ?_
  refine lv_if_ne (tgt := 76) hx hb dX9_times_72 (by decide) (fun c14 => ?_) (fun c14 => ?_)
  · have h := ifF c14 h
    refine lv_aload_n hx hb dX9_times_76 rfl (lv_at hl 0 rfl) ?_
    refine lv_dup hx hb dX9_times_77 rfl ?_
    refine M_gt11 C hP dX9_times_78 ?_
    refine lv_iconst (v := (1 : Int32)) hx hb dX9_times_81 (by decide) ?_
    refine lv_iadd hx hb dX9_times_82 ?_
    obtain ⟨σ15, eσ15, h⟩ := letS_n h
    refine M_pt11 C hP hD hS eσ15 dX9_times_83 (fun H locs hP hD hS => ?_)
    refine lv_aload_n hx hb dX9_times_86 rfl (lv_at hl 0 rfl) ?_
    refine M_gt9 C hP dX9_times_87 ?_
    refine lv_iload_n hx hb dX9_times_90 rfl (lv_at hl 1 rfl) ?_
    refine lv_iload_n hx hb dX9_times_91 rfl (lv_at hl 2 rfl) ?_
    obtain ⟨g16, h⟩ := grd_s h
    obtain ⟨σ17, eσ17, h⟩ := letS_n h
    refine M_st9 C hP hD hS g16 eσ17 dX9_times_92 (fun H locs hP hD hS => ?_)
    refine lv_aload_n hx hb dX9_times_93 rfl (lv_at hl 0 rfl) ?_
    refine M_gt10 C hP dX9_times_94 ?_
    refine lv_iload_n hx hb dX9_times_97 rfl (lv_at hl 1 rfl) ?_
    refine lv_iload_n hx hb dX9_times_98 rfl (lv_at hl 2 rfl) ?_
    obtain ⟨g18, h⟩ := grd_s h
    obtain ⟨σ19, eσ19, h⟩ := letS_n h
    refine M_st10 C hP hD hS g18 eσ19 dX9_times_99 (fun H locs hP hD hS => ?_)
    refine lv_aload_n hx hb dX9_times_100 rfl (lv_at hl 0 rfl) ?_
    obtain ⟨r21, σ20, hc, h⟩ := bnd_s h
    refine M_callVi (As := []) (rest := []) C hA (fun sz => kX9_now l sz hc) gX9_now hP hD hS ⟨by decide, by decide⟩ ⟨rfl, rfl⟩ rfl hl.1 rfl (lv_room (Nat.le_of_ble_eq_true rfl)) dX9_times_101 (fun H locs hP hD hS => ?_)
    refine lv_bipush (v := (45 : Int32)) hx hb dX9_times_104 (by decide) ?_
    refine lv_icmp_eq (tgt := 110) hx hb dX9_times_106 (by decide) (fun c22 => ?_) (fun c22 => ?_)
    · have h := ifT c22 h
      refine lv_aload_n hx hb dX9_times_110 rfl (lv_at hl 0 rfl) ?_
      refine lv_dup hx hb dX9_times_111 rfl ?_
      refine M_gt11 C hP dX9_times_112 ?_
      refine lv_iconst (v := (1 : Int32)) hx hb dX9_times_115 (by decide) ?_
      refine lv_iadd hx hb dX9_times_116 ?_
      obtain ⟨σ23, eσ23, h⟩ := letS_n h
      refine M_pt11 C hP hD hS eσ23 dX9_times_117 (fun H locs hP hD hS => ?_)
      refine lv_aload_n hx hb dX9_times_120 rfl (lv_at hl 0 rfl) ?_
      obtain ⟨r25, σ24, hc, h⟩ := bnd_s h
      refine M_callVi (As := []) (rest := []) C hA (fun sz => kX9_now l sz hc) gX9_now hP hD hS ⟨by decide, by decide⟩ ⟨rfl, rfl⟩ rfl hl.1 rfl (lv_room (Nat.le_of_ble_eq_true rfl)) dX9_times_121 (fun H locs hP hD hS => ?_)
      refine lv_bipush (v := (48 : Int32)) hx hb dX9_times_124 (by decide) ?_
      refine lv_isub hx hb dX9_times_126 ?_
      obtain ⟨u26, eu26, h⟩ := letS_n h
      refine lv_topE eu26 ?_
      refine lv_istore (lv' := [(4, .int u26), (0, .ref (a 0)), (1, .int x1), (3, .int x3)]) hx hb dX9_times_127 hl (by decide) rfl (fun ls hl => ?_)
      refine lv_aload_n hx hb dX9_times_129 rfl (lv_at hl 1 rfl) ?_
      refine lv_iload hx hb dX9_times_130 (lv_at hl 0 rfl) ?_
      refine lv_iload_n hx hb dX9_times_132 rfl (lv_at hl 3 rfl) ?_
      refine lv_icmp_lt (tgt := 147) hx hb dX9_times_133 (by decide) (fun c27 => ?_) (fun c27 => ?_)
      · have h := ifT c27 h
        exact tX9_times_147 C hA h hP hD hS (lv_sub hl [1, 2, 0] rfl)
      · have h := ifF c27 h
        refine lv_iload hx hb dX9_times_136 (lv_at hl 0 rfl) ?_
        refine lv_bipush (v := (9 : Int32)) hx hb dX9_times_138 (by decide) ?_
        refine lv_icmp_gt (tgt := 147) hx hb dX9_times_140 (by decide) (fun c28 => ?_) (fun c28 => ?_)
        · have h := ifT c28 h
          exact tX9_times_147 C hA h hP hD hS (lv_sub hl [1, 2, 0] rfl)
        · have h := ifF c28 h
          refine lv_iconst (v := (1 : Int32)) hx hb dX9_times_143 (by decide) ?_
          refine lv_goto (tgt := 148) hx hb dX9_times_144 (by decide) ?_
          exact tX9_times_148 C hA h hP hD hS (lv_sub hl [1, 2, 0] rfl)
    · have h := ifF c22 h
      exact M_vret C h hP hD hS dX9_times_109
  · have h := ifT c14 h
    exact M_vret C h hP hD hS dX9_times_75
set_option maxHeartbeats 4000000 in
set_option maxRecDepth 100000 in
theorem tX9_times_64 {p : Program} {l : Launch} {e : Env} {s : State} {m : MethodId} {args : Array Value} {below : List Frame} {meth : Method} {c : Code} {D : va_G} {a : Nat → Nat} {cc : Nat → ClassId} {A : Nat → Prop} {N : Nat} {σr : St} (C : M_Cx RX9 p s m args meth c D cc cX9_times (Cond.code yX9_times cX9_times 5 none :: WM) 5 none) (hA : ∀ q, s.heap.size ≤ q → A q) {σ : St} {x1 : Int32} {x3 : Int32} {H : Heap} {locs : List Loc} {ls : Array Slot} (h : fX9_times_64 N σ x1 x3 = some σr) : va_P D vwCl (wM a cc σ) H → va_D A (wM a cc σ) → va_S A s.heap H locs → lv_has ls 5 [(0, .ref (a 0)), (1, .int x1), (3, .int x3)] → W p l e rmX9_times s m args below meth c H locs 0 0 (M_Mv D a cc A below args s σr) (F0 m 64 ls [.ref (a 0)]) := by
  obtain ⟨hx, hb, hr, hml, hown, hts, hin, hK, hlocks⟩ := id C
  intro hP hD hS hl
  refine lv_iconst (v := (0 : Int32)) hx hb dX9_times_64 (by decide) ?_
  exact tX9_times_65 C hA h hP hD hS (lv_sub hl [0, 1, 2] rfl)
set_option maxHeartbeats 4000000 in
set_option maxRecDepth 100000 in
theorem tX9_times_23 {p : Program} {l : Launch} {e : Env} {s : State} {m : MethodId} {args : Array Value} {below : List Frame} {meth : Method} {c : Code} {D : va_G} {a : Nat → Nat} {cc : Nat → ClassId} {A : Nat → Prop} {N : Nat} {σr : St} (C : M_Cx RX9 p s m args meth c D cc cX9_times (Cond.code yX9_times cX9_times 5 none :: WM) 5 none) (hA : ∀ q, s.heap.size ≤ q → A q) {σ : St} {x1 : Int32} {x2 : Int32} {H : Heap} {locs : List Loc} {ls : Array Slot} (h : fX9_times_23 N σ x1 x2 = some σr) : va_P D vwCl (wM a cc σ) H → va_D A (wM a cc σ) → va_S A s.heap H locs → lv_has ls 5 [(0, .ref (a 0)), (1, .int x1), (2, .int x2)] → W p l e rmX9_times s m args below meth c H locs 0 0 (M_Mv D a cc A below args s σr) (F0 m 23 ls []) := by
  obtain ⟨hx, hb, hr, hml, hown, hts, hin, hK, hlocks⟩ := id C
  intro hP hD hS hl
  refine lv_iload_n hx hb dX9_times_23 rfl (lv_at hl 2 rfl) ?_
  refine lv_bipush (v := (42 : Int32)) hx hb dX9_times_24 (by decide) ?_
  refine lv_icmp_eq (tgt := 30) hx hb dX9_times_26 (by decide) (fun c5 => ?_) (fun c5 => ?_)
  · have h := ifT c5 h
    refine lv_aload_n hx hb dX9_times_30 rfl (lv_at hl 0 rfl) ?_
    refine lv_dup hx hb dX9_times_31 rfl ?_
    refine M_gt11 C hP dX9_times_32 ?_
    refine lv_iconst (v := (1 : Int32)) hx hb dX9_times_35 (by decide) ?_
    refine lv_iadd hx hb dX9_times_36 ?_
    obtain ⟨σ6, eσ6, h⟩ := letS_n h
    refine M_pt11 C hP hD hS eσ6 dX9_times_37 (fun H locs hP hD hS => ?_)
    refine lv_aload_n hx hb dX9_times_40 rfl (lv_at hl 0 rfl) ?_
    obtain ⟨r8, σ7, hc, h⟩ := bnd_s h
    refine M_callVi (As := []) (rest := []) C hA (fun sz => kX9_now l sz hc) gX9_now hP hD hS ⟨by decide, by decide⟩ ⟨rfl, rfl⟩ rfl hl.1 rfl (lv_room (Nat.le_of_ble_eq_true rfl)) dX9_times_41 (fun H locs hP hD hS => ?_)
    refine lv_bipush (v := (48 : Int32)) hx hb dX9_times_44 (by decide) ?_
    refine lv_isub hx hb dX9_times_46 ?_
    obtain ⟨u9, eu9, h⟩ := letS_n h
    refine lv_topE eu9 ?_
    refine lv_istore_n (lv' := [(3, .int u9), (0, .ref (a 0)), (1, .int x1), (2, .int x2)]) hx hb dX9_times_47 rfl hl (by decide) rfl (fun ls hl => ?_)
    refine lv_aload_n hx hb dX9_times_48 rfl (lv_at hl 1 rfl) ?_
    refine lv_iload_n hx hb dX9_times_49 rfl (lv_at hl 0 rfl) ?_
    refine lv_iconst (v := (1 : Int32)) hx hb dX9_times_50 (by decide) ?_
    refine lv_icmp_lt (tgt := 64) hx hb dX9_times_51 (by decide) (fun c10 => ?_) (fun c10 => ?_)
    · have h := ifT c10 h
      exact tX9_times_64 C hA h hP hD hS (lv_sub hl [1, 2, 0] rfl)
    · have h := ifF c10 h
      refine lv_iload_n hx hb dX9_times_54 rfl (lv_at hl 0 rfl) ?_
      refine lv_bipush (v := (9 : Int32)) hx hb dX9_times_55 (by decide) ?_
      refine lv_icmp_gt (tgt := 64) hx hb dX9_times_57 (by decide) (fun c11 => ?_) (fun c11 => ?_)
      · have h := ifT c11 h
        exact tX9_times_64 C hA h hP hD hS (lv_sub hl [1, 2, 0] rfl)
      · have h := ifF c11 h
        refine lv_iconst (v := (1 : Int32)) hx hb dX9_times_60 (by decide) ?_
        refine lv_goto (tgt := 65) hx hb dX9_times_61 (by decide) ?_
        exact tX9_times_65 C hA h hP hD hS (lv_sub hl [1, 2, 0] rfl)
  · have h := ifF c5 h
    exact M_vret C h hP hD hS dX9_times_29
set_option maxHeartbeats 4000000 in
set_option maxRecDepth 100000 in
theorem tX9_times {p : Program} {l : Launch} {e : Env} {s : State} {m : MethodId} {args : Array Value} {below : List Frame} {meth : Method} {c : Code} {D : va_G} {a : Nat → Nat} {cc : Nat → ClassId} {A : Nat → Prop} {N : Nat} {σr : St} (C : M_Cx RX9 p s m args meth c D cc cX9_times (Cond.code yX9_times cX9_times 5 none :: WM) 5 none) (hA : ∀ q, s.heap.size ≤ q → A q) {σ : St} {p0 : Int32} {p1 : Int32} {H : Heap} {locs : List Loc} {ls : Array Slot} (h : fX9_times N σ p0 p1 = some σr) : va_P D vwCl (wM a cc σ) H → va_D A (wM a cc σ) → va_S A s.heap H locs → lv_has ls 5 [(0, .ref (a 0)), (1, .int p0), (2, .int p1)] → W p l e rmX9_times s m args below meth c H locs 0 0 (M_Mv D a cc A below args s σr) (F0 m 0 ls []) := by
  obtain ⟨hx, hb, hr, hml, hown, hts, hin, hK, hlocks⟩ := id C
  intro hP hD hS hl
  refine lv_iload_n hx hb dX9_times_0 rfl (lv_at hl 2 rfl) ?_
  refine lv_bipush (v := (43 : Int32)) hx hb dX9_times_1 (by decide) ?_
  refine lv_icmp_ne (tgt := 23) hx hb dX9_times_3 (by decide) (fun c1 => ?_) (fun c1 => ?_)
  · have h := ifF c1 h
    exact tX9_times_23 C hA h hP hD hS (lv_sub hl [0, 1, 2] rfl)
  · have h := ifT c1 h
    refine lv_aload_n hx hb dX9_times_6 rfl (lv_at hl 0 rfl) ?_
    refine lv_dup hx hb dX9_times_7 rfl ?_
    refine M_gt11 C hP dX9_times_8 ?_
    refine lv_iconst (v := (1 : Int32)) hx hb dX9_times_11 (by decide) ?_
    refine lv_iadd hx hb dX9_times_12 ?_
    obtain ⟨σ2, eσ2, h⟩ := letS_n h
    refine M_pt11 C hP hD hS eσ2 dX9_times_13 (fun H locs hP hD hS => ?_)
    refine lv_aload_n hx hb dX9_times_16 rfl (lv_at hl 0 rfl) ?_
    refine M_gt10 C hP dX9_times_17 ?_
    refine lv_iload_n hx hb dX9_times_20 rfl (lv_at hl 1 rfl) ?_
    refine lv_iconst (v := (0 : Int32)) hx hb dX9_times_21 (by decide) ?_
    obtain ⟨g3, h⟩ := grd_s h
    obtain ⟨σ4, eσ4, h⟩ := letS_n h
    refine M_st10 C hP hD hS g3 eσ4 dX9_times_22 (fun H locs hP hD hS => ?_)
    exact tX9_times_23 C hA h hP hD hS (lv_sub hl [0, 1, 2] rfl)
set_option maxRecDepth 100000 in
theorem kX9_times (l : Launch) (sz : Nat) {D : va_G} {a : Nat → Nat} {cc : Nat → ClassId} {N : Nat} {σr : St} {σ : St} {p0 : Int32} {p1 : Int32} (h : fX9_times N σ p0 p1 = some σr) : Met l yX9_times ((Cond.code yX9_times cX9_times 5 none :: WM)) rmX9_times (M_Pc D a cc [.ref (a 0), .int p0, .int p1] σ sz) (M_Qv D a cc σ sz σr) 0 0 (va_A (wM a cc σ) sz) := by
  refine Met.ofW (cc := cX9_times) (maxL := 5) (ret := none) (by decide) rfl ?_
  intro p e s m args below meth c s₁ B hml hv
  obtain ⟨rfl, hsz, hP, hK, hD0⟩ := hv
  subst hsz
  have hl := lv_entry ([.ref (a 0), .int p0, .int p1]) (n := 5) (Nat.le_of_ble_eq_true rfl)
  rw [lg_entry_eq]
  generalize (lg_sl ([.ref (a 0), .int p0, .int p1]) ++ List.replicate (5 - (lg_sl ([.ref (a 0), .int p0, .int p1])).length) Slot.unset).toArray = ls at hl ⊢
  exact tX9_times ⟨B.exec, B.bytes, B.returns, hml, findClass_of_methodNamed B.named, atoms_spec (ws := (Cond.code yX9_times cX9_times 5 none :: WM)) B.pre, (fun w h => List.mem_cons_of_mem _ (inWM w h)), hK, B.notSynchronized⟩ (fun q h => Or.inr h) h hP hD0.self va_S.rf hl
set_option maxHeartbeats 4000000 in
set_option maxRecDepth 100000 in
theorem tX9_take_16 {p : Program} {l : Launch} {e : Env} {s : State} {m : MethodId} {args : Array Value} {below : List Frame} {meth : Method} {c : Code} {D : va_G} {a : Nat → Nat} {cc : Nat → ClassId} {A : Nat → Prop} {N : Nat} {σr : St} (C : M_Cx RX9 p s m args meth c D cc cX9_take (Cond.code yX9_take cX9_take 5 none :: WM) 5 none) (hA : ∀ q, s.heap.size ≤ q → A q) {σ : St} {x1 : Int32} {x2 : Int32} {x3 : Int32} {x4 : Int32} {H : Heap} {locs : List Loc} {ls : Array Slot} (h : fX9_take_16 N σ x1 x2 x3 x4 = some σr) : va_P D vwCl (wM a cc σ) H → va_D A (wM a cc σ) → va_S A s.heap H locs → lv_has ls 5 [(0, .ref (a 0)), (1, .int x1), (2, .int x2), (3, .int x3), (4, .int x4)] → W p l e rmX9_take s m args below meth c H locs 0 0 (M_Mv D a cc A below args s σr) (F0 m 16 ls []) := by
  obtain ⟨hx, hb, hr, hml, hown, hts, hin, hK, hlocks⟩ := id C
  intro hP hD hS hl
  refine lv_aload_n hx hb dX9_take_16 rfl (lv_at hl 0 rfl) ?_
  refine lv_iload_n hx hb dX9_take_17 rfl (lv_at hl 1 rfl) ?_
  refine lv_iload_n hx hb dX9_take_18 rfl (lv_at hl 2 rfl) ?_
  refine lv_iload_n hx hb dX9_take_19 rfl (lv_at hl 3 rfl) ?_
  refine lv_iload hx hb dX9_take_20 (lv_at hl 4 rfl) ?_
  obtain ⟨σ53, hc, h⟩ := bnd1_s h
  refine M_callVv (As := [.int x1, .int x2, .int x3, .int x4]) (rest := []) C hA (fun sz => kX9_sprout l sz hc) gX9_sprout hP hD hS ⟨by decide, by decide⟩ ⟨rfl, rfl⟩ rfl hl.1 rfl (lv_room (Nat.le_of_ble_eq_true rfl)) dX9_take_22 (fun H locs hP hD hS => ?_)
  refine lv_goto (tgt := 380) hx hb dX9_take_25 (by decide) ?_
  exact M_vret C h hP hD hS dX9_take_380
set_option maxHeartbeats 4000000 in
set_option maxRecDepth 100000 in
theorem tX9_take_65 {p : Program} {l : Launch} {e : Env} {s : State} {m : MethodId} {args : Array Value} {below : List Frame} {meth : Method} {c : Code} {D : va_G} {a : Nat → Nat} {cc : Nat → ClassId} {A : Nat → Prop} {N : Nat} {σr : St} (C : M_Cx RX9 p s m args meth c D cc cX9_take (Cond.code yX9_take cX9_take 5 none :: WM) 5 none) (hA : ∀ q, s.heap.size ≤ q → A q) {σ : St} {y0 : Int32} {y1 : Int32} {H : Heap} {locs : List Loc} {ls : Array Slot} (h : fX9_take_65 N σ y0 y1 = some σr) : va_P D vwCl (wM a cc σ) H → va_D A (wM a cc σ) → va_S A s.heap H locs → lv_has ls 5 [] → W p l e rmX9_take s m args below meth c H locs 0 0 (M_Mv D a cc A below args s σr) (F0 m 65 ls [.int y0, .int y1, .ref (a 0)]) := by
  obtain ⟨hx, hb, hr, hml, hown, hts, hin, hK, hlocks⟩ := id C
  intro hP hD hS hl
  refine lv_iadd hx hb dX9_take_65 ?_
  obtain ⟨σ23, eσ23, h⟩ := letS_n h
  refine M_pt11 C hP hD hS eσ23 dX9_take_66 (fun H locs hP hD hS => ?_)
  refine lv_goto (tgt := 380) hx hb dX9_take_69 (by decide) ?_
  exact M_vret C h hP hD hS dX9_take_380
set_option maxHeartbeats 4000000 in
set_option maxRecDepth 100000 in
theorem tX9_take_45 {p : Program} {l : Launch} {e : Env} {s : State} {m : MethodId} {args : Array Value} {below : List Frame} {meth : Method} {c : Code} {D : va_G} {a : Nat → Nat} {cc : Nat → ClassId} {A : Nat → Prop} {N : Nat} {σr : St} (C : M_Cx RX9 p s m args meth c D cc cX9_take (Cond.code yX9_take cX9_take 5 none :: WM) 5 none) (hA : ∀ q, s.heap.size ≤ q → A q) {σ : St} {y0 : Int32} {H : Heap} {locs : List Loc} {ls : Array Slot} (h : fX9_take_45 N σ y0 = some σr) : va_P D vwCl (wM a cc σ) H → va_D A (wM a cc σ) → va_S A s.heap H locs → lv_has ls 5 [(0, .ref (a 0))] → W p l e rmX9_take s m args below meth c H locs 0 0 (M_Mv D a cc A below args s σr) (F0 m 45 ls [.int y0, .ref (a 0)]) := by
  obtain ⟨hx, hb, hr, hml, hown, hts, hin, hK, hlocks⟩ := id C
  intro hP hD hS hl
  obtain ⟨g21, h⟩ := grd_s h
  obtain ⟨σ20, eσ20, h⟩ := letS_n h
  refine M_pt12 C hP hD hS g21 eσ20 dX9_take_45 (fun H locs hP hD hS => ?_)
  refine lv_aload_n hx hb dX9_take_48 rfl (lv_at hl 0 rfl) ?_
  refine lv_dup hx hb dX9_take_49 rfl ?_
  refine M_gt11 C hP dX9_take_50 ?_
  refine lv_aload_n hx hb dX9_take_53 rfl (lv_at hl 0 rfl) ?_
  refine M_gt12 C hP dX9_take_54 ?_
  refine lv_if_eq (tgt := 64) hx hb dX9_take_57 (by decide) (fun c22 => ?_) (fun c22 => ?_)
  · have h := ifT c22 h
    refine lv_iconst (v := (0 : Int32)) hx hb dX9_take_64 (by decide) ?_
    exact tX9_take_65 C hA h hP hD hS (lv_sub hl [] rfl)
  · have h := ifF c22 h
    refine lv_iconst (v := (1 : Int32)) hx hb dX9_take_60 (by decide) ?_
    refine lv_goto (tgt := 65) hx hb dX9_take_61 (by decide) ?_
    exact tX9_take_65 C hA h hP hD hS (lv_sub hl [] rfl)
set_option maxHeartbeats 4000000 in
set_option maxRecDepth 100000 in
theorem tX9_take_170 {p : Program} {l : Launch} {e : Env} {s : State} {m : MethodId} {args : Array Value} {below : List Frame} {meth : Method} {c : Code} {D : va_G} {a : Nat → Nat} {cc : Nat → ClassId} {A : Nat → Prop} {N : Nat} {σr : St} (C : M_Cx RX9 p s m args meth c D cc cX9_take (Cond.code yX9_take cX9_take 5 none :: WM) 5 none) (hA : ∀ q, s.heap.size ≤ q → A q) {σ : St} {y0 : Int32} {y1 : Int32} {H : Heap} {locs : List Loc} {ls : Array Slot} (h : fX9_take_170 N σ y0 y1 = some σr) : va_P D vwCl (wM a cc σ) H → va_D A (wM a cc σ) → va_S A s.heap H locs → lv_has ls 5 [] → W p l e rmX9_take s m args below meth c H locs 0 0 (M_Mv D a cc A below args s σr) (F0 m 170 ls [.int y0, .int y1, .ref (a 0)]) := by
  obtain ⟨hx, hb, hr, hml, hown, hts, hin, hK, hlocks⟩ := id C
  intro hP hD hS hl
  refine lv_iadd hx hb dX9_take_170 ?_
  obtain ⟨σ52, eσ52, h⟩ := letS_n h
  refine M_pt11 C hP hD hS eσ52 dX9_take_171 (fun H locs hP hD hS => ?_)
  refine lv_goto (tgt := 380) hx hb dX9_take_174 (by decide) ?_
  exact M_vret C h hP hD hS dX9_take_380
set_option maxHeartbeats 4000000 in
set_option maxRecDepth 100000 in
theorem tX9_take_153 {p : Program} {l : Launch} {e : Env} {s : State} {m : MethodId} {args : Array Value} {below : List Frame} {meth : Method} {c : Code} {D : va_G} {a : Nat → Nat} {cc : Nat → ClassId} {A : Nat → Prop} {N : Nat} {σr : St} (C : M_Cx RX9 p s m args meth c D cc cX9_take (Cond.code yX9_take cX9_take 5 none :: WM) 5 none) (hA : ∀ q, s.heap.size ≤ q → A q) {σ : St} {H : Heap} {locs : List Loc} {ls : Array Slot} (h : fX9_take_153 N σ = some σr) : va_P D vwCl (wM a cc σ) H → va_D A (wM a cc σ) → va_S A s.heap H locs → lv_has ls 5 [(0, .ref (a 0))] → W p l e rmX9_take s m args below meth c H locs 0 0 (M_Mv D a cc A below args s σr) (F0 m 153 ls []) := by
  obtain ⟨hx, hb, hr, hml, hown, hts, hin, hK, hlocks⟩ := id C
  intro hP hD hS hl
  refine lv_aload_n hx hb dX9_take_153 rfl (lv_at hl 0 rfl) ?_
  refine lv_dup hx hb dX9_take_154 rfl ?_
  refine M_gt11 C hP dX9_take_155 ?_
  refine lv_aload_n hx hb dX9_take_158 rfl (lv_at hl 0 rfl) ?_
  refine M_gt12 C hP dX9_take_159 ?_
  refine lv_if_eq (tgt := 169) hx hb dX9_take_162 (by decide) (fun c51 => ?_) (fun c51 => ?_)
  · have h := ifT c51 h
    refine lv_iconst (v := (0 : Int32)) hx hb dX9_take_169 (by decide) ?_
    exact tX9_take_170 C hA h hP hD hS (lv_sub hl [] rfl)
  · have h := ifF c51 h
    refine lv_iconst (v := (1 : Int32)) hx hb dX9_take_165 (by decide) ?_
    refine lv_goto (tgt := 170) hx hb dX9_take_166 (by decide) ?_
    exact tX9_take_170 C hA h hP hD hS (lv_sub hl [] rfl)
set_option maxHeartbeats 4000000 in
set_option maxRecDepth 100000 in
theorem tX9_take_152 {p : Program} {l : Launch} {e : Env} {s : State} {m : MethodId} {args : Array Value} {below : List Frame} {meth : Method} {c : Code} {D : va_G} {a : Nat → Nat} {cc : Nat → ClassId} {A : Nat → Prop} {N : Nat} {σr : St} (C : M_Cx RX9 p s m args meth c D cc cX9_take (Cond.code yX9_take cX9_take 5 none :: WM) 5 none) (hA : ∀ q, s.heap.size ≤ q → A q) {σ : St} {y0 : Int32} {y1 : Int32} {H : Heap} {locs : List Loc} {ls : Array Slot} (h : fX9_take_152 N σ y0 y1 = some σr) : va_P D vwCl (wM a cc σ) H → va_D A (wM a cc σ) → va_S A s.heap H locs → lv_has ls 5 [(0, .ref (a 0))] → W p l e rmX9_take s m args below meth c H locs 0 0 (M_Mv D a cc A below args s σr) (F0 m 152 ls [.int y0, .int y1, .ref (a 5)]) := by
  obtain ⟨hx, hb, hr, hml, hown, hts, hin, hK, hlocks⟩ := id C
  intro hP hD hS hl
  obtain ⟨g49, h⟩ := grd_s h
  obtain ⟨σ50, eσ50, h⟩ := letS_n h
  refine M_st5 C hP hD hS g49 eσ50 dX9_take_152 (fun H locs hP hD hS => ?_)
  exact tX9_take_153 C hA h hP hD hS (lv_sub hl [0] rfl)
set_option maxHeartbeats 4000000 in
set_option maxRecDepth 100000 in
theorem tX9_take_114 {p : Program} {l : Launch} {e : Env} {s : State} {m : MethodId} {args : Array Value} {below : List Frame} {meth : Method} {c : Code} {D : va_G} {a : Nat → Nat} {cc : Nat → ClassId} {A : Nat → Prop} {N : Nat} {σr : St} (C : M_Cx RX9 p s m args meth c D cc cX9_take (Cond.code yX9_take cX9_take 5 none :: WM) 5 none) (hA : ∀ q, s.heap.size ≤ q → A q) {σ : St} {x2 : Int32} {x4 : Int32} {y0 : Int32} {H : Heap} {locs : List Loc} {ls : Array Slot} (h : fX9_take_114 N σ x2 x4 y0 = some σr) : va_P D vwCl (wM a cc σ) H → va_D A (wM a cc σ) → va_S A s.heap H locs → lv_has ls 5 [(0, .ref (a 0)), (2, .int x2), (4, .int x4)] → W p l e rmX9_take s m args below meth c H locs 0 0 (M_Mv D a cc A below args s σr) (F0 m 114 ls [.int y0, .ref (a 0)]) := by
  obtain ⟨hx, hb, hr, hml, hown, hts, hin, hK, hlocks⟩ := id C
  intro hP hD hS hl
  obtain ⟨g45, h⟩ := grd_s h
  obtain ⟨σ44, eσ44, h⟩ := letS_n h
  refine M_pt12 C hP hD hS g45 eσ44 dX9_take_114 (fun H locs hP hD hS => ?_)
  refine lv_aload_n hx hb dX9_take_117 rfl (lv_at hl 0 rfl) ?_
  refine M_gt12 C hP dX9_take_118 ?_
  refine lv_if_eq (tgt := 153) hx hb dX9_take_121 (by decide) (fun c46 => ?_) (fun c46 => ?_)
  · have h := ifT c46 h
    exact tX9_take_153 C hA h hP hD hS (lv_sub hl [0] rfl)
  · have h := ifF c46 h
    refine lv_aload_n hx hb dX9_take_124 rfl (lv_at hl 0 rfl) ?_
    refine M_gt5 C hP dX9_take_125 ?_
    refine lv_iload_n hx hb dX9_take_128 rfl (lv_at hl 1 rfl) ?_
    refine lv_iload hx hb dX9_take_129 (lv_at hl 2 rfl) ?_
    refine lv_bipush (v := (38 : Int32)) hx hb dX9_take_131 (by decide) ?_
    refine lv_icmp_ne (tgt := 140) hx hb dX9_take_133 (by decide) (fun c47 => ?_) (fun c47 => ?_)
    · have h := ifF c47 h
      refine lv_iload hx hb dX9_take_140 (lv_at hl 2 rfl) ?_
      refine lv_bipush (v := (124 : Int32)) hx hb dX9_take_142 (by decide) ?_
      refine lv_icmp_ne (tgt := 151) hx hb dX9_take_144 (by decide) (fun c48 => ?_) (fun c48 => ?_)
      · have h := ifF c48 h
        refine lv_iconst (v := (5 : Int32)) hx hb dX9_take_151 (by decide) ?_
        exact tX9_take_152 C hA h hP hD hS (lv_sub hl [0] rfl)
      · have h := ifT c48 h
        refine lv_iconst (v := (4 : Int32)) hx hb dX9_take_147 (by decide) ?_
        refine lv_goto (tgt := 152) hx hb dX9_take_148 (by decide) ?_
        exact tX9_take_152 C hA h hP hD hS (lv_sub hl [0] rfl)
    · have h := ifT c47 h
      refine lv_iconst (v := (3 : Int32)) hx hb dX9_take_136 (by decide) ?_
      refine lv_goto (tgt := 152) hx hb dX9_take_137 (by decide) ?_
      exact tX9_take_152 C hA h hP hD hS (lv_sub hl [0] rfl)
set_option maxHeartbeats 4000000 in
set_option maxRecDepth 100000 in
theorem tX9_take_109 {p : Program} {l : Launch} {e : Env} {s : State} {m : MethodId} {args : Array Value} {below : List Frame} {meth : Method} {c : Code} {D : va_G} {a : Nat → Nat} {cc : Nat → ClassId} {A : Nat → Prop} {N : Nat} {σr : St} (C : M_Cx RX9 p s m args meth c D cc cX9_take (Cond.code yX9_take cX9_take 5 none :: WM) 5 none) (hA : ∀ q, s.heap.size ≤ q → A q) {σ : St} {x2 : Int32} {x4 : Int32} {H : Heap} {locs : List Loc} {ls : Array Slot} (h : fX9_take_109 N σ x2 x4 = some σr) : va_P D vwCl (wM a cc σ) H → va_D A (wM a cc σ) → va_S A s.heap H locs → lv_has ls 5 [(0, .ref (a 0)), (2, .int x2), (4, .int x4)] → W p l e rmX9_take s m args below meth c H locs 0 0 (M_Mv D a cc A below args s σr) (F0 m 109 ls [.ref (a 0)]) := by
  obtain ⟨hx, hb, hr, hml, hown, hts, hin, hK, hlocks⟩ := id C
  intro hP hD hS hl
  refine lv_iconst (v := (1 : Int32)) hx hb dX9_take_109 (by decide) ?_
  refine lv_goto (tgt := 114) hx hb dX9_take_110 (by decide) ?_
  exact tX9_take_114 C hA h hP hD hS (lv_sub hl [0, 1, 2] rfl)
set_option maxHeartbeats 4000000 in
set_option maxRecDepth 100000 in
theorem tX9_take_113 {p : Program} {l : Launch} {e : Env} {s : State} {m : MethodId} {args : Array Value} {below : List Frame} {meth : Method} {c : Code} {D : va_G} {a : Nat → Nat} {cc : Nat → ClassId} {A : Nat → Prop} {N : Nat} {σr : St} (C : M_Cx RX9 p s m args meth c D cc cX9_take (Cond.code yX9_take cX9_take 5 none :: WM) 5 none) (hA : ∀ q, s.heap.size ≤ q → A q) {σ : St} {x2 : Int32} {x4 : Int32} {H : Heap} {locs : List Loc} {ls : Array Slot} (h : fX9_take_113 N σ x2 x4 = some σr) : va_P D vwCl (wM a cc σ) H → va_D A (wM a cc σ) → va_S A s.heap H locs → lv_has ls 5 [(0, .ref (a 0)), (2, .int x2), (4, .int x4)] → W p l e rmX9_take s m args below meth c H locs 0 0 (M_Mv D a cc A below args s σr) (F0 m 113 ls [.ref (a 0)]) := by
  obtain ⟨hx, hb, hr, hml, hown, hts, hin, hK, hlocks⟩ := id C
  intro hP hD hS hl
  refine lv_iconst (v := (0 : Int32)) hx hb dX9_take_113 (by decide) ?_
  exact tX9_take_114 C hA h hP hD hS (lv_sub hl [0, 1, 2] rfl)
set_option maxHeartbeats 4000000 in
set_option maxRecDepth 100000 in
theorem tX9_take_82 {p : Program} {l : Launch} {e : Env} {s : State} {m : MethodId} {args : Array Value} {below : List Frame} {meth : Method} {c : Code} {D : va_G} {a : Nat → Nat} {cc : Nat → ClassId} {A : Nat → Prop} {N : Nat} {σr : St} (C : M_Cx RX9 p s m args meth c D cc cX9_take (Cond.code yX9_take cX9_take 5 none :: WM) 5 none) (hA : ∀ q, s.heap.size ≤ q → A q) {σ : St} {x1 : Int32} {x2 : Int32} {x4 : Int32} {H : Heap} {locs : List Loc} {ls : Array Slot} (h : fX9_take_82 N σ x1 x2 x4 = some σr) : va_P D vwCl (wM a cc σ) H → va_D A (wM a cc σ) → va_S A s.heap H locs → lv_has ls 5 [(0, .ref (a 0)), (1, .int x1), (2, .int x2), (4, .int x4)] → W p l e rmX9_take s m args below meth c H locs 0 0 (M_Mv D a cc A below args s σr) (F0 m 82 ls []) := by
  obtain ⟨hx, hb, hr, hml, hown, hts, hin, hK, hlocks⟩ := id C
  intro hP hD hS hl
  refine lv_aload_n hx hb dX9_take_82 rfl (lv_at hl 0 rfl) ?_
  refine lv_iload hx hb dX9_take_83 (lv_at hl 3 rfl) ?_
  refine lv_bipush (v := (38 : Int32)) hx hb dX9_take_85 (by decide) ?_
  refine lv_icmp_eq (tgt := 109) hx hb dX9_take_87 (by decide) (fun c40 => ?_) (fun c40 => ?_)
  · have h := ifT c40 h
    exact tX9_take_109 C hA h hP hD hS (lv_sub hl [0, 2, 3] rfl)
  · have h := ifF c40 h
    refine lv_iload hx hb dX9_take_90 (lv_at hl 3 rfl) ?_
    refine lv_bipush (v := (124 : Int32)) hx hb dX9_take_92 (by decide) ?_
    refine lv_icmp_eq (tgt := 109) hx hb dX9_take_94 (by decide) (fun c41 => ?_) (fun c41 => ?_)
    · have h := ifT c41 h
      exact tX9_take_109 C hA h hP hD hS (lv_sub hl [0, 2, 3] rfl)
    · have h := ifF c41 h
      refine lv_iload hx hb dX9_take_97 (lv_at hl 3 rfl) ?_
      refine lv_bipush (v := (87 : Int32)) hx hb dX9_take_99 (by decide) ?_
      refine lv_icmp_ne (tgt := 113) hx hb dX9_take_101 (by decide) (fun c42 => ?_) (fun c42 => ?_)
      · have h := ifF c42 h
        exact tX9_take_113 C hA h hP hD hS (lv_sub hl [0, 2, 3] rfl)
      · have h := ifT c42 h
        refine lv_iload_n hx hb dX9_take_104 rfl (lv_at hl 1 rfl) ?_
        refine lv_iconst (v := (4 : Int32)) hx hb dX9_take_105 (by decide) ?_
        refine lv_icmp_ne (tgt := 113) hx hb dX9_take_106 (by decide) (fun c43 => ?_) (fun c43 => ?_)
        · have h := ifF c43 h
          exact tX9_take_113 C hA h hP hD hS (lv_sub hl [0, 2, 3] rfl)
        · have h := ifT c43 h
          exact tX9_take_109 C hA h hP hD hS (lv_sub hl [0, 2, 3] rfl)
set_option maxHeartbeats 4000000 in
set_option maxRecDepth 100000 in
theorem tX9_take_243 {p : Program} {l : Launch} {e : Env} {s : State} {m : MethodId} {args : Array Value} {below : List Frame} {meth : Method} {c : Code} {D : va_G} {a : Nat → Nat} {cc : Nat → ClassId} {A : Nat → Prop} {N : Nat} {σr : St} (C : M_Cx RX9 p s m args meth c D cc cX9_take (Cond.code yX9_take cX9_take 5 none :: WM) 5 none) (hA : ∀ q, s.heap.size ≤ q → A q) {σ : St} {y0 : Int32} {y1 : Int32} {H : Heap} {locs : List Loc} {ls : Array Slot} (h : fX9_take_243 N σ y0 y1 = some σr) : va_P D vwCl (wM a cc σ) H → va_D A (wM a cc σ) → va_S A s.heap H locs → lv_has ls 5 [] → W p l e rmX9_take s m args below meth c H locs 0 0 (M_Mv D a cc A below args s σr) (F0 m 243 ls [.int y0, .int y1, .ref (a 0)]) := by
  obtain ⟨hx, hb, hr, hml, hown, hts, hin, hK, hlocks⟩ := id C
  intro hP hD hS hl
  refine lv_iadd hx hb dX9_take_243 ?_
  obtain ⟨σ30, eσ30, h⟩ := letS_n h
  refine M_pt11 C hP hD hS eσ30 dX9_take_244 (fun H locs hP hD hS => ?_)
  refine lv_goto (tgt := 380) hx hb dX9_take_247 (by decide) ?_
  exact M_vret C h hP hD hS dX9_take_380
set_option maxHeartbeats 4000000 in
set_option maxRecDepth 100000 in
theorem tX9_take_225 {p : Program} {l : Launch} {e : Env} {s : State} {m : MethodId} {args : Array Value} {below : List Frame} {meth : Method} {c : Code} {D : va_G} {a : Nat → Nat} {cc : Nat → ClassId} {A : Nat → Prop} {N : Nat} {σr : St} (C : M_Cx RX9 p s m args meth c D cc cX9_take (Cond.code yX9_take cX9_take 5 none :: WM) 5 none) (hA : ∀ q, s.heap.size ≤ q → A q) {σ : St} {y0 : Int32} {y1 : Int32} {H : Heap} {locs : List Loc} {ls : Array Slot} (h : fX9_take_225 N σ y0 y1 = some σr) : va_P D vwCl (wM a cc σ) H → va_D A (wM a cc σ) → va_S A s.heap H locs → lv_has ls 5 [(0, .ref (a 0))] → W p l e rmX9_take s m args below meth c H locs 0 0 (M_Mv D a cc A below args s σr) (F0 m 225 ls [.int y0, .int y1, .ref (a 5)]) := by
  obtain ⟨hx, hb, hr, hml, hown, hts, hin, hK, hlocks⟩ := id C
  intro hP hD hS hl
  obtain ⟨g27, h⟩ := grd_s h
  obtain ⟨σ28, eσ28, h⟩ := letS_n h
  refine M_st5 C hP hD hS g27 eσ28 dX9_take_225 (fun H locs hP hD hS => ?_)
  refine lv_aload_n hx hb dX9_take_226 rfl (lv_at hl 0 rfl) ?_
  refine lv_dup hx hb dX9_take_227 rfl ?_
  refine M_gt11 C hP dX9_take_228 ?_
  refine lv_aload_n hx hb dX9_take_231 rfl (lv_at hl 0 rfl) ?_
  refine M_gt12 C hP dX9_take_232 ?_
  refine lv_if_eq (tgt := 242) hx hb dX9_take_235 (by decide) (fun c29 => ?_) (fun c29 => ?_)
  · have h := ifT c29 h
    refine lv_iconst (v := (0 : Int32)) hx hb dX9_take_242 (by decide) ?_
    exact tX9_take_243 C hA h hP hD hS (lv_sub hl [] rfl)
  · have h := ifF c29 h
    refine lv_iconst (v := (1 : Int32)) hx hb dX9_take_238 (by decide) ?_
    refine lv_goto (tgt := 243) hx hb dX9_take_239 (by decide) ?_
    exact tX9_take_243 C hA h hP hD hS (lv_sub hl [] rfl)
set_option maxHeartbeats 4000000 in
set_option maxRecDepth 100000 in
theorem tX9_take_203 {p : Program} {l : Launch} {e : Env} {s : State} {m : MethodId} {args : Array Value} {below : List Frame} {meth : Method} {c : Code} {D : va_G} {a : Nat → Nat} {cc : Nat → ClassId} {A : Nat → Prop} {N : Nat} {σr : St} (C : M_Cx RX9 p s m args meth c D cc cX9_take (Cond.code yX9_take cX9_take 5 none :: WM) 5 none) (hA : ∀ q, s.heap.size ≤ q → A q) {σ : St} {x2 : Int32} {x4 : Int32} {y0 : Int32} {H : Heap} {locs : List Loc} {ls : Array Slot} (h : fX9_take_203 N σ x2 x4 y0 = some σr) : va_P D vwCl (wM a cc σ) H → va_D A (wM a cc σ) → va_S A s.heap H locs → lv_has ls 5 [(0, .ref (a 0)), (2, .int x2), (4, .int x4)] → W p l e rmX9_take s m args below meth c H locs 0 0 (M_Mv D a cc A below args s σr) (F0 m 203 ls [.int y0, .ref (a 0)]) := by
  obtain ⟨hx, hb, hr, hml, hown, hts, hin, hK, hlocks⟩ := id C
  intro hP hD hS hl
  obtain ⟨g25, h⟩ := grd_s h
  obtain ⟨σ24, eσ24, h⟩ := letS_n h
  refine M_pt12 C hP hD hS g25 eσ24 dX9_take_203 (fun H locs hP hD hS => ?_)
  refine lv_aload_n hx hb dX9_take_206 rfl (lv_at hl 0 rfl) ?_
  refine M_gt5 C hP dX9_take_207 ?_
  refine lv_iload_n hx hb dX9_take_210 rfl (lv_at hl 1 rfl) ?_
  refine lv_iload hx hb dX9_take_211 (lv_at hl 2 rfl) ?_
  refine lv_bipush (v := (62 : Int32)) hx hb dX9_take_213 (by decide) ?_
  refine lv_icmp_ne (tgt := 223) hx hb dX9_take_215 (by decide) (fun c26 => ?_) (fun c26 => ?_)
  · have h := ifF c26 h
    refine lv_bipush (v := (9 : Int32)) hx hb dX9_take_223 (by decide) ?_
    exact tX9_take_225 C hA h hP hD hS (lv_sub hl [0] rfl)
  · have h := ifT c26 h
    refine lv_bipush (v := (8 : Int32)) hx hb dX9_take_218 (by decide) ?_
    refine lv_goto (tgt := 225) hx hb dX9_take_220 (by decide) ?_
    exact tX9_take_225 C hA h hP hD hS (lv_sub hl [0] rfl)
set_option maxHeartbeats 4000000 in
set_option maxRecDepth 100000 in
theorem tX9_take_198 {p : Program} {l : Launch} {e : Env} {s : State} {m : MethodId} {args : Array Value} {below : List Frame} {meth : Method} {c : Code} {D : va_G} {a : Nat → Nat} {cc : Nat → ClassId} {A : Nat → Prop} {N : Nat} {σr : St} (C : M_Cx RX9 p s m args meth c D cc cX9_take (Cond.code yX9_take cX9_take 5 none :: WM) 5 none) (hA : ∀ q, s.heap.size ≤ q → A q) {σ : St} {x2 : Int32} {x4 : Int32} {H : Heap} {locs : List Loc} {ls : Array Slot} (h : fX9_take_198 N σ x2 x4 = some σr) : va_P D vwCl (wM a cc σ) H → va_D A (wM a cc σ) → va_S A s.heap H locs → lv_has ls 5 [(0, .ref (a 0)), (2, .int x2), (4, .int x4)] → W p l e rmX9_take s m args below meth c H locs 0 0 (M_Mv D a cc A below args s σr) (F0 m 198 ls [.ref (a 0)]) := by
  obtain ⟨hx, hb, hr, hml, hown, hts, hin, hK, hlocks⟩ := id C
  intro hP hD hS hl
  refine lv_iconst (v := (1 : Int32)) hx hb dX9_take_198 (by decide) ?_
  refine lv_goto (tgt := 203) hx hb dX9_take_199 (by decide) ?_
  exact tX9_take_203 C hA h hP hD hS (lv_sub hl [0, 1, 2] rfl)
set_option maxHeartbeats 4000000 in
set_option maxRecDepth 100000 in
theorem tX9_take_363 {p : Program} {l : Launch} {e : Env} {s : State} {m : MethodId} {args : Array Value} {below : List Frame} {meth : Method} {c : Code} {D : va_G} {a : Nat → Nat} {cc : Nat → ClassId} {A : Nat → Prop} {N : Nat} {σr : St} (C : M_Cx RX9 p s m args meth c D cc cX9_take (Cond.code yX9_take cX9_take 5 none :: WM) 5 none) (hA : ∀ q, s.heap.size ≤ q → A q) {σ : St} {x2 : Int32} {x3 : Int32} {x4 : Int32} {y0 : Int32} {y1 : Int32} {H : Heap} {locs : List Loc} {ls : Array Slot} (h : fX9_take_363 N σ x2 x3 x4 y0 y1 = some σr) : va_P D vwCl (wM a cc σ) H → va_D A (wM a cc σ) → va_S A s.heap H locs → lv_has ls 5 [(0, .ref (a 0)), (2, .int x2), (3, .int x3), (4, .int x4)] → W p l e rmX9_take s m args below meth c H locs 0 0 (M_Mv D a cc A below args s σr) (F0 m 363 ls [.int y0, .int y1, .ref (a 0)]) := by
  obtain ⟨hx, hb, hr, hml, hown, hts, hin, hK, hlocks⟩ := id C
  intro hP hD hS hl
  refine lv_iadd hx hb dX9_take_363 ?_
  obtain ⟨σ37, eσ37, h⟩ := letS_n h
  refine M_pt11 C hP hD hS eσ37 dX9_take_364 (fun H locs hP hD hS => ?_)
  refine lv_iload hx hb dX9_take_367 (lv_at hl 3 rfl) ?_
  refine lv_bipush (v := (47 : Int32)) hx hb dX9_take_369 (by decide) ?_
  refine lv_icmp_ne (tgt := 380) hx hb dX9_take_371 (by decide) (fun c38 => ?_) (fun c38 => ?_)
  · have h := ifF c38 h
    exact M_vret C h hP hD hS dX9_take_380
  · have h := ifT c38 h
    refine lv_aload_n hx hb dX9_take_374 rfl (lv_at hl 0 rfl) ?_
    refine lv_iload_n hx hb dX9_take_375 rfl (lv_at hl 1 rfl) ?_
    refine lv_iload_n hx hb dX9_take_376 rfl (lv_at hl 2 rfl) ?_
    obtain ⟨σ39, hc, h⟩ := bnd1_s h
    refine M_callVv (As := [.int x2, .int x3]) (rest := []) C hA (fun sz => kX9_sequences l sz hc) gX9_sequences hP hD hS ⟨by decide, by decide⟩ ⟨rfl, rfl⟩ rfl hl.1 rfl (lv_room (Nat.le_of_ble_eq_true rfl)) dX9_take_377 (fun H locs hP hD hS => ?_)
    exact M_vret C h hP hD hS dX9_take_380
set_option maxHeartbeats 4000000 in
set_option maxRecDepth 100000 in
theorem tX9_take_343 {p : Program} {l : Launch} {e : Env} {s : State} {m : MethodId} {args : Array Value} {below : List Frame} {meth : Method} {c : Code} {D : va_G} {a : Nat → Nat} {cc : Nat → ClassId} {A : Nat → Prop} {N : Nat} {σr : St} (C : M_Cx RX9 p s m args meth c D cc cX9_take (Cond.code yX9_take cX9_take 5 none :: WM) 5 none) (hA : ∀ q, s.heap.size ≤ q → A q) {σ : St} {x2 : Int32} {x3 : Int32} {x4 : Int32} {y0 : Int32} {H : Heap} {locs : List Loc} {ls : Array Slot} (h : fX9_take_343 N σ x2 x3 x4 y0 = some σr) : va_P D vwCl (wM a cc σ) H → va_D A (wM a cc σ) → va_S A s.heap H locs → lv_has ls 5 [(0, .ref (a 0)), (2, .int x2), (3, .int x3), (4, .int x4)] → W p l e rmX9_take s m args below meth c H locs 0 0 (M_Mv D a cc A below args s σr) (F0 m 343 ls [.int y0, .ref (a 0)]) := by
  obtain ⟨hx, hb, hr, hml, hown, hts, hin, hK, hlocks⟩ := id C
  intro hP hD hS hl
  obtain ⟨g35, h⟩ := grd_s h
  obtain ⟨σ34, eσ34, h⟩ := letS_n h
  refine M_pt12 C hP hD hS g35 eσ34 dX9_take_343 (fun H locs hP hD hS => ?_)
  refine lv_aload_n hx hb dX9_take_346 rfl (lv_at hl 0 rfl) ?_
  refine lv_dup hx hb dX9_take_347 rfl ?_
  refine M_gt11 C hP dX9_take_348 ?_
  refine lv_aload_n hx hb dX9_take_351 rfl (lv_at hl 0 rfl) ?_
  refine M_gt12 C hP dX9_take_352 ?_
  refine lv_if_eq (tgt := 362) hx hb dX9_take_355 (by decide) (fun c36 => ?_) (fun c36 => ?_)
  · have h := ifT c36 h
    refine lv_iconst (v := (0 : Int32)) hx hb dX9_take_362 (by decide) ?_
    exact tX9_take_363 C hA h hP hD hS (lv_sub hl [0, 1, 2, 3] rfl)
  · have h := ifF c36 h
    refine lv_iconst (v := (1 : Int32)) hx hb dX9_take_358 (by decide) ?_
    refine lv_goto (tgt := 363) hx hb dX9_take_359 (by decide) ?_
    exact tX9_take_363 C hA h hP hD hS (lv_sub hl [0, 1, 2, 3] rfl)
set_option maxHeartbeats 4000000 in
set_option maxRecDepth 100000 in
theorem tX9_take_338 {p : Program} {l : Launch} {e : Env} {s : State} {m : MethodId} {args : Array Value} {below : List Frame} {meth : Method} {c : Code} {D : va_G} {a : Nat → Nat} {cc : Nat → ClassId} {A : Nat → Prop} {N : Nat} {σr : St} (C : M_Cx RX9 p s m args meth c D cc cX9_take (Cond.code yX9_take cX9_take 5 none :: WM) 5 none) (hA : ∀ q, s.heap.size ≤ q → A q) {σ : St} {x2 : Int32} {x3 : Int32} {x4 : Int32} {H : Heap} {locs : List Loc} {ls : Array Slot} (h : fX9_take_338 N σ x2 x3 x4 = some σr) : va_P D vwCl (wM a cc σ) H → va_D A (wM a cc σ) → va_S A s.heap H locs → lv_has ls 5 [(0, .ref (a 0)), (2, .int x2), (3, .int x3), (4, .int x4)] → W p l e rmX9_take s m args below meth c H locs 0 0 (M_Mv D a cc A below args s σr) (F0 m 338 ls [.ref (a 0)]) := by
  obtain ⟨hx, hb, hr, hml, hown, hts, hin, hK, hlocks⟩ := id C
  intro hP hD hS hl
  refine lv_iconst (v := (1 : Int32)) hx hb dX9_take_338 (by decide) ?_
  refine lv_goto (tgt := 343) hx hb dX9_take_339 (by decide) ?_
  exact tX9_take_343 C hA h hP hD hS (lv_sub hl [0, 1, 2, 3] rfl)
set_option maxHeartbeats 4000000 in
set_option maxRecDepth 100000 in
theorem tX9_take_317 {p : Program} {l : Launch} {e : Env} {s : State} {m : MethodId} {args : Array Value} {below : List Frame} {meth : Method} {c : Code} {D : va_G} {a : Nat → Nat} {cc : Nat → ClassId} {A : Nat → Prop} {N : Nat} {σr : St} (C : M_Cx RX9 p s m args meth c D cc cX9_take (Cond.code yX9_take cX9_take 5 none :: WM) 5 none) (hA : ∀ q, s.heap.size ≤ q → A q) {σ : St} {x1 : Int32} {x2 : Int32} {x3 : Int32} {x4 : Int32} {H : Heap} {locs : List Loc} {ls : Array Slot} (h : fX9_take_317 N σ x1 x2 x3 x4 = some σr) : va_P D vwCl (wM a cc σ) H → va_D A (wM a cc σ) → va_S A s.heap H locs → lv_has ls 5 [(0, .ref (a 0)), (1, .int x1), (2, .int x2), (3, .int x3), (4, .int x4)] → W p l e rmX9_take s m args below meth c H locs 0 0 (M_Mv D a cc A below args s σr) (F0 m 317 ls []) := by
  obtain ⟨hx, hb, hr, hml, hown, hts, hin, hK, hlocks⟩ := id C
  intro hP hD hS hl
  refine lv_iload_n hx hb dX9_take_317 rfl (lv_at hl 1 rfl) ?_
  refine lv_bipush (v := (10 : Int32)) hx hb dX9_take_318 (by decide) ?_
  refine lv_icmp_ne (tgt := 380) hx hb dX9_take_320 (by decide) (fun c31 => ?_) (fun c31 => ?_)
  · have h := ifF c31 h
    exact M_vret C h hP hD hS dX9_take_380
  · have h := ifT c31 h
    refine lv_aload_n hx hb dX9_take_323 rfl (lv_at hl 0 rfl) ?_
    refine lv_iload hx hb dX9_take_324 (lv_at hl 4 rfl) ?_
    refine lv_bipush (v := (47 : Int32)) hx hb dX9_take_326 (by decide) ?_
    refine lv_icmp_eq (tgt := 338) hx hb dX9_take_328 (by decide) (fun c32 => ?_) (fun c32 => ?_)
    · have h := ifT c32 h
      exact tX9_take_338 C hA h hP hD hS (lv_sub hl [0, 2, 3, 4] rfl)
    · have h := ifF c32 h
      refine lv_iload hx hb dX9_take_331 (lv_at hl 4 rfl) ?_
      refine lv_bipush (v := (93 : Int32)) hx hb dX9_take_333 (by decide) ?_
      refine lv_icmp_ne (tgt := 342) hx hb dX9_take_335 (by decide) (fun c33 => ?_) (fun c33 => ?_)
      · have h := ifF c33 h
        refine lv_iconst (v := (0 : Int32)) hx hb dX9_take_342 (by decide) ?_
        exact tX9_take_343 C hA h hP hD hS (lv_sub hl [0, 2, 3, 4] rfl)
      · have h := ifT c33 h
        exact tX9_take_338 C hA h hP hD hS (lv_sub hl [0, 2, 3, 4] rfl)
set_option maxHeartbeats 4000000 in
set_option maxRecDepth 100000 in
theorem tX9_take {p : Program} {l : Launch} {e : Env} {s : State} {m : MethodId} {args : Array Value} {below : List Frame} {meth : Method} {c : Code} {D : va_G} {a : Nat → Nat} {cc : Nat → ClassId} {A : Nat → Prop} {N : Nat} {σr : St} (C : M_Cx RX9 p s m args meth c D cc cX9_take (Cond.code yX9_take cX9_take 5 none :: WM) 5 none) (hA : ∀ q, s.heap.size ≤ q → A q) {σ : St} {p0 : Int32} {p1 : Int32} {p2 : Int32} {H : Heap} {locs : List Loc} {ls : Array Slot} (h : fX9_take N σ p0 p1 p2 = some σr) : va_P D vwCl (wM a cc σ) H → va_D A (wM a cc σ) → va_S A s.heap H locs → lv_has ls 5 [(0, .ref (a 0)), (1, .int p0), (2, .int p1), (3, .int p2)] → W p l e rmX9_take s m args below meth c H locs 0 0 (M_Mv D a cc A below args s σr) (F0 m 0 ls []) := by
  obtain ⟨hx, hb, hr, hml, hown, hts, hin, hK, hlocks⟩ := id C
  intro hP hD hS hl
  refine lv_aload_n hx hb dX9_take_0 rfl (lv_at hl 0 rfl) ?_
  obtain ⟨r2, σ1, hc, h⟩ := bnd_s h
  refine M_callVi (As := []) (rest := []) C hA (fun sz => kX9_now l sz hc) gX9_now hP hD hS ⟨by decide, by decide⟩ ⟨rfl, rfl⟩ rfl hl.1 rfl (lv_room (Nat.le_of_ble_eq_true rfl)) dX9_take_1 (fun H locs hP hD hS => ?_)
  refine lv_istore (lv' := [(4, .int r2), (0, .ref (a 0)), (1, .int p0), (2, .int p1), (3, .int p2)]) hx hb dX9_take_4 hl (by decide) rfl (fun ls hl => ?_)
  refine lv_iload_n hx hb dX9_take_6 rfl (lv_at hl 2 rfl) ?_
  refine lv_iconst (v := (1 : Int32)) hx hb dX9_take_7 (by decide) ?_
  refine lv_icmp_eq (tgt := 16) hx hb dX9_take_8 (by decide) (fun c3 => ?_) (fun c3 => ?_)
  · have h := ifT c3 h
    exact tX9_take_16 C hA h hP hD hS (lv_sub hl [1, 2, 3, 4, 0] rfl)
  · have h := ifF c3 h
    refine lv_iload_n hx hb dX9_take_11 rfl (lv_at hl 2 rfl) ?_
    refine lv_iconst (v := (2 : Int32)) hx hb dX9_take_12 (by decide) ?_
    refine lv_icmp_ne (tgt := 28) hx hb dX9_take_13 (by decide) (fun c4 => ?_) (fun c4 => ?_)
    · have h := ifF c4 h
      refine lv_iload_n hx hb dX9_take_28 rfl (lv_at hl 2 rfl) ?_
      refine lv_iconst (v := (3 : Int32)) hx hb dX9_take_29 (by decide) ?_
      refine lv_icmp_ne (tgt := 72) hx hb dX9_take_30 (by decide) (fun c5 => ?_) (fun c5 => ?_)
      · have h := ifF c5 h
        refine lv_iload_n hx hb dX9_take_72 rfl (lv_at hl 2 rfl) ?_
        refine lv_iconst (v := (4 : Int32)) hx hb dX9_take_73 (by decide) ?_
        refine lv_icmp_eq (tgt := 82) hx hb dX9_take_74 (by decide) (fun c6 => ?_) (fun c6 => ?_)
        · have h := ifT c6 h
          exact tX9_take_82 C hA h hP hD hS (lv_sub hl [1, 2, 3, 0] rfl)
        · have h := ifF c6 h
          refine lv_iload_n hx hb dX9_take_77 rfl (lv_at hl 2 rfl) ?_
          refine lv_iconst (v := (5 : Int32)) hx hb dX9_take_78 (by decide) ?_
          refine lv_icmp_ne (tgt := 177) hx hb dX9_take_79 (by decide) (fun c7 => ?_) (fun c7 => ?_)
          · have h := ifF c7 h
            refine lv_iload_n hx hb dX9_take_177 rfl (lv_at hl 2 rfl) ?_
            refine lv_bipush (v := (6 : Int32)) hx hb dX9_take_178 (by decide) ?_
            refine lv_icmp_ne (tgt := 250) hx hb dX9_take_180 (by decide) (fun c8 => ?_) (fun c8 => ?_)
            · have h := ifF c8 h
              refine lv_iload_n hx hb dX9_take_250 rfl (lv_at hl 2 rfl) ?_
              refine lv_bipush (v := (7 : Int32)) hx hb dX9_take_251 (by decide) ?_
              refine lv_icmp_ne (tgt := 267) hx hb dX9_take_253 (by decide) (fun c9 => ?_) (fun c9 => ?_)
              · have h := ifF c9 h
                refine lv_iload_n hx hb dX9_take_267 rfl (lv_at hl 2 rfl) ?_
                refine lv_bipush (v := (8 : Int32)) hx hb dX9_take_268 (by decide) ?_
                refine lv_icmp_ne (tgt := 283) hx hb dX9_take_270 (by decide) (fun c10 => ?_) (fun c10 => ?_)
                · have h := ifF c10 h
                  refine lv_iload_n hx hb dX9_take_283 rfl (lv_at hl 2 rfl) ?_
                  refine lv_bipush (v := (9 : Int32)) hx hb dX9_take_284 (by decide) ?_
                  refine lv_icmp_ne (tgt := 317) hx hb dX9_take_286 (by decide) (fun c11 => ?_) (fun c11 => ?_)
                  · have h := ifF c11 h
                    exact tX9_take_317 C hA h hP hD hS (lv_sub hl [1, 2, 3, 4, 0] rfl)
                  · have h := ifT c11 h
                    refine lv_iload hx hb dX9_take_289 (lv_at hl 0 rfl) ?_
                    refine lv_bipush (v := (44 : Int32)) hx hb dX9_take_291 (by decide) ?_
                    refine lv_icmp_ne (tgt := 317) hx hb dX9_take_293 (by decide) (fun c12 => ?_) (fun c12 => ?_)
                    · have h := ifF c12 h
                      exact tX9_take_317 C hA h hP hD hS (lv_sub hl [1, 2, 3, 4, 0] rfl)
                    · have h := ifT c12 h
                      refine lv_aload_n hx hb dX9_take_296 rfl (lv_at hl 1 rfl) ?_
                      refine lv_dup hx hb dX9_take_297 rfl ?_
                      refine M_gt11 C hP dX9_take_298 ?_
                      refine lv_iconst (v := (1 : Int32)) hx hb dX9_take_301 (by decide) ?_
                      refine lv_iadd hx hb dX9_take_302 ?_
                      obtain ⟨σ13, eσ13, h⟩ := letS_n h
                      refine M_pt11 C hP hD hS eσ13 dX9_take_303 (fun H locs hP hD hS => ?_)
                      refine lv_aload_n hx hb dX9_take_306 rfl (lv_at hl 1 rfl) ?_
                      refine lv_bipush (v := (7 : Int32)) hx hb dX9_take_307 (by decide) ?_
                      refine lv_iload_n hx hb dX9_take_309 rfl (lv_at hl 3 rfl) ?_
                      refine lv_iload_n hx hb dX9_take_310 rfl (lv_at hl 4 rfl) ?_
                      obtain ⟨σ14, hc, h⟩ := bnd1_s h
                      refine M_callVv (As := [.int (7 : Int32), .int p1, .int p2]) (rest := []) C hA (fun sz => kX9_expect l sz hc) gX9_expect hP hD hS ⟨by decide, by decide⟩ ⟨rfl, rfl⟩ rfl hl.1 rfl (lv_room (Nat.le_of_ble_eq_true rfl)) dX9_take_311 (fun H locs hP hD hS => ?_)
                      refine lv_goto (tgt := 380) hx hb dX9_take_314 (by decide) ?_
                      exact M_vret C h hP hD hS dX9_take_380
                · have h := ifT c10 h
                  refine lv_aload_n hx hb dX9_take_273 rfl (lv_at hl 1 rfl) ?_
                  refine lv_iload_n hx hb dX9_take_274 rfl (lv_at hl 3 rfl) ?_
                  refine lv_iload hx hb dX9_take_275 (lv_at hl 0 rfl) ?_
                  obtain ⟨σ15, hc, h⟩ := bnd1_s h
                  refine M_callVv (As := [.int p1, .int r2]) (rest := []) C hA (fun sz => kX9_times l sz hc) gX9_times hP hD hS ⟨by decide, by decide⟩ ⟨rfl, rfl⟩ rfl hl.1 rfl (lv_room (Nat.le_of_ble_eq_true rfl)) dX9_take_277 (fun H locs hP hD hS => ?_)
                  refine lv_goto (tgt := 380) hx hb dX9_take_280 (by decide) ?_
                  exact M_vret C h hP hD hS dX9_take_380
              · have h := ifT c9 h
                refine lv_aload_n hx hb dX9_take_256 rfl (lv_at hl 1 rfl) ?_
                refine lv_iload_n hx hb dX9_take_257 rfl (lv_at hl 3 rfl) ?_
                refine lv_iload_n hx hb dX9_take_258 rfl (lv_at hl 4 rfl) ?_
                refine lv_iload hx hb dX9_take_259 (lv_at hl 0 rfl) ?_
                obtain ⟨σ16, hc, h⟩ := bnd1_s h
                refine M_callVv (As := [.int p1, .int p2, .int r2]) (rest := []) C hA (fun sz => kX9_piece l sz hc) gX9_piece hP hD hS ⟨by decide, by decide⟩ ⟨rfl, rfl⟩ rfl hl.1 rfl (lv_room (Nat.le_of_ble_eq_true rfl)) dX9_take_261 (fun H locs hP hD hS => ?_)
                refine lv_goto (tgt := 380) hx hb dX9_take_264 (by decide) ?_
                exact M_vret C h hP hD hS dX9_take_380
            · have h := ifT c8 h
              refine lv_aload_n hx hb dX9_take_183 rfl (lv_at hl 1 rfl) ?_
              refine lv_iload hx hb dX9_take_184 (lv_at hl 0 rfl) ?_
              refine lv_bipush (v := (62 : Int32)) hx hb dX9_take_186 (by decide) ?_
              refine lv_icmp_eq (tgt := 198) hx hb dX9_take_188 (by decide) (fun c17 => ?_) (fun c17 => ?_)
              · have h := ifT c17 h
                exact tX9_take_198 C hA h hP hD hS (lv_sub hl [1, 3, 0] rfl)
              · have h := ifF c17 h
                refine lv_iload hx hb dX9_take_191 (lv_at hl 0 rfl) ?_
                refine lv_bipush (v := (58 : Int32)) hx hb dX9_take_193 (by decide) ?_
                refine lv_icmp_ne (tgt := 202) hx hb dX9_take_195 (by decide) (fun c18 => ?_) (fun c18 => ?_)
                · have h := ifF c18 h
                  refine lv_iconst (v := (0 : Int32)) hx hb dX9_take_202 (by decide) ?_
                  exact tX9_take_203 C hA h hP hD hS (lv_sub hl [1, 3, 0] rfl)
                · have h := ifT c18 h
                  exact tX9_take_198 C hA h hP hD hS (lv_sub hl [1, 3, 0] rfl)
          · have h := ifT c7 h
            exact tX9_take_82 C hA h hP hD hS (lv_sub hl [1, 2, 3, 0] rfl)
      · have h := ifT c5 h
        refine lv_aload_n hx hb dX9_take_33 rfl (lv_at hl 1 rfl) ?_
        refine lv_iload hx hb dX9_take_34 (lv_at hl 0 rfl) ?_
        refine lv_iload_n hx hb dX9_take_36 rfl (lv_at hl 3 rfl) ?_
        refine lv_icmp_ne (tgt := 44) hx hb dX9_take_37 (by decide) (fun c19 => ?_) (fun c19 => ?_)
        · have h := ifF c19 h
          refine lv_iconst (v := (0 : Int32)) hx hb dX9_take_44 (by decide) ?_
          exact tX9_take_45 C hA h hP hD hS (lv_sub hl [1] rfl)
        · have h := ifT c19 h
          refine lv_iconst (v := (1 : Int32)) hx hb dX9_take_40 (by decide) ?_
          refine lv_goto (tgt := 45) hx hb dX9_take_41 (by decide) ?_
          exact tX9_take_45 C hA h hP hD hS (lv_sub hl [1] rfl)
    · have h := ifT c4 h
      exact tX9_take_16 C hA h hP hD hS (lv_sub hl [1, 2, 3, 4, 0] rfl)
set_option maxRecDepth 100000 in
theorem kX9_take (l : Launch) (sz : Nat) {D : va_G} {a : Nat → Nat} {cc : Nat → ClassId} {N : Nat} {σr : St} {σ : St} {p0 : Int32} {p1 : Int32} {p2 : Int32} (h : fX9_take N σ p0 p1 p2 = some σr) : Met l yX9_take ((Cond.code yX9_take cX9_take 5 none :: WM)) rmX9_take (M_Pc D a cc [.ref (a 0), .int p0, .int p1, .int p2] σ sz) (M_Qv D a cc σ sz σr) 0 0 (va_A (wM a cc σ) sz) := by
  refine Met.ofW (cc := cX9_take) (maxL := 5) (ret := none) (by decide) rfl ?_
  intro p e s m args below meth c s₁ B hml hv
  obtain ⟨rfl, hsz, hP, hK, hD0⟩ := hv
  subst hsz
  have hl := lv_entry ([.ref (a 0), .int p0, .int p1, .int p2]) (n := 5) (Nat.le_of_ble_eq_true rfl)
  rw [lg_entry_eq]
  generalize (lg_sl ([.ref (a 0), .int p0, .int p1, .int p2]) ++ List.replicate (5 - (lg_sl ([.ref (a 0), .int p0, .int p1, .int p2])).length) Slot.unset).toArray = ls at hl ⊢
  exact tX9_take ⟨B.exec, B.bytes, B.returns, hml, findClass_of_methodNamed B.named, atoms_spec (ws := (Cond.code yX9_take cX9_take 5 none :: WM)) B.pre, (fun w h => List.mem_cons_of_mem _ (inWM w h)), hK, B.notSynchronized⟩ (fun q h => Or.inr h) h hP hD0.self va_S.rf hl
set_option maxHeartbeats 4000000 in
set_option maxRecDepth 100000 in
theorem tX9_read_109 {p : Program} {l : Launch} {e : Env} {s : State} {m : MethodId} {args : Array Value} {below : List Frame} {meth : Method} {c : Code} {D : va_G} {a : Nat → Nat} {cc : Nat → ClassId} {A : Nat → Prop} {N : Nat} {σr : St} (C : M_Cx RX9 p s m args meth c D cc cX9_read (Cond.code yX9_read cX9_read 1 none :: WM) 1 none) (hA : ∀ q, s.heap.size ≤ q → A q) {σ : St} {y0 : Int32} {H : Heap} {locs : List Loc} {ls : Array Slot} (h : fX9_read_109 N σ y0 = some σr) : va_P D vwCl (wM a cc σ) H → va_D A (wM a cc σ) → va_S A s.heap H locs → lv_has ls 1 [] → W p l e rmX9_read s m args below meth c H locs 0 0 (M_Mv D a cc A below args s σr) (F0 m 109 ls [.int y0, .ref (a 0)]) := by
  obtain ⟨hx, hb, hr, hml, hown, hts, hin, hK, hlocks⟩ := id C
  intro hP hD hS hl
  obtain ⟨g17, h⟩ := grd_s h
  obtain ⟨σ16, eσ16, h⟩ := letS_n h
  refine M_pt12 C hP hD hS g17 eσ16 dX9_read_109 (fun H locs hP hD hS => ?_)
  exact M_vret C h hP hD hS dX9_read_112
set_option maxHeartbeats 4000000 in
set_option maxRecDepth 100000 in
theorem tX9_read_108 {p : Program} {l : Launch} {e : Env} {s : State} {m : MethodId} {args : Array Value} {below : List Frame} {meth : Method} {c : Code} {D : va_G} {a : Nat → Nat} {cc : Nat → ClassId} {A : Nat → Prop} {N : Nat} {σr : St} (C : M_Cx RX9 p s m args meth c D cc cX9_read (Cond.code yX9_read cX9_read 1 none :: WM) 1 none) (hA : ∀ q, s.heap.size ≤ q → A q) {σ : St} {H : Heap} {locs : List Loc} {ls : Array Slot} (h : fX9_read_108 N σ = some σr) : va_P D vwCl (wM a cc σ) H → va_D A (wM a cc σ) → va_S A s.heap H locs → lv_has ls 1 [] → W p l e rmX9_read s m args below meth c H locs 0 0 (M_Mv D a cc A below args s σr) (F0 m 108 ls [.ref (a 0)]) := by
  obtain ⟨hx, hb, hr, hml, hown, hts, hin, hK, hlocks⟩ := id C
  intro hP hD hS hl
  refine lv_iconst (v := (0 : Int32)) hx hb dX9_read_108 (by decide) ?_
  exact tX9_read_109 C hA h hP hD hS (lv_sub hl [] rfl)
set_option maxHeartbeats 4000000 in
set_option maxRecDepth 100000 in
theorem tX9_read_85 {p : Program} {l : Launch} {e : Env} {s : State} {m : MethodId} {args : Array Value} {below : List Frame} {meth : Method} {c : Code} {D : va_G} {a : Nat → Nat} {cc : Nat → ClassId} {A : Nat → Prop} {N : Nat} {σr : St} (C : M_Cx RX9 p s m args meth c D cc cX9_read (Cond.code yX9_read cX9_read 1 none :: WM) 1 none) (hA : ∀ q, s.heap.size ≤ q → A q) {σ : St} {H : Heap} {locs : List Loc} {ls : Array Slot} (h : fX9_read_85 N σ = some σr) : va_P D vwCl (wM a cc σ) H → va_D A (wM a cc σ) → va_S A s.heap H locs → lv_has ls 1 [(0, .ref (a 0))] → W p l e rmX9_read s m args below meth c H locs 0 0 (M_Mv D a cc A below args s σr) (F0 m 85 ls []) := by
  obtain ⟨hx, hb, hr, hml, hown, hts, hin, hK, hlocks⟩ := id C
  intro hP hD hS hl
  refine lv_aload_n hx hb dX9_read_85 rfl (lv_at hl 0 rfl) ?_
  refine lv_aload_n hx hb dX9_read_86 rfl (lv_at hl 0 rfl) ?_
  refine M_gt12 C hP dX9_read_87 ?_
  refine lv_if_eq (tgt := 108) hx hb dX9_read_90 (by decide) (fun c14 => ?_) (fun c14 => ?_)
  · have h := ifT c14 h
    exact tX9_read_108 C hA h hP hD hS (lv_sub hl [] rfl)
  · have h := ifF c14 h
    refine lv_aload_n hx hb dX9_read_93 rfl (lv_at hl 0 rfl) ?_
    refine M_gt11 C hP dX9_read_94 ?_
    refine lv_aload_n hx hb dX9_read_97 rfl (lv_at hl 0 rfl) ?_
    refine M_gt2 C hP dX9_read_98 ?_
    refine lv_icmp_ne (tgt := 108) hx hb dX9_read_101 (by decide) (fun c15 => ?_) (fun c15 => ?_)
    · have h := ifF c15 h
      exact tX9_read_108 C hA h hP hD hS (lv_sub hl [] rfl)
    · have h := ifT c15 h
      refine lv_iconst (v := (1 : Int32)) hx hb dX9_read_104 (by decide) ?_
      refine lv_goto (tgt := 109) hx hb dX9_read_105 (by decide) ?_
      exact tX9_read_109 C hA h hP hD hS (lv_sub hl [] rfl)
set_option maxHeartbeats 4000000 in
set_option maxRecDepth 100000 in
theorem tX9_read_27 {p : Program} {l : Launch} {e : Env} {s : State} {m : MethodId} {args : Array Value} {below : List Frame} {meth : Method} {c : Code} {D : va_G} {a : Nat → Nat} {cc : Nat → ClassId} {A : Nat → Prop} {N : Nat} {σr : St} (C : M_Cx RX9 p s m args meth c D cc cX9_read (Cond.code yX9_read cX9_read 1 none :: WM) 1 none) (hA : ∀ q, s.heap.size ≤ q → A q) : ∀ (n : Nat) {σ : St} {H : Heap} {locs : List Loc} {ls : Array Slot}, fX9_read_27 N n σ = some σr → va_P D vwCl (wM a cc σ) H → va_D A (wM a cc σ) → va_S A s.heap H locs → lv_has ls 1 [(0, .ref (a 0))] → W p l e rmX9_read s m args below meth c H locs 0 0 (M_Mv D a cc A below args s σr) (F0 m 27 ls []) := by
  obtain ⟨hx, hb, hr, hml, hown, hts, hin, hK, hlocks⟩ := id C
  intro n
  induction n with
  | zero => intro σ H locs ls h; exact none_s h
  | succ n ih =>
    intro σ H locs ls h hP hD hS hl
    refine lv_aload_n hx hb dX9_read_27 rfl (lv_at hl 0 rfl) ?_
    refine M_gt12 C hP dX9_read_28 ?_
    refine lv_if_eq (tgt := 85) hx hb dX9_read_31 (by decide) (fun c7 => ?_) (fun c7 => ?_)
    · have h := ifT c7 h
      exact tX9_read_85 C hA h hP hD hS (lv_sub hl [0] rfl)
    · have h := ifF c7 h
      refine lv_aload_n hx hb dX9_read_34 rfl (lv_at hl 0 rfl) ?_
      refine M_gt13 C hP dX9_read_35 ?_
      refine lv_if_le (tgt := 85) hx hb dX9_read_38 (by decide) (fun c8 => ?_) (fun c8 => ?_)
      · have h := ifT c8 h
        exact tX9_read_85 C hA h hP hD hS (lv_sub hl [0] rfl)
      · have h := ifF c8 h
        refine lv_aload_n hx hb dX9_read_41 rfl (lv_at hl 0 rfl) ?_
        refine lv_dup hx hb dX9_read_42 rfl ?_
        refine M_gt13 C hP dX9_read_43 ?_
        refine lv_iconst (v := (1 : Int32)) hx hb dX9_read_46 (by decide) ?_
        refine lv_isub hx hb dX9_read_47 ?_
        obtain ⟨σ9, eσ9, h⟩ := letS_n h
        refine M_pt13 C hP hD hS eσ9 dX9_read_48 (fun H locs hP hD hS => ?_)
        refine lv_aload_n hx hb dX9_read_51 rfl (lv_at hl 0 rfl) ?_
        refine lv_aload_n hx hb dX9_read_52 rfl (lv_at hl 0 rfl) ?_
        refine M_gt14 C hP dX9_read_53 ?_
        refine lv_aload_n hx hb dX9_read_56 rfl (lv_at hl 0 rfl) ?_
        refine M_gt13 C hP dX9_read_57 ?_
        obtain ⟨g10, h⟩ := grd_s h
        refine M_ld14 C hP g10 dX9_read_60 ?_
        refine lv_aload_n hx hb dX9_read_61 rfl (lv_at hl 0 rfl) ?_
        refine M_gt15 C hP dX9_read_62 ?_
        refine lv_aload_n hx hb dX9_read_65 rfl (lv_at hl 0 rfl) ?_
        refine M_gt13 C hP dX9_read_66 ?_
        obtain ⟨g11, h⟩ := grd_s h
        refine M_ld15 C hP g11 dX9_read_69 ?_
        refine lv_aload_n hx hb dX9_read_70 rfl (lv_at hl 0 rfl) ?_
        refine M_gt16 C hP dX9_read_71 ?_
        refine lv_aload_n hx hb dX9_read_74 rfl (lv_at hl 0 rfl) ?_
        refine M_gt13 C hP dX9_read_75 ?_
        obtain ⟨g12, h⟩ := grd_s h
        refine M_ld16 C hP g12 dX9_read_78 ?_
        obtain ⟨σ13, hc, h⟩ := bnd1_s h
        refine M_callVv (As := [.int (gI σ9 14 (gI σ9 13 0).toNatClampNeg), .int (gI σ9 15 (gI σ9 13 0).toNatClampNeg), .int (gI σ9 16 (gI σ9 13 0).toNatClampNeg)]) (rest := []) C hA (fun sz => kX9_take l sz hc) gX9_take hP hD hS ⟨by decide, by decide⟩ ⟨rfl, rfl⟩ rfl hl.1 rfl (lv_room (Nat.le_of_ble_eq_true rfl)) dX9_read_79 (fun H locs hP hD hS => ?_)
        refine lv_goto (tgt := 27) hx hb dX9_read_82 (by decide) ?_
        exact ih h hP hD hS (lv_sub hl [0] rfl)
set_option maxHeartbeats 4000000 in
set_option maxRecDepth 100000 in
theorem tX9_read {p : Program} {l : Launch} {e : Env} {s : State} {m : MethodId} {args : Array Value} {below : List Frame} {meth : Method} {c : Code} {D : va_G} {a : Nat → Nat} {cc : Nat → ClassId} {A : Nat → Prop} {N : Nat} {σr : St} (C : M_Cx RX9 p s m args meth c D cc cX9_read (Cond.code yX9_read cX9_read 1 none :: WM) 1 none) (hA : ∀ q, s.heap.size ≤ q → A q) {σ : St} {H : Heap} {locs : List Loc} {ls : Array Slot} (h : fX9_read N σ = some σr) : va_P D vwCl (wM a cc σ) H → va_D A (wM a cc σ) → va_S A s.heap H locs → lv_has ls 1 [(0, .ref (a 0))] → W p l e rmX9_read s m args below meth c H locs 0 0 (M_Mv D a cc A below args s σr) (F0 m 0 ls []) := by
  obtain ⟨hx, hb, hr, hml, hown, hts, hin, hK, hlocks⟩ := id C
  intro hP hD hS hl
  refine lv_aload_n hx hb dX9_read_0 rfl (lv_at hl 0 rfl) ?_
  refine lv_iconst (v := (0 : Int32)) hx hb dX9_read_1 (by decide) ?_
  obtain ⟨σ1, eσ1, h⟩ := letS_n h
  refine M_pt4 C hP hD hS eσ1 dX9_read_2 (fun H locs hP hD hS => ?_)
  refine lv_aload_n hx hb dX9_read_5 rfl (lv_at hl 0 rfl) ?_
  refine lv_iconst (v := (0 : Int32)) hx hb dX9_read_6 (by decide) ?_
  obtain ⟨σ2, eσ2, h⟩ := letS_n h
  refine M_pt11 C hP hD hS eσ2 dX9_read_7 (fun H locs hP hD hS => ?_)
  refine lv_aload_n hx hb dX9_read_10 rfl (lv_at hl 0 rfl) ?_
  refine lv_iconst (v := (0 : Int32)) hx hb dX9_read_11 (by decide) ?_
  obtain ⟨σ3, eσ3, h⟩ := letS_n h
  refine M_pt13 C hP hD hS eσ3 dX9_read_12 (fun H locs hP hD hS => ?_)
  refine lv_aload_n hx hb dX9_read_15 rfl (lv_at hl 0 rfl) ?_
  refine lv_iconst (v := (1 : Int32)) hx hb dX9_read_16 (by decide) ?_
  obtain ⟨g5, h⟩ := grd_s h
  obtain ⟨σ4, eσ4, h⟩ := letS_n h
  refine M_pt12 C hP hD hS g5 eσ4 dX9_read_17 (fun H locs hP hD hS => ?_)
  refine lv_aload_n hx hb dX9_read_20 rfl (lv_at hl 0 rfl) ?_
  refine lv_iconst (v := (1 : Int32)) hx hb dX9_read_21 (by decide) ?_
  refine lv_iconst (v := (-1 : Int32)) hx hb dX9_read_22 (by decide) ?_
  refine lv_iconst (v := (0 : Int32)) hx hb dX9_read_23 (by decide) ?_
  obtain ⟨σ6, hc, h⟩ := bnd1_s h
  refine M_callVv (As := [.int (1 : Int32), .int (-1 : Int32), .int (0 : Int32)]) (rest := []) C hA (fun sz => kX9_expect l sz hc) gX9_expect hP hD hS ⟨by decide, by decide⟩ ⟨rfl, rfl⟩ rfl hl.1 rfl (lv_room (Nat.le_of_ble_eq_true rfl)) dX9_read_24 (fun H locs hP hD hS => ?_)
  exact tX9_read_27 C hA N h hP hD hS (lv_sub hl [0] rfl)
set_option maxRecDepth 100000 in
theorem kX9_read (l : Launch) (sz : Nat) {D : va_G} {a : Nat → Nat} {cc : Nat → ClassId} {N : Nat} {σr : St} {σ : St} (h : fX9_read N σ = some σr) : Met l yX9_read ((Cond.code yX9_read cX9_read 1 none :: WM)) rmX9_read (M_Pc D a cc [.ref (a 0)] σ sz) (M_Qv D a cc σ sz σr) 0 0 (va_A (wM a cc σ) sz) := by
  refine Met.ofW (cc := cX9_read) (maxL := 1) (ret := none) (by decide) rfl ?_
  intro p e s m args below meth c s₁ B hml hv
  obtain ⟨rfl, hsz, hP, hK, hD0⟩ := hv
  subst hsz
  have hl := lv_entry ([.ref (a 0)]) (n := 1) (Nat.le_of_ble_eq_true rfl)
  rw [lg_entry_eq]
  generalize (lg_sl ([.ref (a 0)]) ++ List.replicate (1 - (lg_sl ([.ref (a 0)])).length) Slot.unset).toArray = ls at hl ⊢
  exact tX9_read ⟨B.exec, B.bytes, B.returns, hml, findClass_of_methodNamed B.named, atoms_spec (ws := (Cond.code yX9_read cX9_read 1 none :: WM)) B.pre, (fun w h => List.mem_cons_of_mem _ (inWM w h)), hK, B.notSynchronized⟩ (fun q h => Or.inr h) h hP hD0.self va_S.rf hl
set_option maxHeartbeats 4000000 in
set_option maxRecDepth 100000 in
theorem tX9_oblige {p : Program} {l : Launch} {e : Env} {s : State} {m : MethodId} {args : Array Value} {below : List Frame} {meth : Method} {c : Code} {D : va_G} {a : Nat → Nat} {cc : Nat → ClassId} {A : Nat → Prop} {N : Nat} {σr : St} (C : M_Cx RX9 p s m args meth c D cc cX9_oblige (Cond.code yX9_oblige cX9_oblige 2 none :: WM) 2 none) (hA : ∀ q, s.heap.size ≤ q → A q) {σ : St} {p0 : Int32} {H : Heap} {locs : List Loc} {ls : Array Slot} (h : fX9_oblige N σ p0 = some σr) : va_P D vwCl (wM a cc σ) H → va_D A (wM a cc σ) → va_S A s.heap H locs → lv_has ls 2 [(0, .ref (a 0)), (1, .int p0)] → W p l e rmX9_oblige s m args below meth c H locs 0 0 (M_Mv D a cc A below args s σr) (F0 m 0 ls []) := by
  obtain ⟨hx, hb, hr, hml, hown, hts, hin, hK, hlocks⟩ := id C
  intro hP hD hS hl
  refine lv_iload_n hx hb dX9_oblige_0 rfl (lv_at hl 1 rfl) ?_
  refine lv_if_lt (tgt := 22) hx hb dX9_oblige_1 (by decide) (fun c1 => ?_) (fun c1 => ?_)
  · have h := ifT c1 h
    exact M_vret C h hP hD hS dX9_oblige_22
  · have h := ifF c1 h
    refine lv_aload_n hx hb dX9_oblige_4 rfl (lv_at hl 0 rfl) ?_
    refine M_gt18 C hP dX9_oblige_5 ?_
    refine lv_iload_n hx hb dX9_oblige_8 rfl (lv_at hl 1 rfl) ?_
    obtain ⟨g2, h⟩ := grd_s h
    refine M_ld18 C hP g2 dX9_oblige_9 ?_
    refine lv_if_ge (tgt := 22) hx hb dX9_oblige_10 (by decide) (fun c3 => ?_) (fun c3 => ?_)
    · have h := ifT c3 h
      exact M_vret C h hP hD hS dX9_oblige_22
    · have h := ifF c3 h
      refine lv_aload_n hx hb dX9_oblige_13 rfl (lv_at hl 0 rfl) ?_
      refine M_gt17 C hP dX9_oblige_14 ?_
      refine lv_bipush (v := (9 : Int32)) hx hb dX9_oblige_17 (by decide) ?_
      refine lv_icmp_le (tgt := 23) hx hb dX9_oblige_19 (by decide) (fun c4 => ?_) (fun c4 => ?_)
      · have h := ifT c4 h
        refine lv_aload_n hx hb dX9_oblige_23 rfl (lv_at hl 0 rfl) ?_
        refine M_gt18 C hP dX9_oblige_24 ?_
        refine lv_iload_n hx hb dX9_oblige_27 rfl (lv_at hl 1 rfl) ?_
        refine lv_aload_n hx hb dX9_oblige_28 rfl (lv_at hl 0 rfl) ?_
        refine M_gt17 C hP dX9_oblige_29 ?_
        obtain ⟨g5, h⟩ := grd_s h
        obtain ⟨σ6, eσ6, h⟩ := letS_n h
        refine M_st18 C hP hD hS g5 eσ6 dX9_oblige_32 (fun H locs hP hD hS => ?_)
        refine lv_aload_n hx hb dX9_oblige_33 rfl (lv_at hl 0 rfl) ?_
        refine M_gt19 C hP dX9_oblige_34 ?_
        refine lv_aload_n hx hb dX9_oblige_37 rfl (lv_at hl 0 rfl) ?_
        refine M_gt17 C hP dX9_oblige_38 ?_
        refine lv_iload_n hx hb dX9_oblige_41 rfl (lv_at hl 1 rfl) ?_
        obtain ⟨g7, h⟩ := grd_s h
        obtain ⟨σ8, eσ8, h⟩ := letS_n h
        refine M_st19 C hP hD hS g7 eσ8 dX9_oblige_42 (fun H locs hP hD hS => ?_)
        refine lv_aload_n hx hb dX9_oblige_43 rfl (lv_at hl 0 rfl) ?_
        refine lv_dup hx hb dX9_oblige_44 rfl ?_
        refine M_gt17 C hP dX9_oblige_45 ?_
        refine lv_iconst (v := (1 : Int32)) hx hb dX9_oblige_48 (by decide) ?_
        refine lv_iadd hx hb dX9_oblige_49 ?_
        obtain ⟨σ9, eσ9, h⟩ := letS_n h
        refine M_pt17 C hP hD hS eσ9 dX9_oblige_50 (fun H locs hP hD hS => ?_)
        exact M_vret C h hP hD hS dX9_oblige_53
      · have h := ifF c4 h
        exact M_vret C h hP hD hS dX9_oblige_22
set_option maxRecDepth 100000 in
theorem kX9_oblige (l : Launch) (sz : Nat) {D : va_G} {a : Nat → Nat} {cc : Nat → ClassId} {N : Nat} {σr : St} {σ : St} {p0 : Int32} (h : fX9_oblige N σ p0 = some σr) : Met l yX9_oblige ((Cond.code yX9_oblige cX9_oblige 2 none :: WM)) rmX9_oblige (M_Pc D a cc [.ref (a 0), .int p0] σ sz) (M_Qv D a cc σ sz σr) 0 0 (va_A (wM a cc σ) sz) := by
  refine Met.ofW (cc := cX9_oblige) (maxL := 2) (ret := none) (by decide) rfl ?_
  intro p e s m args below meth c s₁ B hml hv
  obtain ⟨rfl, hsz, hP, hK, hD0⟩ := hv
  subst hsz
  have hl := lv_entry ([.ref (a 0), .int p0]) (n := 2) (Nat.le_of_ble_eq_true rfl)
  rw [lg_entry_eq]
  generalize (lg_sl ([.ref (a 0), .int p0]) ++ List.replicate (2 - (lg_sl ([.ref (a 0), .int p0])).length) Slot.unset).toArray = ls at hl ⊢
  exact tX9_oblige ⟨B.exec, B.bytes, B.returns, hml, findClass_of_methodNamed B.named, atoms_spec (ws := (Cond.code yX9_oblige cX9_oblige 2 none :: WM)) B.pre, (fun w h => List.mem_cons_of_mem _ (inWM w h)), hK, B.notSynchronized⟩ (fun q h => Or.inr h) h hP hD0.self va_S.rf hl
set_option maxHeartbeats 4000000 in
set_option maxRecDepth 100000 in
theorem tX9_enter_34 {p : Program} {l : Launch} {e : Env} {s : State} {m : MethodId} {args : Array Value} {below : List Frame} {meth : Method} {c : Code} {D : va_G} {a : Nat → Nat} {cc : Nat → ClassId} {A : Nat → Prop} {N : Nat} {σr : St} (C : M_Cx RX9 p s m args meth c D cc cX9_enter (Cond.code yX9_enter cX9_enter 2 none :: WM) 2 none) (hA : ∀ q, s.heap.size ≤ q → A q) {σ : St} {y0 : Int32} {y1 : Int32} {H : Heap} {locs : List Loc} {ls : Array Slot} (h : fX9_enter_34 N σ y0 y1 = some σr) : va_P D vwCl (wM a cc σ) H → va_D A (wM a cc σ) → va_S A s.heap H locs → lv_has ls 2 [(0, .ref (a 0))] → W p l e rmX9_enter s m args below meth c H locs 0 0 (M_Mv D a cc A below args s σr) (F0 m 34 ls [.int y0, .int y1, .ref (a 26)]) := by
  obtain ⟨hx, hb, hr, hml, hown, hts, hin, hK, hlocks⟩ := id C
  intro hP hD hS hl
  obtain ⟨g5, h⟩ := grd_s h
  obtain ⟨σ6, eσ6, h⟩ := letS_n h
  refine M_st26 C hP hD hS g5 eσ6 dX9_enter_34 (fun H locs hP hD hS => ?_)
  refine lv_aload_n hx hb dX9_enter_35 rfl (lv_at hl 0 rfl) ?_
  refine lv_dup hx hb dX9_enter_36 rfl ?_
  refine M_gt24 C hP dX9_enter_37 ?_
  refine lv_iconst (v := (1 : Int32)) hx hb dX9_enter_40 (by decide) ?_
  refine lv_iadd hx hb dX9_enter_41 ?_
  obtain ⟨σ7, eσ7, h⟩ := letS_n h
  refine M_pt24 C hP hD hS eσ7 dX9_enter_42 (fun H locs hP hD hS => ?_)
  exact M_vret C h hP hD hS dX9_enter_45
set_option maxHeartbeats 4000000 in
set_option maxRecDepth 100000 in
theorem tX9_enter {p : Program} {l : Launch} {e : Env} {s : State} {m : MethodId} {args : Array Value} {below : List Frame} {meth : Method} {c : Code} {D : va_G} {a : Nat → Nat} {cc : Nat → ClassId} {A : Nat → Prop} {N : Nat} {σr : St} (C : M_Cx RX9 p s m args meth c D cc cX9_enter (Cond.code yX9_enter cX9_enter 2 none :: WM) 2 none) (hA : ∀ q, s.heap.size ≤ q → A q) {σ : St} {p0 : Int32} {H : Heap} {locs : List Loc} {ls : Array Slot} (h : fX9_enter N σ p0 = some σr) : va_P D vwCl (wM a cc σ) H → va_D A (wM a cc σ) → va_S A s.heap H locs → lv_has ls 2 [(0, .ref (a 0)), (1, .int p0)] → W p l e rmX9_enter s m args below meth c H locs 0 0 (M_Mv D a cc A below args s σr) (F0 m 0 ls []) := by
  obtain ⟨hx, hb, hr, hml, hown, hts, hin, hK, hlocks⟩ := id C
  intro hP hD hS hl
  refine lv_aload_n hx hb dX9_enter_0 rfl (lv_at hl 0 rfl) ?_
  refine M_gt25 C hP dX9_enter_1 ?_
  refine lv_aload_n hx hb dX9_enter_4 rfl (lv_at hl 0 rfl) ?_
  refine M_gt24 C hP dX9_enter_5 ?_
  refine lv_iload_n hx hb dX9_enter_8 rfl (lv_at hl 1 rfl) ?_
  obtain ⟨g1, h⟩ := grd_s h
  obtain ⟨σ2, eσ2, h⟩ := letS_n h
  refine M_st25 C hP hD hS g1 eσ2 dX9_enter_9 (fun H locs hP hD hS => ?_)
  refine lv_aload_n hx hb dX9_enter_10 rfl (lv_at hl 0 rfl) ?_
  refine M_gt26 C hP dX9_enter_11 ?_
  refine lv_aload_n hx hb dX9_enter_14 rfl (lv_at hl 0 rfl) ?_
  refine M_gt24 C hP dX9_enter_15 ?_
  refine lv_aload_n hx hb dX9_enter_18 rfl (lv_at hl 0 rfl) ?_
  refine M_gt5 C hP dX9_enter_19 ?_
  refine lv_iload_n hx hb dX9_enter_22 rfl (lv_at hl 1 rfl) ?_
  obtain ⟨g3, h⟩ := grd_s h
  refine M_ld5 C hP g3 dX9_enter_23 ?_
  refine lv_bipush (v := (11 : Int32)) hx hb dX9_enter_24 (by decide) ?_
  refine lv_icmp_ne (tgt := 33) hx hb dX9_enter_26 (by decide) (fun c4 => ?_) (fun c4 => ?_)
  · have h := ifF c4 h
    refine lv_iconst (v := (-1 : Int32)) hx hb dX9_enter_33 (by decide) ?_
    exact tX9_enter_34 C hA h hP hD hS (lv_sub hl [0] rfl)
  · have h := ifT c4 h
    refine lv_iconst (v := (0 : Int32)) hx hb dX9_enter_29 (by decide) ?_
    refine lv_goto (tgt := 34) hx hb dX9_enter_30 (by decide) ?_
    exact tX9_enter_34 C hA h hP hD hS (lv_sub hl [0] rfl)
set_option maxRecDepth 100000 in
theorem kX9_enter (l : Launch) (sz : Nat) {D : va_G} {a : Nat → Nat} {cc : Nat → ClassId} {N : Nat} {σr : St} {σ : St} {p0 : Int32} (h : fX9_enter N σ p0 = some σr) : Met l yX9_enter ((Cond.code yX9_enter cX9_enter 2 none :: WM)) rmX9_enter (M_Pc D a cc [.ref (a 0), .int p0] σ sz) (M_Qv D a cc σ sz σr) 0 0 (va_A (wM a cc σ) sz) := by
  refine Met.ofW (cc := cX9_enter) (maxL := 2) (ret := none) (by decide) rfl ?_
  intro p e s m args below meth c s₁ B hml hv
  obtain ⟨rfl, hsz, hP, hK, hD0⟩ := hv
  subst hsz
  have hl := lv_entry ([.ref (a 0), .int p0]) (n := 2) (Nat.le_of_ble_eq_true rfl)
  rw [lg_entry_eq]
  generalize (lg_sl ([.ref (a 0), .int p0]) ++ List.replicate (2 - (lg_sl ([.ref (a 0), .int p0])).length) Slot.unset).toArray = ls at hl ⊢
  exact tX9_enter ⟨B.exec, B.bytes, B.returns, hml, findClass_of_methodNamed B.named, atoms_spec (ws := (Cond.code yX9_enter cX9_enter 2 none :: WM)) B.pre, (fun w h => List.mem_cons_of_mem _ (inWM w h)), hK, B.notSynchronized⟩ (fun q h => Or.inr h) h hP hD0.self va_S.rf hl
set_option maxHeartbeats 4000000 in
set_option maxRecDepth 100000 in
theorem tX9_follow_29 {p : Program} {l : Launch} {e : Env} {s : State} {m : MethodId} {args : Array Value} {below : List Frame} {meth : Method} {c : Code} {D : va_G} {a : Nat → Nat} {cc : Nat → ClassId} {A : Nat → Prop} {N : Nat} {σr : St} {k2 : St → Int32 → Int32 → Int32 → Option St} (C : M_Cx RX9 p s m args meth c D cc cX9_follow (Cond.code yX9_follow cX9_follow 4 none :: WM) 4 none) (hA : ∀ q, s.heap.size ≤ q → A q) (hk2 : ∀ {σ : St} {x1 : Int32} {x2 : Int32} {x3 : Int32} {H : Heap} {locs : List Loc} {ls : Array Slot}, k2 σ x1 x2 x3 = some σr → va_P D vwCl (wM a cc σ) H → va_D A (wM a cc σ) → va_S A s.heap H locs → lv_has ls 4 [(0, .ref (a 0)), (1, .int x1), (2, .int x2), (3, .int x3)] → W p l e rmX9_follow s m args below meth c H locs 0 0 (M_Mv D a cc A below args s σr) (F0 m 2 ls [])) {σ : St} {x1 : Int32} {x2 : Int32} {x3 : Int32} {H : Heap} {locs : List Loc} {ls : Array Slot} (h : fX9_follow_29 N k2 σ x1 x2 x3 = some σr) : va_P D vwCl (wM a cc σ) H → va_D A (wM a cc σ) → va_S A s.heap H locs → lv_has ls 4 [(0, .ref (a 0)), (1, .int x1), (2, .int x2), (3, .int x3)] → W p l e rmX9_follow s m args below meth c H locs 0 0 (M_Mv D a cc A below args s σr) (F0 m 29 ls []) := by
  obtain ⟨hx, hb, hr, hml, hown, hts, hin, hK, hlocks⟩ := id C
  intro hP hD hS hl
  obtain ⟨u6, eu6, h⟩ := letS_n h
  refine lv_iinc (v := u6) (lv' := [(3, .int u6), (0, .ref (a 0)), (1, .int x1), (2, .int x2)]) hx hb dX9_follow_29 hl (k := 3) rfl (by rw [eu6]; rfl) (by decide) rfl (fun ls hl => ?_)
  refine lv_goto (tgt := 2) hx hb dX9_follow_32 (by decide) ?_
  exact hk2 h hP hD hS (lv_sub hl [1, 2, 3, 0] rfl)
set_option maxHeartbeats 4000000 in
set_option maxRecDepth 100000 in
theorem tX9_follow_2 {p : Program} {l : Launch} {e : Env} {s : State} {m : MethodId} {args : Array Value} {below : List Frame} {meth : Method} {c : Code} {D : va_G} {a : Nat → Nat} {cc : Nat → ClassId} {A : Nat → Prop} {N : Nat} {σr : St} (C : M_Cx RX9 p s m args meth c D cc cX9_follow (Cond.code yX9_follow cX9_follow 4 none :: WM) 4 none) (hA : ∀ q, s.heap.size ≤ q → A q) : ∀ (n : Nat) {σ : St} {x1 : Int32} {x2 : Int32} {x3 : Int32} {H : Heap} {locs : List Loc} {ls : Array Slot}, fX9_follow_2 N n σ x1 x2 x3 = some σr → va_P D vwCl (wM a cc σ) H → va_D A (wM a cc σ) → va_S A s.heap H locs → lv_has ls 4 [(0, .ref (a 0)), (1, .int x1), (2, .int x2), (3, .int x3)] → W p l e rmX9_follow s m args below meth c H locs 0 0 (M_Mv D a cc A below args s σr) (F0 m 2 ls []) := by
  obtain ⟨hx, hb, hr, hml, hown, hts, hin, hK, hlocks⟩ := id C
  intro n
  induction n with
  | zero => intro σ x1 x2 x3 H locs ls h; exact none_s h
  | succ n ih =>
    intro σ x1 x2 x3 H locs ls h hP hD hS hl
    refine lv_iload_n hx hb dX9_follow_2 rfl (lv_at hl 3 rfl) ?_
    refine lv_aload_n hx hb dX9_follow_3 rfl (lv_at hl 0 rfl) ?_
    refine M_gt17 C hP dX9_follow_4 ?_
    refine lv_icmp_ge (tgt := 35) hx hb dX9_follow_7 (by decide) (fun c1 => ?_) (fun c1 => ?_)
    · have h := ifT c1 h
      exact M_vret C h hP hD hS dX9_follow_35
    · have h := ifF c1 h
      refine lv_iload_n hx hb dX9_follow_10 rfl (lv_at hl 1 rfl) ?_
      refine lv_iload_n hx hb dX9_follow_11 rfl (lv_at hl 3 rfl) ?_
      refine lv_ishr hx hb dX9_follow_12 ?_
      refine lv_iconst (v := (1 : Int32)) hx hb dX9_follow_13 (by decide) ?_
      refine lv_iand hx hb dX9_follow_14 ?_
      refine lv_iconst (v := (1 : Int32)) hx hb dX9_follow_15 (by decide) ?_
      refine lv_icmp_ne (tgt := 29) hx hb dX9_follow_16 (by decide) (fun c2 => ?_) (fun c2 => ?_)
      · have h := ifF c2 h
        exact tX9_follow_29 C hA ih h hP hD hS (lv_sub hl [0, 1, 2, 3] rfl)
      · have h := ifT c2 h
        refine lv_aload_n hx hb dX9_follow_19 rfl (lv_at hl 0 rfl) ?_
        refine M_gt21 C hP dX9_follow_20 ?_
        refine lv_iload_n hx hb dX9_follow_23 rfl (lv_at hl 3 rfl) ?_
        refine lv_dup2_11 hx hb dX9_follow_24 rfl rfl ?_
        obtain ⟨g3, h⟩ := grd_s h
        refine M_ld21 C hP g3 dX9_follow_25 ?_
        refine lv_iload_n hx hb dX9_follow_26 rfl (lv_at hl 2 rfl) ?_
        refine lv_ior hx hb dX9_follow_27 ?_
        obtain ⟨g4, h⟩ := grd_s h
        obtain ⟨σ5, eσ5, h⟩ := letS_n h
        refine M_st21 C hP hD hS g4 eσ5 dX9_follow_28 (fun H locs hP hD hS => ?_)
        exact tX9_follow_29 C hA ih h hP hD hS (lv_sub hl [0, 1, 2, 3] rfl)
set_option maxHeartbeats 4000000 in
set_option maxRecDepth 100000 in
theorem tX9_follow {p : Program} {l : Launch} {e : Env} {s : State} {m : MethodId} {args : Array Value} {below : List Frame} {meth : Method} {c : Code} {D : va_G} {a : Nat → Nat} {cc : Nat → ClassId} {A : Nat → Prop} {N : Nat} {σr : St} (C : M_Cx RX9 p s m args meth c D cc cX9_follow (Cond.code yX9_follow cX9_follow 4 none :: WM) 4 none) (hA : ∀ q, s.heap.size ≤ q → A q) {σ : St} {p0 : Int32} {p1 : Int32} {H : Heap} {locs : List Loc} {ls : Array Slot} (h : fX9_follow N σ p0 p1 = some σr) : va_P D vwCl (wM a cc σ) H → va_D A (wM a cc σ) → va_S A s.heap H locs → lv_has ls 4 [(0, .ref (a 0)), (1, .int p0), (2, .int p1)] → W p l e rmX9_follow s m args below meth c H locs 0 0 (M_Mv D a cc A below args s σr) (F0 m 0 ls []) := by
  obtain ⟨hx, hb, hr, hml, hown, hts, hin, hK, hlocks⟩ := id C
  intro hP hD hS hl
  refine lv_iconst (v := (0 : Int32)) hx hb dX9_follow_0 (by decide) ?_
  refine lv_istore_n (lv' := [(3, .int (0 : Int32)), (0, .ref (a 0)), (1, .int p0), (2, .int p1)]) hx hb dX9_follow_1 rfl hl (by decide) rfl (fun ls hl => ?_)
  exact tX9_follow_2 C hA N h hP hD hS (lv_sub hl [1, 2, 3, 0] rfl)
set_option maxRecDepth 100000 in
theorem kX9_follow (l : Launch) (sz : Nat) {D : va_G} {a : Nat → Nat} {cc : Nat → ClassId} {N : Nat} {σr : St} {σ : St} {p0 : Int32} {p1 : Int32} (h : fX9_follow N σ p0 p1 = some σr) : Met l yX9_follow ((Cond.code yX9_follow cX9_follow 4 none :: WM)) rmX9_follow (M_Pc D a cc [.ref (a 0), .int p0, .int p1] σ sz) (M_Qv D a cc σ sz σr) 0 0 (va_A (wM a cc σ) sz) := by
  refine Met.ofW (cc := cX9_follow) (maxL := 4) (ret := none) (by decide) rfl ?_
  intro p e s m args below meth c s₁ B hml hv
  obtain ⟨rfl, hsz, hP, hK, hD0⟩ := hv
  subst hsz
  have hl := lv_entry ([.ref (a 0), .int p0, .int p1]) (n := 4) (Nat.le_of_ble_eq_true rfl)
  rw [lg_entry_eq]
  generalize (lg_sl ([.ref (a 0), .int p0, .int p1]) ++ List.replicate (4 - (lg_sl ([.ref (a 0), .int p0, .int p1])).length) Slot.unset).toArray = ls at hl ⊢
  exact tX9_follow ⟨B.exec, B.bytes, B.returns, hml, findClass_of_methodNamed B.named, atoms_spec (ws := (Cond.code yX9_follow cX9_follow 4 none :: WM)) B.pre, (fun w h => List.mem_cons_of_mem _ (inWM w h)), hK, B.notSynchronized⟩ (fun q h => Or.inr h) h hP hD0.self va_S.rf hl
set_option maxHeartbeats 4000000 in
set_option maxRecDepth 100000 in
theorem tX9_list_187 {p : Program} {l : Launch} {e : Env} {s : State} {m : MethodId} {args : Array Value} {below : List Frame} {meth : Method} {c : Code} {D : va_G} {a : Nat → Nat} {cc : Nat → ClassId} {A : Nat → Prop} {N : Nat} {σr : St} (C : M_Cx RX9 p s m args meth c D cc cX9_list (Cond.code yX9_list cX9_list 6 none :: WM) 6 none) (hA : ∀ q, s.heap.size ≤ q → A q) {σ : St} {x3 : Int32} {H : Heap} {locs : List Loc} {ls : Array Slot} (h : fX9_list_187 N σ x3 = some σr) : va_P D vwCl (wM a cc σ) H → va_D A (wM a cc σ) → va_S A s.heap H locs → lv_has ls 6 [(0, .ref (a 0)), (3, .int x3)] → W p l e rmX9_list s m args below meth c H locs 0 0 (M_Mv D a cc A below args s σr) (F0 m 187 ls []) := by
  obtain ⟨hx, hb, hr, hml, hown, hts, hin, hK, hlocks⟩ := id C
  intro hP hD hS hl
  refine lv_aload_n hx hb dX9_list_187 rfl (lv_at hl 0 rfl) ?_
  refine M_gt26 C hP dX9_list_188 ?_
  refine lv_aload_n hx hb dX9_list_191 rfl (lv_at hl 0 rfl) ?_
  refine M_gt24 C hP dX9_list_192 ?_
  refine lv_iconst (v := (1 : Int32)) hx hb dX9_list_195 (by decide) ?_
  refine lv_isub hx hb dX9_list_196 ?_
  refine lv_iload_n hx hb dX9_list_197 rfl (lv_at hl 1 rfl) ?_
  obtain ⟨g31, h⟩ := grd_s h
  obtain ⟨σ32, eσ32, h⟩ := letS_n h
  refine M_st26 C hP hD hS g31 eσ32 dX9_list_198 (fun H locs hP hD hS => ?_)
  refine lv_iload_n hx hb dX9_list_199 rfl (lv_at hl 1 rfl) ?_
  refine lv_if_lt (tgt := 211) hx hb dX9_list_200 (by decide) (fun c33 => ?_) (fun c33 => ?_)
  · have h := ifT c33 h
    refine lv_aload_n hx hb dX9_list_211 rfl (lv_at hl 0 rfl) ?_
    refine lv_dup hx hb dX9_list_212 rfl ?_
    refine M_gt24 C hP dX9_list_213 ?_
    refine lv_iconst (v := (1 : Int32)) hx hb dX9_list_216 (by decide) ?_
    refine lv_isub hx hb dX9_list_217 ?_
    obtain ⟨σ34, eσ34, h⟩ := letS_n h
    refine M_pt24 C hP hD hS eσ34 dX9_list_218 (fun H locs hP hD hS => ?_)
    exact M_vret C h hP hD hS dX9_list_221
  · have h := ifF c33 h
    refine lv_aload_n hx hb dX9_list_203 rfl (lv_at hl 0 rfl) ?_
    refine lv_iload_n hx hb dX9_list_204 rfl (lv_at hl 1 rfl) ?_
    obtain ⟨σ35, hc, h⟩ := bnd1_s h
    refine M_callVv (As := [.int x3]) (rest := []) C hA (fun sz => kX9_enter l sz hc) gX9_enter hP hD hS ⟨by decide, by decide⟩ ⟨rfl, rfl⟩ rfl hl.1 rfl (lv_room (Nat.le_of_ble_eq_true rfl)) dX9_list_205 (fun H locs hP hD hS => ?_)
    refine lv_goto (tgt := 221) hx hb dX9_list_208 (by decide) ?_
    exact M_vret C h hP hD hS dX9_list_221
set_option maxHeartbeats 4000000 in
set_option maxRecDepth 100000 in
theorem tX9_list_176 {p : Program} {l : Launch} {e : Env} {s : State} {m : MethodId} {args : Array Value} {below : List Frame} {meth : Method} {c : Code} {D : va_G} {a : Nat → Nat} {cc : Nat → ClassId} {A : Nat → Prop} {N : Nat} {σr : St} (C : M_Cx RX9 p s m args meth c D cc cX9_list (Cond.code yX9_list cX9_list 6 none :: WM) 6 none) (hA : ∀ q, s.heap.size ≤ q → A q) {σ : St} {x3 : Int32} {y0 : Int32} {y1 : Int32} {H : Heap} {locs : List Loc} {ls : Array Slot} (h : fX9_list_176 N σ x3 y0 y1 = some σr) : va_P D vwCl (wM a cc σ) H → va_D A (wM a cc σ) → va_S A s.heap H locs → lv_has ls 6 [(0, .ref (a 0)), (3, .int x3)] → W p l e rmX9_list s m args below meth c H locs 0 0 (M_Mv D a cc A below args s σr) (F0 m 176 ls [.int y0, .int y1, .ref (a 29)]) := by
  obtain ⟨hx, hb, hr, hml, hown, hts, hin, hK, hlocks⟩ := id C
  intro hP hD hS hl
  obtain ⟨g28, h⟩ := grd_s h
  obtain ⟨σ29, eσ29, h⟩ := letS_n h
  refine M_st29 C hP hD hS g28 eσ29 dX9_list_176 (fun H locs hP hD hS => ?_)
  refine lv_aload_n hx hb dX9_list_177 rfl (lv_at hl 0 rfl) ?_
  refine lv_dup hx hb dX9_list_178 rfl ?_
  refine M_gt27 C hP dX9_list_179 ?_
  refine lv_iconst (v := (1 : Int32)) hx hb dX9_list_182 (by decide) ?_
  refine lv_isub hx hb dX9_list_183 ?_
  obtain ⟨σ30, eσ30, h⟩ := letS_n h
  refine M_pt27 C hP hD hS eσ30 dX9_list_184 (fun H locs hP hD hS => ?_)
  exact tX9_list_187 C hA h hP hD hS (lv_sub hl [0, 1] rfl)
set_option maxHeartbeats 4000000 in
set_option maxRecDepth 100000 in
theorem tX9_list_133 {p : Program} {l : Launch} {e : Env} {s : State} {m : MethodId} {args : Array Value} {below : List Frame} {meth : Method} {c : Code} {D : va_G} {a : Nat → Nat} {cc : Nat → ClassId} {A : Nat → Prop} {N : Nat} {σr : St} (C : M_Cx RX9 p s m args meth c D cc cX9_list (Cond.code yX9_list cX9_list 6 none :: WM) 6 none) (hA : ∀ q, s.heap.size ≤ q → A q) {σ : St} {x1 : Int32} {x3 : Int32} {x4 : Int32} {x5 : Int32} {y0 : Int32} {y1 : Int32} {H : Heap} {locs : List Loc} {ls : Array Slot} (h : fX9_list_133 N σ x1 x3 x4 x5 y0 y1 = some σr) : va_P D vwCl (wM a cc σ) H → va_D A (wM a cc σ) → va_S A s.heap H locs → lv_has ls 6 [(0, .ref (a 0)), (1, .int x1), (3, .int x3), (4, .int x4), (5, .int x5)] → W p l e rmX9_list s m args below meth c H locs 0 0 (M_Mv D a cc A below args s σr) (F0 m 133 ls [.int y0, .int y1, .ref (a 28)]) := by
  obtain ⟨hx, hb, hr, hml, hown, hts, hin, hK, hlocks⟩ := id C
  intro hP hD hS hl
  obtain ⟨g21, h⟩ := grd_s h
  obtain ⟨σ22, eσ22, h⟩ := letS_n h
  refine M_st28 C hP hD hS g21 eσ22 dX9_list_133 (fun H locs hP hD hS => ?_)
  refine lv_aload_n hx hb dX9_list_134 rfl (lv_at hl 0 rfl) ?_
  refine M_gt29 C hP dX9_list_135 ?_
  refine lv_iload hx hb dX9_list_138 (lv_at hl 3 rfl) ?_
  refine lv_aload_n hx hb dX9_list_140 rfl (lv_at hl 0 rfl) ?_
  refine M_gt5 C hP dX9_list_141 ?_
  refine lv_iload_n hx hb dX9_list_144 rfl (lv_at hl 1 rfl) ?_
  obtain ⟨g23, h⟩ := grd_s h
  refine M_ld5 C hP g23 dX9_list_145 ?_
  refine lv_bipush (v := (10 : Int32)) hx hb dX9_list_146 (by decide) ?_
  refine lv_icmp_ne (tgt := 161) hx hb dX9_list_148 (by decide) (fun c24 => ?_) (fun c24 => ?_)
  · have h := ifF c24 h
    refine lv_aload_n hx hb dX9_list_161 rfl (lv_at hl 0 rfl) ?_
    refine M_gt29 C hP dX9_list_162 ?_
    refine lv_iload hx hb dX9_list_165 (lv_at hl 3 rfl) ?_
    obtain ⟨g25, h⟩ := grd_s h
    refine M_ld29 C hP g25 dX9_list_167 ?_
    refine lv_aload_n hx hb dX9_list_168 rfl (lv_at hl 0 rfl) ?_
    refine M_gt29 C hP dX9_list_169 ?_
    refine lv_iload hx hb dX9_list_172 (lv_at hl 4 rfl) ?_
    obtain ⟨g26, h⟩ := grd_s h
    refine M_ld29 C hP g26 dX9_list_174 ?_
    refine lv_ior hx hb dX9_list_175 ?_
    exact tX9_list_176 C hA h hP hD hS (lv_sub hl [0, 2] rfl)
  · have h := ifT c24 h
    refine lv_aload_n hx hb dX9_list_151 rfl (lv_at hl 0 rfl) ?_
    refine M_gt29 C hP dX9_list_152 ?_
    refine lv_iload hx hb dX9_list_155 (lv_at hl 4 rfl) ?_
    obtain ⟨g27, h⟩ := grd_s h
    refine M_ld29 C hP g27 dX9_list_157 ?_
    refine lv_goto (tgt := 176) hx hb dX9_list_158 (by decide) ?_
    exact tX9_list_176 C hA h hP hD hS (lv_sub hl [0, 2] rfl)
set_option maxHeartbeats 4000000 in
set_option maxRecDepth 100000 in
theorem tX9_list_91 {p : Program} {l : Launch} {e : Env} {s : State} {m : MethodId} {args : Array Value} {below : List Frame} {meth : Method} {c : Code} {D : va_G} {a : Nat → Nat} {cc : Nat → ClassId} {A : Nat → Prop} {N : Nat} {σr : St} (C : M_Cx RX9 p s m args meth c D cc cX9_list (Cond.code yX9_list cX9_list 6 none :: WM) 6 none) (hA : ∀ q, s.heap.size ≤ q → A q) {σ : St} {x1 : Int32} {x3 : Int32} {x4 : Int32} {x5 : Int32} {H : Heap} {locs : List Loc} {ls : Array Slot} (h : fX9_list_91 N σ x1 x3 x4 x5 = some σr) : va_P D vwCl (wM a cc σ) H → va_D A (wM a cc σ) → va_S A s.heap H locs → lv_has ls 6 [(0, .ref (a 0)), (1, .int x1), (3, .int x3), (4, .int x4), (5, .int x5)] → W p l e rmX9_list s m args below meth c H locs 0 0 (M_Mv D a cc A below args s σr) (F0 m 91 ls []) := by
  obtain ⟨hx, hb, hr, hml, hown, hts, hin, hK, hlocks⟩ := id C
  intro hP hD hS hl
  refine lv_aload_n hx hb dX9_list_91 rfl (lv_at hl 0 rfl) ?_
  refine M_gt28 C hP dX9_list_92 ?_
  refine lv_iload hx hb dX9_list_95 (lv_at hl 3 rfl) ?_
  refine lv_aload_n hx hb dX9_list_97 rfl (lv_at hl 0 rfl) ?_
  refine M_gt5 C hP dX9_list_98 ?_
  refine lv_iload_n hx hb dX9_list_101 rfl (lv_at hl 1 rfl) ?_
  obtain ⟨g16, h⟩ := grd_s h
  refine M_ld5 C hP g16 dX9_list_102 ?_
  refine lv_bipush (v := (10 : Int32)) hx hb dX9_list_103 (by decide) ?_
  refine lv_icmp_ne (tgt := 118) hx hb dX9_list_105 (by decide) (fun c17 => ?_) (fun c17 => ?_)
  · have h := ifF c17 h
    refine lv_aload_n hx hb dX9_list_118 rfl (lv_at hl 0 rfl) ?_
    refine M_gt28 C hP dX9_list_119 ?_
    refine lv_iload hx hb dX9_list_122 (lv_at hl 3 rfl) ?_
    obtain ⟨g18, h⟩ := grd_s h
    refine M_ld28 C hP g18 dX9_list_124 ?_
    refine lv_aload_n hx hb dX9_list_125 rfl (lv_at hl 0 rfl) ?_
    refine M_gt28 C hP dX9_list_126 ?_
    refine lv_iload hx hb dX9_list_129 (lv_at hl 4 rfl) ?_
    obtain ⟨g19, h⟩ := grd_s h
    refine M_ld28 C hP g19 dX9_list_131 ?_
    refine lv_ior hx hb dX9_list_132 ?_
    exact tX9_list_133 C hA h hP hD hS (lv_sub hl [0, 1, 2, 3, 4] rfl)
  · have h := ifT c17 h
    refine lv_aload_n hx hb dX9_list_108 rfl (lv_at hl 0 rfl) ?_
    refine M_gt28 C hP dX9_list_109 ?_
    refine lv_iload hx hb dX9_list_112 (lv_at hl 3 rfl) ?_
    obtain ⟨g20, h⟩ := grd_s h
    refine M_ld28 C hP g20 dX9_list_114 ?_
    refine lv_goto (tgt := 133) hx hb dX9_list_115 (by decide) ?_
    exact tX9_list_133 C hA h hP hD hS (lv_sub hl [0, 1, 2, 3, 4] rfl)
set_option maxHeartbeats 4000000 in
set_option maxRecDepth 100000 in
theorem tX9_list_31 {p : Program} {l : Launch} {e : Env} {s : State} {m : MethodId} {args : Array Value} {below : List Frame} {meth : Method} {c : Code} {D : va_G} {a : Nat → Nat} {cc : Nat → ClassId} {A : Nat → Prop} {N : Nat} {σr : St} (C : M_Cx RX9 p s m args meth c D cc cX9_list (Cond.code yX9_list cX9_list 6 none :: WM) 6 none) (hA : ∀ q, s.heap.size ≤ q → A q) {σ : St} {x1 : Int32} {x2 : Int32} {y0 : Int32} {H : Heap} {locs : List Loc} {ls : Array Slot} (h : fX9_list_31 N σ x1 x2 y0 = some σr) : va_P D vwCl (wM a cc σ) H → va_D A (wM a cc σ) → va_S A s.heap H locs → lv_has ls 6 [(0, .ref (a 0)), (1, .int x1), (2, .int x2)] → W p l e rmX9_list s m args below meth c H locs 0 0 (M_Mv D a cc A below args s σr) (F0 m 31 ls [.int y0]) := by
  obtain ⟨hx, hb, hr, hml, hown, hts, hin, hK, hlocks⟩ := id C
  intro hP hD hS hl
  refine lv_istore_n (lv' := [(3, .int y0), (0, .ref (a 0)), (1, .int x1), (2, .int x2)]) hx hb dX9_list_31 rfl hl (by decide) rfl (fun ls hl => ?_)
  refine lv_iload_n hx hb dX9_list_32 rfl (lv_at hl 3 rfl) ?_
  refine lv_if_lt (tgt := 187) hx hb dX9_list_33 (by decide) (fun c6 => ?_) (fun c6 => ?_)
  · have h := ifT c6 h
    exact tX9_list_187 C hA h hP hD hS (lv_sub hl [1, 0] rfl)
  · have h := ifF c6 h
    refine lv_iload_n hx hb dX9_list_36 rfl (lv_at hl 3 rfl) ?_
    refine lv_aload_n hx hb dX9_list_37 rfl (lv_at hl 1 rfl) ?_
    refine M_gt6 C hP dX9_list_38 ?_
    refine lv_iload_n hx hb dX9_list_41 rfl (lv_at hl 2 rfl) ?_
    obtain ⟨g7, h⟩ := grd_s h
    refine M_ld6 C hP g7 dX9_list_42 ?_
    refine lv_icmp_eq (tgt := 187) hx hb dX9_list_43 (by decide) (fun c8 => ?_) (fun c8 => ?_)
    · have h := ifT c8 h
      exact tX9_list_187 C hA h hP hD hS (lv_sub hl [1, 0] rfl)
    · have h := ifF c8 h
      refine lv_aload_n hx hb dX9_list_46 rfl (lv_at hl 1 rfl) ?_
      refine M_gt27 C hP dX9_list_47 ?_
      refine lv_iconst (v := (2 : Int32)) hx hb dX9_list_50 (by decide) ?_
      refine lv_isub hx hb dX9_list_51 ?_
      obtain ⟨u9, eu9, h⟩ := letS_n h
      refine lv_topE eu9 ?_
      refine lv_istore (lv' := [(4, .int u9), (3, .int y0), (0, .ref (a 0)), (1, .int x1), (2, .int x2)]) hx hb dX9_list_52 hl (by decide) rfl (fun ls hl => ?_)
      refine lv_aload_n hx hb dX9_list_54 rfl (lv_at hl 2 rfl) ?_
      refine M_gt27 C hP dX9_list_55 ?_
      refine lv_iconst (v := (1 : Int32)) hx hb dX9_list_58 (by decide) ?_
      refine lv_isub hx hb dX9_list_59 ?_
      obtain ⟨u10, eu10, h⟩ := letS_n h
      refine lv_topE eu10 ?_
      refine lv_istore (lv' := [(5, .int u10), (4, .int u9), (3, .int y0), (0, .ref (a 0)), (1, .int x1), (2, .int x2)]) hx hb dX9_list_60 hl (by decide) rfl (fun ls hl => ?_)
      refine lv_aload_n hx hb dX9_list_62 rfl (lv_at hl 3 rfl) ?_
      refine M_gt5 C hP dX9_list_63 ?_
      refine lv_iload_n hx hb dX9_list_66 rfl (lv_at hl 4 rfl) ?_
      obtain ⟨g11, h⟩ := grd_s h
      refine M_ld5 C hP g11 dX9_list_67 ?_
      refine lv_bipush (v := (10 : Int32)) hx hb dX9_list_68 (by decide) ?_
      refine lv_icmp_ne (tgt := 91) hx hb dX9_list_70 (by decide) (fun c12 => ?_) (fun c12 => ?_)
      · have h := ifF c12 h
        exact tX9_list_91 C hA h hP hD hS (lv_sub hl [3, 4, 2, 1, 0] rfl)
      · have h := ifT c12 h
        refine lv_aload_n hx hb dX9_list_73 rfl (lv_at hl 3 rfl) ?_
        refine lv_aload_n hx hb dX9_list_74 rfl (lv_at hl 3 rfl) ?_
        refine M_gt29 C hP dX9_list_75 ?_
        refine lv_iload hx hb dX9_list_78 (lv_at hl 1 rfl) ?_
        obtain ⟨g13, h⟩ := grd_s h
        refine M_ld29 C hP g13 dX9_list_80 ?_
        refine lv_aload_n hx hb dX9_list_81 rfl (lv_at hl 3 rfl) ?_
        refine M_gt28 C hP dX9_list_82 ?_
        refine lv_iload hx hb dX9_list_85 (lv_at hl 0 rfl) ?_
        obtain ⟨g14, h⟩ := grd_s h
        refine M_ld28 C hP g14 dX9_list_87 ?_
        obtain ⟨σ15, hc, h⟩ := bnd1_s h
        refine M_callVv (As := [.int (gI σ 29 u9.toNatClampNeg), .int (gI σ 28 u10.toNatClampNeg)]) (rest := []) C hA (fun sz => kX9_follow l sz hc) gX9_follow hP hD hS ⟨by decide, by decide⟩ ⟨rfl, rfl⟩ rfl hl.1 rfl (lv_room (Nat.le_of_ble_eq_true rfl)) dX9_list_88 (fun H locs hP hD hS => ?_)
        exact tX9_list_91 C hA h hP hD hS (lv_sub hl [3, 4, 2, 1, 0] rfl)
set_option maxHeartbeats 4000000 in
set_option maxRecDepth 100000 in
theorem tX9_list {p : Program} {l : Launch} {e : Env} {s : State} {m : MethodId} {args : Array Value} {below : List Frame} {meth : Method} {c : Code} {D : va_G} {a : Nat → Nat} {cc : Nat → ClassId} {A : Nat → Prop} {N : Nat} {σr : St} (C : M_Cx RX9 p s m args meth c D cc cX9_list (Cond.code yX9_list cX9_list 6 none :: WM) 6 none) (hA : ∀ q, s.heap.size ≤ q → A q) {σ : St} {p0 : Int32} {H : Heap} {locs : List Loc} {ls : Array Slot} (h : fX9_list N σ p0 = some σr) : va_P D vwCl (wM a cc σ) H → va_D A (wM a cc σ) → va_S A s.heap H locs → lv_has ls 6 [(0, .ref (a 0)), (1, .int p0)] → W p l e rmX9_list s m args below meth c H locs 0 0 (M_Mv D a cc A below args s σr) (F0 m 0 ls []) := by
  obtain ⟨hx, hb, hr, hml, hown, hts, hin, hK, hlocks⟩ := id C
  intro hP hD hS hl
  refine lv_aload_n hx hb dX9_list_0 rfl (lv_at hl 0 rfl) ?_
  refine M_gt26 C hP dX9_list_1 ?_
  refine lv_aload_n hx hb dX9_list_4 rfl (lv_at hl 0 rfl) ?_
  refine M_gt24 C hP dX9_list_5 ?_
  refine lv_iconst (v := (1 : Int32)) hx hb dX9_list_8 (by decide) ?_
  refine lv_isub hx hb dX9_list_9 ?_
  obtain ⟨g1, h⟩ := grd_s h
  refine M_ld26 C hP g1 dX9_list_10 ?_
  obtain ⟨u2, eu2, h⟩ := letS_n h
  refine lv_topE eu2 ?_
  refine lv_istore_n (lv' := [(2, .int u2), (0, .ref (a 0)), (1, .int p0)]) hx hb dX9_list_11 rfl hl (by decide) rfl (fun ls hl => ?_)
  refine lv_iload_n hx hb dX9_list_12 rfl (lv_at hl 0 rfl) ?_
  refine lv_if_ge (tgt := 25) hx hb dX9_list_13 (by decide) (fun c3 => ?_) (fun c3 => ?_)
  · have h := ifT c3 h
    refine lv_aload_n hx hb dX9_list_25 rfl (lv_at hl 1 rfl) ?_
    refine M_gt8 C hP dX9_list_26 ?_
    refine lv_iload_n hx hb dX9_list_29 rfl (lv_at hl 0 rfl) ?_
    obtain ⟨g4, h⟩ := grd_s h
    refine M_ld8 C hP g4 dX9_list_30 ?_
    exact tX9_list_31 C hA h hP hD hS (lv_sub hl [1, 2, 0] rfl)
  · have h := ifF c3 h
    refine lv_aload_n hx hb dX9_list_16 rfl (lv_at hl 1 rfl) ?_
    refine M_gt6 C hP dX9_list_17 ?_
    refine lv_iload_n hx hb dX9_list_20 rfl (lv_at hl 2 rfl) ?_
    obtain ⟨g5, h⟩ := grd_s h
    refine M_ld6 C hP g5 dX9_list_21 ?_
    refine lv_goto (tgt := 31) hx hb dX9_list_22 (by decide) ?_
    exact tX9_list_31 C hA h hP hD hS (lv_sub hl [1, 2, 0] rfl)
set_option maxRecDepth 100000 in
theorem kX9_list (l : Launch) (sz : Nat) {D : va_G} {a : Nat → Nat} {cc : Nat → ClassId} {N : Nat} {σr : St} {σ : St} {p0 : Int32} (h : fX9_list N σ p0 = some σr) : Met l yX9_list ((Cond.code yX9_list cX9_list 6 none :: WM)) rmX9_list (M_Pc D a cc [.ref (a 0), .int p0] σ sz) (M_Qv D a cc σ sz σr) 0 0 (va_A (wM a cc σ) sz) := by
  refine Met.ofW (cc := cX9_list) (maxL := 6) (ret := none) (by decide) rfl ?_
  intro p e s m args below meth c s₁ B hml hv
  obtain ⟨rfl, hsz, hP, hK, hD0⟩ := hv
  subst hsz
  have hl := lv_entry ([.ref (a 0), .int p0]) (n := 6) (Nat.le_of_ble_eq_true rfl)
  rw [lg_entry_eq]
  generalize (lg_sl ([.ref (a 0), .int p0]) ++ List.replicate (6 - (lg_sl ([.ref (a 0), .int p0])).length) Slot.unset).toArray = ls at hl ⊢
  exact tX9_list ⟨B.exec, B.bytes, B.returns, hml, findClass_of_methodNamed B.named, atoms_spec (ws := (Cond.code yX9_list cX9_list 6 none :: WM)) B.pre, (fun w h => List.mem_cons_of_mem _ (inWM w h)), hK, B.notSynchronized⟩ (fun q h => Or.inr h) h hP hD0.self va_S.rf hl
set_option maxHeartbeats 4000000 in
set_option maxRecDepth 100000 in
theorem tX9_copy_238 {p : Program} {l : Launch} {e : Env} {s : State} {m : MethodId} {args : Array Value} {below : List Frame} {meth : Method} {c : Code} {D : va_G} {a : Nat → Nat} {cc : Nat → ClassId} {A : Nat → Prop} {N : Nat} {σr : St} (C : M_Cx RX9 p s m args meth c D cc cX9_copy (Cond.code yX9_copy cX9_copy 6 none :: WM) 6 none) (hA : ∀ q, s.heap.size ≤ q → A q) {σ : St} {x1 : Int32} {x2 : Int32} {x3 : Int32} {H : Heap} {locs : List Loc} {ls : Array Slot} (h : fX9_copy_238 N σ x1 x2 x3 = some σr) : va_P D vwCl (wM a cc σ) H → va_D A (wM a cc σ) → va_S A s.heap H locs → lv_has ls 6 [(0, .ref (a 0)), (1, .int x1), (2, .int x2), (3, .int x3)] → W p l e rmX9_copy s m args below meth c H locs 0 0 (M_Mv D a cc A below args s σr) (F0 m 238 ls []) := by
  obtain ⟨hx, hb, hr, hml, hown, hts, hin, hK, hlocks⟩ := id C
  intro hP hD hS hl
  refine lv_iload_n hx hb dX9_copy_238 rfl (lv_at hl 2 rfl) ?_
  refine lv_iload_n hx hb dX9_copy_239 rfl (lv_at hl 3 rfl) ?_
  refine lv_icmp_ne (tgt := 254) hx hb dX9_copy_240 (by decide) (fun c37 => ?_) (fun c37 => ?_)
  · have h := ifF c37 h
    refine lv_aload_n hx hb dX9_copy_254 rfl (lv_at hl 0 rfl) ?_
    refine M_gt26 C hP dX9_copy_255 ?_
    refine lv_aload_n hx hb dX9_copy_258 rfl (lv_at hl 0 rfl) ?_
    refine M_gt24 C hP dX9_copy_259 ?_
    refine lv_iconst (v := (1 : Int32)) hx hb dX9_copy_262 (by decide) ?_
    refine lv_isub hx hb dX9_copy_263 ?_
    refine lv_iload_n hx hb dX9_copy_264 rfl (lv_at hl 2 rfl) ?_
    refine lv_iconst (v := (1 : Int32)) hx hb dX9_copy_265 (by decide) ?_
    refine lv_iadd hx hb dX9_copy_266 ?_
    obtain ⟨g38, h⟩ := grd_s h
    obtain ⟨σ39, eσ39, h⟩ := letS_n h
    refine M_st26 C hP hD hS g38 eσ39 dX9_copy_267 (fun H locs hP hD hS => ?_)
    refine lv_aload_n hx hb dX9_copy_268 rfl (lv_at hl 0 rfl) ?_
    refine lv_aload_n hx hb dX9_copy_269 rfl (lv_at hl 0 rfl) ?_
    refine M_gt6 C hP dX9_copy_270 ?_
    refine lv_iload_n hx hb dX9_copy_273 rfl (lv_at hl 1 rfl) ?_
    obtain ⟨g40, h⟩ := grd_s h
    refine M_ld6 C hP g40 dX9_copy_274 ?_
    obtain ⟨σ41, hc, h⟩ := bnd1_s h
    refine M_callVv (As := [.int (gI σ39 6 x1.toNatClampNeg)]) (rest := []) C hA (fun sz => kX9_enter l sz hc) gX9_enter hP hD hS ⟨by decide, by decide⟩ ⟨rfl, rfl⟩ rfl hl.1 rfl (lv_room (Nat.le_of_ble_eq_true rfl)) dX9_copy_275 (fun H locs hP hD hS => ?_)
    exact M_vret C h hP hD hS dX9_copy_278
  · have h := ifT c37 h
    refine lv_aload_n hx hb dX9_copy_243 rfl (lv_at hl 0 rfl) ?_
    refine lv_dup hx hb dX9_copy_244 rfl ?_
    refine M_gt24 C hP dX9_copy_245 ?_
    refine lv_iconst (v := (1 : Int32)) hx hb dX9_copy_248 (by decide) ?_
    refine lv_isub hx hb dX9_copy_249 ?_
    obtain ⟨σ42, eσ42, h⟩ := letS_n h
    refine M_pt24 C hP hD hS eσ42 dX9_copy_250 (fun H locs hP hD hS => ?_)
    exact M_vret C h hP hD hS dX9_copy_253
set_option maxHeartbeats 4000000 in
set_option maxRecDepth 100000 in
theorem tX9_copy_94 {p : Program} {l : Launch} {e : Env} {s : State} {m : MethodId} {args : Array Value} {below : List Frame} {meth : Method} {c : Code} {D : va_G} {a : Nat → Nat} {cc : Nat → ClassId} {A : Nat → Prop} {N : Nat} {σr : St} (C : M_Cx RX9 p s m args meth c D cc cX9_copy (Cond.code yX9_copy cX9_copy 6 none :: WM) 6 none) (hA : ∀ q, s.heap.size ≤ q → A q) {σ : St} {x1 : Int32} {x2 : Int32} {x3 : Int32} {y0 : Int32} {y1 : Int32} {H : Heap} {locs : List Loc} {ls : Array Slot} (h : fX9_copy_94 N σ x1 x2 x3 y0 y1 = some σr) : va_P D vwCl (wM a cc σ) H → va_D A (wM a cc σ) → va_S A s.heap H locs → lv_has ls 6 [(0, .ref (a 0)), (1, .int x1), (2, .int x2), (3, .int x3)] → W p l e rmX9_copy s m args below meth c H locs 0 0 (M_Mv D a cc A below args s σr) (F0 m 94 ls [.int y0, .int y1, .ref (a 29)]) := by
  obtain ⟨hx, hb, hr, hml, hown, hts, hin, hK, hlocks⟩ := id C
  intro hP hD hS hl
  obtain ⟨g27, h⟩ := grd_s h
  obtain ⟨σ28, eσ28, h⟩ := letS_n h
  refine M_st29 C hP hD hS g27 eσ28 dX9_copy_94 (fun H locs hP hD hS => ?_)
  refine lv_aload_n hx hb dX9_copy_95 rfl (lv_at hl 0 rfl) ?_
  refine M_gt10 C hP dX9_copy_96 ?_
  refine lv_iload_n hx hb dX9_copy_99 rfl (lv_at hl 1 rfl) ?_
  obtain ⟨g29, h⟩ := grd_s h
  refine M_ld10 C hP g29 dX9_copy_100 ?_
  refine lv_if_ne (tgt := 238) hx hb dX9_copy_101 (by decide) (fun c30 => ?_) (fun c30 => ?_)
  · have h := ifF c30 h
    exact tX9_copy_238 C hA h hP hD hS (lv_sub hl [0, 1, 2, 3] rfl)
  · have h := ifT c30 h
    refine lv_aload_n hx hb dX9_copy_104 rfl (lv_at hl 0 rfl) ?_
    refine lv_aload_n hx hb dX9_copy_105 rfl (lv_at hl 0 rfl) ?_
    refine M_gt30 C hP dX9_copy_106 ?_
    refine lv_aload_n hx hb dX9_copy_109 rfl (lv_at hl 0 rfl) ?_
    refine M_gt27 C hP dX9_copy_110 ?_
    refine lv_iconst (v := (1 : Int32)) hx hb dX9_copy_113 (by decide) ?_
    refine lv_isub hx hb dX9_copy_114 ?_
    obtain ⟨g31, h⟩ := grd_s h
    refine M_ld30 C hP g31 dX9_copy_115 ?_
    refine lv_aload_n hx hb dX9_copy_116 rfl (lv_at hl 0 rfl) ?_
    refine M_gt28 C hP dX9_copy_117 ?_
    refine lv_aload_n hx hb dX9_copy_120 rfl (lv_at hl 0 rfl) ?_
    refine M_gt27 C hP dX9_copy_121 ?_
    refine lv_iconst (v := (1 : Int32)) hx hb dX9_copy_124 (by decide) ?_
    refine lv_isub hx hb dX9_copy_125 ?_
    obtain ⟨g32, h⟩ := grd_s h
    refine M_ld28 C hP g32 dX9_copy_126 ?_
    obtain ⟨σ33, hc, h⟩ := bnd1_s h
    refine M_callVv (As := [.int (gI σ28 30 ((gI σ28 27 0) - (1 : Int32)).toNatClampNeg), .int (gI σ28 28 ((gI σ28 27 0) - (1 : Int32)).toNatClampNeg)]) (rest := []) C hA (fun sz => kX9_follow l sz hc) gX9_follow hP hD hS ⟨by decide, by decide⟩ ⟨rfl, rfl⟩ rfl hl.1 rfl (lv_room (Nat.le_of_ble_eq_true rfl)) dX9_copy_127 (fun H locs hP hD hS => ?_)
    refine lv_goto (tgt := 238) hx hb dX9_copy_130 (by decide) ?_
    exact tX9_copy_238 C hA h hP hD hS (lv_sub hl [0, 1, 2, 3] rfl)
set_option maxHeartbeats 4000000 in
set_option maxRecDepth 100000 in
theorem tX9_copy_227 {p : Program} {l : Launch} {e : Env} {s : State} {m : MethodId} {args : Array Value} {below : List Frame} {meth : Method} {c : Code} {D : va_G} {a : Nat → Nat} {cc : Nat → ClassId} {A : Nat → Prop} {N : Nat} {σr : St} (C : M_Cx RX9 p s m args meth c D cc cX9_copy (Cond.code yX9_copy cX9_copy 6 none :: WM) 6 none) (hA : ∀ q, s.heap.size ≤ q → A q) {σ : St} {x1 : Int32} {x2 : Int32} {x3 : Int32} {y0 : Int32} {y1 : Int32} {H : Heap} {locs : List Loc} {ls : Array Slot} (h : fX9_copy_227 N σ x1 x2 x3 y0 y1 = some σr) : va_P D vwCl (wM a cc σ) H → va_D A (wM a cc σ) → va_S A s.heap H locs → lv_has ls 6 [(0, .ref (a 0)), (1, .int x1), (2, .int x2), (3, .int x3)] → W p l e rmX9_copy s m args below meth c H locs 0 0 (M_Mv D a cc A below args s σr) (F0 m 227 ls [.int y0, .int y1, .ref (a 29)]) := by
  obtain ⟨hx, hb, hr, hml, hown, hts, hin, hK, hlocks⟩ := id C
  intro hP hD hS hl
  obtain ⟨g34, h⟩ := grd_s h
  obtain ⟨σ35, eσ35, h⟩ := letS_n h
  refine M_st29 C hP hD hS g34 eσ35 dX9_copy_227 (fun H locs hP hD hS => ?_)
  refine lv_aload_n hx hb dX9_copy_228 rfl (lv_at hl 0 rfl) ?_
  refine lv_dup hx hb dX9_copy_229 rfl ?_
  refine M_gt27 C hP dX9_copy_230 ?_
  refine lv_iconst (v := (1 : Int32)) hx hb dX9_copy_233 (by decide) ?_
  refine lv_isub hx hb dX9_copy_234 ?_
  obtain ⟨σ36, eσ36, h⟩ := letS_n h
  refine M_pt27 C hP hD hS eσ36 dX9_copy_235 (fun H locs hP hD hS => ?_)
  exact tX9_copy_238 C hA h hP hD hS (lv_sub hl [0, 1, 2, 3] rfl)
set_option maxHeartbeats 4000000 in
set_option maxRecDepth 100000 in
theorem tX9_copy_31 {p : Program} {l : Launch} {e : Env} {s : State} {m : MethodId} {args : Array Value} {below : List Frame} {meth : Method} {c : Code} {D : va_G} {a : Nat → Nat} {cc : Nat → ClassId} {A : Nat → Prop} {N : Nat} {σr : St} (C : M_Cx RX9 p s m args meth c D cc cX9_copy (Cond.code yX9_copy cX9_copy 6 none :: WM) 6 none) (hA : ∀ q, s.heap.size ≤ q → A q) {σ : St} {x1 : Int32} {x2 : Int32} {y0 : Int32} {H : Heap} {locs : List Loc} {ls : Array Slot} (h : fX9_copy_31 N σ x1 x2 y0 = some σr) : va_P D vwCl (wM a cc σ) H → va_D A (wM a cc σ) → va_S A s.heap H locs → lv_has ls 6 [(0, .ref (a 0)), (1, .int x1), (2, .int x2)] → W p l e rmX9_copy s m args below meth c H locs 0 0 (M_Mv D a cc A below args s σr) (F0 m 31 ls [.int y0]) := by
  obtain ⟨hx, hb, hr, hml, hown, hts, hin, hK, hlocks⟩ := id C
  intro hP hD hS hl
  refine lv_istore_n (lv' := [(3, .int y0), (0, .ref (a 0)), (1, .int x1), (2, .int x2)]) hx hb dX9_copy_31 rfl hl (by decide) rfl (fun ls hl => ?_)
  refine lv_iload_n hx hb dX9_copy_32 rfl (lv_at hl 3 rfl) ?_
  refine lv_iconst (v := (1 : Int32)) hx hb dX9_copy_33 (by decide) ?_
  refine lv_icmp_ne (tgt := 133) hx hb dX9_copy_34 (by decide) (fun c6 => ?_) (fun c6 => ?_)
  · have h := ifF c6 h
    refine lv_iload_n hx hb dX9_copy_133 rfl (lv_at hl 3 rfl) ?_
    refine lv_iconst (v := (1 : Int32)) hx hb dX9_copy_134 (by decide) ?_
    refine lv_icmp_le (tgt := 238) hx hb dX9_copy_135 (by decide) (fun c7 => ?_) (fun c7 => ?_)
    · have h := ifT c7 h
      exact tX9_copy_238 C hA h hP hD hS (lv_sub hl [1, 2, 3, 0] rfl)
    · have h := ifF c7 h
      refine lv_aload_n hx hb dX9_copy_138 rfl (lv_at hl 1 rfl) ?_
      refine M_gt27 C hP dX9_copy_139 ?_
      refine lv_iconst (v := (2 : Int32)) hx hb dX9_copy_142 (by decide) ?_
      refine lv_isub hx hb dX9_copy_143 ?_
      obtain ⟨u8, eu8, h⟩ := letS_n h
      refine lv_topE eu8 ?_
      refine lv_istore (lv' := [(4, .int u8), (3, .int y0), (0, .ref (a 0)), (1, .int x1), (2, .int x2)]) hx hb dX9_copy_144 hl (by decide) rfl (fun ls hl => ?_)
      refine lv_aload_n hx hb dX9_copy_146 rfl (lv_at hl 2 rfl) ?_
      refine M_gt27 C hP dX9_copy_147 ?_
      refine lv_iconst (v := (1 : Int32)) hx hb dX9_copy_150 (by decide) ?_
      refine lv_isub hx hb dX9_copy_151 ?_
      obtain ⟨u9, eu9, h⟩ := letS_n h
      refine lv_topE eu9 ?_
      refine lv_istore (lv' := [(5, .int u9), (4, .int u8), (3, .int y0), (0, .ref (a 0)), (1, .int x1), (2, .int x2)]) hx hb dX9_copy_152 hl (by decide) rfl (fun ls hl => ?_)
      refine lv_aload_n hx hb dX9_copy_154 rfl (lv_at hl 3 rfl) ?_
      refine lv_aload_n hx hb dX9_copy_155 rfl (lv_at hl 3 rfl) ?_
      refine M_gt30 C hP dX9_copy_156 ?_
      refine lv_iload hx hb dX9_copy_159 (lv_at hl 1 rfl) ?_
      obtain ⟨g10, h⟩ := grd_s h
      refine M_ld30 C hP g10 dX9_copy_161 ?_
      refine lv_aload_n hx hb dX9_copy_162 rfl (lv_at hl 3 rfl) ?_
      refine M_gt28 C hP dX9_copy_163 ?_
      refine lv_iload hx hb dX9_copy_166 (lv_at hl 0 rfl) ?_
      obtain ⟨g11, h⟩ := grd_s h
      refine M_ld28 C hP g11 dX9_copy_168 ?_
      obtain ⟨σ12, hc, h⟩ := bnd1_s h
      refine M_callVv (As := [.int (gI σ 30 u8.toNatClampNeg), .int (gI σ 28 u9.toNatClampNeg)]) (rest := []) C hA (fun sz => kX9_follow l sz hc) gX9_follow hP hD hS ⟨by decide, by decide⟩ ⟨rfl, rfl⟩ rfl hl.1 rfl (lv_room (Nat.le_of_ble_eq_true rfl)) dX9_copy_169 (fun H locs hP hD hS => ?_)
      refine lv_aload_n hx hb dX9_copy_172 rfl (lv_at hl 3 rfl) ?_
      refine M_gt30 C hP dX9_copy_173 ?_
      refine lv_iload hx hb dX9_copy_176 (lv_at hl 1 rfl) ?_
      refine lv_aload_n hx hb dX9_copy_178 rfl (lv_at hl 3 rfl) ?_
      refine M_gt29 C hP dX9_copy_179 ?_
      refine lv_iload hx hb dX9_copy_182 (lv_at hl 0 rfl) ?_
      obtain ⟨g13, h⟩ := grd_s h
      refine M_ld29 C hP g13 dX9_copy_184 ?_
      obtain ⟨g14, h⟩ := grd_s h
      obtain ⟨σ15, eσ15, h⟩ := letS_n h
      refine M_st30 C hP hD hS g14 eσ15 dX9_copy_185 (fun H locs hP hD hS => ?_)
      refine lv_aload_n hx hb dX9_copy_186 rfl (lv_at hl 3 rfl) ?_
      refine M_gt29 C hP dX9_copy_187 ?_
      refine lv_iload hx hb dX9_copy_190 (lv_at hl 1 rfl) ?_
      refine lv_iload_n hx hb dX9_copy_192 rfl (lv_at hl 5 rfl) ?_
      refine lv_aload_n hx hb dX9_copy_193 rfl (lv_at hl 3 rfl) ?_
      refine M_gt9 C hP dX9_copy_194 ?_
      refine lv_iload_n hx hb dX9_copy_197 rfl (lv_at hl 4 rfl) ?_
      obtain ⟨g16, h⟩ := grd_s h
      refine M_ld9 C hP g16 dX9_copy_198 ?_
      refine lv_icmp_lt (tgt := 220) hx hb dX9_copy_199 (by decide) (fun c17 => ?_) (fun c17 => ?_)
      · have h := ifT c17 h
        refine lv_aload_n hx hb dX9_copy_220 rfl (lv_at hl 3 rfl) ?_
        refine M_gt29 C hP dX9_copy_221 ?_
        refine lv_iload hx hb dX9_copy_224 (lv_at hl 1 rfl) ?_
        obtain ⟨g18, h⟩ := grd_s h
        refine M_ld29 C hP g18 dX9_copy_226 ?_
        exact tX9_copy_227 C hA h hP hD hS (lv_sub hl [3, 4, 5, 2] rfl)
      · have h := ifF c17 h
        refine lv_aload_n hx hb dX9_copy_202 rfl (lv_at hl 3 rfl) ?_
        refine M_gt29 C hP dX9_copy_203 ?_
        refine lv_iload hx hb dX9_copy_206 (lv_at hl 1 rfl) ?_
        obtain ⟨g19, h⟩ := grd_s h
        refine M_ld29 C hP g19 dX9_copy_208 ?_
        refine lv_aload_n hx hb dX9_copy_209 rfl (lv_at hl 3 rfl) ?_
        refine M_gt29 C hP dX9_copy_210 ?_
        refine lv_iload hx hb dX9_copy_213 (lv_at hl 0 rfl) ?_
        obtain ⟨g20, h⟩ := grd_s h
        refine M_ld29 C hP g20 dX9_copy_215 ?_
        refine lv_ior hx hb dX9_copy_216 ?_
        refine lv_goto (tgt := 227) hx hb dX9_copy_217 (by decide) ?_
        exact tX9_copy_227 C hA h hP hD hS (lv_sub hl [3, 4, 5, 2] rfl)
  · have h := ifT c6 h
    refine lv_aload_n hx hb dX9_copy_37 rfl (lv_at hl 1 rfl) ?_
    refine M_gt30 C hP dX9_copy_38 ?_
    refine lv_aload_n hx hb dX9_copy_41 rfl (lv_at hl 1 rfl) ?_
    refine M_gt27 C hP dX9_copy_42 ?_
    refine lv_iconst (v := (1 : Int32)) hx hb dX9_copy_45 (by decide) ?_
    refine lv_isub hx hb dX9_copy_46 ?_
    refine lv_aload_n hx hb dX9_copy_47 rfl (lv_at hl 1 rfl) ?_
    refine M_gt29 C hP dX9_copy_48 ?_
    refine lv_aload_n hx hb dX9_copy_51 rfl (lv_at hl 1 rfl) ?_
    refine M_gt27 C hP dX9_copy_52 ?_
    refine lv_iconst (v := (1 : Int32)) hx hb dX9_copy_55 (by decide) ?_
    refine lv_isub hx hb dX9_copy_56 ?_
    obtain ⟨g21, h⟩ := grd_s h
    refine M_ld29 C hP g21 dX9_copy_57 ?_
    obtain ⟨g22, h⟩ := grd_s h
    obtain ⟨σ23, eσ23, h⟩ := letS_n h
    refine M_st30 C hP hD hS g22 eσ23 dX9_copy_58 (fun H locs hP hD hS => ?_)
    refine lv_aload_n hx hb dX9_copy_59 rfl (lv_at hl 1 rfl) ?_
    refine M_gt29 C hP dX9_copy_60 ?_
    refine lv_aload_n hx hb dX9_copy_63 rfl (lv_at hl 1 rfl) ?_
    refine M_gt27 C hP dX9_copy_64 ?_
    refine lv_iconst (v := (1 : Int32)) hx hb dX9_copy_67 (by decide) ?_
    refine lv_isub hx hb dX9_copy_68 ?_
    refine lv_aload_n hx hb dX9_copy_69 rfl (lv_at hl 1 rfl) ?_
    refine M_gt9 C hP dX9_copy_70 ?_
    refine lv_iload_n hx hb dX9_copy_73 rfl (lv_at hl 2 rfl) ?_
    obtain ⟨g24, h⟩ := grd_s h
    refine M_ld9 C hP g24 dX9_copy_74 ?_
    refine lv_iconst (v := (1 : Int32)) hx hb dX9_copy_75 (by decide) ?_
    refine lv_icmp_le (tgt := 83) hx hb dX9_copy_76 (by decide) (fun c25 => ?_) (fun c25 => ?_)
    · have h := ifT c25 h
      refine lv_aload_n hx hb dX9_copy_83 rfl (lv_at hl 1 rfl) ?_
      refine M_gt29 C hP dX9_copy_84 ?_
      refine lv_aload_n hx hb dX9_copy_87 rfl (lv_at hl 1 rfl) ?_
      refine M_gt27 C hP dX9_copy_88 ?_
      refine lv_iconst (v := (1 : Int32)) hx hb dX9_copy_91 (by decide) ?_
      refine lv_isub hx hb dX9_copy_92 ?_
      obtain ⟨g26, h⟩ := grd_s h
      refine M_ld29 C hP g26 dX9_copy_93 ?_
      exact tX9_copy_94 C hA h hP hD hS (lv_sub hl [1, 2, 3, 0] rfl)
    · have h := ifF c25 h
      refine lv_iconst (v := (0 : Int32)) hx hb dX9_copy_79 (by decide) ?_
      refine lv_goto (tgt := 94) hx hb dX9_copy_80 (by decide) ?_
      exact tX9_copy_94 C hA h hP hD hS (lv_sub hl [1, 2, 3, 0] rfl)
set_option maxHeartbeats 4000000 in
set_option maxRecDepth 100000 in
theorem tX9_copy {p : Program} {l : Launch} {e : Env} {s : State} {m : MethodId} {args : Array Value} {below : List Frame} {meth : Method} {c : Code} {D : va_G} {a : Nat → Nat} {cc : Nat → ClassId} {A : Nat → Prop} {N : Nat} {σr : St} (C : M_Cx RX9 p s m args meth c D cc cX9_copy (Cond.code yX9_copy cX9_copy 6 none :: WM) 6 none) (hA : ∀ q, s.heap.size ≤ q → A q) {σ : St} {p0 : Int32} {H : Heap} {locs : List Loc} {ls : Array Slot} (h : fX9_copy N σ p0 = some σr) : va_P D vwCl (wM a cc σ) H → va_D A (wM a cc σ) → va_S A s.heap H locs → lv_has ls 6 [(0, .ref (a 0)), (1, .int p0)] → W p l e rmX9_copy s m args below meth c H locs 0 0 (M_Mv D a cc A below args s σr) (F0 m 0 ls []) := by
  obtain ⟨hx, hb, hr, hml, hown, hts, hin, hK, hlocks⟩ := id C
  intro hP hD hS hl
  refine lv_aload_n hx hb dX9_copy_0 rfl (lv_at hl 0 rfl) ?_
  refine M_gt26 C hP dX9_copy_1 ?_
  refine lv_aload_n hx hb dX9_copy_4 rfl (lv_at hl 0 rfl) ?_
  refine M_gt24 C hP dX9_copy_5 ?_
  refine lv_iconst (v := (1 : Int32)) hx hb dX9_copy_8 (by decide) ?_
  refine lv_isub hx hb dX9_copy_9 ?_
  obtain ⟨g1, h⟩ := grd_s h
  refine M_ld26 C hP g1 dX9_copy_10 ?_
  obtain ⟨u2, eu2, h⟩ := letS_n h
  refine lv_topE eu2 ?_
  refine lv_istore_n (lv' := [(2, .int u2), (0, .ref (a 0)), (1, .int p0)]) hx hb dX9_copy_11 rfl hl (by decide) rfl (fun ls hl => ?_)
  refine lv_aload_n hx hb dX9_copy_12 rfl (lv_at hl 1 rfl) ?_
  refine M_gt10 C hP dX9_copy_13 ?_
  refine lv_iload_n hx hb dX9_copy_16 rfl (lv_at hl 2 rfl) ?_
  obtain ⟨g3, h⟩ := grd_s h
  refine M_ld10 C hP g3 dX9_copy_17 ?_
  refine lv_if_ne (tgt := 25) hx hb dX9_copy_18 (by decide) (fun c4 => ?_) (fun c4 => ?_)
  · have h := ifF c4 h
    refine lv_aload_n hx hb dX9_copy_25 rfl (lv_at hl 1 rfl) ?_
    refine M_gt10 C hP dX9_copy_26 ?_
    refine lv_iload_n hx hb dX9_copy_29 rfl (lv_at hl 2 rfl) ?_
    obtain ⟨g5, h⟩ := grd_s h
    refine M_ld10 C hP g5 dX9_copy_30 ?_
    exact tX9_copy_31 C hA h hP hD hS (lv_sub hl [1, 2, 0] rfl)
  · have h := ifT c4 h
    refine lv_iconst (v := (1 : Int32)) hx hb dX9_copy_21 (by decide) ?_
    refine lv_goto (tgt := 31) hx hb dX9_copy_22 (by decide) ?_
    exact tX9_copy_31 C hA h hP hD hS (lv_sub hl [1, 2, 0] rfl)
set_option maxRecDepth 100000 in
theorem kX9_copy (l : Launch) (sz : Nat) {D : va_G} {a : Nat → Nat} {cc : Nat → ClassId} {N : Nat} {σr : St} {σ : St} {p0 : Int32} (h : fX9_copy N σ p0 = some σr) : Met l yX9_copy ((Cond.code yX9_copy cX9_copy 6 none :: WM)) rmX9_copy (M_Pc D a cc [.ref (a 0), .int p0] σ sz) (M_Qv D a cc σ sz σr) 0 0 (va_A (wM a cc σ) sz) := by
  refine Met.ofW (cc := cX9_copy) (maxL := 6) (ret := none) (by decide) rfl ?_
  intro p e s m args below meth c s₁ B hml hv
  obtain ⟨rfl, hsz, hP, hK, hD0⟩ := hv
  subst hsz
  have hl := lv_entry ([.ref (a 0), .int p0]) (n := 6) (Nat.le_of_ble_eq_true rfl)
  rw [lg_entry_eq]
  generalize (lg_sl ([.ref (a 0), .int p0]) ++ List.replicate (6 - (lg_sl ([.ref (a 0), .int p0])).length) Slot.unset).toArray = ls at hl ⊢
  exact tX9_copy ⟨B.exec, B.bytes, B.returns, hml, findClass_of_methodNamed B.named, atoms_spec (ws := (Cond.code yX9_copy cX9_copy 6 none :: WM)) B.pre, (fun w h => List.mem_cons_of_mem _ (inWM w h)), hK, B.notSynchronized⟩ (fun q h => Or.inr h) h hP hD0.self va_S.rf hl
set_option maxHeartbeats 4000000 in
set_option maxRecDepth 100000 in
theorem tX9_push {p : Program} {l : Launch} {e : Env} {s : State} {m : MethodId} {args : Array Value} {below : List Frame} {meth : Method} {c : Code} {D : va_G} {a : Nat → Nat} {cc : Nat → ClassId} {A : Nat → Prop} {N : Nat} {σr : St} (C : M_Cx RX9 p s m args meth c D cc cX9_push (Cond.code yX9_push cX9_push 3 none :: WM) 3 none) (hA : ∀ q, s.heap.size ≤ q → A q) {σ : St} {p0 : Int32} {p1 : Int32} {H : Heap} {locs : List Loc} {ls : Array Slot} (h : fX9_push N σ p0 p1 = some σr) : va_P D vwCl (wM a cc σ) H → va_D A (wM a cc σ) → va_S A s.heap H locs → lv_has ls 3 [(0, .ref (a 0)), (1, .int p0), (2, .int p1)] → W p l e rmX9_push s m args below meth c H locs 0 0 (M_Mv D a cc A below args s σr) (F0 m 0 ls []) := by
  obtain ⟨hx, hb, hr, hml, hown, hts, hin, hK, hlocks⟩ := id C
  intro hP hD hS hl
  refine lv_aload_n hx hb dX9_push_0 rfl (lv_at hl 0 rfl) ?_
  refine M_gt28 C hP dX9_push_1 ?_
  refine lv_aload_n hx hb dX9_push_4 rfl (lv_at hl 0 rfl) ?_
  refine M_gt27 C hP dX9_push_5 ?_
  refine lv_iload_n hx hb dX9_push_8 rfl (lv_at hl 1 rfl) ?_
  obtain ⟨g1, h⟩ := grd_s h
  obtain ⟨σ2, eσ2, h⟩ := letS_n h
  refine M_st28 C hP hD hS g1 eσ2 dX9_push_9 (fun H locs hP hD hS => ?_)
  refine lv_aload_n hx hb dX9_push_10 rfl (lv_at hl 0 rfl) ?_
  refine M_gt29 C hP dX9_push_11 ?_
  refine lv_aload_n hx hb dX9_push_14 rfl (lv_at hl 0 rfl) ?_
  refine M_gt27 C hP dX9_push_15 ?_
  refine lv_iload_n hx hb dX9_push_18 rfl (lv_at hl 2 rfl) ?_
  obtain ⟨g3, h⟩ := grd_s h
  obtain ⟨σ4, eσ4, h⟩ := letS_n h
  refine M_st29 C hP hD hS g3 eσ4 dX9_push_19 (fun H locs hP hD hS => ?_)
  refine lv_aload_n hx hb dX9_push_20 rfl (lv_at hl 0 rfl) ?_
  refine M_gt30 C hP dX9_push_21 ?_
  refine lv_aload_n hx hb dX9_push_24 rfl (lv_at hl 0 rfl) ?_
  refine M_gt27 C hP dX9_push_25 ?_
  refine lv_iload_n hx hb dX9_push_28 rfl (lv_at hl 2 rfl) ?_
  obtain ⟨g5, h⟩ := grd_s h
  obtain ⟨σ6, eσ6, h⟩ := letS_n h
  refine M_st30 C hP hD hS g5 eσ6 dX9_push_29 (fun H locs hP hD hS => ?_)
  refine lv_aload_n hx hb dX9_push_30 rfl (lv_at hl 0 rfl) ?_
  refine lv_dup hx hb dX9_push_31 rfl ?_
  refine M_gt27 C hP dX9_push_32 ?_
  refine lv_iconst (v := (1 : Int32)) hx hb dX9_push_35 (by decide) ?_
  refine lv_iadd hx hb dX9_push_36 ?_
  obtain ⟨σ7, eσ7, h⟩ := letS_n h
  refine M_pt27 C hP hD hS eσ7 dX9_push_37 (fun H locs hP hD hS => ?_)
  exact M_vret C h hP hD hS dX9_push_40
set_option maxRecDepth 100000 in
theorem kX9_push (l : Launch) (sz : Nat) {D : va_G} {a : Nat → Nat} {cc : Nat → ClassId} {N : Nat} {σr : St} {σ : St} {p0 : Int32} {p1 : Int32} (h : fX9_push N σ p0 p1 = some σr) : Met l yX9_push ((Cond.code yX9_push cX9_push 3 none :: WM)) rmX9_push (M_Pc D a cc [.ref (a 0), .int p0, .int p1] σ sz) (M_Qv D a cc σ sz σr) 0 0 (va_A (wM a cc σ) sz) := by
  refine Met.ofW (cc := cX9_push) (maxL := 3) (ret := none) (by decide) rfl ?_
  intro p e s m args below meth c s₁ B hml hv
  obtain ⟨rfl, hsz, hP, hK, hD0⟩ := hv
  subst hsz
  have hl := lv_entry ([.ref (a 0), .int p0, .int p1]) (n := 3) (Nat.le_of_ble_eq_true rfl)
  rw [lg_entry_eq]
  generalize (lg_sl ([.ref (a 0), .int p0, .int p1]) ++ List.replicate (3 - (lg_sl ([.ref (a 0), .int p0, .int p1])).length) Slot.unset).toArray = ls at hl ⊢
  exact tX9_push ⟨B.exec, B.bytes, B.returns, hml, findClass_of_methodNamed B.named, atoms_spec (ws := (Cond.code yX9_push cX9_push 3 none :: WM)) B.pre, (fun w h => List.mem_cons_of_mem _ (inWM w h)), hK, B.notSynchronized⟩ (fun q h => Or.inr h) h hP hD0.self va_S.rf hl
set_option maxHeartbeats 4000000 in
set_option maxRecDepth 100000 in
theorem tX9_place {p : Program} {l : Launch} {e : Env} {s : State} {m : MethodId} {args : Array Value} {below : List Frame} {meth : Method} {c : Code} {D : va_G} {a : Nat → Nat} {cc : Nat → ClassId} {A : Nat → Prop} {N : Nat} {σr : St} (C : M_Cx RX9 p s m args meth c D cc cX9_place (Cond.code yX9_place cX9_place 3 none :: WM) 3 none) (hA : ∀ q, s.heap.size ≤ q → A q) {σ : St} {p0 : Int32} {p1 : Int32} {H : Heap} {locs : List Loc} {ls : Array Slot} (h : fX9_place N σ p0 p1 = some σr) : va_P D vwCl (wM a cc σ) H → va_D A (wM a cc σ) → va_S A s.heap H locs → lv_has ls 3 [(0, .ref (a 0)), (1, .int p0), (2, .int p1)] → W p l e rmX9_place s m args below meth c H locs 0 0 (M_Mv D a cc A below args s σr) (F0 m 0 ls []) := by
  obtain ⟨hx, hb, hr, hml, hown, hts, hin, hK, hlocks⟩ := id C
  intro hP hD hS hl
  refine lv_aload_n hx hb dX9_place_0 rfl (lv_at hl 0 rfl) ?_
  refine lv_dup hx hb dX9_place_1 rfl ?_
  refine M_gt24 C hP dX9_place_2 ?_
  refine lv_iconst (v := (1 : Int32)) hx hb dX9_place_5 (by decide) ?_
  refine lv_isub hx hb dX9_place_6 ?_
  obtain ⟨σ1, eσ1, h⟩ := letS_n h
  refine M_pt24 C hP hD hS eσ1 dX9_place_7 (fun H locs hP hD hS => ?_)
  refine lv_aload_n hx hb dX9_place_10 rfl (lv_at hl 0 rfl) ?_
  refine M_gt19 C hP dX9_place_11 ?_
  refine lv_aload_n hx hb dX9_place_14 rfl (lv_at hl 0 rfl) ?_
  refine M_gt17 C hP dX9_place_15 ?_
  refine lv_iload_n hx hb dX9_place_18 rfl (lv_at hl 1 rfl) ?_
  obtain ⟨g2, h⟩ := grd_s h
  obtain ⟨σ3, eσ3, h⟩ := letS_n h
  refine M_st19 C hP hD hS g2 eσ3 dX9_place_19 (fun H locs hP hD hS => ?_)
  refine lv_aload_n hx hb dX9_place_20 rfl (lv_at hl 0 rfl) ?_
  refine M_gt20 C hP dX9_place_21 ?_
  refine lv_aload_n hx hb dX9_place_24 rfl (lv_at hl 0 rfl) ?_
  refine M_gt17 C hP dX9_place_25 ?_
  refine lv_iload_n hx hb dX9_place_28 rfl (lv_at hl 2 rfl) ?_
  obtain ⟨g4, h⟩ := grd_s h
  obtain ⟨σ5, eσ5, h⟩ := letS_n h
  refine M_st20 C hP hD hS g4 eσ5 dX9_place_29 (fun H locs hP hD hS => ?_)
  refine lv_aload_n hx hb dX9_place_30 rfl (lv_at hl 0 rfl) ?_
  refine M_gt21 C hP dX9_place_31 ?_
  refine lv_aload_n hx hb dX9_place_34 rfl (lv_at hl 0 rfl) ?_
  refine M_gt17 C hP dX9_place_35 ?_
  refine lv_iconst (v := (0 : Int32)) hx hb dX9_place_38 (by decide) ?_
  obtain ⟨g6, h⟩ := grd_s h
  obtain ⟨σ7, eσ7, h⟩ := letS_n h
  refine M_st21 C hP hD hS g6 eσ7 dX9_place_39 (fun H locs hP hD hS => ?_)
  refine lv_aload_n hx hb dX9_place_40 rfl (lv_at hl 0 rfl) ?_
  refine lv_iconst (v := (1 : Int32)) hx hb dX9_place_41 (by decide) ?_
  refine lv_aload_n hx hb dX9_place_42 rfl (lv_at hl 0 rfl) ?_
  refine M_gt17 C hP dX9_place_43 ?_
  refine lv_ishl hx hb dX9_place_46 ?_
  refine lv_iconst (v := (1 : Int32)) hx hb dX9_place_47 (by decide) ?_
  refine lv_aload_n hx hb dX9_place_48 rfl (lv_at hl 0 rfl) ?_
  refine M_gt17 C hP dX9_place_49 ?_
  refine lv_ishl hx hb dX9_place_52 ?_
  obtain ⟨σ8, hc, h⟩ := bnd1_s h
  refine M_callVv (As := [.int ((1 : Int32) <<< ((gI σ7 17 0) &&& 31)), .int ((1 : Int32) <<< ((gI σ7 17 0) &&& 31))]) (rest := []) C hA (fun sz => kX9_push l sz hc) gX9_push hP hD hS ⟨by decide, by decide⟩ ⟨rfl, rfl⟩ rfl hl.1 rfl (lv_room (Nat.le_of_ble_eq_true rfl)) dX9_place_53 (fun H locs hP hD hS => ?_)
  refine lv_aload_n hx hb dX9_place_56 rfl (lv_at hl 0 rfl) ?_
  refine lv_dup hx hb dX9_place_57 rfl ?_
  refine M_gt17 C hP dX9_place_58 ?_
  refine lv_iconst (v := (1 : Int32)) hx hb dX9_place_61 (by decide) ?_
  refine lv_iadd hx hb dX9_place_62 ?_
  obtain ⟨σ9, eσ9, h⟩ := letS_n h
  refine M_pt17 C hP hD hS eσ9 dX9_place_63 (fun H locs hP hD hS => ?_)
  exact M_vret C h hP hD hS dX9_place_66
set_option maxRecDepth 100000 in
theorem kX9_place (l : Launch) (sz : Nat) {D : va_G} {a : Nat → Nat} {cc : Nat → ClassId} {N : Nat} {σr : St} {σ : St} {p0 : Int32} {p1 : Int32} (h : fX9_place N σ p0 p1 = some σr) : Met l yX9_place ((Cond.code yX9_place cX9_place 3 none :: WM)) rmX9_place (M_Pc D a cc [.ref (a 0), .int p0, .int p1] σ sz) (M_Qv D a cc σ sz σr) 0 0 (va_A (wM a cc σ) sz) := by
  refine Met.ofW (cc := cX9_place) (maxL := 3) (ret := none) (by decide) rfl ?_
  intro p e s m args below meth c s₁ B hml hv
  obtain ⟨rfl, hsz, hP, hK, hD0⟩ := hv
  subst hsz
  have hl := lv_entry ([.ref (a 0), .int p0, .int p1]) (n := 3) (Nat.le_of_ble_eq_true rfl)
  rw [lg_entry_eq]
  generalize (lg_sl ([.ref (a 0), .int p0, .int p1]) ++ List.replicate (3 - (lg_sl ([.ref (a 0), .int p0, .int p1])).length) Slot.unset).toArray = ls at hl ⊢
  exact tX9_place ⟨B.exec, B.bytes, B.returns, hml, findClass_of_methodNamed B.named, atoms_spec (ws := (Cond.code yX9_place cX9_place 3 none :: WM)) B.pre, (fun w h => List.mem_cons_of_mem _ (inWM w h)), hK, B.notSynchronized⟩ (fun q h => Or.inr h) h hP hD0.self va_S.rf hl
set_option maxHeartbeats 4000000 in
set_option maxRecDepth 100000 in
theorem tX9_unroll_108 {p : Program} {l : Launch} {e : Env} {s : State} {m : MethodId} {args : Array Value} {below : List Frame} {meth : Method} {c : Code} {D : va_G} {a : Nat → Nat} {cc : Nat → ClassId} {A : Nat → Prop} {N : Nat} {σr : St} {k25 : St → Int32 → Int32 → Option St} (C : M_Cx RX9 p s m args meth c D cc cX9_unroll (Cond.code yX9_unroll cX9_unroll 4 none :: WM) 4 none) (hA : ∀ q, s.heap.size ≤ q → A q) (hk25 : ∀ {σ : St} {x1 : Int32} {x2 : Int32} {H : Heap} {locs : List Loc} {ls : Array Slot}, k25 σ x1 x2 = some σr → va_P D vwCl (wM a cc σ) H → va_D A (wM a cc σ) → va_S A s.heap H locs → lv_has ls 4 [(0, .ref (a 0)), (1, .int x1), (2, .int x2)] → W p l e rmX9_unroll s m args below meth c H locs 0 0 (M_Mv D a cc A below args s σr) (F0 m 25 ls [])) {σ : St} {x1 : Int32} {x2 : Int32} {H : Heap} {locs : List Loc} {ls : Array Slot} (h : fX9_unroll_108 N k25 σ x1 x2 = some σr) : va_P D vwCl (wM a cc σ) H → va_D A (wM a cc σ) → va_S A s.heap H locs → lv_has ls 4 [(0, .ref (a 0)), (1, .int x1), (2, .int x2)] → W p l e rmX9_unroll s m args below meth c H locs 0 0 (M_Mv D a cc A below args s σr) (F0 m 108 ls []) := by
  obtain ⟨hx, hb, hr, hml, hown, hts, hin, hK, hlocks⟩ := id C
  intro hP hD hS hl
  refine lv_goto (tgt := 25) hx hb dX9_unroll_108 (by decide) ?_
  exact hk25 h hP hD hS (lv_sub hl [0, 1, 2] rfl)
set_option maxHeartbeats 4000000 in
set_option maxRecDepth 100000 in
theorem tX9_unroll_75 {p : Program} {l : Launch} {e : Env} {s : State} {m : MethodId} {args : Array Value} {below : List Frame} {meth : Method} {c : Code} {D : va_G} {a : Nat → Nat} {cc : Nat → ClassId} {A : Nat → Prop} {N : Nat} {σr : St} {k25 : St → Int32 → Int32 → Option St} (C : M_Cx RX9 p s m args meth c D cc cX9_unroll (Cond.code yX9_unroll cX9_unroll 4 none :: WM) 4 none) (hA : ∀ q, s.heap.size ≤ q → A q) (hk25 : ∀ {σ : St} {x1 : Int32} {x2 : Int32} {H : Heap} {locs : List Loc} {ls : Array Slot}, k25 σ x1 x2 = some σr → va_P D vwCl (wM a cc σ) H → va_D A (wM a cc σ) → va_S A s.heap H locs → lv_has ls 4 [(0, .ref (a 0)), (1, .int x1), (2, .int x2)] → W p l e rmX9_unroll s m args below meth c H locs 0 0 (M_Mv D a cc A below args s σr) (F0 m 25 ls [])) {σ : St} {x1 : Int32} {x2 : Int32} {x3 : Int32} {H : Heap} {locs : List Loc} {ls : Array Slot} (h : fX9_unroll_75 N k25 σ x1 x2 x3 = some σr) : va_P D vwCl (wM a cc σ) H → va_D A (wM a cc σ) → va_S A s.heap H locs → lv_has ls 4 [(0, .ref (a 0)), (1, .int x1), (2, .int x2), (3, .int x3)] → W p l e rmX9_unroll s m args below meth c H locs 0 0 (M_Mv D a cc A below args s σr) (F0 m 75 ls []) := by
  obtain ⟨hx, hb, hr, hml, hown, hts, hin, hK, hlocks⟩ := id C
  intro hP hD hS hl
  refine lv_aload_n hx hb dX9_unroll_75 rfl (lv_at hl 0 rfl) ?_
  refine lv_iload_n hx hb dX9_unroll_76 rfl (lv_at hl 3 rfl) ?_
  obtain ⟨σ18, hc, h⟩ := bnd1_s h
  refine M_callVv (As := [.int x3]) (rest := []) C hA (fun sz => kX9_list l sz hc) gX9_list hP hD hS ⟨by decide, by decide⟩ ⟨rfl, rfl⟩ rfl hl.1 rfl (lv_room (Nat.le_of_ble_eq_true rfl)) dX9_unroll_77 (fun H locs hP hD hS => ?_)
  refine lv_goto (tgt := 108) hx hb dX9_unroll_80 (by decide) ?_
  exact tX9_unroll_108 C hA hk25 h hP hD hS (lv_sub hl [0, 1, 2] rfl)
set_option maxHeartbeats 4000000 in
set_option maxRecDepth 100000 in
theorem tX9_unroll_167 {p : Program} {l : Launch} {e : Env} {s : State} {m : MethodId} {args : Array Value} {below : List Frame} {meth : Method} {c : Code} {D : va_G} {a : Nat → Nat} {cc : Nat → ClassId} {A : Nat → Prop} {N : Nat} {σr : St} {k135 : St → Int32 → Option St} (C : M_Cx RX9 p s m args meth c D cc cX9_unroll (Cond.code yX9_unroll cX9_unroll 4 none :: WM) 4 none) (hA : ∀ q, s.heap.size ≤ q → A q) (hk135 : ∀ {σ : St} {x3 : Int32} {H : Heap} {locs : List Loc} {ls : Array Slot}, k135 σ x3 = some σr → va_P D vwCl (wM a cc σ) H → va_D A (wM a cc σ) → va_S A s.heap H locs → lv_has ls 4 [(0, .ref (a 0)), (3, .int x3)] → W p l e rmX9_unroll s m args below meth c H locs 0 0 (M_Mv D a cc A below args s σr) (F0 m 135 ls [])) {σ : St} {x3 : Int32} {y0 : Int32} {y1 : Int32} {H : Heap} {locs : List Loc} {ls : Array Slot} (h : fX9_unroll_167 N k135 σ x3 y0 y1 = some σr) : va_P D vwCl (wM a cc σ) H → va_D A (wM a cc σ) → va_S A s.heap H locs → lv_has ls 4 [(0, .ref (a 0)), (3, .int x3)] → W p l e rmX9_unroll s m args below meth c H locs 0 0 (M_Mv D a cc A below args s σr) (F0 m 167 ls [.int y0, .int y1, .ref (a 22)]) := by
  obtain ⟨hx, hb, hr, hml, hown, hts, hin, hK, hlocks⟩ := id C
  intro hP hD hS hl
  obtain ⟨g26, h⟩ := grd_s h
  obtain ⟨σ27, eσ27, h⟩ := letS_n h
  refine M_st22 C hP hD hS g26 eσ27 dX9_unroll_167 (fun H locs hP hD hS => ?_)
  obtain ⟨u28, eu28, h⟩ := letS_n h
  refine lv_iinc (v := u28) (lv' := [(3, .int u28), (0, .ref (a 0))]) hx hb dX9_unroll_168 hl (k := 1) rfl (by rw [eu28]; rfl) (by decide) rfl (fun ls hl => ?_)
  refine lv_goto (tgt := 135) hx hb dX9_unroll_171 (by decide) ?_
  exact hk135 h hP hD hS (lv_sub hl [1, 0] rfl)
set_option maxHeartbeats 4000000 in
set_option maxRecDepth 100000 in
theorem tX9_unroll_135 {p : Program} {l : Launch} {e : Env} {s : State} {m : MethodId} {args : Array Value} {below : List Frame} {meth : Method} {c : Code} {D : va_G} {a : Nat → Nat} {cc : Nat → ClassId} {A : Nat → Prop} {N : Nat} {σr : St} (C : M_Cx RX9 p s m args meth c D cc cX9_unroll (Cond.code yX9_unroll cX9_unroll 4 none :: WM) 4 none) (hA : ∀ q, s.heap.size ≤ q → A q) : ∀ (n : Nat) {σ : St} {x3 : Int32} {H : Heap} {locs : List Loc} {ls : Array Slot}, fX9_unroll_135 N n σ x3 = some σr → va_P D vwCl (wM a cc σ) H → va_D A (wM a cc σ) → va_S A s.heap H locs → lv_has ls 4 [(0, .ref (a 0)), (3, .int x3)] → W p l e rmX9_unroll s m args below meth c H locs 0 0 (M_Mv D a cc A below args s σr) (F0 m 135 ls []) := by
  obtain ⟨hx, hb, hr, hml, hown, hts, hin, hK, hlocks⟩ := id C
  intro n
  induction n with
  | zero => intro σ x3 H locs ls h; exact none_s h
  | succ n ih =>
    intro σ x3 H locs ls h hP hD hS hl
    refine lv_iload_n hx hb dX9_unroll_135 rfl (lv_at hl 1 rfl) ?_
    refine lv_aload_n hx hb dX9_unroll_136 rfl (lv_at hl 0 rfl) ?_
    refine M_gt17 C hP dX9_unroll_137 ?_
    refine lv_icmp_ge (tgt := 174) hx hb dX9_unroll_140 (by decide) (fun c23 => ?_) (fun c23 => ?_)
    · have h := ifT c23 h
      exact M_vret C h hP hD hS dX9_unroll_174
    · have h := ifF c23 h
      refine lv_aload_n hx hb dX9_unroll_143 rfl (lv_at hl 0 rfl) ?_
      refine M_gt22 C hP dX9_unroll_144 ?_
      refine lv_iload_n hx hb dX9_unroll_147 rfl (lv_at hl 1 rfl) ?_
      refine lv_aload_n hx hb dX9_unroll_148 rfl (lv_at hl 0 rfl) ?_
      refine M_gt29 C hP dX9_unroll_149 ?_
      refine lv_iconst (v := (0 : Int32)) hx hb dX9_unroll_152 (by decide) ?_
      obtain ⟨g24, h⟩ := grd_s h
      refine M_ld29 C hP g24 dX9_unroll_153 ?_
      refine lv_iload_n hx hb dX9_unroll_154 rfl (lv_at hl 1 rfl) ?_
      refine lv_ishr hx hb dX9_unroll_155 ?_
      refine lv_iconst (v := (1 : Int32)) hx hb dX9_unroll_156 (by decide) ?_
      refine lv_iand hx hb dX9_unroll_157 ?_
      refine lv_iconst (v := (1 : Int32)) hx hb dX9_unroll_158 (by decide) ?_
      refine lv_icmp_ne (tgt := 166) hx hb dX9_unroll_159 (by decide) (fun c25 => ?_) (fun c25 => ?_)
      · have h := ifF c25 h
        refine lv_iconst (v := (0 : Int32)) hx hb dX9_unroll_166 (by decide) ?_
        exact tX9_unroll_167 C hA ih h hP hD hS (lv_sub hl [0, 1] rfl)
      · have h := ifT c25 h
        refine lv_iconst (v := (1 : Int32)) hx hb dX9_unroll_162 (by decide) ?_
        refine lv_goto (tgt := 167) hx hb dX9_unroll_163 (by decide) ?_
        exact tX9_unroll_167 C hA ih h hP hD hS (lv_sub hl [0, 1] rfl)
set_option maxHeartbeats 4000000 in
set_option maxRecDepth 100000 in
theorem tX9_unroll_111 {p : Program} {l : Launch} {e : Env} {s : State} {m : MethodId} {args : Array Value} {below : List Frame} {meth : Method} {c : Code} {D : va_G} {a : Nat → Nat} {cc : Nat → ClassId} {A : Nat → Prop} {N : Nat} {σr : St} (C : M_Cx RX9 p s m args meth c D cc cX9_unroll (Cond.code yX9_unroll cX9_unroll 4 none :: WM) 4 none) (hA : ∀ q, s.heap.size ≤ q → A q) {σ : St} {x1 : Int32} {x2 : Int32} {H : Heap} {locs : List Loc} {ls : Array Slot} (h : fX9_unroll_111 N σ x1 x2 = some σr) : va_P D vwCl (wM a cc σ) H → va_D A (wM a cc σ) → va_S A s.heap H locs → lv_has ls 4 [(0, .ref (a 0)), (1, .int x1), (2, .int x2)] → W p l e rmX9_unroll s m args below meth c H locs 0 0 (M_Mv D a cc A below args s σr) (F0 m 111 ls []) := by
  obtain ⟨hx, hb, hr, hml, hown, hts, hin, hK, hlocks⟩ := id C
  intro hP hD hS hl
  refine lv_aload_n hx hb dX9_unroll_111 rfl (lv_at hl 0 rfl) ?_
  refine M_gt17 C hP dX9_unroll_112 ?_
  refine lv_bipush (v := (9 : Int32)) hx hb dX9_unroll_115 (by decide) ?_
  refine lv_icmp_le (tgt := 121) hx hb dX9_unroll_117 (by decide) (fun c19 => ?_) (fun c19 => ?_)
  · have h := ifT c19 h
    refine lv_aload_n hx hb dX9_unroll_121 rfl (lv_at hl 0 rfl) ?_
    refine M_gt23 C hP dX9_unroll_122 ?_
    refine lv_iload_n hx hb dX9_unroll_125 rfl (lv_at hl 1 rfl) ?_
    refine lv_aload_n hx hb dX9_unroll_126 rfl (lv_at hl 0 rfl) ?_
    refine M_gt28 C hP dX9_unroll_127 ?_
    refine lv_iconst (v := (0 : Int32)) hx hb dX9_unroll_130 (by decide) ?_
    obtain ⟨g20, h⟩ := grd_s h
    refine M_ld28 C hP g20 dX9_unroll_131 ?_
    obtain ⟨g21, h⟩ := grd_s h
    obtain ⟨σ22, eσ22, h⟩ := letS_n h
    refine M_st23 C hP hD hS g21 eσ22 dX9_unroll_132 (fun H locs hP hD hS => ?_)
    refine lv_iload_n hx hb dX9_unroll_133 rfl (lv_at hl 2 rfl) ?_
    refine lv_istore_n (lv' := [(3, .int x2), (0, .ref (a 0)), (1, .int x1), (2, .int x2)]) hx hb dX9_unroll_134 rfl hl (by decide) rfl (fun ls hl => ?_)
    exact tX9_unroll_135 C hA N h hP hD hS (lv_sub hl [1, 0] rfl)
  · have h := ifF c19 h
    exact M_vret C h hP hD hS dX9_unroll_120
set_option maxHeartbeats 4000000 in
set_option maxRecDepth 100000 in
theorem tX9_unroll_25 {p : Program} {l : Launch} {e : Env} {s : State} {m : MethodId} {args : Array Value} {below : List Frame} {meth : Method} {c : Code} {D : va_G} {a : Nat → Nat} {cc : Nat → ClassId} {A : Nat → Prop} {N : Nat} {σr : St} (C : M_Cx RX9 p s m args meth c D cc cX9_unroll (Cond.code yX9_unroll cX9_unroll 4 none :: WM) 4 none) (hA : ∀ q, s.heap.size ≤ q → A q) : ∀ (n : Nat) {σ : St} {x1 : Int32} {x2 : Int32} {H : Heap} {locs : List Loc} {ls : Array Slot}, fX9_unroll_25 N n σ x1 x2 = some σr → va_P D vwCl (wM a cc σ) H → va_D A (wM a cc σ) → va_S A s.heap H locs → lv_has ls 4 [(0, .ref (a 0)), (1, .int x1), (2, .int x2)] → W p l e rmX9_unroll s m args below meth c H locs 0 0 (M_Mv D a cc A below args s σr) (F0 m 25 ls []) := by
  obtain ⟨hx, hb, hr, hml, hown, hts, hin, hK, hlocks⟩ := id C
  intro n
  induction n with
  | zero => intro σ x1 x2 H locs ls h; exact none_s h
  | succ n ih =>
    intro σ x1 x2 H locs ls h hP hD hS hl
    refine lv_aload_n hx hb dX9_unroll_25 rfl (lv_at hl 0 rfl) ?_
    refine M_gt24 C hP dX9_unroll_26 ?_
    refine lv_if_le (tgt := 111) hx hb dX9_unroll_29 (by decide) (fun c6 => ?_) (fun c6 => ?_)
    · have h := ifT c6 h
      exact tX9_unroll_111 C hA h hP hD hS (lv_sub hl [0, 1, 2] rfl)
    · have h := ifF c6 h
      refine lv_aload_n hx hb dX9_unroll_32 rfl (lv_at hl 0 rfl) ?_
      refine M_gt17 C hP dX9_unroll_33 ?_
      refine lv_bipush (v := (9 : Int32)) hx hb dX9_unroll_36 (by decide) ?_
      refine lv_icmp_gt (tgt := 111) hx hb dX9_unroll_38 (by decide) (fun c7 => ?_) (fun c7 => ?_)
      · have h := ifT c7 h
        exact tX9_unroll_111 C hA h hP hD hS (lv_sub hl [0, 1, 2] rfl)
      · have h := ifF c7 h
        refine lv_aload_n hx hb dX9_unroll_41 rfl (lv_at hl 0 rfl) ?_
        refine M_gt25 C hP dX9_unroll_42 ?_
        refine lv_aload_n hx hb dX9_unroll_45 rfl (lv_at hl 0 rfl) ?_
        refine M_gt24 C hP dX9_unroll_46 ?_
        refine lv_iconst (v := (1 : Int32)) hx hb dX9_unroll_49 (by decide) ?_
        refine lv_isub hx hb dX9_unroll_50 ?_
        obtain ⟨g8, h⟩ := grd_s h
        refine M_ld25 C hP g8 dX9_unroll_51 ?_
        obtain ⟨u9, eu9, h⟩ := letS_n h
        refine lv_topE eu9 ?_
        refine lv_istore_n (lv' := [(3, .int u9), (0, .ref (a 0)), (1, .int x1), (2, .int x2)]) hx hb dX9_unroll_52 rfl hl (by decide) rfl (fun ls hl => ?_)
        refine lv_aload_n hx hb dX9_unroll_53 rfl (lv_at hl 1 rfl) ?_
        refine M_gt5 C hP dX9_unroll_54 ?_
        refine lv_iload_n hx hb dX9_unroll_57 rfl (lv_at hl 0 rfl) ?_
        obtain ⟨g10, h⟩ := grd_s h
        refine M_ld5 C hP g10 dX9_unroll_58 ?_
        refine lv_bipush (v := (10 : Int32)) hx hb dX9_unroll_59 (by decide) ?_
        refine lv_icmp_eq (tgt := 75) hx hb dX9_unroll_61 (by decide) (fun c11 => ?_) (fun c11 => ?_)
        · have h := ifT c11 h
          exact tX9_unroll_75 C hA ih h hP hD hS (lv_sub hl [1, 2, 3, 0] rfl)
        · have h := ifF c11 h
          refine lv_aload_n hx hb dX9_unroll_64 rfl (lv_at hl 1 rfl) ?_
          refine M_gt5 C hP dX9_unroll_65 ?_
          refine lv_iload_n hx hb dX9_unroll_68 rfl (lv_at hl 0 rfl) ?_
          obtain ⟨g12, h⟩ := grd_s h
          refine M_ld5 C hP g12 dX9_unroll_69 ?_
          refine lv_bipush (v := (12 : Int32)) hx hb dX9_unroll_70 (by decide) ?_
          refine lv_icmp_ne (tgt := 83) hx hb dX9_unroll_72 (by decide) (fun c13 => ?_) (fun c13 => ?_)
          · have h := ifF c13 h
            refine lv_aload_n hx hb dX9_unroll_83 rfl (lv_at hl 1 rfl) ?_
            refine M_gt5 C hP dX9_unroll_84 ?_
            refine lv_iload_n hx hb dX9_unroll_87 rfl (lv_at hl 0 rfl) ?_
            obtain ⟨g14, h⟩ := grd_s h
            refine M_ld5 C hP g14 dX9_unroll_88 ?_
            refine lv_bipush (v := (11 : Int32)) hx hb dX9_unroll_89 (by decide) ?_
            refine lv_icmp_ne (tgt := 102) hx hb dX9_unroll_91 (by decide) (fun c15 => ?_) (fun c15 => ?_)
            · have h := ifF c15 h
              refine lv_aload_n hx hb dX9_unroll_102 rfl (lv_at hl 1 rfl) ?_
              refine lv_iload_n hx hb dX9_unroll_103 rfl (lv_at hl 0 rfl) ?_
              refine lv_iload_n hx hb dX9_unroll_104 rfl (lv_at hl 2 rfl) ?_
              obtain ⟨σ16, hc, h⟩ := bnd1_s h
              refine M_callVv (As := [.int u9, .int x1]) (rest := []) C hA (fun sz => kX9_place l sz hc) gX9_place hP hD hS ⟨by decide, by decide⟩ ⟨rfl, rfl⟩ rfl hl.1 rfl (lv_room (Nat.le_of_ble_eq_true rfl)) dX9_unroll_105 (fun H locs hP hD hS => ?_)
              exact tX9_unroll_108 C hA ih h hP hD hS (lv_sub hl [1, 2, 3] rfl)
            · have h := ifT c15 h
              refine lv_aload_n hx hb dX9_unroll_94 rfl (lv_at hl 1 rfl) ?_
              refine lv_iload_n hx hb dX9_unroll_95 rfl (lv_at hl 0 rfl) ?_
              obtain ⟨σ17, hc, h⟩ := bnd1_s h
              refine M_callVv (As := [.int u9]) (rest := []) C hA (fun sz => kX9_copy l sz hc) gX9_copy hP hD hS ⟨by decide, by decide⟩ ⟨rfl, rfl⟩ rfl hl.1 rfl (lv_room (Nat.le_of_ble_eq_true rfl)) dX9_unroll_96 (fun H locs hP hD hS => ?_)
              refine lv_goto (tgt := 108) hx hb dX9_unroll_99 (by decide) ?_
              exact tX9_unroll_108 C hA ih h hP hD hS (lv_sub hl [1, 2, 3] rfl)
          · have h := ifT c13 h
            exact tX9_unroll_75 C hA ih h hP hD hS (lv_sub hl [1, 2, 3, 0] rfl)
set_option maxHeartbeats 4000000 in
set_option maxRecDepth 100000 in
theorem tX9_unroll {p : Program} {l : Launch} {e : Env} {s : State} {m : MethodId} {args : Array Value} {below : List Frame} {meth : Method} {c : Code} {D : va_G} {a : Nat → Nat} {cc : Nat → ClassId} {A : Nat → Prop} {N : Nat} {σr : St} (C : M_Cx RX9 p s m args meth c D cc cX9_unroll (Cond.code yX9_unroll cX9_unroll 4 none :: WM) 4 none) (hA : ∀ q, s.heap.size ≤ q → A q) {σ : St} {p0 : Int32} {H : Heap} {locs : List Loc} {ls : Array Slot} (h : fX9_unroll N σ p0 = some σr) : va_P D vwCl (wM a cc σ) H → va_D A (wM a cc σ) → va_S A s.heap H locs → lv_has ls 4 [(0, .ref (a 0)), (1, .int p0)] → W p l e rmX9_unroll s m args below meth c H locs 0 0 (M_Mv D a cc A below args s σr) (F0 m 0 ls []) := by
  obtain ⟨hx, hb, hr, hml, hown, hts, hin, hK, hlocks⟩ := id C
  intro hP hD hS hl
  refine lv_aload_n hx hb dX9_unroll_0 rfl (lv_at hl 0 rfl) ?_
  refine M_gt17 C hP dX9_unroll_1 ?_
  obtain ⟨u1, eu1, h⟩ := letS_n h
  refine lv_topE eu1 ?_
  refine lv_istore_n (lv' := [(2, .int u1), (0, .ref (a 0)), (1, .int p0)]) hx hb dX9_unroll_4 rfl hl (by decide) rfl (fun ls hl => ?_)
  refine lv_aload_n hx hb dX9_unroll_5 rfl (lv_at hl 1 rfl) ?_
  refine lv_iconst (v := (0 : Int32)) hx hb dX9_unroll_6 (by decide) ?_
  obtain ⟨σ2, eσ2, h⟩ := letS_n h
  refine M_pt24 C hP hD hS eσ2 dX9_unroll_7 (fun H locs hP hD hS => ?_)
  refine lv_aload_n hx hb dX9_unroll_10 rfl (lv_at hl 1 rfl) ?_
  refine lv_iconst (v := (0 : Int32)) hx hb dX9_unroll_11 (by decide) ?_
  obtain ⟨σ3, eσ3, h⟩ := letS_n h
  refine M_pt27 C hP hD hS eσ3 dX9_unroll_12 (fun H locs hP hD hS => ?_)
  refine lv_aload_n hx hb dX9_unroll_15 rfl (lv_at hl 1 rfl) ?_
  refine lv_aload_n hx hb dX9_unroll_16 rfl (lv_at hl 1 rfl) ?_
  refine M_gt6 C hP dX9_unroll_17 ?_
  refine lv_iload_n hx hb dX9_unroll_20 rfl (lv_at hl 2 rfl) ?_
  obtain ⟨g4, h⟩ := grd_s h
  refine M_ld6 C hP g4 dX9_unroll_21 ?_
  obtain ⟨σ5, hc, h⟩ := bnd1_s h
  refine M_callVv (As := [.int (gI σ3 6 p0.toNatClampNeg)]) (rest := []) C hA (fun sz => kX9_enter l sz hc) gX9_enter hP hD hS ⟨by decide, by decide⟩ ⟨rfl, rfl⟩ rfl hl.1 rfl (lv_room (Nat.le_of_ble_eq_true rfl)) dX9_unroll_22 (fun H locs hP hD hS => ?_)
  exact tX9_unroll_25 C hA N h hP hD hS (lv_sub hl [1, 2, 0] rfl)
set_option maxRecDepth 100000 in
theorem kX9_unroll (l : Launch) (sz : Nat) {D : va_G} {a : Nat → Nat} {cc : Nat → ClassId} {N : Nat} {σr : St} {σ : St} {p0 : Int32} (h : fX9_unroll N σ p0 = some σr) : Met l yX9_unroll ((Cond.code yX9_unroll cX9_unroll 4 none :: WM)) rmX9_unroll (M_Pc D a cc [.ref (a 0), .int p0] σ sz) (M_Qv D a cc σ sz σr) 0 0 (va_A (wM a cc σ) sz) := by
  refine Met.ofW (cc := cX9_unroll) (maxL := 4) (ret := none) (by decide) rfl ?_
  intro p e s m args below meth c s₁ B hml hv
  obtain ⟨rfl, hsz, hP, hK, hD0⟩ := hv
  subst hsz
  have hl := lv_entry ([.ref (a 0), .int p0]) (n := 4) (Nat.le_of_ble_eq_true rfl)
  rw [lg_entry_eq]
  generalize (lg_sl ([.ref (a 0), .int p0]) ++ List.replicate (4 - (lg_sl ([.ref (a 0), .int p0])).length) Slot.unset).toArray = ls at hl ⊢
  exact tX9_unroll ⟨B.exec, B.bytes, B.returns, hml, findClass_of_methodNamed B.named, atoms_spec (ws := (Cond.code yX9_unroll cX9_unroll 4 none :: WM)) B.pre, (fun w h => List.mem_cons_of_mem _ (inWM w h)), hK, B.notSynchronized⟩ (fun q h => Or.inr h) h hP hD0.self va_S.rf hl
set_option maxHeartbeats 4000000 in
set_option maxRecDepth 100000 in
theorem tX9_collect_88 {p : Program} {l : Launch} {e : Env} {s : State} {m : MethodId} {args : Array Value} {below : List Frame} {meth : Method} {c : Code} {D : va_G} {a : Nat → Nat} {cc : Nat → ClassId} {A : Nat → Prop} {N : Nat} {σr : St} {k12 : St → Int32 → Option St} (C : M_Cx RX9 p s m args meth c D cc cX9_collect (Cond.code yX9_collect cX9_collect 2 none :: WM) 2 none) (hA : ∀ q, s.heap.size ≤ q → A q) (hk12 : ∀ {σ : St} {x1 : Int32} {H : Heap} {locs : List Loc} {ls : Array Slot}, k12 σ x1 = some σr → va_P D vwCl (wM a cc σ) H → va_D A (wM a cc σ) → va_S A s.heap H locs → lv_has ls 2 [(0, .ref (a 0)), (1, .int x1)] → W p l e rmX9_collect s m args below meth c H locs 0 0 (M_Mv D a cc A below args s σr) (F0 m 12 ls [])) {σ : St} {x1 : Int32} {H : Heap} {locs : List Loc} {ls : Array Slot} (h : fX9_collect_88 N k12 σ x1 = some σr) : va_P D vwCl (wM a cc σ) H → va_D A (wM a cc σ) → va_S A s.heap H locs → lv_has ls 2 [(0, .ref (a 0)), (1, .int x1)] → W p l e rmX9_collect s m args below meth c H locs 0 0 (M_Mv D a cc A below args s σr) (F0 m 88 ls []) := by
  obtain ⟨hx, hb, hr, hml, hown, hts, hin, hK, hlocks⟩ := id C
  intro hP hD hS hl
  obtain ⟨u16, eu16, h⟩ := letS_n h
  refine lv_iinc (v := u16) (lv' := [(1, .int u16), (0, .ref (a 0))]) hx hb dX9_collect_88 hl (k := 1) rfl (by rw [eu16]; rfl) (by decide) rfl (fun ls hl => ?_)
  refine lv_goto (tgt := 12) hx hb dX9_collect_91 (by decide) ?_
  exact hk12 h hP hD hS (lv_sub hl [1, 0] rfl)
set_option maxHeartbeats 4000000 in
set_option maxRecDepth 100000 in
theorem tX9_collect_67 {p : Program} {l : Launch} {e : Env} {s : State} {m : MethodId} {args : Array Value} {below : List Frame} {meth : Method} {c : Code} {D : va_G} {a : Nat → Nat} {cc : Nat → ClassId} {A : Nat → Prop} {N : Nat} {σr : St} {k12 : St → Int32 → Option St} (C : M_Cx RX9 p s m args meth c D cc cX9_collect (Cond.code yX9_collect cX9_collect 2 none :: WM) 2 none) (hA : ∀ q, s.heap.size ≤ q → A q) (hk12 : ∀ {σ : St} {x1 : Int32} {H : Heap} {locs : List Loc} {ls : Array Slot}, k12 σ x1 = some σr → va_P D vwCl (wM a cc σ) H → va_D A (wM a cc σ) → va_S A s.heap H locs → lv_has ls 2 [(0, .ref (a 0)), (1, .int x1)] → W p l e rmX9_collect s m args below meth c H locs 0 0 (M_Mv D a cc A below args s σr) (F0 m 12 ls [])) {σ : St} {x1 : Int32} {H : Heap} {locs : List Loc} {ls : Array Slot} (h : fX9_collect_67 N k12 σ x1 = some σr) : va_P D vwCl (wM a cc σ) H → va_D A (wM a cc σ) → va_S A s.heap H locs → lv_has ls 2 [(0, .ref (a 0)), (1, .int x1)] → W p l e rmX9_collect s m args below meth c H locs 0 0 (M_Mv D a cc A below args s σr) (F0 m 67 ls []) := by
  obtain ⟨hx, hb, hr, hml, hown, hts, hin, hK, hlocks⟩ := id C
  intro hP hD hS hl
  refine lv_aload_n hx hb dX9_collect_67 rfl (lv_at hl 0 rfl) ?_
  refine M_gt5 C hP dX9_collect_68 ?_
  refine lv_iload_n hx hb dX9_collect_71 rfl (lv_at hl 1 rfl) ?_
  obtain ⟨g12, h⟩ := grd_s h
  refine M_ld5 C hP g12 dX9_collect_72 ?_
  refine lv_bipush (v := (9 : Int32)) hx hb dX9_collect_73 (by decide) ?_
  refine lv_icmp_ne (tgt := 88) hx hb dX9_collect_75 (by decide) (fun c13 => ?_) (fun c13 => ?_)
  · have h := ifF c13 h
    exact tX9_collect_88 C hA hk12 h hP hD hS (lv_sub hl [0, 1] rfl)
  · have h := ifT c13 h
    refine lv_aload_n hx hb dX9_collect_78 rfl (lv_at hl 0 rfl) ?_
    refine lv_aload_n hx hb dX9_collect_79 rfl (lv_at hl 0 rfl) ?_
    refine M_gt7 C hP dX9_collect_80 ?_
    refine lv_iload_n hx hb dX9_collect_83 rfl (lv_at hl 1 rfl) ?_
    obtain ⟨g14, h⟩ := grd_s h
    refine M_ld7 C hP g14 dX9_collect_84 ?_
    obtain ⟨σ15, hc, h⟩ := bnd1_s h
    refine M_callVv (As := [.int (gI σ 7 x1.toNatClampNeg)]) (rest := []) C hA (fun sz => kX9_oblige l sz hc) gX9_oblige hP hD hS ⟨by decide, by decide⟩ ⟨rfl, rfl⟩ rfl hl.1 rfl (lv_room (Nat.le_of_ble_eq_true rfl)) dX9_collect_85 (fun H locs hP hD hS => ?_)
    exact tX9_collect_88 C hA hk12 h hP hD hS (lv_sub hl [0, 1] rfl)
set_option maxHeartbeats 4000000 in
set_option maxRecDepth 100000 in
theorem tX9_collect_46 {p : Program} {l : Launch} {e : Env} {s : State} {m : MethodId} {args : Array Value} {below : List Frame} {meth : Method} {c : Code} {D : va_G} {a : Nat → Nat} {cc : Nat → ClassId} {A : Nat → Prop} {N : Nat} {σr : St} {k12 : St → Int32 → Option St} (C : M_Cx RX9 p s m args meth c D cc cX9_collect (Cond.code yX9_collect cX9_collect 2 none :: WM) 2 none) (hA : ∀ q, s.heap.size ≤ q → A q) (hk12 : ∀ {σ : St} {x1 : Int32} {H : Heap} {locs : List Loc} {ls : Array Slot}, k12 σ x1 = some σr → va_P D vwCl (wM a cc σ) H → va_D A (wM a cc σ) → va_S A s.heap H locs → lv_has ls 2 [(0, .ref (a 0)), (1, .int x1)] → W p l e rmX9_collect s m args below meth c H locs 0 0 (M_Mv D a cc A below args s σr) (F0 m 12 ls [])) {σ : St} {x1 : Int32} {H : Heap} {locs : List Loc} {ls : Array Slot} (h : fX9_collect_46 N k12 σ x1 = some σr) : va_P D vwCl (wM a cc σ) H → va_D A (wM a cc σ) → va_S A s.heap H locs → lv_has ls 2 [(0, .ref (a 0)), (1, .int x1)] → W p l e rmX9_collect s m args below meth c H locs 0 0 (M_Mv D a cc A below args s σr) (F0 m 46 ls []) := by
  obtain ⟨hx, hb, hr, hml, hown, hts, hin, hK, hlocks⟩ := id C
  intro hP hD hS hl
  refine lv_aload_n hx hb dX9_collect_46 rfl (lv_at hl 0 rfl) ?_
  refine M_gt5 C hP dX9_collect_47 ?_
  refine lv_iload_n hx hb dX9_collect_50 rfl (lv_at hl 1 rfl) ?_
  obtain ⟨g8, h⟩ := grd_s h
  refine M_ld5 C hP g8 dX9_collect_51 ?_
  refine lv_bipush (v := (7 : Int32)) hx hb dX9_collect_52 (by decide) ?_
  refine lv_icmp_ne (tgt := 67) hx hb dX9_collect_54 (by decide) (fun c9 => ?_) (fun c9 => ?_)
  · have h := ifF c9 h
    exact tX9_collect_67 C hA hk12 h hP hD hS (lv_sub hl [0, 1] rfl)
  · have h := ifT c9 h
    refine lv_aload_n hx hb dX9_collect_57 rfl (lv_at hl 0 rfl) ?_
    refine lv_aload_n hx hb dX9_collect_58 rfl (lv_at hl 0 rfl) ?_
    refine M_gt6 C hP dX9_collect_59 ?_
    refine lv_iload_n hx hb dX9_collect_62 rfl (lv_at hl 1 rfl) ?_
    obtain ⟨g10, h⟩ := grd_s h
    refine M_ld6 C hP g10 dX9_collect_63 ?_
    obtain ⟨σ11, hc, h⟩ := bnd1_s h
    refine M_callVv (As := [.int (gI σ 6 x1.toNatClampNeg)]) (rest := []) C hA (fun sz => kX9_oblige l sz hc) gX9_oblige hP hD hS ⟨by decide, by decide⟩ ⟨rfl, rfl⟩ rfl hl.1 rfl (lv_room (Nat.le_of_ble_eq_true rfl)) dX9_collect_64 (fun H locs hP hD hS => ?_)
    exact tX9_collect_67 C hA hk12 h hP hD hS (lv_sub hl [0, 1] rfl)
set_option maxHeartbeats 4000000 in
set_option maxRecDepth 100000 in
theorem tX9_collect_41 {p : Program} {l : Launch} {e : Env} {s : State} {m : MethodId} {args : Array Value} {below : List Frame} {meth : Method} {c : Code} {D : va_G} {a : Nat → Nat} {cc : Nat → ClassId} {A : Nat → Prop} {N : Nat} {σr : St} {k12 : St → Int32 → Option St} (C : M_Cx RX9 p s m args meth c D cc cX9_collect (Cond.code yX9_collect cX9_collect 2 none :: WM) 2 none) (hA : ∀ q, s.heap.size ≤ q → A q) (hk12 : ∀ {σ : St} {x1 : Int32} {H : Heap} {locs : List Loc} {ls : Array Slot}, k12 σ x1 = some σr → va_P D vwCl (wM a cc σ) H → va_D A (wM a cc σ) → va_S A s.heap H locs → lv_has ls 2 [(0, .ref (a 0)), (1, .int x1)] → W p l e rmX9_collect s m args below meth c H locs 0 0 (M_Mv D a cc A below args s σr) (F0 m 12 ls [])) {σ : St} {x1 : Int32} {H : Heap} {locs : List Loc} {ls : Array Slot} (h : fX9_collect_41 N k12 σ x1 = some σr) : va_P D vwCl (wM a cc σ) H → va_D A (wM a cc σ) → va_S A s.heap H locs → lv_has ls 2 [(0, .ref (a 0)), (1, .int x1)] → W p l e rmX9_collect s m args below meth c H locs 0 0 (M_Mv D a cc A below args s σr) (F0 m 41 ls []) := by
  obtain ⟨hx, hb, hr, hml, hown, hts, hin, hK, hlocks⟩ := id C
  intro hP hD hS hl
  refine lv_aload_n hx hb dX9_collect_41 rfl (lv_at hl 0 rfl) ?_
  refine lv_iload_n hx hb dX9_collect_42 rfl (lv_at hl 1 rfl) ?_
  obtain ⟨σ17, hc, h⟩ := bnd1_s h
  refine M_callVv (As := [.int x1]) (rest := []) C hA (fun sz => kX9_oblige l sz hc) gX9_oblige hP hD hS ⟨by decide, by decide⟩ ⟨rfl, rfl⟩ rfl hl.1 rfl (lv_room (Nat.le_of_ble_eq_true rfl)) dX9_collect_43 (fun H locs hP hD hS => ?_)
  exact tX9_collect_46 C hA hk12 h hP hD hS (lv_sub hl [0, 1] rfl)
set_option maxHeartbeats 4000000 in
set_option maxRecDepth 100000 in
theorem tX9_collect_140 {p : Program} {l : Launch} {e : Env} {s : State} {m : MethodId} {args : Array Value} {below : List Frame} {meth : Method} {c : Code} {D : va_G} {a : Nat → Nat} {cc : Nat → ClassId} {A : Nat → Prop} {N : Nat} {σr : St} {k96 : St → Int32 → Option St} (C : M_Cx RX9 p s m args meth c D cc cX9_collect (Cond.code yX9_collect cX9_collect 2 none :: WM) 2 none) (hA : ∀ q, s.heap.size ≤ q → A q) (hk96 : ∀ {σ : St} {x1 : Int32} {H : Heap} {locs : List Loc} {ls : Array Slot}, k96 σ x1 = some σr → va_P D vwCl (wM a cc σ) H → va_D A (wM a cc σ) → va_S A s.heap H locs → lv_has ls 2 [(0, .ref (a 0)), (1, .int x1)] → W p l e rmX9_collect s m args below meth c H locs 0 0 (M_Mv D a cc A below args s σr) (F0 m 96 ls [])) {σ : St} {x1 : Int32} {H : Heap} {locs : List Loc} {ls : Array Slot} (h : fX9_collect_140 N k96 σ x1 = some σr) : va_P D vwCl (wM a cc σ) H → va_D A (wM a cc σ) → va_S A s.heap H locs → lv_has ls 2 [(0, .ref (a 0)), (1, .int x1)] → W p l e rmX9_collect s m args below meth c H locs 0 0 (M_Mv D a cc A below args s σr) (F0 m 140 ls []) := by
  obtain ⟨hx, hb, hr, hml, hown, hts, hin, hK, hlocks⟩ := id C
  intro hP hD hS hl
  obtain ⟨u24, eu24, h⟩ := letS_n h
  refine lv_iinc (v := u24) (lv' := [(1, .int u24), (0, .ref (a 0))]) hx hb dX9_collect_140 hl (k := 1) rfl (by rw [eu24]; rfl) (by decide) rfl (fun ls hl => ?_)
  refine lv_goto (tgt := 96) hx hb dX9_collect_143 (by decide) ?_
  exact hk96 h hP hD hS (lv_sub hl [1, 0] rfl)
set_option maxHeartbeats 4000000 in
set_option maxRecDepth 100000 in
theorem tX9_collect_135 {p : Program} {l : Launch} {e : Env} {s : State} {m : MethodId} {args : Array Value} {below : List Frame} {meth : Method} {c : Code} {D : va_G} {a : Nat → Nat} {cc : Nat → ClassId} {A : Nat → Prop} {N : Nat} {σr : St} {k96 : St → Int32 → Option St} (C : M_Cx RX9 p s m args meth c D cc cX9_collect (Cond.code yX9_collect cX9_collect 2 none :: WM) 2 none) (hA : ∀ q, s.heap.size ≤ q → A q) (hk96 : ∀ {σ : St} {x1 : Int32} {H : Heap} {locs : List Loc} {ls : Array Slot}, k96 σ x1 = some σr → va_P D vwCl (wM a cc σ) H → va_D A (wM a cc σ) → va_S A s.heap H locs → lv_has ls 2 [(0, .ref (a 0)), (1, .int x1)] → W p l e rmX9_collect s m args below meth c H locs 0 0 (M_Mv D a cc A below args s σr) (F0 m 96 ls [])) {σ : St} {x1 : Int32} {H : Heap} {locs : List Loc} {ls : Array Slot} (h : fX9_collect_135 N k96 σ x1 = some σr) : va_P D vwCl (wM a cc σ) H → va_D A (wM a cc σ) → va_S A s.heap H locs → lv_has ls 2 [(0, .ref (a 0)), (1, .int x1)] → W p l e rmX9_collect s m args below meth c H locs 0 0 (M_Mv D a cc A below args s σr) (F0 m 135 ls []) := by
  obtain ⟨hx, hb, hr, hml, hown, hts, hin, hK, hlocks⟩ := id C
  intro hP hD hS hl
  refine lv_aload_n hx hb dX9_collect_135 rfl (lv_at hl 0 rfl) ?_
  refine lv_iload_n hx hb dX9_collect_136 rfl (lv_at hl 1 rfl) ?_
  obtain ⟨σ25, hc, h⟩ := bnd1_s h
  refine M_callVv (As := [.int x1]) (rest := []) C hA (fun sz => kX9_unroll l sz hc) gX9_unroll hP hD hS ⟨by decide, by decide⟩ ⟨rfl, rfl⟩ rfl hl.1 rfl (lv_room (Nat.le_of_ble_eq_true rfl)) dX9_collect_137 (fun H locs hP hD hS => ?_)
  exact tX9_collect_140 C hA hk96 h hP hD hS (lv_sub hl [0, 1] rfl)
set_option maxHeartbeats 4000000 in
set_option maxRecDepth 100000 in
theorem tX9_collect_96 {p : Program} {l : Launch} {e : Env} {s : State} {m : MethodId} {args : Array Value} {below : List Frame} {meth : Method} {c : Code} {D : va_G} {a : Nat → Nat} {cc : Nat → ClassId} {A : Nat → Prop} {N : Nat} {σr : St} (C : M_Cx RX9 p s m args meth c D cc cX9_collect (Cond.code yX9_collect cX9_collect 2 none :: WM) 2 none) (hA : ∀ q, s.heap.size ≤ q → A q) : ∀ (n : Nat) {σ : St} {x1 : Int32} {H : Heap} {locs : List Loc} {ls : Array Slot}, fX9_collect_96 N n σ x1 = some σr → va_P D vwCl (wM a cc σ) H → va_D A (wM a cc σ) → va_S A s.heap H locs → lv_has ls 2 [(0, .ref (a 0)), (1, .int x1)] → W p l e rmX9_collect s m args below meth c H locs 0 0 (M_Mv D a cc A below args s σr) (F0 m 96 ls []) := by
  obtain ⟨hx, hb, hr, hml, hown, hts, hin, hK, hlocks⟩ := id C
  intro n
  induction n with
  | zero => intro σ x1 H locs ls h; exact none_s h
  | succ n ih =>
    intro σ x1 H locs ls h hP hD hS hl
    refine lv_iload_n hx hb dX9_collect_96 rfl (lv_at hl 1 rfl) ?_
    refine lv_aload_n hx hb dX9_collect_97 rfl (lv_at hl 0 rfl) ?_
    refine M_gt4 C hP dX9_collect_98 ?_
    refine lv_icmp_ge (tgt := 146) hx hb dX9_collect_101 (by decide) (fun c18 => ?_) (fun c18 => ?_)
    · have h := ifT c18 h
      exact M_vret C h hP hD hS dX9_collect_146
    · have h := ifF c18 h
      refine lv_aload_n hx hb dX9_collect_104 rfl (lv_at hl 0 rfl) ?_
      refine M_gt17 C hP dX9_collect_105 ?_
      refine lv_bipush (v := (9 : Int32)) hx hb dX9_collect_108 (by decide) ?_
      refine lv_icmp_gt (tgt := 146) hx hb dX9_collect_110 (by decide) (fun c19 => ?_) (fun c19 => ?_)
      · have h := ifT c19 h
        exact M_vret C h hP hD hS dX9_collect_146
      · have h := ifF c19 h
        refine lv_aload_n hx hb dX9_collect_113 rfl (lv_at hl 0 rfl) ?_
        refine M_gt5 C hP dX9_collect_114 ?_
        refine lv_iload_n hx hb dX9_collect_117 rfl (lv_at hl 1 rfl) ?_
        obtain ⟨g20, h⟩ := grd_s h
        refine M_ld5 C hP g20 dX9_collect_118 ?_
        refine lv_bipush (v := (8 : Int32)) hx hb dX9_collect_119 (by decide) ?_
        refine lv_icmp_eq (tgt := 135) hx hb dX9_collect_121 (by decide) (fun c21 => ?_) (fun c21 => ?_)
        · have h := ifT c21 h
          exact tX9_collect_135 C hA ih h hP hD hS (lv_sub hl [0, 1] rfl)
        · have h := ifF c21 h
          refine lv_aload_n hx hb dX9_collect_124 rfl (lv_at hl 0 rfl) ?_
          refine M_gt5 C hP dX9_collect_125 ?_
          refine lv_iload_n hx hb dX9_collect_128 rfl (lv_at hl 1 rfl) ?_
          obtain ⟨g22, h⟩ := grd_s h
          refine M_ld5 C hP g22 dX9_collect_129 ?_
          refine lv_bipush (v := (9 : Int32)) hx hb dX9_collect_130 (by decide) ?_
          refine lv_icmp_ne (tgt := 140) hx hb dX9_collect_132 (by decide) (fun c23 => ?_) (fun c23 => ?_)
          · have h := ifF c23 h
            exact tX9_collect_140 C hA ih h hP hD hS (lv_sub hl [0, 1] rfl)
          · have h := ifT c23 h
            exact tX9_collect_135 C hA ih h hP hD hS (lv_sub hl [0, 1] rfl)
set_option maxHeartbeats 4000000 in
set_option maxRecDepth 100000 in
theorem tX9_collect_12 {p : Program} {l : Launch} {e : Env} {s : State} {m : MethodId} {args : Array Value} {below : List Frame} {meth : Method} {c : Code} {D : va_G} {a : Nat → Nat} {cc : Nat → ClassId} {A : Nat → Prop} {N : Nat} {σr : St} (C : M_Cx RX9 p s m args meth c D cc cX9_collect (Cond.code yX9_collect cX9_collect 2 none :: WM) 2 none) (hA : ∀ q, s.heap.size ≤ q → A q) : ∀ (n : Nat) {σ : St} {x1 : Int32} {H : Heap} {locs : List Loc} {ls : Array Slot}, fX9_collect_12 N n σ x1 = some σr → va_P D vwCl (wM a cc σ) H → va_D A (wM a cc σ) → va_S A s.heap H locs → lv_has ls 2 [(0, .ref (a 0)), (1, .int x1)] → W p l e rmX9_collect s m args below meth c H locs 0 0 (M_Mv D a cc A below args s σr) (F0 m 12 ls []) := by
  obtain ⟨hx, hb, hr, hml, hown, hts, hin, hK, hlocks⟩ := id C
  intro n
  induction n with
  | zero => intro σ x1 H locs ls h; exact none_s h
  | succ n ih =>
    intro σ x1 H locs ls h hP hD hS hl
    refine lv_iload_n hx hb dX9_collect_12 rfl (lv_at hl 1 rfl) ?_
    refine lv_aload_n hx hb dX9_collect_13 rfl (lv_at hl 0 rfl) ?_
    refine M_gt4 C hP dX9_collect_14 ?_
    refine lv_icmp_ge (tgt := 94) hx hb dX9_collect_17 (by decide) (fun c3 => ?_) (fun c3 => ?_)
    · have h := ifT c3 h
      refine lv_iconst (v := (0 : Int32)) hx hb dX9_collect_94 (by decide) ?_
      refine lv_istore_n (lv' := [(1, .int (0 : Int32)), (0, .ref (a 0))]) hx hb dX9_collect_95 rfl hl (by decide) rfl (fun ls hl => ?_)
      exact tX9_collect_96 C hA N h hP hD hS (lv_sub hl [1, 0] rfl)
    · have h := ifF c3 h
      refine lv_aload_n hx hb dX9_collect_20 rfl (lv_at hl 0 rfl) ?_
      refine M_gt5 C hP dX9_collect_21 ?_
      refine lv_iload_n hx hb dX9_collect_24 rfl (lv_at hl 1 rfl) ?_
      obtain ⟨g4, h⟩ := grd_s h
      refine M_ld5 C hP g4 dX9_collect_25 ?_
      refine lv_bipush (v := (6 : Int32)) hx hb dX9_collect_26 (by decide) ?_
      refine lv_icmp_eq (tgt := 41) hx hb dX9_collect_28 (by decide) (fun c5 => ?_) (fun c5 => ?_)
      · have h := ifT c5 h
        exact tX9_collect_41 C hA ih h hP hD hS (lv_sub hl [0, 1] rfl)
      · have h := ifF c5 h
        refine lv_aload_n hx hb dX9_collect_31 rfl (lv_at hl 0 rfl) ?_
        refine M_gt5 C hP dX9_collect_32 ?_
        refine lv_iload_n hx hb dX9_collect_35 rfl (lv_at hl 1 rfl) ?_
        obtain ⟨g6, h⟩ := grd_s h
        refine M_ld5 C hP g6 dX9_collect_36 ?_
        refine lv_iconst (v := (5 : Int32)) hx hb dX9_collect_37 (by decide) ?_
        refine lv_icmp_ne (tgt := 46) hx hb dX9_collect_38 (by decide) (fun c7 => ?_) (fun c7 => ?_)
        · have h := ifF c7 h
          exact tX9_collect_46 C hA ih h hP hD hS (lv_sub hl [0, 1] rfl)
        · have h := ifT c7 h
          exact tX9_collect_41 C hA ih h hP hD hS (lv_sub hl [0, 1] rfl)
set_option maxHeartbeats 4000000 in
set_option maxRecDepth 100000 in
theorem tX9_collect {p : Program} {l : Launch} {e : Env} {s : State} {m : MethodId} {args : Array Value} {below : List Frame} {meth : Method} {c : Code} {D : va_G} {a : Nat → Nat} {cc : Nat → ClassId} {A : Nat → Prop} {N : Nat} {σr : St} (C : M_Cx RX9 p s m args meth c D cc cX9_collect (Cond.code yX9_collect cX9_collect 2 none :: WM) 2 none) (hA : ∀ q, s.heap.size ≤ q → A q) {σ : St} {H : Heap} {locs : List Loc} {ls : Array Slot} (h : fX9_collect N σ = some σr) : va_P D vwCl (wM a cc σ) H → va_D A (wM a cc σ) → va_S A s.heap H locs → lv_has ls 2 [(0, .ref (a 0))] → W p l e rmX9_collect s m args below meth c H locs 0 0 (M_Mv D a cc A below args s σr) (F0 m 0 ls []) := by
  obtain ⟨hx, hb, hr, hml, hown, hts, hin, hK, hlocks⟩ := id C
  intro hP hD hS hl
  refine lv_aload_n hx hb dX9_collect_0 rfl (lv_at hl 0 rfl) ?_
  refine lv_iconst (v := (0 : Int32)) hx hb dX9_collect_1 (by decide) ?_
  obtain ⟨σ1, eσ1, h⟩ := letS_n h
  refine M_pt17 C hP hD hS eσ1 dX9_collect_2 (fun H locs hP hD hS => ?_)
  refine lv_aload_n hx hb dX9_collect_5 rfl (lv_at hl 0 rfl) ?_
  refine lv_iconst (v := (0 : Int32)) hx hb dX9_collect_6 (by decide) ?_
  obtain ⟨σ2, hc, h⟩ := bnd1_s h
  refine M_callVv (As := [.int (0 : Int32)]) (rest := []) C hA (fun sz => kX9_oblige l sz hc) gX9_oblige hP hD hS ⟨by decide, by decide⟩ ⟨rfl, rfl⟩ rfl hl.1 rfl (lv_room (Nat.le_of_ble_eq_true rfl)) dX9_collect_7 (fun H locs hP hD hS => ?_)
  refine lv_iconst (v := (0 : Int32)) hx hb dX9_collect_10 (by decide) ?_
  refine lv_istore_n (lv' := [(1, .int (0 : Int32)), (0, .ref (a 0))]) hx hb dX9_collect_11 rfl hl (by decide) rfl (fun ls hl => ?_)
  exact tX9_collect_12 C hA N h hP hD hS (lv_sub hl [1, 0] rfl)
set_option maxRecDepth 100000 in
theorem kX9_collect (l : Launch) (sz : Nat) {D : va_G} {a : Nat → Nat} {cc : Nat → ClassId} {N : Nat} {σr : St} {σ : St} (h : fX9_collect N σ = some σr) : Met l yX9_collect ((Cond.code yX9_collect cX9_collect 2 none :: WM)) rmX9_collect (M_Pc D a cc [.ref (a 0)] σ sz) (M_Qv D a cc σ sz σr) 0 0 (va_A (wM a cc σ) sz) := by
  refine Met.ofW (cc := cX9_collect) (maxL := 2) (ret := none) (by decide) rfl ?_
  intro p e s m args below meth c s₁ B hml hv
  obtain ⟨rfl, hsz, hP, hK, hD0⟩ := hv
  subst hsz
  have hl := lv_entry ([.ref (a 0)]) (n := 2) (Nat.le_of_ble_eq_true rfl)
  rw [lg_entry_eq]
  generalize (lg_sl ([.ref (a 0)]) ++ List.replicate (2 - (lg_sl ([.ref (a 0)])).length) Slot.unset).toArray = ls at hl ⊢
  exact tX9_collect ⟨B.exec, B.bytes, B.returns, hml, findClass_of_methodNamed B.named, atoms_spec (ws := (Cond.code yX9_collect cX9_collect 2 none :: WM)) B.pre, (fun w h => List.mem_cons_of_mem _ (inWM w h)), hK, B.notSynchronized⟩ (fun q h => Or.inr h) h hP hD0.self va_S.rf hl
set_option maxHeartbeats 4000000 in
set_option maxRecDepth 100000 in
theorem tX9_literally_12 {p : Program} {l : Launch} {e : Env} {s : State} {m : MethodId} {args : Array Value} {below : List Frame} {meth : Method} {c : Code} {D : va_G} {a : Nat → Nat} {cc : Nat → ClassId} {A : Nat → Prop} {N : Nat} {r : Int32} {σr : St} (C : M_Cx RX9 p s m args meth c D cc cX9_literally (Cond.code yX9_literally cX9_literally 2 (some .boolean) :: WM) 2 (some .boolean)) (hA : ∀ q, s.heap.size ≤ q → A q) {σ : St} {H : Heap} {locs : List Loc} {ls : Array Slot} (h : fX9_literally_12 N σ = some (r, σr)) : va_P D vwCl (wM a cc σ) H → va_D A (wM a cc σ) → va_S A s.heap H locs → lv_has ls 2 [] → W p l e rmX9_literally s m args below meth c H locs 0 0 (M_Mi D a cc A below args s r σr) (F0 m 12 ls []) := by
  obtain ⟨hx, hb, hr, hml, hown, hts, hin, hK, hlocks⟩ := id C
  intro hP hD hS hl
  refine lv_iconst (v := (1 : Int32)) hx hb dX9_literally_12 (by decide) ?_
  refine lv_goto (tgt := 17) hx hb dX9_literally_13 (by decide) ?_
  exact M_zretZ C h hP hD hS dX9_literally_17
set_option maxHeartbeats 4000000 in
set_option maxRecDepth 100000 in
theorem tX9_literally {p : Program} {l : Launch} {e : Env} {s : State} {m : MethodId} {args : Array Value} {below : List Frame} {meth : Method} {c : Code} {D : va_G} {a : Nat → Nat} {cc : Nat → ClassId} {A : Nat → Prop} {N : Nat} {r : Int32} {σr : St} (C : M_Cx RX9 p s m args meth c D cc cX9_literally (Cond.code yX9_literally cX9_literally 2 (some .boolean) :: WM) 2 (some .boolean)) (hA : ∀ q, s.heap.size ≤ q → A q) {σ : St} {p0 : Int32} {p1 : Int32} {H : Heap} {locs : List Loc} {ls : Array Slot} (h : fX9_literally N σ p0 p1 = some (r, σr)) : va_P D vwCl (wM a cc σ) H → va_D A (wM a cc σ) → va_S A s.heap H locs → lv_has ls 2 [(0, .int p0), (1, .int p1)] → W p l e rmX9_literally s m args below meth c H locs 0 0 (M_Mi D a cc A below args s r σr) (F0 m 0 ls []) := by
  obtain ⟨hx, hb, hr, hml, hown, hts, hin, hK, hlocks⟩ := id C
  intro hP hD hS hl
  refine lv_iload_n hx hb dX9_literally_0 rfl (lv_at hl 0 rfl) ?_
  refine lv_bipush (v := (8 : Int32)) hx hb dX9_literally_1 (by decide) ?_
  refine lv_icmp_eq (tgt := 12) hx hb dX9_literally_3 (by decide) (fun c1 => ?_) (fun c1 => ?_)
  · have h := ifT c1 h
    exact tX9_literally_12 C hA h hP hD hS (lv_sub hl [] rfl)
  · have h := ifF c1 h
    refine lv_iload_n hx hb dX9_literally_6 rfl (lv_at hl 0 rfl) ?_
    refine lv_iload_n hx hb dX9_literally_7 rfl (lv_at hl 1 rfl) ?_
    refine lv_iand hx hb dX9_literally_8 ?_
    refine lv_if_eq (tgt := 16) hx hb dX9_literally_9 (by decide) (fun c2 => ?_) (fun c2 => ?_)
    · have h := ifT c2 h
      refine lv_iconst (v := (0 : Int32)) hx hb dX9_literally_16 (by decide) ?_
      exact M_zretZ C h hP hD hS dX9_literally_17
    · have h := ifF c2 h
      exact tX9_literally_12 C hA h hP hD hS (lv_sub hl [] rfl)
set_option maxRecDepth 100000 in
theorem kX9_literally (l : Launch) (sz : Nat) {D : va_G} {a : Nat → Nat} {cc : Nat → ClassId} {N : Nat} {r : Int32} {σr : St} {σ : St} {p0 : Int32} {p1 : Int32} (h : fX9_literally N σ p0 p1 = some (r, σr)) : Met l yX9_literally ((Cond.code yX9_literally cX9_literally 2 (some .boolean) :: WM)) rmX9_literally (M_Pc D a cc [.int p0, .int p1] σ sz) (M_Qi D a cc σ sz r σr) 0 0 (va_A (wM a cc σ) sz) := by
  refine Met.ofW (cc := cX9_literally) (maxL := 2) (ret := (some .boolean)) (by decide) rfl ?_
  intro p e s m args below meth c s₁ B hml hv
  obtain ⟨rfl, hsz, hP, hK, hD0⟩ := hv
  subst hsz
  have hl := lv_entry ([.int p0, .int p1]) (n := 2) (Nat.le_of_ble_eq_true rfl)
  rw [lg_entry_eq]
  generalize (lg_sl ([.int p0, .int p1]) ++ List.replicate (2 - (lg_sl ([.int p0, .int p1])).length) Slot.unset).toArray = ls at hl ⊢
  exact tX9_literally ⟨B.exec, B.bytes, B.returns, hml, findClass_of_methodNamed B.named, atoms_spec (ws := (Cond.code yX9_literally cX9_literally 2 (some .boolean) :: WM)) B.pre, (fun w h => List.mem_cons_of_mem _ (inWM w h)), hK, B.notSynchronized⟩ (fun q h => Or.inr h) h hP hD0.self va_S.rf hl
set_option maxHeartbeats 4000000 in
set_option maxRecDepth 100000 in
theorem tX9_has {p : Program} {l : Launch} {e : Env} {s : State} {m : MethodId} {args : Array Value} {below : List Frame} {meth : Method} {c : Code} {D : va_G} {a : Nat → Nat} {cc : Nat → ClassId} {A : Nat → Prop} {N : Nat} {r : Int32} {σr : St} (C : M_Cx RX9 p s m args meth c D cc cX9_has (Cond.code yX9_has cX9_has 3 (some .boolean) :: WM) 3 (some .boolean)) (hA : ∀ q, s.heap.size ≤ q → A q) {σ : St} {p0 : Int32} {p1 : Int32} {H : Heap} {locs : List Loc} {ls : Array Slot} (h : fX9_has N σ p0 p1 = some (r, σr)) : va_P D vwCl (wM a cc σ) H → va_D A (wM a cc σ) → va_S A s.heap H locs → lv_has ls 3 [(0, .ref (a 0)), (1, .int p0), (2, .int p1)] → W p l e rmX9_has s m args below meth c H locs 0 0 (M_Mi D a cc A below args s r σr) (F0 m 0 ls []) := by
  obtain ⟨hx, hb, hr, hml, hown, hts, hin, hK, hlocks⟩ := id C
  intro hP hD hS hl
  refine lv_iload_n hx hb dX9_has_0 rfl (lv_at hl 1 rfl) ?_
  refine lv_aload_n hx hb dX9_has_1 rfl (lv_at hl 0 rfl) ?_
  refine M_gt18 C hP dX9_has_2 ?_
  refine lv_iload_n hx hb dX9_has_5 rfl (lv_at hl 2 rfl) ?_
  obtain ⟨g1, h⟩ := grd_s h
  refine M_ld18 C hP g1 dX9_has_6 ?_
  refine lv_ishr hx hb dX9_has_7 ?_
  refine lv_iconst (v := (1 : Int32)) hx hb dX9_has_8 (by decide) ?_
  refine lv_iand hx hb dX9_has_9 ?_
  refine lv_iconst (v := (1 : Int32)) hx hb dX9_has_10 (by decide) ?_
  refine lv_icmp_ne (tgt := 18) hx hb dX9_has_11 (by decide) (fun c2 => ?_) (fun c2 => ?_)
  · have h := ifF c2 h
    refine lv_iconst (v := (0 : Int32)) hx hb dX9_has_18 (by decide) ?_
    exact M_zretZ C h hP hD hS dX9_has_19
  · have h := ifT c2 h
    refine lv_iconst (v := (1 : Int32)) hx hb dX9_has_14 (by decide) ?_
    refine lv_goto (tgt := 19) hx hb dX9_has_15 (by decide) ?_
    exact M_zretZ C h hP hD hS dX9_has_19
set_option maxRecDepth 100000 in
theorem kX9_has (l : Launch) (sz : Nat) {D : va_G} {a : Nat → Nat} {cc : Nat → ClassId} {N : Nat} {r : Int32} {σr : St} {σ : St} {p0 : Int32} {p1 : Int32} (h : fX9_has N σ p0 p1 = some (r, σr)) : Met l yX9_has ((Cond.code yX9_has cX9_has 3 (some .boolean) :: WM)) rmX9_has (M_Pc D a cc [.ref (a 0), .int p0, .int p1] σ sz) (M_Qi D a cc σ sz r σr) 0 0 (va_A (wM a cc σ) sz) := by
  refine Met.ofW (cc := cX9_has) (maxL := 3) (ret := (some .boolean)) (by decide) rfl ?_
  intro p e s m args below meth c s₁ B hml hv
  obtain ⟨rfl, hsz, hP, hK, hD0⟩ := hv
  subst hsz
  have hl := lv_entry ([.ref (a 0), .int p0, .int p1]) (n := 3) (Nat.le_of_ble_eq_true rfl)
  rw [lg_entry_eq]
  generalize (lg_sl ([.ref (a 0), .int p0, .int p1]) ++ List.replicate (3 - (lg_sl ([.ref (a 0), .int p0, .int p1])).length) Slot.unset).toArray = ls at hl ⊢
  exact tX9_has ⟨B.exec, B.bytes, B.returns, hml, findClass_of_methodNamed B.named, atoms_spec (ws := (Cond.code yX9_has cX9_has 3 (some .boolean) :: WM)) B.pre, (fun w h => List.mem_cons_of_mem _ (inWM w h)), hK, B.notSynchronized⟩ (fun q h => Or.inr h) h hP hD0.self va_S.rf hl
set_option maxHeartbeats 4000000 in
set_option maxRecDepth 100000 in
theorem tX9_isPlace {p : Program} {l : Launch} {e : Env} {s : State} {m : MethodId} {args : Array Value} {below : List Frame} {meth : Method} {c : Code} {D : va_G} {a : Nat → Nat} {cc : Nat → ClassId} {A : Nat → Prop} {N : Nat} {r : Int32} {σr : St} (C : M_Cx RX9 p s m args meth c D cc cX9_isPlace (Cond.code yX9_isPlace cX9_isPlace 2 (some .boolean) :: WM) 2 (some .boolean)) (hA : ∀ q, s.heap.size ≤ q → A q) {σ : St} {p0 : Int32} {H : Heap} {locs : List Loc} {ls : Array Slot} (h : fX9_isPlace N σ p0 = some (r, σr)) : va_P D vwCl (wM a cc σ) H → va_D A (wM a cc σ) → va_S A s.heap H locs → lv_has ls 2 [(0, .ref (a 0)), (1, .int p0)] → W p l e rmX9_isPlace s m args below meth c H locs 0 0 (M_Mi D a cc A below args s r σr) (F0 m 0 ls []) := by
  obtain ⟨hx, hb, hr, hml, hown, hts, hin, hK, hlocks⟩ := id C
  intro hP hD hS hl
  refine lv_aload_n hx hb dX9_isPlace_0 rfl (lv_at hl 0 rfl) ?_
  refine M_gt18 C hP dX9_isPlace_1 ?_
  refine lv_aload_n hx hb dX9_isPlace_4 rfl (lv_at hl 0 rfl) ?_
  refine M_gt19 C hP dX9_isPlace_5 ?_
  refine lv_iload_n hx hb dX9_isPlace_8 rfl (lv_at hl 1 rfl) ?_
  obtain ⟨g1, h⟩ := grd_s h
  refine M_ld19 C hP g1 dX9_isPlace_9 ?_
  obtain ⟨g2, h⟩ := grd_s h
  refine M_ld18 C hP g2 dX9_isPlace_10 ?_
  refine lv_iload_n hx hb dX9_isPlace_11 rfl (lv_at hl 1 rfl) ?_
  refine lv_icmp_eq (tgt := 19) hx hb dX9_isPlace_12 (by decide) (fun c3 => ?_) (fun c3 => ?_)
  · have h := ifT c3 h
    refine lv_iconst (v := (0 : Int32)) hx hb dX9_isPlace_19 (by decide) ?_
    exact M_zretZ C h hP hD hS dX9_isPlace_20
  · have h := ifF c3 h
    refine lv_iconst (v := (1 : Int32)) hx hb dX9_isPlace_15 (by decide) ?_
    refine lv_goto (tgt := 20) hx hb dX9_isPlace_16 (by decide) ?_
    exact M_zretZ C h hP hD hS dX9_isPlace_20
set_option maxRecDepth 100000 in
theorem kX9_isPlace (l : Launch) (sz : Nat) {D : va_G} {a : Nat → Nat} {cc : Nat → ClassId} {N : Nat} {r : Int32} {σr : St} {σ : St} {p0 : Int32} (h : fX9_isPlace N σ p0 = some (r, σr)) : Met l yX9_isPlace ((Cond.code yX9_isPlace cX9_isPlace 2 (some .boolean) :: WM)) rmX9_isPlace (M_Pc D a cc [.ref (a 0), .int p0] σ sz) (M_Qi D a cc σ sz r σr) 0 0 (va_A (wM a cc σ) sz) := by
  refine Met.ofW (cc := cX9_isPlace) (maxL := 2) (ret := (some .boolean)) (by decide) rfl ?_
  intro p e s m args below meth c s₁ B hml hv
  obtain ⟨rfl, hsz, hP, hK, hD0⟩ := hv
  subst hsz
  have hl := lv_entry ([.ref (a 0), .int p0]) (n := 2) (Nat.le_of_ble_eq_true rfl)
  rw [lg_entry_eq]
  generalize (lg_sl ([.ref (a 0), .int p0]) ++ List.replicate (2 - (lg_sl ([.ref (a 0), .int p0])).length) Slot.unset).toArray = ls at hl ⊢
  exact tX9_isPlace ⟨B.exec, B.bytes, B.returns, hml, findClass_of_methodNamed B.named, atoms_spec (ws := (Cond.code yX9_isPlace cX9_isPlace 2 (some .boolean) :: WM)) B.pre, (fun w h => List.mem_cons_of_mem _ (inWM w h)), hK, B.notSynchronized⟩ (fun q h => Or.inr h) h hP hD0.self va_S.rf hl
set_option maxHeartbeats 4000000 in
set_option maxRecDepth 100000 in
theorem tX9_places_129 {p : Program} {l : Launch} {e : Env} {s : State} {m : MethodId} {args : Array Value} {below : List Frame} {meth : Method} {c : Code} {D : va_G} {a : Nat → Nat} {cc : Nat → ClassId} {A : Nat → Prop} {N : Nat} {r : Int32} {σr : St} {k6 : St → Int32 → Int32 → Int32 → Int32 → Int32 → Option (Int32 × St)} (C : M_Cx RX9 p s m args meth c D cc cX9_places (Cond.code yX9_places cX9_places 6 (some .boolean) :: WM) 6 (some .boolean)) (hA : ∀ q, s.heap.size ≤ q → A q) (hk6 : ∀ {σ : St} {x1 : Int32} {x2 : Int32} {x3 : Int32} {x4 : Int32} {x5 : Int32} {H : Heap} {locs : List Loc} {ls : Array Slot}, k6 σ x1 x2 x3 x4 x5 = some (r, σr) → va_P D vwCl (wM a cc σ) H → va_D A (wM a cc σ) → va_S A s.heap H locs → lv_has ls 6 [(0, .ref (a 0)), (1, .int x1), (2, .int x2), (3, .int x3), (4, .int x4), (5, .int x5)] → W p l e rmX9_places s m args below meth c H locs 0 0 (M_Mi D a cc A below args s r σr) (F0 m 6 ls [])) {σ : St} {x1 : Int32} {x2 : Int32} {x3 : Int32} {x4 : Int32} {x5 : Int32} {H : Heap} {locs : List Loc} {ls : Array Slot} (h : fX9_places_129 N k6 σ x1 x2 x3 x4 x5 = some (r, σr)) : va_P D vwCl (wM a cc σ) H → va_D A (wM a cc σ) → va_S A s.heap H locs → lv_has ls 6 [(0, .ref (a 0)), (1, .int x1), (2, .int x2), (3, .int x3), (4, .int x4), (5, .int x5)] → W p l e rmX9_places s m args below meth c H locs 0 0 (M_Mi D a cc A below args s r σr) (F0 m 129 ls []) := by
  obtain ⟨hx, hb, hr, hml, hown, hts, hin, hK, hlocks⟩ := id C
  intro hP hD hS hl
  obtain ⟨u22, eu22, h⟩ := letS_n h
  refine lv_iinc (v := u22) (lv' := [(5, .int u22), (0, .ref (a 0)), (1, .int x1), (2, .int x2), (3, .int x3), (4, .int x4)]) hx hb dX9_places_129 hl (k := 5) rfl (by rw [eu22]; rfl) (by decide) rfl (fun ls hl => ?_)
  refine lv_goto (tgt := 6) hx hb dX9_places_132 (by decide) ?_
  exact hk6 h hP hD hS (lv_sub hl [1, 2, 3, 4, 5, 0] rfl)
set_option maxHeartbeats 4000000 in
set_option maxRecDepth 100000 in
theorem tX9_places_127 {p : Program} {l : Launch} {e : Env} {s : State} {m : MethodId} {args : Array Value} {below : List Frame} {meth : Method} {c : Code} {D : va_G} {a : Nat → Nat} {cc : Nat → ClassId} {A : Nat → Prop} {N : Nat} {r : Int32} {σr : St} {k6 : St → Int32 → Int32 → Int32 → Int32 → Int32 → Option (Int32 × St)} (C : M_Cx RX9 p s m args meth c D cc cX9_places (Cond.code yX9_places cX9_places 6 (some .boolean) :: WM) 6 (some .boolean)) (hA : ∀ q, s.heap.size ≤ q → A q) (hk6 : ∀ {σ : St} {x1 : Int32} {x2 : Int32} {x3 : Int32} {x4 : Int32} {x5 : Int32} {H : Heap} {locs : List Loc} {ls : Array Slot}, k6 σ x1 x2 x3 x4 x5 = some (r, σr) → va_P D vwCl (wM a cc σ) H → va_D A (wM a cc σ) → va_S A s.heap H locs → lv_has ls 6 [(0, .ref (a 0)), (1, .int x1), (2, .int x2), (3, .int x3), (4, .int x4), (5, .int x5)] → W p l e rmX9_places s m args below meth c H locs 0 0 (M_Mi D a cc A below args s r σr) (F0 m 6 ls [])) {σ : St} {x1 : Int32} {x2 : Int32} {x3 : Int32} {x5 : Int32} {y0 : Int32} {H : Heap} {locs : List Loc} {ls : Array Slot} (h : fX9_places_127 N k6 σ x1 x2 x3 x5 y0 = some (r, σr)) : va_P D vwCl (wM a cc σ) H → va_D A (wM a cc σ) → va_S A s.heap H locs → lv_has ls 6 [(0, .ref (a 0)), (1, .int x1), (2, .int x2), (3, .int x3), (5, .int x5)] → W p l e rmX9_places s m args below meth c H locs 0 0 (M_Mi D a cc A below args s r σr) (F0 m 127 ls [.int y0]) := by
  obtain ⟨hx, hb, hr, hml, hown, hts, hin, hK, hlocks⟩ := id C
  intro hP hD hS hl
  refine lv_istore (lv' := [(4, .int y0), (0, .ref (a 0)), (1, .int x1), (2, .int x2), (3, .int x3), (5, .int x5)]) hx hb dX9_places_127 hl (by decide) rfl (fun ls hl => ?_)
  exact tX9_places_129 C hA hk6 h hP hD hS (lv_sub hl [1, 2, 3, 4, 0, 5] rfl)
set_option maxHeartbeats 4000000 in
set_option maxRecDepth 100000 in
theorem tX9_places_122 {p : Program} {l : Launch} {e : Env} {s : State} {m : MethodId} {args : Array Value} {below : List Frame} {meth : Method} {c : Code} {D : va_G} {a : Nat → Nat} {cc : Nat → ClassId} {A : Nat → Prop} {N : Nat} {r : Int32} {σr : St} {k6 : St → Int32 → Int32 → Int32 → Int32 → Int32 → Option (Int32 × St)} (C : M_Cx RX9 p s m args meth c D cc cX9_places (Cond.code yX9_places cX9_places 6 (some .boolean) :: WM) 6 (some .boolean)) (hA : ∀ q, s.heap.size ≤ q → A q) (hk6 : ∀ {σ : St} {x1 : Int32} {x2 : Int32} {x3 : Int32} {x4 : Int32} {x5 : Int32} {H : Heap} {locs : List Loc} {ls : Array Slot}, k6 σ x1 x2 x3 x4 x5 = some (r, σr) → va_P D vwCl (wM a cc σ) H → va_D A (wM a cc σ) → va_S A s.heap H locs → lv_has ls 6 [(0, .ref (a 0)), (1, .int x1), (2, .int x2), (3, .int x3), (4, .int x4), (5, .int x5)] → W p l e rmX9_places s m args below meth c H locs 0 0 (M_Mi D a cc A below args s r σr) (F0 m 6 ls [])) {σ : St} {x1 : Int32} {x2 : Int32} {x3 : Int32} {x5 : Int32} {H : Heap} {locs : List Loc} {ls : Array Slot} (h : fX9_places_122 N k6 σ x1 x2 x3 x5 = some (r, σr)) : va_P D vwCl (wM a cc σ) H → va_D A (wM a cc σ) → va_S A s.heap H locs → lv_has ls 6 [(0, .ref (a 0)), (1, .int x1), (2, .int x2), (3, .int x3), (5, .int x5)] → W p l e rmX9_places s m args below meth c H locs 0 0 (M_Mi D a cc A below args s r σr) (F0 m 122 ls []) := by
  obtain ⟨hx, hb, hr, hml, hown, hts, hin, hK, hlocks⟩ := id C
  intro hP hD hS hl
  refine lv_iconst (v := (1 : Int32)) hx hb dX9_places_122 (by decide) ?_
  refine lv_goto (tgt := 127) hx hb dX9_places_123 (by decide) ?_
  exact tX9_places_127 C hA hk6 h hP hD hS (lv_sub hl [0, 1, 2, 3, 4] rfl)
set_option maxHeartbeats 4000000 in
set_option maxRecDepth 100000 in
theorem tX9_places_126 {p : Program} {l : Launch} {e : Env} {s : State} {m : MethodId} {args : Array Value} {below : List Frame} {meth : Method} {c : Code} {D : va_G} {a : Nat → Nat} {cc : Nat → ClassId} {A : Nat → Prop} {N : Nat} {r : Int32} {σr : St} {k6 : St → Int32 → Int32 → Int32 → Int32 → Int32 → Option (Int32 × St)} (C : M_Cx RX9 p s m args meth c D cc cX9_places (Cond.code yX9_places cX9_places 6 (some .boolean) :: WM) 6 (some .boolean)) (hA : ∀ q, s.heap.size ≤ q → A q) (hk6 : ∀ {σ : St} {x1 : Int32} {x2 : Int32} {x3 : Int32} {x4 : Int32} {x5 : Int32} {H : Heap} {locs : List Loc} {ls : Array Slot}, k6 σ x1 x2 x3 x4 x5 = some (r, σr) → va_P D vwCl (wM a cc σ) H → va_D A (wM a cc σ) → va_S A s.heap H locs → lv_has ls 6 [(0, .ref (a 0)), (1, .int x1), (2, .int x2), (3, .int x3), (4, .int x4), (5, .int x5)] → W p l e rmX9_places s m args below meth c H locs 0 0 (M_Mi D a cc A below args s r σr) (F0 m 6 ls [])) {σ : St} {x1 : Int32} {x2 : Int32} {x3 : Int32} {x5 : Int32} {H : Heap} {locs : List Loc} {ls : Array Slot} (h : fX9_places_126 N k6 σ x1 x2 x3 x5 = some (r, σr)) : va_P D vwCl (wM a cc σ) H → va_D A (wM a cc σ) → va_S A s.heap H locs → lv_has ls 6 [(0, .ref (a 0)), (1, .int x1), (2, .int x2), (3, .int x3), (5, .int x5)] → W p l e rmX9_places s m args below meth c H locs 0 0 (M_Mi D a cc A below args s r σr) (F0 m 126 ls []) := by
  obtain ⟨hx, hb, hr, hml, hown, hts, hin, hK, hlocks⟩ := id C
  intro hP hD hS hl
  refine lv_iconst (v := (0 : Int32)) hx hb dX9_places_126 (by decide) ?_
  exact tX9_places_127 C hA hk6 h hP hD hS (lv_sub hl [0, 1, 2, 3, 4] rfl)
set_option maxHeartbeats 4000000 in
set_option maxRecDepth 100000 in
theorem tX9_places_92 {p : Program} {l : Launch} {e : Env} {s : State} {m : MethodId} {args : Array Value} {below : List Frame} {meth : Method} {c : Code} {D : va_G} {a : Nat → Nat} {cc : Nat → ClassId} {A : Nat → Prop} {N : Nat} {r : Int32} {σr : St} {k6 : St → Int32 → Int32 → Int32 → Int32 → Int32 → Option (Int32 × St)} (C : M_Cx RX9 p s m args meth c D cc cX9_places (Cond.code yX9_places cX9_places 6 (some .boolean) :: WM) 6 (some .boolean)) (hA : ∀ q, s.heap.size ≤ q → A q) (hk6 : ∀ {σ : St} {x1 : Int32} {x2 : Int32} {x3 : Int32} {x4 : Int32} {x5 : Int32} {H : Heap} {locs : List Loc} {ls : Array Slot}, k6 σ x1 x2 x3 x4 x5 = some (r, σr) → va_P D vwCl (wM a cc σ) H → va_D A (wM a cc σ) → va_S A s.heap H locs → lv_has ls 6 [(0, .ref (a 0)), (1, .int x1), (2, .int x2), (3, .int x3), (4, .int x4), (5, .int x5)] → W p l e rmX9_places s m args below meth c H locs 0 0 (M_Mi D a cc A below args s r σr) (F0 m 6 ls [])) {σ : St} {x1 : Int32} {x2 : Int32} {x3 : Int32} {x4 : Int32} {x5 : Int32} {y0 : Int32} {y1 : Int32} {H : Heap} {locs : List Loc} {ls : Array Slot} (h : fX9_places_92 N k6 σ x1 x2 x3 x4 x5 y0 y1 = some (r, σr)) : va_P D vwCl (wM a cc σ) H → va_D A (wM a cc σ) → va_S A s.heap H locs → lv_has ls 6 [(0, .ref (a 0)), (1, .int x1), (2, .int x2), (3, .int x3), (4, .int x4), (5, .int x5)] → W p l e rmX9_places s m args below meth c H locs 0 0 (M_Mi D a cc A below args s r σr) (F0 m 92 ls [.int y0, .int y1, .ref (a 33)]) := by
  obtain ⟨hx, hb, hr, hml, hown, hts, hin, hK, hlocks⟩ := id C
  intro hP hD hS hl
  obtain ⟨g15, h⟩ := grd_s h
  obtain ⟨σ16, eσ16, h⟩ := letS_n h
  refine M_st33 C hP hD hS g15 eσ16 dX9_places_92 (fun H locs hP hD hS => ?_)
  refine lv_iload hx hb dX9_places_93 (lv_at hl 4 rfl) ?_
  refine lv_if_eq (tgt := 126) hx hb dX9_places_95 (by decide) (fun c17 => ?_) (fun c17 => ?_)
  · have h := ifT c17 h
    exact tX9_places_126 C hA hk6 h hP hD hS (lv_sub hl [0, 1, 2, 3, 5] rfl)
  · have h := ifF c17 h
    refine lv_aload_n hx hb dX9_places_98 rfl (lv_at hl 0 rfl) ?_
    refine M_gt23 C hP dX9_places_99 ?_
    refine lv_iload_n hx hb dX9_places_102 rfl (lv_at hl 1 rfl) ?_
    obtain ⟨g18, h⟩ := grd_s h
    refine M_ld23 C hP g18 dX9_places_103 ?_
    refine lv_iload hx hb dX9_places_104 (lv_at hl 5 rfl) ?_
    refine lv_ishr hx hb dX9_places_106 ?_
    refine lv_iconst (v := (1 : Int32)) hx hb dX9_places_107 (by decide) ?_
    refine lv_iand hx hb dX9_places_108 ?_
    refine lv_if_eq (tgt := 122) hx hb dX9_places_109 (by decide) (fun c19 => ?_) (fun c19 => ?_)
    · have h := ifT c19 h
      exact tX9_places_122 C hA hk6 h hP hD hS (lv_sub hl [0, 1, 2, 3, 5] rfl)
    · have h := ifF c19 h
      refine lv_aload_n hx hb dX9_places_112 rfl (lv_at hl 0 rfl) ?_
      refine M_gt33 C hP dX9_places_113 ?_
      refine lv_iload hx hb dX9_places_116 (lv_at hl 5 rfl) ?_
      obtain ⟨g20, h⟩ := grd_s h
      refine M_ld33 C hP g20 dX9_places_118 ?_
      refine lv_if_eq (tgt := 126) hx hb dX9_places_119 (by decide) (fun c21 => ?_) (fun c21 => ?_)
      · have h := ifT c21 h
        exact tX9_places_126 C hA hk6 h hP hD hS (lv_sub hl [0, 1, 2, 3, 5] rfl)
      · have h := ifF c21 h
        exact tX9_places_122 C hA hk6 h hP hD hS (lv_sub hl [0, 1, 2, 3, 5] rfl)
set_option maxHeartbeats 4000000 in
set_option maxRecDepth 100000 in
theorem tX9_places_87 {p : Program} {l : Launch} {e : Env} {s : State} {m : MethodId} {args : Array Value} {below : List Frame} {meth : Method} {c : Code} {D : va_G} {a : Nat → Nat} {cc : Nat → ClassId} {A : Nat → Prop} {N : Nat} {r : Int32} {σr : St} {k6 : St → Int32 → Int32 → Int32 → Int32 → Int32 → Option (Int32 × St)} (C : M_Cx RX9 p s m args meth c D cc cX9_places (Cond.code yX9_places cX9_places 6 (some .boolean) :: WM) 6 (some .boolean)) (hA : ∀ q, s.heap.size ≤ q → A q) (hk6 : ∀ {σ : St} {x1 : Int32} {x2 : Int32} {x3 : Int32} {x4 : Int32} {x5 : Int32} {H : Heap} {locs : List Loc} {ls : Array Slot}, k6 σ x1 x2 x3 x4 x5 = some (r, σr) → va_P D vwCl (wM a cc σ) H → va_D A (wM a cc σ) → va_S A s.heap H locs → lv_has ls 6 [(0, .ref (a 0)), (1, .int x1), (2, .int x2), (3, .int x3), (4, .int x4), (5, .int x5)] → W p l e rmX9_places s m args below meth c H locs 0 0 (M_Mi D a cc A below args s r σr) (F0 m 6 ls [])) {σ : St} {x1 : Int32} {x2 : Int32} {x3 : Int32} {x4 : Int32} {x5 : Int32} {y0 : Int32} {H : Heap} {locs : List Loc} {ls : Array Slot} (h : fX9_places_87 N k6 σ x1 x2 x3 x4 x5 y0 = some (r, σr)) : va_P D vwCl (wM a cc σ) H → va_D A (wM a cc σ) → va_S A s.heap H locs → lv_has ls 6 [(0, .ref (a 0)), (1, .int x1), (2, .int x2), (3, .int x3), (4, .int x4), (5, .int x5)] → W p l e rmX9_places s m args below meth c H locs 0 0 (M_Mi D a cc A below args s r σr) (F0 m 87 ls [.int y0, .ref (a 33)]) := by
  obtain ⟨hx, hb, hr, hml, hown, hts, hin, hK, hlocks⟩ := id C
  intro hP hD hS hl
  refine lv_iconst (v := (1 : Int32)) hx hb dX9_places_87 (by decide) ?_
  refine lv_goto (tgt := 92) hx hb dX9_places_88 (by decide) ?_
  exact tX9_places_92 C hA hk6 h hP hD hS (lv_sub hl [0, 1, 2, 3, 4, 5] rfl)
set_option maxHeartbeats 4000000 in
set_option maxRecDepth 100000 in
theorem tX9_places_91 {p : Program} {l : Launch} {e : Env} {s : State} {m : MethodId} {args : Array Value} {below : List Frame} {meth : Method} {c : Code} {D : va_G} {a : Nat → Nat} {cc : Nat → ClassId} {A : Nat → Prop} {N : Nat} {r : Int32} {σr : St} {k6 : St → Int32 → Int32 → Int32 → Int32 → Int32 → Option (Int32 × St)} (C : M_Cx RX9 p s m args meth c D cc cX9_places (Cond.code yX9_places cX9_places 6 (some .boolean) :: WM) 6 (some .boolean)) (hA : ∀ q, s.heap.size ≤ q → A q) (hk6 : ∀ {σ : St} {x1 : Int32} {x2 : Int32} {x3 : Int32} {x4 : Int32} {x5 : Int32} {H : Heap} {locs : List Loc} {ls : Array Slot}, k6 σ x1 x2 x3 x4 x5 = some (r, σr) → va_P D vwCl (wM a cc σ) H → va_D A (wM a cc σ) → va_S A s.heap H locs → lv_has ls 6 [(0, .ref (a 0)), (1, .int x1), (2, .int x2), (3, .int x3), (4, .int x4), (5, .int x5)] → W p l e rmX9_places s m args below meth c H locs 0 0 (M_Mi D a cc A below args s r σr) (F0 m 6 ls [])) {σ : St} {x1 : Int32} {x2 : Int32} {x3 : Int32} {x4 : Int32} {x5 : Int32} {y0 : Int32} {H : Heap} {locs : List Loc} {ls : Array Slot} (h : fX9_places_91 N k6 σ x1 x2 x3 x4 x5 y0 = some (r, σr)) : va_P D vwCl (wM a cc σ) H → va_D A (wM a cc σ) → va_S A s.heap H locs → lv_has ls 6 [(0, .ref (a 0)), (1, .int x1), (2, .int x2), (3, .int x3), (4, .int x4), (5, .int x5)] → W p l e rmX9_places s m args below meth c H locs 0 0 (M_Mi D a cc A below args s r σr) (F0 m 91 ls [.int y0, .ref (a 33)]) := by
  obtain ⟨hx, hb, hr, hml, hown, hts, hin, hK, hlocks⟩ := id C
  intro hP hD hS hl
  refine lv_iconst (v := (0 : Int32)) hx hb dX9_places_91 (by decide) ?_
  exact tX9_places_92 C hA hk6 h hP hD hS (lv_sub hl [0, 1, 2, 3, 4, 5] rfl)
set_option maxHeartbeats 4000000 in
set_option maxRecDepth 100000 in
theorem tX9_places_6 {p : Program} {l : Launch} {e : Env} {s : State} {m : MethodId} {args : Array Value} {below : List Frame} {meth : Method} {c : Code} {D : va_G} {a : Nat → Nat} {cc : Nat → ClassId} {A : Nat → Prop} {N : Nat} {r : Int32} {σr : St} (C : M_Cx RX9 p s m args meth c D cc cX9_places (Cond.code yX9_places cX9_places 6 (some .boolean) :: WM) 6 (some .boolean)) (hA : ∀ q, s.heap.size ≤ q → A q) : ∀ (n : Nat) {σ : St} {x1 : Int32} {x2 : Int32} {x3 : Int32} {x4 : Int32} {x5 : Int32} {H : Heap} {locs : List Loc} {ls : Array Slot}, fX9_places_6 N n σ x1 x2 x3 x4 x5 = some (r, σr) → va_P D vwCl (wM a cc σ) H → va_D A (wM a cc σ) → va_S A s.heap H locs → lv_has ls 6 [(0, .ref (a 0)), (1, .int x1), (2, .int x2), (3, .int x3), (4, .int x4), (5, .int x5)] → W p l e rmX9_places s m args below meth c H locs 0 0 (M_Mi D a cc A below args s r σr) (F0 m 6 ls []) := by
  obtain ⟨hx, hb, hr, hml, hown, hts, hin, hK, hlocks⟩ := id C
  intro n
  induction n with
  | zero => intro σ x1 x2 x3 x4 x5 H locs ls h; exact none_s h
  | succ n ih =>
    intro σ x1 x2 x3 x4 x5 H locs ls h hP hD hS hl
    refine lv_iload hx hb dX9_places_6 (lv_at hl 5 rfl) ?_
    refine lv_aload_n hx hb dX9_places_8 rfl (lv_at hl 0 rfl) ?_
    refine M_gt17 C hP dX9_places_9 ?_
    refine lv_icmp_ge (tgt := 135) hx hb dX9_places_12 (by decide) (fun c1 => ?_) (fun c1 => ?_)
    · have h := ifT c1 h
      refine lv_iload hx hb dX9_places_135 (lv_at hl 4 rfl) ?_
      exact M_zretZ C h hP hD hS dX9_places_137
    · have h := ifF c1 h
      refine lv_aload_n hx hb dX9_places_15 rfl (lv_at hl 0 rfl) ?_
      refine lv_iload hx hb dX9_places_16 (lv_at hl 5 rfl) ?_
      obtain ⟨r3, σ2, hc, h⟩ := bnd_s h
      refine M_callVi (As := [.int x5]) (rest := []) C hA (fun sz => kX9_isPlace l sz hc) gX9_isPlace hP hD hS ⟨by decide, by decide⟩ ⟨rfl, rfl⟩ rfl hl.1 rfl (lv_room (Nat.le_of_ble_eq_true rfl)) dX9_places_18 (fun H locs hP hD hS => ?_)
      refine lv_if_eq (tgt := 129) hx hb dX9_places_21 (by decide) (fun c4 => ?_) (fun c4 => ?_)
      · have h := ifT c4 h
        exact tX9_places_129 C hA ih h hP hD hS (lv_sub hl [0, 1, 2, 3, 4, 5] rfl)
      · have h := ifF c4 h
        refine lv_aload_n hx hb dX9_places_24 rfl (lv_at hl 0 rfl) ?_
        refine M_gt20 C hP dX9_places_25 ?_
        refine lv_iload hx hb dX9_places_28 (lv_at hl 5 rfl) ?_
        obtain ⟨g5, h⟩ := grd_s h
        refine M_ld20 C hP g5 dX9_places_30 ?_
        refine lv_iload_n hx hb dX9_places_31 rfl (lv_at hl 1 rfl) ?_
        refine lv_icmp_eq (tgt := 38) hx hb dX9_places_32 (by decide) (fun c6 => ?_) (fun c6 => ?_)
        · have h := ifT c6 h
          refine lv_aload_n hx hb dX9_places_38 rfl (lv_at hl 0 rfl) ?_
          refine M_gt33 C hP dX9_places_39 ?_
          refine lv_iload hx hb dX9_places_42 (lv_at hl 5 rfl) ?_
          refine lv_aload_n hx hb dX9_places_44 rfl (lv_at hl 0 rfl) ?_
          refine M_gt32 C hP dX9_places_45 ?_
          refine lv_aload_n hx hb dX9_places_48 rfl (lv_at hl 0 rfl) ?_
          refine M_gt19 C hP dX9_places_49 ?_
          refine lv_iload hx hb dX9_places_52 (lv_at hl 5 rfl) ?_
          obtain ⟨g7, h⟩ := grd_s h
          refine M_ld19 C hP g7 dX9_places_54 ?_
          obtain ⟨g8, h⟩ := grd_s h
          refine M_ld32 C hP g8 dX9_places_55 ?_
          refine lv_if_eq (tgt := 87) hx hb dX9_places_56 (by decide) (fun c9 => ?_) (fun c9 => ?_)
          · have h := ifT c9 h
            exact tX9_places_87 C hA ih h hP hD hS (lv_sub hl [0, 1, 2, 3, 4, 5] rfl)
          · have h := ifF c9 h
            refine lv_aload_n hx hb dX9_places_59 rfl (lv_at hl 0 rfl) ?_
            refine M_gt21 C hP dX9_places_60 ?_
            refine lv_iload hx hb dX9_places_63 (lv_at hl 5 rfl) ?_
            obtain ⟨g10, h⟩ := grd_s h
            refine M_ld21 C hP g10 dX9_places_65 ?_
            refine lv_iload_n hx hb dX9_places_66 rfl (lv_at hl 2 rfl) ?_
            refine lv_iconst (v := (-1 : Int32)) hx hb dX9_places_67 (by decide) ?_
            refine lv_ixor hx hb dX9_places_68 ?_
            refine lv_iand hx hb dX9_places_69 ?_
            refine lv_if_ne (tgt := 91) hx hb dX9_places_70 (by decide) (fun c11 => ?_) (fun c11 => ?_)
            · have h := ifF c11 h
              exact tX9_places_91 C hA ih h hP hD hS (lv_sub hl [0, 1, 2, 3, 4, 5] rfl)
            · have h := ifT c11 h
              refine lv_aload_n hx hb dX9_places_73 rfl (lv_at hl 0 rfl) ?_
              refine M_gt22 C hP dX9_places_74 ?_
              refine lv_iload hx hb dX9_places_77 (lv_at hl 5 rfl) ?_
              obtain ⟨g12, h⟩ := grd_s h
              refine M_ld22 C hP g12 dX9_places_79 ?_
              refine lv_if_eq (tgt := 87) hx hb dX9_places_80 (by decide) (fun c13 => ?_) (fun c13 => ?_)
              · have h := ifT c13 h
                exact tX9_places_87 C hA ih h hP hD hS (lv_sub hl [0, 1, 2, 3, 4, 5] rfl)
              · have h := ifF c13 h
                refine lv_iload_n hx hb dX9_places_83 rfl (lv_at hl 3 rfl) ?_
                refine lv_if_eq (tgt := 91) hx hb dX9_places_84 (by decide) (fun c14 => ?_) (fun c14 => ?_)
                · have h := ifT c14 h
                  exact tX9_places_91 C hA ih h hP hD hS (lv_sub hl [0, 1, 2, 3, 4, 5] rfl)
                · have h := ifF c14 h
                  exact tX9_places_87 C hA ih h hP hD hS (lv_sub hl [0, 1, 2, 3, 4, 5] rfl)
        · have h := ifF c6 h
          refine lv_goto (tgt := 129) hx hb dX9_places_35 (by decide) ?_
          exact tX9_places_129 C hA ih h hP hD hS (lv_sub hl [0, 1, 2, 3, 4, 5] rfl)
set_option maxHeartbeats 4000000 in
set_option maxRecDepth 100000 in
theorem tX9_places {p : Program} {l : Launch} {e : Env} {s : State} {m : MethodId} {args : Array Value} {below : List Frame} {meth : Method} {c : Code} {D : va_G} {a : Nat → Nat} {cc : Nat → ClassId} {A : Nat → Prop} {N : Nat} {r : Int32} {σr : St} (C : M_Cx RX9 p s m args meth c D cc cX9_places (Cond.code yX9_places cX9_places 6 (some .boolean) :: WM) 6 (some .boolean)) (hA : ∀ q, s.heap.size ≤ q → A q) {σ : St} {p0 : Int32} {p1 : Int32} {p2 : Int32} {H : Heap} {locs : List Loc} {ls : Array Slot} (h : fX9_places N σ p0 p1 p2 = some (r, σr)) : va_P D vwCl (wM a cc σ) H → va_D A (wM a cc σ) → va_S A s.heap H locs → lv_has ls 6 [(0, .ref (a 0)), (1, .int p0), (2, .int p1), (3, .int p2)] → W p l e rmX9_places s m args below meth c H locs 0 0 (M_Mi D a cc A below args s r σr) (F0 m 0 ls []) := by
  obtain ⟨hx, hb, hr, hml, hown, hts, hin, hK, hlocks⟩ := id C
  intro hP hD hS hl
  refine lv_iconst (v := (1 : Int32)) hx hb dX9_places_0 (by decide) ?_
  refine lv_istore (lv' := [(4, .int (1 : Int32)), (0, .ref (a 0)), (1, .int p0), (2, .int p1), (3, .int p2)]) hx hb dX9_places_1 hl (by decide) rfl (fun ls hl => ?_)
  refine lv_iconst (v := (0 : Int32)) hx hb dX9_places_3 (by decide) ?_
  refine lv_istore (lv' := [(5, .int (0 : Int32)), (4, .int (1 : Int32)), (0, .ref (a 0)), (1, .int p0), (2, .int p1), (3, .int p2)]) hx hb dX9_places_4 hl (by decide) rfl (fun ls hl => ?_)
  exact tX9_places_6 C hA N h hP hD hS (lv_sub hl [2, 3, 4, 5, 1, 0] rfl)
set_option maxRecDepth 100000 in
theorem kX9_places (l : Launch) (sz : Nat) {D : va_G} {a : Nat → Nat} {cc : Nat → ClassId} {N : Nat} {r : Int32} {σr : St} {σ : St} {p0 : Int32} {p1 : Int32} {p2 : Int32} (h : fX9_places N σ p0 p1 p2 = some (r, σr)) : Met l yX9_places ((Cond.code yX9_places cX9_places 6 (some .boolean) :: WM)) rmX9_places (M_Pc D a cc [.ref (a 0), .int p0, .int p1, .int p2] σ sz) (M_Qi D a cc σ sz r σr) 0 0 (va_A (wM a cc σ) sz) := by
  refine Met.ofW (cc := cX9_places) (maxL := 6) (ret := (some .boolean)) (by decide) rfl ?_
  intro p e s m args below meth c s₁ B hml hv
  obtain ⟨rfl, hsz, hP, hK, hD0⟩ := hv
  subst hsz
  have hl := lv_entry ([.ref (a 0), .int p0, .int p1, .int p2]) (n := 6) (Nat.le_of_ble_eq_true rfl)
  rw [lg_entry_eq]
  generalize (lg_sl ([.ref (a 0), .int p0, .int p1, .int p2]) ++ List.replicate (6 - (lg_sl ([.ref (a 0), .int p0, .int p1, .int p2])).length) Slot.unset).toArray = ls at hl ⊢
  exact tX9_places ⟨B.exec, B.bytes, B.returns, hml, findClass_of_methodNamed B.named, atoms_spec (ws := (Cond.code yX9_places cX9_places 6 (some .boolean) :: WM)) B.pre, (fun w h => List.mem_cons_of_mem _ (inWM w h)), hK, B.notSynchronized⟩ (fun q h => Or.inr h) h hP hD0.self va_S.rf hl
set_option maxHeartbeats 4000000 in
set_option maxRecDepth 100000 in
theorem tX9_asks_119 {p : Program} {l : Launch} {e : Env} {s : State} {m : MethodId} {args : Array Value} {below : List Frame} {meth : Method} {c : Code} {D : va_G} {a : Nat → Nat} {cc : Nat → ClassId} {A : Nat → Prop} {N : Nat} {r : Int32} {σr : St} (C : M_Cx RX9 p s m args meth c D cc cX9_asks (Cond.code yX9_asks cX9_asks 4 (some .boolean) :: WM) 4 (some .boolean)) (hA : ∀ q, s.heap.size ≤ q → A q) {σ : St} {H : Heap} {locs : List Loc} {ls : Array Slot} (h : fX9_asks_119 N σ = some (r, σr)) : va_P D vwCl (wM a cc σ) H → va_D A (wM a cc σ) → va_S A s.heap H locs → lv_has ls 4 [] → W p l e rmX9_asks s m args below meth c H locs 0 0 (M_Mi D a cc A below args s r σr) (F0 m 119 ls []) := by
  obtain ⟨hx, hb, hr, hml, hown, hts, hin, hK, hlocks⟩ := id C
  intro hP hD hS hl
  refine lv_iconst (v := (0 : Int32)) hx hb dX9_asks_119 (by decide) ?_
  exact M_zretZ C h hP hD hS dX9_asks_120
set_option maxHeartbeats 4000000 in
set_option maxRecDepth 100000 in
theorem tX9_asks_149 {p : Program} {l : Launch} {e : Env} {s : State} {m : MethodId} {args : Array Value} {below : List Frame} {meth : Method} {c : Code} {D : va_G} {a : Nat → Nat} {cc : Nat → ClassId} {A : Nat → Prop} {N : Nat} {r : Int32} {σr : St} (C : M_Cx RX9 p s m args meth c D cc cX9_asks (Cond.code yX9_asks cX9_asks 4 (some .boolean) :: WM) 4 (some .boolean)) (hA : ∀ q, s.heap.size ≤ q → A q) {σ : St} {H : Heap} {locs : List Loc} {ls : Array Slot} (h : fX9_asks_149 N σ = some (r, σr)) : va_P D vwCl (wM a cc σ) H → va_D A (wM a cc σ) → va_S A s.heap H locs → lv_has ls 4 [] → W p l e rmX9_asks s m args below meth c H locs 0 0 (M_Mi D a cc A below args s r σr) (F0 m 149 ls []) := by
  obtain ⟨hx, hb, hr, hml, hown, hts, hin, hK, hlocks⟩ := id C
  intro hP hD hS hl
  refine lv_iconst (v := (1 : Int32)) hx hb dX9_asks_149 (by decide) ?_
  refine lv_goto (tgt := 154) hx hb dX9_asks_150 (by decide) ?_
  exact M_zretZ C h hP hD hS dX9_asks_154
set_option maxHeartbeats 4000000 in
set_option maxRecDepth 100000 in
theorem tX9_asks_192 {p : Program} {l : Launch} {e : Env} {s : State} {m : MethodId} {args : Array Value} {below : List Frame} {meth : Method} {c : Code} {D : va_G} {a : Nat → Nat} {cc : Nat → ClassId} {A : Nat → Prop} {N : Nat} {r : Int32} {σr : St} (C : M_Cx RX9 p s m args meth c D cc cX9_asks (Cond.code yX9_asks cX9_asks 4 (some .boolean) :: WM) 4 (some .boolean)) (hA : ∀ q, s.heap.size ≤ q → A q) {σ : St} {H : Heap} {locs : List Loc} {ls : Array Slot} (h : fX9_asks_192 N σ = some (r, σr)) : va_P D vwCl (wM a cc σ) H → va_D A (wM a cc σ) → va_S A s.heap H locs → lv_has ls 4 [] → W p l e rmX9_asks s m args below meth c H locs 0 0 (M_Mi D a cc A below args s r σr) (F0 m 192 ls []) := by
  obtain ⟨hx, hb, hr, hml, hown, hts, hin, hK, hlocks⟩ := id C
  intro hP hD hS hl
  refine lv_iconst (v := (1 : Int32)) hx hb dX9_asks_192 (by decide) ?_
  refine lv_goto (tgt := 197) hx hb dX9_asks_193 (by decide) ?_
  exact M_zretZ C h hP hD hS dX9_asks_197
set_option maxHeartbeats 4000000 in
set_option maxRecDepth 100000 in
theorem tX9_asks_196 {p : Program} {l : Launch} {e : Env} {s : State} {m : MethodId} {args : Array Value} {below : List Frame} {meth : Method} {c : Code} {D : va_G} {a : Nat → Nat} {cc : Nat → ClassId} {A : Nat → Prop} {N : Nat} {r : Int32} {σr : St} (C : M_Cx RX9 p s m args meth c D cc cX9_asks (Cond.code yX9_asks cX9_asks 4 (some .boolean) :: WM) 4 (some .boolean)) (hA : ∀ q, s.heap.size ≤ q → A q) {σ : St} {H : Heap} {locs : List Loc} {ls : Array Slot} (h : fX9_asks_196 N σ = some (r, σr)) : va_P D vwCl (wM a cc σ) H → va_D A (wM a cc σ) → va_S A s.heap H locs → lv_has ls 4 [] → W p l e rmX9_asks s m args below meth c H locs 0 0 (M_Mi D a cc A below args s r σr) (F0 m 196 ls []) := by
  obtain ⟨hx, hb, hr, hml, hown, hts, hin, hK, hlocks⟩ := id C
  intro hP hD hS hl
  refine lv_iconst (v := (0 : Int32)) hx hb dX9_asks_196 (by decide) ?_
  exact M_zretZ C h hP hD hS dX9_asks_197
set_option maxHeartbeats 4000000 in
set_option maxRecDepth 100000 in
theorem tX9_asks_225 {p : Program} {l : Launch} {e : Env} {s : State} {m : MethodId} {args : Array Value} {below : List Frame} {meth : Method} {c : Code} {D : va_G} {a : Nat → Nat} {cc : Nat → ClassId} {A : Nat → Prop} {N : Nat} {r : Int32} {σr : St} (C : M_Cx RX9 p s m args meth c D cc cX9_asks (Cond.code yX9_asks cX9_asks 4 (some .boolean) :: WM) 4 (some .boolean)) (hA : ∀ q, s.heap.size ≤ q → A q) {σ : St} {H : Heap} {locs : List Loc} {ls : Array Slot} (h : fX9_asks_225 N σ = some (r, σr)) : va_P D vwCl (wM a cc σ) H → va_D A (wM a cc σ) → va_S A s.heap H locs → lv_has ls 4 [] → W p l e rmX9_asks s m args below meth c H locs 0 0 (M_Mi D a cc A below args s r σr) (F0 m 225 ls []) := by
  obtain ⟨hx, hb, hr, hml, hown, hts, hin, hK, hlocks⟩ := id C
  intro hP hD hS hl
  refine lv_iconst (v := (0 : Int32)) hx hb dX9_asks_225 (by decide) ?_
  exact M_zretZ C h hP hD hS dX9_asks_226
set_option maxHeartbeats 4000000 in
set_option maxRecDepth 100000 in
theorem tX9_asks {p : Program} {l : Launch} {e : Env} {s : State} {m : MethodId} {args : Array Value} {below : List Frame} {meth : Method} {c : Code} {D : va_G} {a : Nat → Nat} {cc : Nat → ClassId} {A : Nat → Prop} {N : Nat} {r : Int32} {σr : St} (C : M_Cx RX9 p s m args meth c D cc cX9_asks (Cond.code yX9_asks cX9_asks 4 (some .boolean) :: WM) 4 (some .boolean)) (hA : ∀ q, s.heap.size ≤ q → A q) {σ : St} {p0 : Int32} {p1 : Int32} {p2 : Int32} {H : Heap} {locs : List Loc} {ls : Array Slot} (h : fX9_asks N σ p0 p1 p2 = some (r, σr)) : va_P D vwCl (wM a cc σ) H → va_D A (wM a cc σ) → va_S A s.heap H locs → lv_has ls 4 [(0, .ref (a 0)), (1, .int p0), (2, .int p1), (3, .int p2)] → W p l e rmX9_asks s m args below meth c H locs 0 0 (M_Mi D a cc A below args s r σr) (F0 m 0 ls []) := by
  obtain ⟨hx, hb, hr, hml, hown, hts, hin, hK, hlocks⟩ := id C
  intro hP hD hS hl
  refine lv_aload_n hx hb dX9_asks_0 rfl (lv_at hl 0 rfl) ?_
  refine M_gt5 C hP dX9_asks_1 ?_
  refine lv_iload_n hx hb dX9_asks_4 rfl (lv_at hl 1 rfl) ?_
  obtain ⟨g1, h⟩ := grd_s h
  refine M_ld5 C hP g1 dX9_asks_5 ?_
  by_cases c2 : (gI σ 5 p0.toNatClampNeg) = (1 : Int32)
  · have h := ifT c2 h
    refine lv_tableIn (tgt := 56) hx hb dX9_asks_6 (by rw [c2]; decide) (by rw [c2]; decide) (by rw [c2]; rfl) (by decide) ?_
    refine lv_aload_n hx hb dX9_asks_56 rfl (lv_at hl 0 rfl) ?_
    refine M_gt9 C hP dX9_asks_57 ?_
    refine lv_iload_n hx hb dX9_asks_60 rfl (lv_at hl 1 rfl) ?_
    obtain ⟨g3, h⟩ := grd_s h
    refine M_ld9 C hP g3 dX9_asks_61 ?_
    refine lv_iload_n hx hb dX9_asks_62 rfl (lv_at hl 2 rfl) ?_
    obtain ⟨r5, σ4, hc, h⟩ := bnd_s h
    refine M_callSi (As := [.int (gI σ 9 p0.toNatClampNeg), .int p1]) (rest := []) C hA (fun sz => kX9_literally l sz hc) gX9_literally hP hD hS ⟨by decide, by decide⟩ ⟨rfl, rfl⟩ rfl hl.1 rfl (lv_room (Nat.le_of_ble_eq_true rfl)) dX9_asks_63 (fun H locs hP hD hS => ?_)
    exact M_zretZ C h hP hD hS dX9_asks_66
  · have h := ifF c2 h
    by_cases c6 : (gI σ 5 p0.toNatClampNeg) = (2 : Int32)
    · have h := ifT c6 h
      refine lv_tableIn (tgt := 67) hx hb dX9_asks_6 (by rw [c6]; decide) (by rw [c6]; decide) (by rw [c6]; rfl) (by decide) ?_
      refine lv_aload_n hx hb dX9_asks_67 rfl (lv_at hl 0 rfl) ?_
      refine M_gt32 C hP dX9_asks_68 ?_
      refine lv_aload_n hx hb dX9_asks_71 rfl (lv_at hl 0 rfl) ?_
      refine M_gt6 C hP dX9_asks_72 ?_
      refine lv_iload_n hx hb dX9_asks_75 rfl (lv_at hl 1 rfl) ?_
      obtain ⟨g7, h⟩ := grd_s h
      refine M_ld6 C hP g7 dX9_asks_76 ?_
      obtain ⟨g8, h⟩ := grd_s h
      refine M_ld32 C hP g8 dX9_asks_77 ?_
      refine lv_if_ne (tgt := 85) hx hb dX9_asks_78 (by decide) (fun c9 => ?_) (fun c9 => ?_)
      · have h := ifF c9 h
        refine lv_iconst (v := (0 : Int32)) hx hb dX9_asks_85 (by decide) ?_
        exact M_zretZ C h hP hD hS dX9_asks_86
      · have h := ifT c9 h
        refine lv_iconst (v := (1 : Int32)) hx hb dX9_asks_81 (by decide) ?_
        refine lv_goto (tgt := 86) hx hb dX9_asks_82 (by decide) ?_
        exact M_zretZ C h hP hD hS dX9_asks_86
    · have h := ifF c6 h
      by_cases c10 : (gI σ 5 p0.toNatClampNeg) = (3 : Int32)
      · have h := ifT c10 h
        refine lv_tableIn (tgt := 87) hx hb dX9_asks_6 (by rw [c10]; decide) (by rw [c10]; decide) (by rw [c10]; rfl) (by decide) ?_
        refine lv_aload_n hx hb dX9_asks_87 rfl (lv_at hl 0 rfl) ?_
        refine M_gt32 C hP dX9_asks_88 ?_
        refine lv_aload_n hx hb dX9_asks_91 rfl (lv_at hl 0 rfl) ?_
        refine M_gt6 C hP dX9_asks_92 ?_
        refine lv_iload_n hx hb dX9_asks_95 rfl (lv_at hl 1 rfl) ?_
        obtain ⟨g11, h⟩ := grd_s h
        refine M_ld6 C hP g11 dX9_asks_96 ?_
        obtain ⟨g12, h⟩ := grd_s h
        refine M_ld32 C hP g12 dX9_asks_97 ?_
        refine lv_if_eq (tgt := 119) hx hb dX9_asks_98 (by decide) (fun c13 => ?_) (fun c13 => ?_)
        · have h := ifT c13 h
          exact tX9_asks_119 C hA h hP hD hS (lv_sub hl [] rfl)
        · have h := ifF c13 h
          refine lv_aload_n hx hb dX9_asks_101 rfl (lv_at hl 0 rfl) ?_
          refine M_gt32 C hP dX9_asks_102 ?_
          refine lv_aload_n hx hb dX9_asks_105 rfl (lv_at hl 0 rfl) ?_
          refine M_gt7 C hP dX9_asks_106 ?_
          refine lv_iload_n hx hb dX9_asks_109 rfl (lv_at hl 1 rfl) ?_
          obtain ⟨g14, h⟩ := grd_s h
          refine M_ld7 C hP g14 dX9_asks_110 ?_
          obtain ⟨g15, h⟩ := grd_s h
          refine M_ld32 C hP g15 dX9_asks_111 ?_
          refine lv_if_eq (tgt := 119) hx hb dX9_asks_112 (by decide) (fun c16 => ?_) (fun c16 => ?_)
          · have h := ifT c16 h
            exact tX9_asks_119 C hA h hP hD hS (lv_sub hl [] rfl)
          · have h := ifF c16 h
            refine lv_iconst (v := (1 : Int32)) hx hb dX9_asks_115 (by decide) ?_
            refine lv_goto (tgt := 120) hx hb dX9_asks_116 (by decide) ?_
            exact M_zretZ C h hP hD hS dX9_asks_120
      · have h := ifF c10 h
        by_cases c17 : (gI σ 5 p0.toNatClampNeg) = (4 : Int32)
        · have h := ifT c17 h
          refine lv_tableIn (tgt := 121) hx hb dX9_asks_6 (by rw [c17]; decide) (by rw [c17]; decide) (by rw [c17]; rfl) (by decide) ?_
          refine lv_aload_n hx hb dX9_asks_121 rfl (lv_at hl 0 rfl) ?_
          refine M_gt32 C hP dX9_asks_122 ?_
          refine lv_aload_n hx hb dX9_asks_125 rfl (lv_at hl 0 rfl) ?_
          refine M_gt6 C hP dX9_asks_126 ?_
          refine lv_iload_n hx hb dX9_asks_129 rfl (lv_at hl 1 rfl) ?_
          obtain ⟨g18, h⟩ := grd_s h
          refine M_ld6 C hP g18 dX9_asks_130 ?_
          obtain ⟨g19, h⟩ := grd_s h
          refine M_ld32 C hP g19 dX9_asks_131 ?_
          refine lv_if_ne (tgt := 149) hx hb dX9_asks_132 (by decide) (fun c20 => ?_) (fun c20 => ?_)
          · have h := ifF c20 h
            exact tX9_asks_149 C hA h hP hD hS (lv_sub hl [] rfl)
          · have h := ifT c20 h
            refine lv_aload_n hx hb dX9_asks_135 rfl (lv_at hl 0 rfl) ?_
            refine M_gt32 C hP dX9_asks_136 ?_
            refine lv_aload_n hx hb dX9_asks_139 rfl (lv_at hl 0 rfl) ?_
            refine M_gt7 C hP dX9_asks_140 ?_
            refine lv_iload_n hx hb dX9_asks_143 rfl (lv_at hl 1 rfl) ?_
            obtain ⟨g21, h⟩ := grd_s h
            refine M_ld7 C hP g21 dX9_asks_144 ?_
            obtain ⟨g22, h⟩ := grd_s h
            refine M_ld32 C hP g22 dX9_asks_145 ?_
            refine lv_if_eq (tgt := 153) hx hb dX9_asks_146 (by decide) (fun c23 => ?_) (fun c23 => ?_)
            · have h := ifT c23 h
              refine lv_iconst (v := (0 : Int32)) hx hb dX9_asks_153 (by decide) ?_
              exact M_zretZ C h hP hD hS dX9_asks_154
            · have h := ifF c23 h
              exact tX9_asks_149 C hA h hP hD hS (lv_sub hl [] rfl)
        · have h := ifF c17 h
          by_cases c24 : (gI σ 5 p0.toNatClampNeg) = (5 : Int32)
          · have h := ifT c24 h
            refine lv_tableIn (tgt := 155) hx hb dX9_asks_6 (by rw [c24]; decide) (by rw [c24]; decide) (by rw [c24]; rfl) (by decide) ?_
            refine lv_aload_n hx hb dX9_asks_155 rfl (lv_at hl 0 rfl) ?_
            refine M_gt32 C hP dX9_asks_156 ?_
            refine lv_aload_n hx hb dX9_asks_159 rfl (lv_at hl 0 rfl) ?_
            refine M_gt7 C hP dX9_asks_160 ?_
            refine lv_iload_n hx hb dX9_asks_163 rfl (lv_at hl 1 rfl) ?_
            obtain ⟨g25, h⟩ := grd_s h
            refine M_ld7 C hP g25 dX9_asks_164 ?_
            obtain ⟨g26, h⟩ := grd_s h
            refine M_ld32 C hP g26 dX9_asks_165 ?_
            refine lv_if_ne (tgt := 192) hx hb dX9_asks_166 (by decide) (fun c27 => ?_) (fun c27 => ?_)
            · have h := ifF c27 h
              exact tX9_asks_192 C hA h hP hD hS (lv_sub hl [] rfl)
            · have h := ifT c27 h
              refine lv_aload_n hx hb dX9_asks_169 rfl (lv_at hl 0 rfl) ?_
              refine M_gt32 C hP dX9_asks_170 ?_
              refine lv_aload_n hx hb dX9_asks_173 rfl (lv_at hl 0 rfl) ?_
              refine M_gt6 C hP dX9_asks_174 ?_
              refine lv_iload_n hx hb dX9_asks_177 rfl (lv_at hl 1 rfl) ?_
              obtain ⟨g28, h⟩ := grd_s h
              refine M_ld6 C hP g28 dX9_asks_178 ?_
              obtain ⟨g29, h⟩ := grd_s h
              refine M_ld32 C hP g29 dX9_asks_179 ?_
              refine lv_if_eq (tgt := 196) hx hb dX9_asks_180 (by decide) (fun c30 => ?_) (fun c30 => ?_)
              · have h := ifT c30 h
                exact tX9_asks_196 C hA h hP hD hS (lv_sub hl [] rfl)
              · have h := ifF c30 h
                refine lv_aload_n hx hb dX9_asks_183 rfl (lv_at hl 0 rfl) ?_
                refine lv_iload_n hx hb dX9_asks_184 rfl (lv_at hl 3 rfl) ?_
                refine lv_iload_n hx hb dX9_asks_185 rfl (lv_at hl 1 rfl) ?_
                obtain ⟨r32, σ31, hc, h⟩ := bnd_s h
                refine M_callVi (As := [.int p2, .int p0]) (rest := []) C hA (fun sz => kX9_has l sz hc) gX9_has hP hD hS ⟨by decide, by decide⟩ ⟨rfl, rfl⟩ rfl hl.1 rfl (lv_room (Nat.le_of_ble_eq_true rfl)) dX9_asks_186 (fun H locs hP hD hS => ?_)
                refine lv_if_eq (tgt := 196) hx hb dX9_asks_189 (by decide) (fun c33 => ?_) (fun c33 => ?_)
                · have h := ifT c33 h
                  exact tX9_asks_196 C hA h hP hD hS (lv_sub hl [] rfl)
                · have h := ifF c33 h
                  exact tX9_asks_192 C hA h hP hD hS (lv_sub hl [] rfl)
          · have h := ifF c24 h
            by_cases c34 : (gI σ 5 p0.toNatClampNeg) = (6 : Int32)
            · have h := ifT c34 h
              refine lv_tableIn (tgt := 198) hx hb dX9_asks_6 (by rw [c34]; decide) (by rw [c34]; decide) (by rw [c34]; rfl) (by decide) ?_
              refine lv_aload_n hx hb dX9_asks_198 rfl (lv_at hl 0 rfl) ?_
              refine M_gt32 C hP dX9_asks_199 ?_
              refine lv_aload_n hx hb dX9_asks_202 rfl (lv_at hl 0 rfl) ?_
              refine M_gt6 C hP dX9_asks_203 ?_
              refine lv_iload_n hx hb dX9_asks_206 rfl (lv_at hl 1 rfl) ?_
              obtain ⟨g35, h⟩ := grd_s h
              refine M_ld6 C hP g35 dX9_asks_207 ?_
              obtain ⟨g36, h⟩ := grd_s h
              refine M_ld32 C hP g36 dX9_asks_208 ?_
              refine lv_if_eq (tgt := 225) hx hb dX9_asks_209 (by decide) (fun c37 => ?_) (fun c37 => ?_)
              · have h := ifT c37 h
                exact tX9_asks_225 C hA h hP hD hS (lv_sub hl [] rfl)
              · have h := ifF c37 h
                refine lv_aload_n hx hb dX9_asks_212 rfl (lv_at hl 0 rfl) ?_
                refine lv_iload_n hx hb dX9_asks_213 rfl (lv_at hl 3 rfl) ?_
                refine lv_iload_n hx hb dX9_asks_214 rfl (lv_at hl 1 rfl) ?_
                obtain ⟨r39, σ38, hc, h⟩ := bnd_s h
                refine M_callVi (As := [.int p2, .int p0]) (rest := []) C hA (fun sz => kX9_has l sz hc) gX9_has hP hD hS ⟨by decide, by decide⟩ ⟨rfl, rfl⟩ rfl hl.1 rfl (lv_room (Nat.le_of_ble_eq_true rfl)) dX9_asks_215 (fun H locs hP hD hS => ?_)
                refine lv_if_eq (tgt := 225) hx hb dX9_asks_218 (by decide) (fun c40 => ?_) (fun c40 => ?_)
                · have h := ifT c40 h
                  exact tX9_asks_225 C hA h hP hD hS (lv_sub hl [] rfl)
                · have h := ifF c40 h
                  refine lv_iconst (v := (1 : Int32)) hx hb dX9_asks_221 (by decide) ?_
                  refine lv_goto (tgt := 226) hx hb dX9_asks_222 (by decide) ?_
                  exact M_zretZ C h hP hD hS dX9_asks_226
            · have h := ifF c34 h
              by_cases c41 : (gI σ 5 p0.toNatClampNeg) = (7 : Int32)
              · have h := ifT c41 h
                refine lv_tableIn (tgt := 227) hx hb dX9_asks_6 (by rw [c41]; decide) (by rw [c41]; decide) (by rw [c41]; rfl) (by decide) ?_
                refine lv_aload_n hx hb dX9_asks_227 rfl (lv_at hl 0 rfl) ?_
                refine lv_iload_n hx hb dX9_asks_228 rfl (lv_at hl 3 rfl) ?_
                refine lv_aload_n hx hb dX9_asks_229 rfl (lv_at hl 0 rfl) ?_
                refine M_gt6 C hP dX9_asks_230 ?_
                refine lv_iload_n hx hb dX9_asks_233 rfl (lv_at hl 1 rfl) ?_
                obtain ⟨g42, h⟩ := grd_s h
                refine M_ld6 C hP g42 dX9_asks_234 ?_
                obtain ⟨r44, σ43, hc, h⟩ := bnd_s h
                refine M_callVi (As := [.int p2, .int (gI σ 6 p0.toNatClampNeg)]) (rest := []) C hA (fun sz => kX9_has l sz hc) gX9_has hP hD hS ⟨by decide, by decide⟩ ⟨rfl, rfl⟩ rfl hl.1 rfl (lv_room (Nat.le_of_ble_eq_true rfl)) dX9_asks_235 (fun H locs hP hD hS => ?_)
                exact M_zretZ C h hP hD hS dX9_asks_238
              · have h := ifF c41 h
                by_cases c45 : (gI σ 5 p0.toNatClampNeg) = (8 : Int32)
                · have h := ifT c45 h
                  refine lv_tableIn (tgt := 239) hx hb dX9_asks_6 (by rw [c45]; decide) (by rw [c45]; decide) (by rw [c45]; rfl) (by decide) ?_
                  refine lv_aload_n hx hb dX9_asks_239 rfl (lv_at hl 0 rfl) ?_
                  refine lv_iload_n hx hb dX9_asks_240 rfl (lv_at hl 1 rfl) ?_
                  refine lv_iload_n hx hb dX9_asks_241 rfl (lv_at hl 3 rfl) ?_
                  refine lv_aload_n hx hb dX9_asks_242 rfl (lv_at hl 0 rfl) ?_
                  refine M_gt32 C hP dX9_asks_243 ?_
                  refine lv_aload_n hx hb dX9_asks_246 rfl (lv_at hl 0 rfl) ?_
                  refine M_gt7 C hP dX9_asks_247 ?_
                  refine lv_iload_n hx hb dX9_asks_250 rfl (lv_at hl 1 rfl) ?_
                  obtain ⟨g46, h⟩ := grd_s h
                  refine M_ld7 C hP g46 dX9_asks_251 ?_
                  obtain ⟨g47, h⟩ := grd_s h
                  refine M_ld32 C hP g47 dX9_asks_252 ?_
                  obtain ⟨r49, σ48, hc, h⟩ := bnd_s h
                  refine M_callVi (As := [.int p0, .int p2, .int (gI σ 32 (gI σ 7 p0.toNatClampNeg).toNatClampNeg)]) (rest := []) C hA (fun sz => kX9_places l sz hc) gX9_places hP hD hS ⟨by decide, by decide⟩ ⟨rfl, rfl⟩ rfl hl.1 rfl (lv_room (Nat.le_of_ble_eq_true rfl)) dX9_asks_253 (fun H locs hP hD hS => ?_)
                  exact M_zretZ C h hP hD hS dX9_asks_256
                · have h := ifF c45 h
                  by_cases c50 : (gI σ 5 p0.toNatClampNeg) = (9 : Int32)
                  · have h := ifT c50 h
                    refine lv_tableIn (tgt := 257) hx hb dX9_asks_6 (by rw [c50]; decide) (by rw [c50]; decide) (by rw [c50]; rfl) (by decide) ?_
                    refine lv_aload_n hx hb dX9_asks_257 rfl (lv_at hl 0 rfl) ?_
                    refine lv_iload_n hx hb dX9_asks_258 rfl (lv_at hl 1 rfl) ?_
                    refine lv_iload_n hx hb dX9_asks_259 rfl (lv_at hl 3 rfl) ?_
                    refine lv_aload_n hx hb dX9_asks_260 rfl (lv_at hl 0 rfl) ?_
                    refine lv_iload_n hx hb dX9_asks_261 rfl (lv_at hl 3 rfl) ?_
                    refine lv_aload_n hx hb dX9_asks_262 rfl (lv_at hl 0 rfl) ?_
                    refine M_gt7 C hP dX9_asks_263 ?_
                    refine lv_iload_n hx hb dX9_asks_266 rfl (lv_at hl 1 rfl) ?_
                    obtain ⟨g51, h⟩ := grd_s h
                    refine M_ld7 C hP g51 dX9_asks_267 ?_
                    obtain ⟨r53, σ52, hc, h⟩ := bnd_s h
                    refine M_callVi (As := [.int p2, .int (gI σ 7 p0.toNatClampNeg)]) (rest := [.int p2, .int p0, .ref (a 0)]) C hA (fun sz => kX9_has l sz hc) gX9_has hP hD hS ⟨by decide, by decide⟩ ⟨rfl, rfl⟩ rfl hl.1 rfl (lv_room (Nat.le_of_ble_eq_true rfl)) dX9_asks_268 (fun H locs hP hD hS => ?_)
                    obtain ⟨r55, σ54, hc, h⟩ := bnd_s h
                    refine M_callVi (As := [.int p0, .int p2, .int r53]) (rest := []) C hA (fun sz => kX9_places l sz hc) gX9_places hP hD hS ⟨by decide, by decide⟩ ⟨rfl, rfl⟩ rfl hl.1 rfl (lv_room (Nat.le_of_ble_eq_true rfl)) dX9_asks_271 (fun H locs hP hD hS => ?_)
                    exact M_zretZ C h hP hD hS dX9_asks_274
                  · have h := ifF c50 h
                    have g56 : (gI σ 5 p0.toNatClampNeg).toInt < 1 ∨ 9 < (gI σ 5 p0.toNatClampNeg).toInt := by
                      have qc2 := i32_ne (v := 1) c2 (by decide)
                      have qc6 := i32_ne (v := 2) c6 (by decide)
                      have qc10 := i32_ne (v := 3) c10 (by decide)
                      have qc17 := i32_ne (v := 4) c17 (by decide)
                      have qc24 := i32_ne (v := 5) c24 (by decide)
                      have qc34 := i32_ne (v := 6) c34 (by decide)
                      have qc41 := i32_ne (v := 7) c41 (by decide)
                      have qc45 := i32_ne (v := 8) c45 (by decide)
                      have qc50 := i32_ne (v := 9) c50 (by decide)
                      omega
                    refine lv_tableOut (tgt := 275) hx hb dX9_asks_6 g56 (by decide) ?_
                    refine lv_iconst (v := (0 : Int32)) hx hb dX9_asks_275 (by decide) ?_
                    exact M_zretZ C h hP hD hS dX9_asks_276
set_option maxRecDepth 100000 in
theorem kX9_asks (l : Launch) (sz : Nat) {D : va_G} {a : Nat → Nat} {cc : Nat → ClassId} {N : Nat} {r : Int32} {σr : St} {σ : St} {p0 : Int32} {p1 : Int32} {p2 : Int32} (h : fX9_asks N σ p0 p1 p2 = some (r, σr)) : Met l yX9_asks ((Cond.code yX9_asks cX9_asks 4 (some .boolean) :: WM)) rmX9_asks (M_Pc D a cc [.ref (a 0), .int p0, .int p1, .int p2] σ sz) (M_Qi D a cc σ sz r σr) 0 0 (va_A (wM a cc σ) sz) := by
  refine Met.ofW (cc := cX9_asks) (maxL := 4) (ret := (some .boolean)) (by decide) rfl ?_
  intro p e s m args below meth c s₁ B hml hv
  obtain ⟨rfl, hsz, hP, hK, hD0⟩ := hv
  subst hsz
  have hl := lv_entry ([.ref (a 0), .int p0, .int p1, .int p2]) (n := 4) (Nat.le_of_ble_eq_true rfl)
  rw [lg_entry_eq]
  generalize (lg_sl ([.ref (a 0), .int p0, .int p1, .int p2]) ++ List.replicate (4 - (lg_sl ([.ref (a 0), .int p0, .int p1, .int p2])).length) Slot.unset).toArray = ls at hl ⊢
  exact tX9_asks ⟨B.exec, B.bytes, B.returns, hml, findClass_of_methodNamed B.named, atoms_spec (ws := (Cond.code yX9_asks cX9_asks 4 (some .boolean) :: WM)) B.pre, (fun w h => List.mem_cons_of_mem _ (inWM w h)), hK, B.notSynchronized⟩ (fun q h => Or.inr h) h hP hD0.self va_S.rf hl
set_option maxHeartbeats 4000000 in
set_option maxRecDepth 100000 in
theorem tX9_satisfied_91 {p : Program} {l : Launch} {e : Env} {s : State} {m : MethodId} {args : Array Value} {below : List Frame} {meth : Method} {c : Code} {D : va_G} {a : Nat → Nat} {cc : Nat → ClassId} {A : Nat → Prop} {N : Nat} {r : Int32} {σr : St} {k35 : St → Int32 → Int32 → Option (Int32 × St)} (C : M_Cx RX9 p s m args meth c D cc cX9_satisfied (Cond.code yX9_satisfied cX9_satisfied 6 (some .int) :: WM) 6 (some .int)) (hA : ∀ q, s.heap.size ≤ q → A q) (hk35 : ∀ {σ : St} {x3 : Int32} {x4 : Int32} {H : Heap} {locs : List Loc} {ls : Array Slot}, k35 σ x3 x4 = some (r, σr) → va_P D vwCl (wM a cc σ) H → va_D A (wM a cc σ) → va_S A s.heap H locs → lv_has ls 6 [(0, .ref (a 0)), (3, .int x3), (4, .int x4)] → W p l e rmX9_satisfied s m args below meth c H locs 0 0 (M_Mi D a cc A below args s r σr) (F0 m 35 ls [])) {σ : St} {x4 : Int32} {y0 : Int32} {y1 : Int32} {H : Heap} {locs : List Loc} {ls : Array Slot} (h : fX9_satisfied_91 N k35 σ x4 y0 y1 = some (r, σr)) : va_P D vwCl (wM a cc σ) H → va_D A (wM a cc σ) → va_S A s.heap H locs → lv_has ls 6 [(0, .ref (a 0)), (4, .int x4)] → W p l e rmX9_satisfied s m args below meth c H locs 0 0 (M_Mi D a cc A below args s r σr) (F0 m 91 ls [.int y0, .int y1]) := by
  obtain ⟨hx, hb, hr, hml, hown, hts, hin, hK, hlocks⟩ := id C
  intro hP hD hS hl
  refine lv_ior hx hb dX9_satisfied_91 ?_
  obtain ⟨u16, eu16, h⟩ := letS_n h
  refine lv_topE eu16 ?_
  refine lv_istore_n (lv' := [(3, .int u16), (0, .ref (a 0)), (4, .int x4)]) hx hb dX9_satisfied_92 rfl hl (by decide) rfl (fun ls hl => ?_)
  obtain ⟨u17, eu17, h⟩ := letS_n h
  refine lv_iinc (v := u17) (lv' := [(4, .int u17), (3, .int u16), (0, .ref (a 0))]) hx hb dX9_satisfied_93 hl (k := 2) rfl (by rw [eu17]; rfl) (by decide) rfl (fun ls hl => ?_)
  refine lv_goto (tgt := 35) hx hb dX9_satisfied_96 (by decide) ?_
  exact hk35 h hP hD hS (lv_sub hl [2, 1, 0] rfl)
set_option maxHeartbeats 4000000 in
set_option maxRecDepth 100000 in
theorem tX9_satisfied_75 {p : Program} {l : Launch} {e : Env} {s : State} {m : MethodId} {args : Array Value} {below : List Frame} {meth : Method} {c : Code} {D : va_G} {a : Nat → Nat} {cc : Nat → ClassId} {A : Nat → Prop} {N : Nat} {r : Int32} {σr : St} {k35 : St → Int32 → Int32 → Option (Int32 × St)} (C : M_Cx RX9 p s m args meth c D cc cX9_satisfied (Cond.code yX9_satisfied cX9_satisfied 6 (some .int) :: WM) 6 (some .int)) (hA : ∀ q, s.heap.size ≤ q → A q) (hk35 : ∀ {σ : St} {x3 : Int32} {x4 : Int32} {H : Heap} {locs : List Loc} {ls : Array Slot}, k35 σ x3 x4 = some (r, σr) → va_P D vwCl (wM a cc σ) H → va_D A (wM a cc σ) → va_S A s.heap H locs → lv_has ls 6 [(0, .ref (a 0)), (3, .int x3), (4, .int x4)] → W p l e rmX9_satisfied s m args below meth c H locs 0 0 (M_Mi D a cc A below args s r σr) (F0 m 35 ls [])) {σ : St} {x3 : Int32} {x4 : Int32} {y0 : Int32} {H : Heap} {locs : List Loc} {ls : Array Slot} (h : fX9_satisfied_75 N k35 σ x3 x4 y0 = some (r, σr)) : va_P D vwCl (wM a cc σ) H → va_D A (wM a cc σ) → va_S A s.heap H locs → lv_has ls 6 [(0, .ref (a 0)), (3, .int x3), (4, .int x4)] → W p l e rmX9_satisfied s m args below meth c H locs 0 0 (M_Mi D a cc A below args s r σr) (F0 m 75 ls [.int y0]) := by
  obtain ⟨hx, hb, hr, hml, hown, hts, hin, hK, hlocks⟩ := id C
  intro hP hD hS hl
  refine lv_istore (lv' := [(5, .int y0), (0, .ref (a 0)), (3, .int x3), (4, .int x4)]) hx hb dX9_satisfied_75 hl (by decide) rfl (fun ls hl => ?_)
  refine lv_iload_n hx hb dX9_satisfied_77 rfl (lv_at hl 2 rfl) ?_
  refine lv_iload hx hb dX9_satisfied_78 (lv_at hl 0 rfl) ?_
  refine lv_if_eq (tgt := 90) hx hb dX9_satisfied_80 (by decide) (fun c15 => ?_) (fun c15 => ?_)
  · have h := ifT c15 h
    refine lv_iconst (v := (0 : Int32)) hx hb dX9_satisfied_90 (by decide) ?_
    exact tX9_satisfied_91 C hA hk35 h hP hD hS (lv_sub hl [1, 3] rfl)
  · have h := ifF c15 h
    refine lv_iconst (v := (1 : Int32)) hx hb dX9_satisfied_83 (by decide) ?_
    refine lv_iload hx hb dX9_satisfied_84 (lv_at hl 3 rfl) ?_
    refine lv_ishl hx hb dX9_satisfied_86 ?_
    refine lv_goto (tgt := 91) hx hb dX9_satisfied_87 (by decide) ?_
    exact tX9_satisfied_91 C hA hk35 h hP hD hS (lv_sub hl [1, 3] rfl)
set_option maxHeartbeats 4000000 in
set_option maxRecDepth 100000 in
theorem tX9_satisfied_35 {p : Program} {l : Launch} {e : Env} {s : State} {m : MethodId} {args : Array Value} {below : List Frame} {meth : Method} {c : Code} {D : va_G} {a : Nat → Nat} {cc : Nat → ClassId} {A : Nat → Prop} {N : Nat} {r : Int32} {σr : St} (C : M_Cx RX9 p s m args meth c D cc cX9_satisfied (Cond.code yX9_satisfied cX9_satisfied 6 (some .int) :: WM) 6 (some .int)) (hA : ∀ q, s.heap.size ≤ q → A q) : ∀ (n : Nat) {σ : St} {x3 : Int32} {x4 : Int32} {H : Heap} {locs : List Loc} {ls : Array Slot}, fX9_satisfied_35 N n σ x3 x4 = some (r, σr) → va_P D vwCl (wM a cc σ) H → va_D A (wM a cc σ) → va_S A s.heap H locs → lv_has ls 6 [(0, .ref (a 0)), (3, .int x3), (4, .int x4)] → W p l e rmX9_satisfied s m args below meth c H locs 0 0 (M_Mi D a cc A below args s r σr) (F0 m 35 ls []) := by
  obtain ⟨hx, hb, hr, hml, hown, hts, hin, hK, hlocks⟩ := id C
  intro n
  induction n with
  | zero => intro σ x3 x4 H locs ls h; exact none_s h
  | succ n ih =>
    intro σ x3 x4 H locs ls h hP hD hS hl
    refine lv_iload hx hb dX9_satisfied_35 (lv_at hl 2 rfl) ?_
    refine lv_aload_n hx hb dX9_satisfied_37 rfl (lv_at hl 0 rfl) ?_
    refine M_gt17 C hP dX9_satisfied_38 ?_
    refine lv_icmp_ge (tgt := 99) hx hb dX9_satisfied_41 (by decide) (fun c8 => ?_) (fun c8 => ?_)
    · have h := ifT c8 h
      refine lv_iload_n hx hb dX9_satisfied_99 rfl (lv_at hl 1 rfl) ?_
      exact M_iret C h hP hD hS dX9_satisfied_100
    · have h := ifF c8 h
      refine lv_aload_n hx hb dX9_satisfied_44 rfl (lv_at hl 0 rfl) ?_
      refine lv_iload hx hb dX9_satisfied_45 (lv_at hl 2 rfl) ?_
      obtain ⟨r10, σ9, hc, h⟩ := bnd_s h
      refine M_callVi (As := [.int x4]) (rest := []) C hA (fun sz => kX9_isPlace l sz hc) gX9_isPlace hP hD hS ⟨by decide, by decide⟩ ⟨rfl, rfl⟩ rfl hl.1 rfl (lv_room (Nat.le_of_ble_eq_true rfl)) dX9_satisfied_47 (fun H locs hP hD hS => ?_)
      refine lv_if_eq (tgt := 63) hx hb dX9_satisfied_50 (by decide) (fun c11 => ?_) (fun c11 => ?_)
      · have h := ifT c11 h
        refine lv_aload_n hx hb dX9_satisfied_63 rfl (lv_at hl 0 rfl) ?_
        refine M_gt32 C hP dX9_satisfied_64 ?_
        refine lv_aload_n hx hb dX9_satisfied_67 rfl (lv_at hl 0 rfl) ?_
        refine M_gt19 C hP dX9_satisfied_68 ?_
        refine lv_iload hx hb dX9_satisfied_71 (lv_at hl 2 rfl) ?_
        obtain ⟨g12, h⟩ := grd_s h
        refine M_ld19 C hP g12 dX9_satisfied_73 ?_
        obtain ⟨g13, h⟩ := grd_s h
        refine M_ld32 C hP g13 dX9_satisfied_74 ?_
        exact tX9_satisfied_75 C hA ih h hP hD hS (lv_sub hl [0, 1, 2] rfl)
      · have h := ifF c11 h
        refine lv_aload_n hx hb dX9_satisfied_53 rfl (lv_at hl 0 rfl) ?_
        refine M_gt33 C hP dX9_satisfied_54 ?_
        refine lv_iload hx hb dX9_satisfied_57 (lv_at hl 2 rfl) ?_
        obtain ⟨g14, h⟩ := grd_s h
        refine M_ld33 C hP g14 dX9_satisfied_59 ?_
        refine lv_goto (tgt := 75) hx hb dX9_satisfied_60 (by decide) ?_
        exact tX9_satisfied_75 C hA ih h hP hD hS (lv_sub hl [0, 1, 2] rfl)
set_option maxHeartbeats 4000000 in
set_option maxRecDepth 100000 in
theorem tX9_satisfied_7 {p : Program} {l : Launch} {e : Env} {s : State} {m : MethodId} {args : Array Value} {below : List Frame} {meth : Method} {c : Code} {D : va_G} {a : Nat → Nat} {cc : Nat → ClassId} {A : Nat → Prop} {N : Nat} {r : Int32} {σr : St} (C : M_Cx RX9 p s m args meth c D cc cX9_satisfied (Cond.code yX9_satisfied cX9_satisfied 6 (some .int) :: WM) 6 (some .int)) (hA : ∀ q, s.heap.size ≤ q → A q) : ∀ (n : Nat) {σ : St} {x1 : Int32} {x2 : Int32} {x3 : Int32} {H : Heap} {locs : List Loc} {ls : Array Slot}, fX9_satisfied_7 N n σ x1 x2 x3 = some (r, σr) → va_P D vwCl (wM a cc σ) H → va_D A (wM a cc σ) → va_S A s.heap H locs → lv_has ls 6 [(0, .ref (a 0)), (1, .int x1), (2, .int x2), (3, .int x3)] → W p l e rmX9_satisfied s m args below meth c H locs 0 0 (M_Mi D a cc A below args s r σr) (F0 m 7 ls []) := by
  obtain ⟨hx, hb, hr, hml, hown, hts, hin, hK, hlocks⟩ := id C
  intro n
  induction n with
  | zero => intro σ x1 x2 x3 H locs ls h; exact none_s h
  | succ n ih =>
    intro σ x1 x2 x3 H locs ls h hP hD hS hl
    refine lv_iload_n hx hb dX9_satisfied_7 rfl (lv_at hl 3 rfl) ?_
    refine lv_if_lt (tgt := 30) hx hb dX9_satisfied_8 (by decide) (fun c2 => ?_) (fun c2 => ?_)
    · have h := ifT c2 h
      refine lv_iconst (v := (0 : Int32)) hx hb dX9_satisfied_30 (by decide) ?_
      refine lv_istore_n (lv' := [(3, .int (0 : Int32)), (0, .ref (a 0)), (1, .int x1), (2, .int x2)]) hx hb dX9_satisfied_31 rfl hl (by decide) rfl (fun ls hl => ?_)
      refine lv_iconst (v := (0 : Int32)) hx hb dX9_satisfied_32 (by decide) ?_
      refine lv_istore (lv' := [(4, .int (0 : Int32)), (3, .int (0 : Int32)), (0, .ref (a 0)), (1, .int x1), (2, .int x2)]) hx hb dX9_satisfied_33 hl (by decide) rfl (fun ls hl => ?_)
      exact tX9_satisfied_35 C hA N h hP hD hS (lv_sub hl [2, 1, 0] rfl)
    · have h := ifF c2 h
      refine lv_aload_n hx hb dX9_satisfied_11 rfl (lv_at hl 0 rfl) ?_
      refine M_gt32 C hP dX9_satisfied_12 ?_
      refine lv_iload_n hx hb dX9_satisfied_15 rfl (lv_at hl 3 rfl) ?_
      refine lv_aload_n hx hb dX9_satisfied_16 rfl (lv_at hl 0 rfl) ?_
      refine lv_iload_n hx hb dX9_satisfied_17 rfl (lv_at hl 3 rfl) ?_
      refine lv_iload_n hx hb dX9_satisfied_18 rfl (lv_at hl 1 rfl) ?_
      refine lv_iload_n hx hb dX9_satisfied_19 rfl (lv_at hl 2 rfl) ?_
      obtain ⟨r4, σ3, hc, h⟩ := bnd_s h
      refine M_callVi (As := [.int x3, .int x1, .int x2]) (rest := [.int x3, .ref (a 32)]) C hA (fun sz => kX9_asks l sz hc) gX9_asks hP hD hS ⟨by decide, by decide⟩ ⟨rfl, rfl⟩ rfl hl.1 rfl (lv_room (Nat.le_of_ble_eq_true rfl)) dX9_satisfied_20 (fun H locs hP hD hS => ?_)
      obtain ⟨g5, h⟩ := grd_s h
      obtain ⟨σ6, eσ6, h⟩ := letS_n h
      refine M_st32 C hP hD hS g5 eσ6 dX9_satisfied_23 (fun H locs hP hD hS => ?_)
      obtain ⟨u7, eu7, h⟩ := letS_n h
      refine lv_iinc (v := u7) (lv' := [(3, .int u7), (0, .ref (a 0)), (1, .int x1), (2, .int x2)]) hx hb dX9_satisfied_24 hl (k := 3) rfl (by rw [eu7]; rfl) (by decide) rfl (fun ls hl => ?_)
      refine lv_goto (tgt := 7) hx hb dX9_satisfied_27 (by decide) ?_
      exact ih h hP hD hS (lv_sub hl [1, 2, 3, 0] rfl)
set_option maxHeartbeats 4000000 in
set_option maxRecDepth 100000 in
theorem tX9_satisfied {p : Program} {l : Launch} {e : Env} {s : State} {m : MethodId} {args : Array Value} {below : List Frame} {meth : Method} {c : Code} {D : va_G} {a : Nat → Nat} {cc : Nat → ClassId} {A : Nat → Prop} {N : Nat} {r : Int32} {σr : St} (C : M_Cx RX9 p s m args meth c D cc cX9_satisfied (Cond.code yX9_satisfied cX9_satisfied 6 (some .int) :: WM) 6 (some .int)) (hA : ∀ q, s.heap.size ≤ q → A q) {σ : St} {p0 : Int32} {p1 : Int32} {H : Heap} {locs : List Loc} {ls : Array Slot} (h : fX9_satisfied N σ p0 p1 = some (r, σr)) : va_P D vwCl (wM a cc σ) H → va_D A (wM a cc σ) → va_S A s.heap H locs → lv_has ls 6 [(0, .ref (a 0)), (1, .int p0), (2, .int p1)] → W p l e rmX9_satisfied s m args below meth c H locs 0 0 (M_Mi D a cc A below args s r σr) (F0 m 0 ls []) := by
  obtain ⟨hx, hb, hr, hml, hown, hts, hin, hK, hlocks⟩ := id C
  intro hP hD hS hl
  refine lv_aload_n hx hb dX9_satisfied_0 rfl (lv_at hl 0 rfl) ?_
  refine M_gt4 C hP dX9_satisfied_1 ?_
  refine lv_iconst (v := (1 : Int32)) hx hb dX9_satisfied_4 (by decide) ?_
  refine lv_isub hx hb dX9_satisfied_5 ?_
  obtain ⟨u1, eu1, h⟩ := letS_n h
  refine lv_topE eu1 ?_
  refine lv_istore_n (lv' := [(3, .int u1), (0, .ref (a 0)), (1, .int p0), (2, .int p1)]) hx hb dX9_satisfied_6 rfl hl (by decide) rfl (fun ls hl => ?_)
  exact tX9_satisfied_7 C hA N h hP hD hS (lv_sub hl [1, 2, 3, 0] rfl)
set_option maxRecDepth 100000 in
theorem kX9_satisfied (l : Launch) (sz : Nat) {D : va_G} {a : Nat → Nat} {cc : Nat → ClassId} {N : Nat} {r : Int32} {σr : St} {σ : St} {p0 : Int32} {p1 : Int32} (h : fX9_satisfied N σ p0 p1 = some (r, σr)) : Met l yX9_satisfied ((Cond.code yX9_satisfied cX9_satisfied 6 (some .int) :: WM)) rmX9_satisfied (M_Pc D a cc [.ref (a 0), .int p0, .int p1] σ sz) (M_Qi D a cc σ sz r σr) 0 0 (va_A (wM a cc σ) sz) := by
  refine Met.ofW (cc := cX9_satisfied) (maxL := 6) (ret := (some .int)) (by decide) rfl ?_
  intro p e s m args below meth c s₁ B hml hv
  obtain ⟨rfl, hsz, hP, hK, hD0⟩ := hv
  subst hsz
  have hl := lv_entry ([.ref (a 0), .int p0, .int p1]) (n := 6) (Nat.le_of_ble_eq_true rfl)
  rw [lg_entry_eq]
  generalize (lg_sl ([.ref (a 0), .int p0, .int p1]) ++ List.replicate (6 - (lg_sl ([.ref (a 0), .int p0, .int p1])).length) Slot.unset).toArray = ls at hl ⊢
  exact tX9_satisfied ⟨B.exec, B.bytes, B.returns, hml, findClass_of_methodNamed B.named, atoms_spec (ws := (Cond.code yX9_satisfied cX9_satisfied 6 (some .int) :: WM)) B.pre, (fun w h => List.mem_cons_of_mem _ (inWM w h)), hK, B.notSynchronized⟩ (fun q h => Or.inr h) h hP hD0.self va_S.rf hl
set_option maxHeartbeats 4000000 in
set_option maxRecDepth 100000 in
theorem tX9_marked {p : Program} {l : Launch} {e : Env} {s : State} {m : MethodId} {args : Array Value} {below : List Frame} {meth : Method} {c : Code} {D : va_G} {a : Nat → Nat} {cc : Nat → ClassId} {A : Nat → Prop} {N : Nat} {r : Int32} {σr : St} (C : M_Cx RX9 p s m args meth c D cc cX9_marked (Cond.code yX9_marked cX9_marked 3 (some .boolean) :: WM) 3 (some .boolean)) (hA : ∀ q, s.heap.size ≤ q → A q) {σ : St} {p0 : Int32} {p1 : Int32} {H : Heap} {locs : List Loc} {ls : Array Slot} (h : fX9_marked N σ p0 p1 = some (r, σr)) : va_P D vwCl (wM a cc σ) H → va_D A (wM a cc σ) → va_S A s.heap H locs → lv_has ls 3 [(0, .ref (a 0)), (1, .int p0), (2, .int p1)] → W p l e rmX9_marked s m args below meth c H locs 0 0 (M_Mi D a cc A below args s r σr) (F0 m 0 ls []) := by
  obtain ⟨hx, hb, hr, hml, hown, hts, hin, hK, hlocks⟩ := id C
  intro hP hD hS hl
  refine lv_aload_n hx hb dX9_marked_0 rfl (lv_at hl 0 rfl) ?_
  refine M_gt35 C hP dX9_marked_1 ?_
  refine lv_bipush (v := (8 : Int32)) hx hb dX9_marked_4 (by decide) ?_
  refine lv_iload_n hx hb dX9_marked_6 rfl (lv_at hl 1 rfl) ?_
  refine lv_imul hx hb dX9_marked_7 ?_
  refine lv_iload_n hx hb dX9_marked_8 rfl (lv_at hl 2 rfl) ?_
  refine lv_bipush (v := (6 : Int32)) hx hb dX9_marked_9 (by decide) ?_
  refine lv_ishr hx hb dX9_marked_11 ?_
  refine lv_iadd hx hb dX9_marked_12 ?_
  obtain ⟨g1, h⟩ := grd_s h
  refine M_ld35 C hP g1 dX9_marked_13 ?_
  refine lv_iload_n hx hb dX9_marked_14 rfl (lv_at hl 2 rfl) ?_
  refine lv_bipush (v := (63 : Int32)) hx hb dX9_marked_15 (by decide) ?_
  refine lv_iand hx hb dX9_marked_17 ?_
  refine lv_lshr hx hb dX9_marked_18 rfl ?_
  refine lv_lconst (v := (1 : Int64)) hx hb dX9_marked_19 (by decide) ?_
  refine lv_land hx hb dX9_marked_20 ?_
  refine lv_lconst (v := (1 : Int64)) hx hb dX9_marked_21 (by decide) ?_
  refine W.lcmp hx hb dX9_marked_22 ?_
  refine lv_if_ne (tgt := 30) hx hb dX9_marked_23 (by decide) (fun c2 => ?_) (fun c2 => ?_)
  · have h := ifF c2 h
    refine lv_iconst (v := (0 : Int32)) hx hb dX9_marked_30 (by decide) ?_
    exact M_zretZ C h hP hD hS dX9_marked_31
  · have h := ifT c2 h
    refine lv_iconst (v := (1 : Int32)) hx hb dX9_marked_26 (by decide) ?_
    refine lv_goto (tgt := 31) hx hb dX9_marked_27 (by decide) ?_
    exact M_zretZ C h hP hD hS dX9_marked_31
set_option maxRecDepth 100000 in
theorem kX9_marked (l : Launch) (sz : Nat) {D : va_G} {a : Nat → Nat} {cc : Nat → ClassId} {N : Nat} {r : Int32} {σr : St} {σ : St} {p0 : Int32} {p1 : Int32} (h : fX9_marked N σ p0 p1 = some (r, σr)) : Met l yX9_marked ((Cond.code yX9_marked cX9_marked 3 (some .boolean) :: WM)) rmX9_marked (M_Pc D a cc [.ref (a 0), .int p0, .int p1] σ sz) (M_Qi D a cc σ sz r σr) 0 0 (va_A (wM a cc σ) sz) := by
  refine Met.ofW (cc := cX9_marked) (maxL := 3) (ret := (some .boolean)) (by decide) rfl ?_
  intro p e s m args below meth c s₁ B hml hv
  obtain ⟨rfl, hsz, hP, hK, hD0⟩ := hv
  subst hsz
  have hl := lv_entry ([.ref (a 0), .int p0, .int p1]) (n := 3) (Nat.le_of_ble_eq_true rfl)
  rw [lg_entry_eq]
  generalize (lg_sl ([.ref (a 0), .int p0, .int p1]) ++ List.replicate (3 - (lg_sl ([.ref (a 0), .int p0, .int p1])).length) Slot.unset).toArray = ls at hl ⊢
  exact tX9_marked ⟨B.exec, B.bytes, B.returns, hml, findClass_of_methodNamed B.named, atoms_spec (ws := (Cond.code yX9_marked cX9_marked 3 (some .boolean) :: WM)) B.pre, (fun w h => List.mem_cons_of_mem _ (inWM w h)), hK, B.notSynchronized⟩ (fun q h => Or.inr h) h hP hD0.self va_S.rf hl
set_option maxHeartbeats 4000000 in
set_option maxRecDepth 100000 in
theorem tX9_known_65 {p : Program} {l : Launch} {e : Env} {s : State} {m : MethodId} {args : Array Value} {below : List Frame} {meth : Method} {c : Code} {D : va_G} {a : Nat → Nat} {cc : Nat → ClassId} {A : Nat → Prop} {N : Nat} {r : Int32} {σr : St} {k4 : St → Int32 → Int32 → Int32 → Option (Int32 × St)} {k20 : St → Int32 → Int32 → Int32 → Int32 → Int32 → Option (Int32 × St)} (C : M_Cx RX9 p s m args meth c D cc cX9_known (Cond.code yX9_known cX9_known 6 (some .int) :: WM) 6 (some .int)) (hA : ∀ q, s.heap.size ≤ q → A q) (hk4 : ∀ {σ : St} {x1 : Int32} {x2 : Int32} {x3 : Int32} {H : Heap} {locs : List Loc} {ls : Array Slot}, k4 σ x1 x2 x3 = some (r, σr) → va_P D vwCl (wM a cc σ) H → va_D A (wM a cc σ) → va_S A s.heap H locs → lv_has ls 6 [(0, .ref (a 0)), (1, .int x1), (2, .int x2), (3, .int x3)] → W p l e rmX9_known s m args below meth c H locs 0 0 (M_Mi D a cc A below args s r σr) (F0 m 4 ls [])) (hk20 : ∀ {σ : St} {x1 : Int32} {x2 : Int32} {x3 : Int32} {x4 : Int32} {x5 : Int32} {H : Heap} {locs : List Loc} {ls : Array Slot}, k20 σ x1 x2 x3 x4 x5 = some (r, σr) → va_P D vwCl (wM a cc σ) H → va_D A (wM a cc σ) → va_S A s.heap H locs → lv_has ls 6 [(0, .ref (a 0)), (1, .int x1), (2, .int x2), (3, .int x3), (4, .int x4), (5, .int x5)] → W p l e rmX9_known s m args below meth c H locs 0 0 (M_Mi D a cc A below args s r σr) (F0 m 20 ls [])) {σ : St} {x1 : Int32} {x2 : Int32} {x3 : Int32} {x5 : Int32} {y0 : Int32} {H : Heap} {locs : List Loc} {ls : Array Slot} (h : fX9_known_65 N k4 k20 σ x1 x2 x3 x5 y0 = some (r, σr)) : va_P D vwCl (wM a cc σ) H → va_D A (wM a cc σ) → va_S A s.heap H locs → lv_has ls 6 [(0, .ref (a 0)), (1, .int x1), (2, .int x2), (3, .int x3), (5, .int x5)] → W p l e rmX9_known s m args below meth c H locs 0 0 (M_Mi D a cc A below args s r σr) (F0 m 65 ls [.int y0]) := by
  obtain ⟨hx, hb, hr, hml, hown, hts, hin, hK, hlocks⟩ := id C
  intro hP hD hS hl
  refine lv_istore (lv' := [(4, .int y0), (0, .ref (a 0)), (1, .int x1), (2, .int x2), (3, .int x3), (5, .int x5)]) hx hb dX9_known_65 hl (by decide) rfl (fun ls hl => ?_)
  obtain ⟨u9, eu9, h⟩ := letS_n h
  refine lv_iinc (v := u9) (lv' := [(5, .int u9), (4, .int y0), (0, .ref (a 0)), (1, .int x1), (2, .int x2), (3, .int x3)]) hx hb dX9_known_67 hl (k := 5) rfl (by rw [eu9]; rfl) (by decide) rfl (fun ls hl => ?_)
  refine lv_goto (tgt := 20) hx hb dX9_known_70 (by decide) ?_
  exact hk20 h hP hD hS (lv_sub hl [2, 3, 4, 5, 1, 0] rfl)
set_option maxHeartbeats 4000000 in
set_option maxRecDepth 100000 in
theorem tX9_known_64 {p : Program} {l : Launch} {e : Env} {s : State} {m : MethodId} {args : Array Value} {below : List Frame} {meth : Method} {c : Code} {D : va_G} {a : Nat → Nat} {cc : Nat → ClassId} {A : Nat → Prop} {N : Nat} {r : Int32} {σr : St} {k4 : St → Int32 → Int32 → Int32 → Option (Int32 × St)} {k20 : St → Int32 → Int32 → Int32 → Int32 → Int32 → Option (Int32 × St)} (C : M_Cx RX9 p s m args meth c D cc cX9_known (Cond.code yX9_known cX9_known 6 (some .int) :: WM) 6 (some .int)) (hA : ∀ q, s.heap.size ≤ q → A q) (hk4 : ∀ {σ : St} {x1 : Int32} {x2 : Int32} {x3 : Int32} {H : Heap} {locs : List Loc} {ls : Array Slot}, k4 σ x1 x2 x3 = some (r, σr) → va_P D vwCl (wM a cc σ) H → va_D A (wM a cc σ) → va_S A s.heap H locs → lv_has ls 6 [(0, .ref (a 0)), (1, .int x1), (2, .int x2), (3, .int x3)] → W p l e rmX9_known s m args below meth c H locs 0 0 (M_Mi D a cc A below args s r σr) (F0 m 4 ls [])) (hk20 : ∀ {σ : St} {x1 : Int32} {x2 : Int32} {x3 : Int32} {x4 : Int32} {x5 : Int32} {H : Heap} {locs : List Loc} {ls : Array Slot}, k20 σ x1 x2 x3 x4 x5 = some (r, σr) → va_P D vwCl (wM a cc σ) H → va_D A (wM a cc σ) → va_S A s.heap H locs → lv_has ls 6 [(0, .ref (a 0)), (1, .int x1), (2, .int x2), (3, .int x3), (4, .int x4), (5, .int x5)] → W p l e rmX9_known s m args below meth c H locs 0 0 (M_Mi D a cc A below args s r σr) (F0 m 20 ls [])) {σ : St} {x1 : Int32} {x2 : Int32} {x3 : Int32} {x5 : Int32} {H : Heap} {locs : List Loc} {ls : Array Slot} (h : fX9_known_64 N k4 k20 σ x1 x2 x3 x5 = some (r, σr)) : va_P D vwCl (wM a cc σ) H → va_D A (wM a cc σ) → va_S A s.heap H locs → lv_has ls 6 [(0, .ref (a 0)), (1, .int x1), (2, .int x2), (3, .int x3), (5, .int x5)] → W p l e rmX9_known s m args below meth c H locs 0 0 (M_Mi D a cc A below args s r σr) (F0 m 64 ls []) := by
  obtain ⟨hx, hb, hr, hml, hown, hts, hin, hK, hlocks⟩ := id C
  intro hP hD hS hl
  refine lv_iconst (v := (0 : Int32)) hx hb dX9_known_64 (by decide) ?_
  exact tX9_known_65 C hA hk4 hk20 h hP hD hS (lv_sub hl [0, 1, 2, 3, 4] rfl)
set_option maxHeartbeats 4000000 in
set_option maxRecDepth 100000 in
theorem tX9_known_83 {p : Program} {l : Launch} {e : Env} {s : State} {m : MethodId} {args : Array Value} {below : List Frame} {meth : Method} {c : Code} {D : va_G} {a : Nat → Nat} {cc : Nat → ClassId} {A : Nat → Prop} {N : Nat} {r : Int32} {σr : St} {k4 : St → Int32 → Int32 → Int32 → Option (Int32 × St)} (C : M_Cx RX9 p s m args meth c D cc cX9_known (Cond.code yX9_known cX9_known 6 (some .int) :: WM) 6 (some .int)) (hA : ∀ q, s.heap.size ≤ q → A q) (hk4 : ∀ {σ : St} {x1 : Int32} {x2 : Int32} {x3 : Int32} {H : Heap} {locs : List Loc} {ls : Array Slot}, k4 σ x1 x2 x3 = some (r, σr) → va_P D vwCl (wM a cc σ) H → va_D A (wM a cc σ) → va_S A s.heap H locs → lv_has ls 6 [(0, .ref (a 0)), (1, .int x1), (2, .int x2), (3, .int x3)] → W p l e rmX9_known s m args below meth c H locs 0 0 (M_Mi D a cc A below args s r σr) (F0 m 4 ls [])) {σ : St} {x1 : Int32} {x3 : Int32} {y0 : Int32} {H : Heap} {locs : List Loc} {ls : Array Slot} (h : fX9_known_83 N k4 σ x1 x3 y0 = some (r, σr)) : va_P D vwCl (wM a cc σ) H → va_D A (wM a cc σ) → va_S A s.heap H locs → lv_has ls 6 [(0, .ref (a 0)), (1, .int x1), (3, .int x3)] → W p l e rmX9_known s m args below meth c H locs 0 0 (M_Mi D a cc A below args s r σr) (F0 m 83 ls [.int y0]) := by
  obtain ⟨hx, hb, hr, hml, hown, hts, hin, hK, hlocks⟩ := id C
  intro hP hD hS hl
  refine lv_istore_n (lv' := [(2, .int y0), (0, .ref (a 0)), (1, .int x1), (3, .int x3)]) hx hb dX9_known_83 rfl hl (by decide) rfl (fun ls hl => ?_)
  obtain ⟨u10, eu10, h⟩ := letS_n h
  refine lv_iinc (v := u10) (lv' := [(3, .int u10), (2, .int y0), (0, .ref (a 0)), (1, .int x1)]) hx hb dX9_known_84 hl (k := 3) rfl (by rw [eu10]; rfl) (by decide) rfl (fun ls hl => ?_)
  refine lv_goto (tgt := 4) hx hb dX9_known_87 (by decide) ?_
  exact hk4 h hP hD hS (lv_sub hl [2, 3, 1, 0] rfl)
set_option maxHeartbeats 4000000 in
set_option maxRecDepth 100000 in
theorem tX9_known_20 {p : Program} {l : Launch} {e : Env} {s : State} {m : MethodId} {args : Array Value} {below : List Frame} {meth : Method} {c : Code} {D : va_G} {a : Nat → Nat} {cc : Nat → ClassId} {A : Nat → Prop} {N : Nat} {r : Int32} {σr : St} {k4 : St → Int32 → Int32 → Int32 → Option (Int32 × St)} (C : M_Cx RX9 p s m args meth c D cc cX9_known (Cond.code yX9_known cX9_known 6 (some .int) :: WM) 6 (some .int)) (hA : ∀ q, s.heap.size ≤ q → A q) (hk4 : ∀ {σ : St} {x1 : Int32} {x2 : Int32} {x3 : Int32} {H : Heap} {locs : List Loc} {ls : Array Slot}, k4 σ x1 x2 x3 = some (r, σr) → va_P D vwCl (wM a cc σ) H → va_D A (wM a cc σ) → va_S A s.heap H locs → lv_has ls 6 [(0, .ref (a 0)), (1, .int x1), (2, .int x2), (3, .int x3)] → W p l e rmX9_known s m args below meth c H locs 0 0 (M_Mi D a cc A below args s r σr) (F0 m 4 ls [])) : ∀ (n : Nat) {σ : St} {x1 : Int32} {x2 : Int32} {x3 : Int32} {x4 : Int32} {x5 : Int32} {H : Heap} {locs : List Loc} {ls : Array Slot}, fX9_known_20 N k4 n σ x1 x2 x3 x4 x5 = some (r, σr) → va_P D vwCl (wM a cc σ) H → va_D A (wM a cc σ) → va_S A s.heap H locs → lv_has ls 6 [(0, .ref (a 0)), (1, .int x1), (2, .int x2), (3, .int x3), (4, .int x4), (5, .int x5)] → W p l e rmX9_known s m args below meth c H locs 0 0 (M_Mi D a cc A below args s r σr) (F0 m 20 ls []) := by
  obtain ⟨hx, hb, hr, hml, hown, hts, hin, hK, hlocks⟩ := id C
  intro n
  induction n with
  | zero => intro σ x1 x2 x3 x4 x5 H locs ls h; exact none_s h
  | succ n ih =>
    intro σ x1 x2 x3 x4 x5 H locs ls h hP hD hS hl
    refine lv_iload hx hb dX9_known_20 (lv_at hl 5 rfl) ?_
    refine lv_bipush (v := (8 : Int32)) hx hb dX9_known_22 (by decide) ?_
    refine lv_icmp_ge (tgt := 73) hx hb dX9_known_24 (by decide) (fun c3 => ?_) (fun c3 => ?_)
    · have h := ifT c3 h
      refine lv_iload hx hb dX9_known_73 (lv_at hl 4 rfl) ?_
      refine lv_if_eq (tgt := 82) hx hb dX9_known_75 (by decide) (fun c4 => ?_) (fun c4 => ?_)
      · have h := ifT c4 h
        refine lv_iload_n hx hb dX9_known_82 rfl (lv_at hl 2 rfl) ?_
        exact tX9_known_83 C hA hk4 h hP hD hS (lv_sub hl [0, 1, 3] rfl)
      · have h := ifF c4 h
        refine lv_iload_n hx hb dX9_known_78 rfl (lv_at hl 3 rfl) ?_
        refine lv_goto (tgt := 83) hx hb dX9_known_79 (by decide) ?_
        exact tX9_known_83 C hA hk4 h hP hD hS (lv_sub hl [0, 1, 3] rfl)
    · have h := ifF c3 h
      refine lv_iload hx hb dX9_known_27 (lv_at hl 4 rfl) ?_
      refine lv_if_eq (tgt := 64) hx hb dX9_known_29 (by decide) (fun c5 => ?_) (fun c5 => ?_)
      · have h := ifT c5 h
        exact tX9_known_64 C hA hk4 ih h hP hD hS (lv_sub hl [0, 1, 2, 3, 5] rfl)
      · have h := ifF c5 h
        refine lv_aload_n hx hb dX9_known_32 rfl (lv_at hl 0 rfl) ?_
        refine M_gt35 C hP dX9_known_33 ?_
        refine lv_bipush (v := (8 : Int32)) hx hb dX9_known_36 (by decide) ?_
        refine lv_iload_n hx hb dX9_known_38 rfl (lv_at hl 3 rfl) ?_
        refine lv_imul hx hb dX9_known_39 ?_
        refine lv_iload hx hb dX9_known_40 (lv_at hl 5 rfl) ?_
        refine lv_iadd hx hb dX9_known_42 ?_
        obtain ⟨g6, h⟩ := grd_s h
        refine M_ld35 C hP g6 dX9_known_43 ?_
        refine lv_aload_n hx hb dX9_known_44 rfl (lv_at hl 0 rfl) ?_
        refine M_gt35 C hP dX9_known_45 ?_
        refine lv_bipush (v := (8 : Int32)) hx hb dX9_known_48 (by decide) ?_
        refine lv_iload_n hx hb dX9_known_50 rfl (lv_at hl 1 rfl) ?_
        refine lv_imul hx hb dX9_known_51 ?_
        refine lv_iload hx hb dX9_known_52 (lv_at hl 5 rfl) ?_
        refine lv_iadd hx hb dX9_known_54 ?_
        obtain ⟨g7, h⟩ := grd_s h
        refine M_ld35 C hP g7 dX9_known_55 ?_
        refine W.lcmp hx hb dX9_known_56 ?_
        refine lv_if_ne (tgt := 64) hx hb dX9_known_57 (by decide) (fun c8 => ?_) (fun c8 => ?_)
        · have h := ifF c8 h
          exact tX9_known_64 C hA hk4 ih h hP hD hS (lv_sub hl [0, 1, 2, 3, 5] rfl)
        · have h := ifT c8 h
          refine lv_iconst (v := (1 : Int32)) hx hb dX9_known_60 (by decide) ?_
          refine lv_goto (tgt := 65) hx hb dX9_known_61 (by decide) ?_
          exact tX9_known_65 C hA hk4 ih h hP hD hS (lv_sub hl [0, 1, 2, 3, 5] rfl)
set_option maxHeartbeats 4000000 in
set_option maxRecDepth 100000 in
theorem tX9_known_118 {p : Program} {l : Launch} {e : Env} {s : State} {m : MethodId} {args : Array Value} {below : List Frame} {meth : Method} {c : Code} {D : va_G} {a : Nat → Nat} {cc : Nat → ClassId} {A : Nat → Prop} {N : Nat} {r : Int32} {σr : St} (C : M_Cx RX9 p s m args meth c D cc cX9_known (Cond.code yX9_known cX9_known 6 (some .int) :: WM) 6 (some .int)) (hA : ∀ q, s.heap.size ≤ q → A q) {σ : St} {x2 : Int32} {y0 : Int32} {y1 : Int32} {H : Heap} {locs : List Loc} {ls : Array Slot} (h : fX9_known_118 N σ x2 y0 y1 = some (r, σr)) : va_P D vwCl (wM a cc σ) H → va_D A (wM a cc σ) → va_S A s.heap H locs → lv_has ls 6 [(2, .int x2)] → W p l e rmX9_known s m args below meth c H locs 0 0 (M_Mi D a cc A below args s r σr) (F0 m 118 ls [.int y0, .int y1, .ref (a 0)]) := by
  obtain ⟨hx, hb, hr, hml, hown, hts, hin, hK, hlocks⟩ := id C
  intro hP hD hS hl
  refine lv_iadd hx hb dX9_known_118 ?_
  obtain ⟨σ14, eσ14, h⟩ := letS_n h
  refine M_pt34 C hP hD hS eσ14 dX9_known_119 (fun H locs hP hD hS => ?_)
  refine lv_iload_n hx hb dX9_known_122 rfl (lv_at hl 0 rfl) ?_
  exact M_iret C h hP hD hS dX9_known_123
set_option maxHeartbeats 4000000 in
set_option maxRecDepth 100000 in
theorem tX9_known_103 {p : Program} {l : Launch} {e : Env} {s : State} {m : MethodId} {args : Array Value} {below : List Frame} {meth : Method} {c : Code} {D : va_G} {a : Nat → Nat} {cc : Nat → ClassId} {A : Nat → Prop} {N : Nat} {r : Int32} {σr : St} (C : M_Cx RX9 p s m args meth c D cc cX9_known (Cond.code yX9_known cX9_known 6 (some .int) :: WM) 6 (some .int)) (hA : ∀ q, s.heap.size ≤ q → A q) {σ : St} {x1 : Int32} {x2 : Int32} {H : Heap} {locs : List Loc} {ls : Array Slot} (h : fX9_known_103 N σ x1 x2 = some (r, σr)) : va_P D vwCl (wM a cc σ) H → va_D A (wM a cc σ) → va_S A s.heap H locs → lv_has ls 6 [(0, .ref (a 0)), (1, .int x1), (2, .int x2)] → W p l e rmX9_known s m args below meth c H locs 0 0 (M_Mi D a cc A below args s r σr) (F0 m 103 ls []) := by
  obtain ⟨hx, hb, hr, hml, hown, hts, hin, hK, hlocks⟩ := id C
  intro hP hD hS hl
  refine lv_aload_n hx hb dX9_known_103 rfl (lv_at hl 0 rfl) ?_
  refine lv_dup hx hb dX9_known_104 rfl ?_
  refine M_gt34 C hP dX9_known_105 ?_
  refine lv_iload_n hx hb dX9_known_108 rfl (lv_at hl 2 rfl) ?_
  refine lv_iload_n hx hb dX9_known_109 rfl (lv_at hl 1 rfl) ?_
  refine lv_icmp_ne (tgt := 117) hx hb dX9_known_110 (by decide) (fun c13 => ?_) (fun c13 => ?_)
  · have h := ifF c13 h
    refine lv_iconst (v := (0 : Int32)) hx hb dX9_known_117 (by decide) ?_
    exact tX9_known_118 C hA h hP hD hS (lv_sub hl [2] rfl)
  · have h := ifT c13 h
    refine lv_iconst (v := (1 : Int32)) hx hb dX9_known_113 (by decide) ?_
    refine lv_goto (tgt := 118) hx hb dX9_known_114 (by decide) ?_
    exact tX9_known_118 C hA h hP hD hS (lv_sub hl [2] rfl)
set_option maxHeartbeats 4000000 in
set_option maxRecDepth 100000 in
theorem tX9_known_90 {p : Program} {l : Launch} {e : Env} {s : State} {m : MethodId} {args : Array Value} {below : List Frame} {meth : Method} {c : Code} {D : va_G} {a : Nat → Nat} {cc : Nat → ClassId} {A : Nat → Prop} {N : Nat} {r : Int32} {σr : St} (C : M_Cx RX9 p s m args meth c D cc cX9_known (Cond.code yX9_known cX9_known 6 (some .int) :: WM) 6 (some .int)) (hA : ∀ q, s.heap.size ≤ q → A q) {σ : St} {x1 : Int32} {x2 : Int32} {H : Heap} {locs : List Loc} {ls : Array Slot} (h : fX9_known_90 N σ x1 x2 = some (r, σr)) : va_P D vwCl (wM a cc σ) H → va_D A (wM a cc σ) → va_S A s.heap H locs → lv_has ls 6 [(0, .ref (a 0)), (1, .int x1), (2, .int x2)] → W p l e rmX9_known s m args below meth c H locs 0 0 (M_Mi D a cc A below args s r σr) (F0 m 90 ls []) := by
  obtain ⟨hx, hb, hr, hml, hown, hts, hin, hK, hlocks⟩ := id C
  intro hP hD hS hl
  refine lv_iload_n hx hb dX9_known_90 rfl (lv_at hl 2 rfl) ?_
  refine lv_iload_n hx hb dX9_known_91 rfl (lv_at hl 1 rfl) ?_
  refine lv_icmp_ne (tgt := 103) hx hb dX9_known_92 (by decide) (fun c11 => ?_) (fun c11 => ?_)
  · have h := ifF c11 h
    exact tX9_known_103 C hA h hP hD hS (lv_sub hl [0, 1, 2] rfl)
  · have h := ifT c11 h
    refine lv_iload_n hx hb dX9_known_95 rfl (lv_at hl 1 rfl) ?_
    refine lv_bipush (v := (40 : Int32)) hx hb dX9_known_96 (by decide) ?_
    refine lv_icmp_ne (tgt := 103) hx hb dX9_known_98 (by decide) (fun c12 => ?_) (fun c12 => ?_)
    · have h := ifF c12 h
      exact tX9_known_103 C hA h hP hD hS (lv_sub hl [0, 1, 2] rfl)
    · have h := ifT c12 h
      refine lv_iconst (v := (-1 : Int32)) hx hb dX9_known_101 (by decide) ?_
      exact M_iret C h hP hD hS dX9_known_102
set_option maxHeartbeats 4000000 in
set_option maxRecDepth 100000 in
theorem tX9_known_4 {p : Program} {l : Launch} {e : Env} {s : State} {m : MethodId} {args : Array Value} {below : List Frame} {meth : Method} {c : Code} {D : va_G} {a : Nat → Nat} {cc : Nat → ClassId} {A : Nat → Prop} {N : Nat} {r : Int32} {σr : St} (C : M_Cx RX9 p s m args meth c D cc cX9_known (Cond.code yX9_known cX9_known 6 (some .int) :: WM) 6 (some .int)) (hA : ∀ q, s.heap.size ≤ q → A q) : ∀ (n : Nat) {σ : St} {x1 : Int32} {x2 : Int32} {x3 : Int32} {H : Heap} {locs : List Loc} {ls : Array Slot}, fX9_known_4 N n σ x1 x2 x3 = some (r, σr) → va_P D vwCl (wM a cc σ) H → va_D A (wM a cc σ) → va_S A s.heap H locs → lv_has ls 6 [(0, .ref (a 0)), (1, .int x1), (2, .int x2), (3, .int x3)] → W p l e rmX9_known s m args below meth c H locs 0 0 (M_Mi D a cc A below args s r σr) (F0 m 4 ls []) := by
  obtain ⟨hx, hb, hr, hml, hown, hts, hin, hK, hlocks⟩ := id C
  intro n
  induction n with
  | zero => intro σ x1 x2 x3 H locs ls h; exact none_s h
  | succ n ih =>
    intro σ x1 x2 x3 H locs ls h hP hD hS hl
    refine lv_iload_n hx hb dX9_known_4 rfl (lv_at hl 3 rfl) ?_
    refine lv_iload_n hx hb dX9_known_5 rfl (lv_at hl 1 rfl) ?_
    refine lv_icmp_ge (tgt := 90) hx hb dX9_known_6 (by decide) (fun c1 => ?_) (fun c1 => ?_)
    · have h := ifT c1 h
      exact tX9_known_90 C hA h hP hD hS (lv_sub hl [0, 1, 2] rfl)
    · have h := ifF c1 h
      refine lv_iload_n hx hb dX9_known_9 rfl (lv_at hl 2 rfl) ?_
      refine lv_iload_n hx hb dX9_known_10 rfl (lv_at hl 1 rfl) ?_
      refine lv_icmp_ne (tgt := 90) hx hb dX9_known_11 (by decide) (fun c2 => ?_) (fun c2 => ?_)
      · have h := ifF c2 h
        exact tX9_known_90 C hA h hP hD hS (lv_sub hl [0, 1, 2] rfl)
      · have h := ifT c2 h
        refine lv_iconst (v := (1 : Int32)) hx hb dX9_known_14 (by decide) ?_
        refine lv_istore (lv' := [(4, .int (1 : Int32)), (0, .ref (a 0)), (1, .int x1), (2, .int x2), (3, .int x3)]) hx hb dX9_known_15 hl (by decide) rfl (fun ls hl => ?_)
        refine lv_iconst (v := (0 : Int32)) hx hb dX9_known_17 (by decide) ?_
        refine lv_istore (lv' := [(5, .int (0 : Int32)), (4, .int (1 : Int32)), (0, .ref (a 0)), (1, .int x1), (2, .int x2), (3, .int x3)]) hx hb dX9_known_18 hl (by decide) rfl (fun ls hl => ?_)
        exact tX9_known_20 C hA ih N h hP hD hS (lv_sub hl [2, 3, 4, 5, 1, 0] rfl)
set_option maxHeartbeats 4000000 in
set_option maxRecDepth 100000 in
theorem tX9_known {p : Program} {l : Launch} {e : Env} {s : State} {m : MethodId} {args : Array Value} {below : List Frame} {meth : Method} {c : Code} {D : va_G} {a : Nat → Nat} {cc : Nat → ClassId} {A : Nat → Prop} {N : Nat} {r : Int32} {σr : St} (C : M_Cx RX9 p s m args meth c D cc cX9_known (Cond.code yX9_known cX9_known 6 (some .int) :: WM) 6 (some .int)) (hA : ∀ q, s.heap.size ≤ q → A q) {σ : St} {p0 : Int32} {H : Heap} {locs : List Loc} {ls : Array Slot} (h : fX9_known N σ p0 = some (r, σr)) : va_P D vwCl (wM a cc σ) H → va_D A (wM a cc σ) → va_S A s.heap H locs → lv_has ls 6 [(0, .ref (a 0)), (1, .int p0)] → W p l e rmX9_known s m args below meth c H locs 0 0 (M_Mi D a cc A below args s r σr) (F0 m 0 ls []) := by
  obtain ⟨hx, hb, hr, hml, hown, hts, hin, hK, hlocks⟩ := id C
  intro hP hD hS hl
  refine lv_iload_n hx hb dX9_known_0 rfl (lv_at hl 1 rfl) ?_
  refine lv_istore_n (lv' := [(2, .int p0), (0, .ref (a 0)), (1, .int p0)]) hx hb dX9_known_1 rfl hl (by decide) rfl (fun ls hl => ?_)
  refine lv_iconst (v := (0 : Int32)) hx hb dX9_known_2 (by decide) ?_
  refine lv_istore_n (lv' := [(3, .int (0 : Int32)), (2, .int p0), (0, .ref (a 0)), (1, .int p0)]) hx hb dX9_known_3 rfl hl (by decide) rfl (fun ls hl => ?_)
  exact tX9_known_4 C hA N h hP hD hS (lv_sub hl [2, 3, 1, 0] rfl)
set_option maxRecDepth 100000 in
theorem kX9_known (l : Launch) (sz : Nat) {D : va_G} {a : Nat → Nat} {cc : Nat → ClassId} {N : Nat} {r : Int32} {σr : St} {σ : St} {p0 : Int32} (h : fX9_known N σ p0 = some (r, σr)) : Met l yX9_known ((Cond.code yX9_known cX9_known 6 (some .int) :: WM)) rmX9_known (M_Pc D a cc [.ref (a 0), .int p0] σ sz) (M_Qi D a cc σ sz r σr) 0 0 (va_A (wM a cc σ) sz) := by
  refine Met.ofW (cc := cX9_known) (maxL := 6) (ret := (some .int)) (by decide) rfl ?_
  intro p e s m args below meth c s₁ B hml hv
  obtain ⟨rfl, hsz, hP, hK, hD0⟩ := hv
  subst hsz
  have hl := lv_entry ([.ref (a 0), .int p0]) (n := 6) (Nat.le_of_ble_eq_true rfl)
  rw [lg_entry_eq]
  generalize (lg_sl ([.ref (a 0), .int p0]) ++ List.replicate (6 - (lg_sl ([.ref (a 0), .int p0])).length) Slot.unset).toArray = ls at hl ⊢
  exact tX9_known ⟨B.exec, B.bytes, B.returns, hml, findClass_of_methodNamed B.named, atoms_spec (ws := (Cond.code yX9_known cX9_known 6 (some .int) :: WM)) B.pre, (fun w h => List.mem_cons_of_mem _ (inWM w h)), hK, B.notSynchronized⟩ (fun q h => Or.inr h) h hP hD0.self va_S.rf hl
set_option maxHeartbeats 4000000 in
set_option maxRecDepth 100000 in
theorem tX9_after_94 {p : Program} {l : Launch} {e : Env} {s : State} {m : MethodId} {args : Array Value} {below : List Frame} {meth : Method} {c : Code} {D : va_G} {a : Nat → Nat} {cc : Nat → ClassId} {A : Nat → Prop} {N : Nat} {r : Int32} {σr : St} {k37 : St → Int32 → Int32 → Int32 → Int32 → Option (Int32 × St)} (C : M_Cx RX9 p s m args meth c D cc cX9_after (Cond.code yX9_after cX9_after 5 (some .int) :: WM) 5 (some .int)) (hA : ∀ q, s.heap.size ≤ q → A q) (hk37 : ∀ {σ : St} {x1 : Int32} {x2 : Int32} {x3 : Int32} {x4 : Int32} {H : Heap} {locs : List Loc} {ls : Array Slot}, k37 σ x1 x2 x3 x4 = some (r, σr) → va_P D vwCl (wM a cc σ) H → va_D A (wM a cc σ) → va_S A s.heap H locs → lv_has ls 5 [(0, .ref (a 0)), (1, .int x1), (2, .int x2), (3, .int x3), (4, .int x4)] → W p l e rmX9_after s m args below meth c H locs 0 0 (M_Mi D a cc A below args s r σr) (F0 m 37 ls [])) {σ : St} {x1 : Int32} {x2 : Int32} {x3 : Int32} {x4 : Int32} {H : Heap} {locs : List Loc} {ls : Array Slot} (h : fX9_after_94 N k37 σ x1 x2 x3 x4 = some (r, σr)) : va_P D vwCl (wM a cc σ) H → va_D A (wM a cc σ) → va_S A s.heap H locs → lv_has ls 5 [(0, .ref (a 0)), (1, .int x1), (2, .int x2), (3, .int x3), (4, .int x4)] → W p l e rmX9_after s m args below meth c H locs 0 0 (M_Mi D a cc A below args s r σr) (F0 m 94 ls []) := by
  obtain ⟨hx, hb, hr, hml, hown, hts, hin, hK, hlocks⟩ := id C
  intro hP hD hS hl
  obtain ⟨u16, eu16, h⟩ := letS_n h
  refine lv_iinc (v := u16) (lv' := [(4, .int u16), (0, .ref (a 0)), (1, .int x1), (2, .int x2), (3, .int x3)]) hx hb dX9_after_94 hl (k := 4) rfl (by rw [eu16]; rfl) (by decide) rfl (fun ls hl => ?_)
  refine lv_goto (tgt := 37) hx hb dX9_after_97 (by decide) ?_
  exact hk37 h hP hD hS (lv_sub hl [1, 2, 3, 4, 0] rfl)
set_option maxHeartbeats 4000000 in
set_option maxRecDepth 100000 in
theorem tX9_after_37 {p : Program} {l : Launch} {e : Env} {s : State} {m : MethodId} {args : Array Value} {below : List Frame} {meth : Method} {c : Code} {D : va_G} {a : Nat → Nat} {cc : Nat → ClassId} {A : Nat → Prop} {N : Nat} {r : Int32} {σr : St} (C : M_Cx RX9 p s m args meth c D cc cX9_after (Cond.code yX9_after cX9_after 5 (some .int) :: WM) 5 (some .int)) (hA : ∀ q, s.heap.size ≤ q → A q) : ∀ (n : Nat) {σ : St} {x1 : Int32} {x2 : Int32} {x3 : Int32} {x4 : Int32} {H : Heap} {locs : List Loc} {ls : Array Slot}, fX9_after_37 N n σ x1 x2 x3 x4 = some (r, σr) → va_P D vwCl (wM a cc σ) H → va_D A (wM a cc σ) → va_S A s.heap H locs → lv_has ls 5 [(0, .ref (a 0)), (1, .int x1), (2, .int x2), (3, .int x3), (4, .int x4)] → W p l e rmX9_after s m args below meth c H locs 0 0 (M_Mi D a cc A below args s r σr) (F0 m 37 ls []) := by
  obtain ⟨hx, hb, hr, hml, hown, hts, hin, hK, hlocks⟩ := id C
  intro n
  induction n with
  | zero => intro σ x1 x2 x3 x4 H locs ls h; exact none_s h
  | succ n ih =>
    intro σ x1 x2 x3 x4 H locs ls h hP hD hS hl
    refine lv_iload hx hb dX9_after_37 (lv_at hl 4 rfl) ?_
    refine lv_iconst (v := (1 : Int32)) hx hb dX9_after_39 (by decide) ?_
    refine lv_aload_n hx hb dX9_after_40 rfl (lv_at hl 0 rfl) ?_
    refine M_gt17 C hP dX9_after_41 ?_
    refine lv_ishl hx hb dX9_after_44 ?_
    refine lv_icmp_ge (tgt := 100) hx hb dX9_after_45 (by decide) (fun c6 => ?_) (fun c6 => ?_)
    · have h := ifT c6 h
      refine lv_aload_n hx hb dX9_after_100 rfl (lv_at hl 0 rfl) ?_
      refine lv_iload_n hx hb dX9_after_101 rfl (lv_at hl 3 rfl) ?_
      obtain ⟨r8, σ7, hc, h⟩ := bnd_s h
      refine M_callVi (As := [.int x3]) (rest := []) C hA (fun sz => kX9_known l sz hc) gX9_known hP hD hS ⟨by decide, by decide⟩ ⟨rfl, rfl⟩ rfl hl.1 rfl (lv_room (Nat.le_of_ble_eq_true rfl)) dX9_after_102 (fun H locs hP hD hS => ?_)
      exact M_iret C h hP hD hS dX9_after_105
    · have h := ifF c6 h
      refine lv_aload_n hx hb dX9_after_48 rfl (lv_at hl 0 rfl) ?_
      refine lv_iload_n hx hb dX9_after_49 rfl (lv_at hl 1 rfl) ?_
      refine lv_aload_n hx hb dX9_after_50 rfl (lv_at hl 0 rfl) ?_
      refine M_gt31 C hP dX9_after_51 ?_
      refine lv_sipush (v := (512 : Int32)) hx hb dX9_after_54 (by decide) ?_
      refine lv_iload_n hx hb dX9_after_57 rfl (lv_at hl 2 rfl) ?_
      refine lv_imul hx hb dX9_after_58 ?_
      refine lv_iload hx hb dX9_after_59 (lv_at hl 4 rfl) ?_
      refine lv_iadd hx hb dX9_after_61 ?_
      obtain ⟨g9, h⟩ := grd_s h
      refine M_ld31 C hP g9 dX9_after_62 ?_
      obtain ⟨r11, σ10, hc, h⟩ := bnd_s h
      refine M_callVi (As := [.int x1, .int (gI σ 31 (((512 : Int32) * x2) + x4).toNatClampNeg)]) (rest := []) C hA (fun sz => kX9_marked l sz hc) gX9_marked hP hD hS ⟨by decide, by decide⟩ ⟨rfl, rfl⟩ rfl hl.1 rfl (lv_room (Nat.le_of_ble_eq_true rfl)) dX9_after_63 (fun H locs hP hD hS => ?_)
      refine lv_if_eq (tgt := 94) hx hb dX9_after_66 (by decide) (fun c12 => ?_) (fun c12 => ?_)
      · have h := ifT c12 h
        exact tX9_after_94 C hA ih h hP hD hS (lv_sub hl [0, 1, 2, 3, 4] rfl)
      · have h := ifF c12 h
        refine lv_aload_n hx hb dX9_after_69 rfl (lv_at hl 0 rfl) ?_
        refine M_gt35 C hP dX9_after_70 ?_
        refine lv_bipush (v := (8 : Int32)) hx hb dX9_after_73 (by decide) ?_
        refine lv_iload_n hx hb dX9_after_75 rfl (lv_at hl 3 rfl) ?_
        refine lv_imul hx hb dX9_after_76 ?_
        refine lv_iload hx hb dX9_after_77 (lv_at hl 4 rfl) ?_
        refine lv_bipush (v := (6 : Int32)) hx hb dX9_after_79 (by decide) ?_
        refine lv_ishr hx hb dX9_after_81 ?_
        refine lv_iadd hx hb dX9_after_82 ?_
        refine lv_dup2_11 hx hb dX9_after_83 rfl rfl ?_
        obtain ⟨g13, h⟩ := grd_s h
        refine M_ld35 C hP g13 dX9_after_84 ?_
        refine lv_lconst (v := (1 : Int64)) hx hb dX9_after_85 (by decide) ?_
        refine lv_iload hx hb dX9_after_86 (lv_at hl 4 rfl) ?_
        refine lv_bipush (v := (63 : Int32)) hx hb dX9_after_88 (by decide) ?_
        refine lv_iand hx hb dX9_after_90 ?_
        refine lv_lshl hx hb dX9_after_91 rfl ?_
        refine lv_lor hx hb dX9_after_92 ?_
        obtain ⟨g14, h⟩ := grd_s h
        obtain ⟨σ15, eσ15, h⟩ := letS_n h
        refine M_st35 C hP hD hS g14 eσ15 dX9_after_93 (fun H locs hP hD hS => ?_)
        exact tX9_after_94 C hA ih h hP hD hS (lv_sub hl [0, 1, 2, 3, 4] rfl)
set_option maxHeartbeats 4000000 in
set_option maxRecDepth 100000 in
theorem tX9_after_8 {p : Program} {l : Launch} {e : Env} {s : State} {m : MethodId} {args : Array Value} {below : List Frame} {meth : Method} {c : Code} {D : va_G} {a : Nat → Nat} {cc : Nat → ClassId} {A : Nat → Prop} {N : Nat} {r : Int32} {σr : St} (C : M_Cx RX9 p s m args meth c D cc cX9_after (Cond.code yX9_after cX9_after 5 (some .int) :: WM) 5 (some .int)) (hA : ∀ q, s.heap.size ≤ q → A q) : ∀ (n : Nat) {σ : St} {x1 : Int32} {x2 : Int32} {x3 : Int32} {x4 : Int32} {H : Heap} {locs : List Loc} {ls : Array Slot}, fX9_after_8 N n σ x1 x2 x3 x4 = some (r, σr) → va_P D vwCl (wM a cc σ) H → va_D A (wM a cc σ) → va_S A s.heap H locs → lv_has ls 5 [(0, .ref (a 0)), (1, .int x1), (2, .int x2), (3, .int x3), (4, .int x4)] → W p l e rmX9_after s m args below meth c H locs 0 0 (M_Mi D a cc A below args s r σr) (F0 m 8 ls []) := by
  obtain ⟨hx, hb, hr, hml, hown, hts, hin, hK, hlocks⟩ := id C
  intro n
  induction n with
  | zero => intro σ x1 x2 x3 x4 H locs ls h; exact none_s h
  | succ n ih =>
    intro σ x1 x2 x3 x4 H locs ls h hP hD hS hl
    refine lv_iload hx hb dX9_after_8 (lv_at hl 4 rfl) ?_
    refine lv_bipush (v := (8 : Int32)) hx hb dX9_after_10 (by decide) ?_
    refine lv_icmp_ge (tgt := 34) hx hb dX9_after_12 (by decide) (fun c2 => ?_) (fun c2 => ?_)
    · have h := ifT c2 h
      refine lv_iconst (v := (0 : Int32)) hx hb dX9_after_34 (by decide) ?_
      refine lv_istore (lv' := [(4, .int (0 : Int32)), (0, .ref (a 0)), (1, .int x1), (2, .int x2), (3, .int x3)]) hx hb dX9_after_35 hl (by decide) rfl (fun ls hl => ?_)
      exact tX9_after_37 C hA N h hP hD hS (lv_sub hl [1, 2, 3, 4, 0] rfl)
    · have h := ifF c2 h
      refine lv_aload_n hx hb dX9_after_15 rfl (lv_at hl 0 rfl) ?_
      refine M_gt35 C hP dX9_after_16 ?_
      refine lv_bipush (v := (8 : Int32)) hx hb dX9_after_19 (by decide) ?_
      refine lv_iload_n hx hb dX9_after_21 rfl (lv_at hl 3 rfl) ?_
      refine lv_imul hx hb dX9_after_22 ?_
      refine lv_iload hx hb dX9_after_23 (lv_at hl 4 rfl) ?_
      refine lv_iadd hx hb dX9_after_25 ?_
      refine lv_lconst (v := (0 : Int64)) hx hb dX9_after_26 (by decide) ?_
      obtain ⟨g3, h⟩ := grd_s h
      obtain ⟨σ4, eσ4, h⟩ := letS_n h
      refine M_st35 C hP hD hS g3 eσ4 dX9_after_27 (fun H locs hP hD hS => ?_)
      obtain ⟨u5, eu5, h⟩ := letS_n h
      refine lv_iinc (v := u5) (lv' := [(4, .int u5), (0, .ref (a 0)), (1, .int x1), (2, .int x2), (3, .int x3)]) hx hb dX9_after_28 hl (k := 4) rfl (by rw [eu5]; rfl) (by decide) rfl (fun ls hl => ?_)
      refine lv_goto (tgt := 8) hx hb dX9_after_31 (by decide) ?_
      exact ih h hP hD hS (lv_sub hl [1, 2, 3, 4, 0] rfl)
set_option maxHeartbeats 4000000 in
set_option maxRecDepth 100000 in
theorem tX9_after {p : Program} {l : Launch} {e : Env} {s : State} {m : MethodId} {args : Array Value} {below : List Frame} {meth : Method} {c : Code} {D : va_G} {a : Nat → Nat} {cc : Nat → ClassId} {A : Nat → Prop} {N : Nat} {r : Int32} {σr : St} (C : M_Cx RX9 p s m args meth c D cc cX9_after (Cond.code yX9_after cX9_after 5 (some .int) :: WM) 5 (some .int)) (hA : ∀ q, s.heap.size ≤ q → A q) {σ : St} {p0 : Int32} {p1 : Int32} {H : Heap} {locs : List Loc} {ls : Array Slot} (h : fX9_after N σ p0 p1 = some (r, σr)) : va_P D vwCl (wM a cc σ) H → va_D A (wM a cc σ) → va_S A s.heap H locs → lv_has ls 5 [(0, .ref (a 0)), (1, .int p0), (2, .int p1)] → W p l e rmX9_after s m args below meth c H locs 0 0 (M_Mi D a cc A below args s r σr) (F0 m 0 ls []) := by
  obtain ⟨hx, hb, hr, hml, hown, hts, hin, hK, hlocks⟩ := id C
  intro hP hD hS hl
  refine lv_aload_n hx hb dX9_after_0 rfl (lv_at hl 0 rfl) ?_
  refine M_gt34 C hP dX9_after_1 ?_
  obtain ⟨u1, eu1, h⟩ := letS_n h
  refine lv_topE eu1 ?_
  refine lv_istore_n (lv' := [(3, .int u1), (0, .ref (a 0)), (1, .int p0), (2, .int p1)]) hx hb dX9_after_4 rfl hl (by decide) rfl (fun ls hl => ?_)
  refine lv_iconst (v := (0 : Int32)) hx hb dX9_after_5 (by decide) ?_
  refine lv_istore (lv' := [(4, .int (0 : Int32)), (3, .int u1), (0, .ref (a 0)), (1, .int p0), (2, .int p1)]) hx hb dX9_after_6 hl (by decide) rfl (fun ls hl => ?_)
  exact tX9_after_8 C hA N h hP hD hS (lv_sub hl [2, 3, 4, 1, 0] rfl)
set_option maxRecDepth 100000 in
theorem kX9_after (l : Launch) (sz : Nat) {D : va_G} {a : Nat → Nat} {cc : Nat → ClassId} {N : Nat} {r : Int32} {σr : St} {σ : St} {p0 : Int32} {p1 : Int32} (h : fX9_after N σ p0 p1 = some (r, σr)) : Met l yX9_after ((Cond.code yX9_after cX9_after 5 (some .int) :: WM)) rmX9_after (M_Pc D a cc [.ref (a 0), .int p0, .int p1] σ sz) (M_Qi D a cc σ sz r σr) 0 0 (va_A (wM a cc σ) sz) := by
  refine Met.ofW (cc := cX9_after) (maxL := 5) (ret := (some .int)) (by decide) rfl ?_
  intro p e s m args below meth c s₁ B hml hv
  obtain ⟨rfl, hsz, hP, hK, hD0⟩ := hv
  subst hsz
  have hl := lv_entry ([.ref (a 0), .int p0, .int p1]) (n := 5) (Nat.le_of_ble_eq_true rfl)
  rw [lg_entry_eq]
  generalize (lg_sl ([.ref (a 0), .int p0, .int p1]) ++ List.replicate (5 - (lg_sl ([.ref (a 0), .int p0, .int p1])).length) Slot.unset).toArray = ls at hl ⊢
  exact tX9_after ⟨B.exec, B.bytes, B.returns, hml, findClass_of_methodNamed B.named, atoms_spec (ws := (Cond.code yX9_after cX9_after 5 (some .int) :: WM)) B.pre, (fun w h => List.mem_cons_of_mem _ (inWM w h)), hK, B.notSynchronized⟩ (fun q h => Or.inr h) h hP hD0.self va_S.rf hl
set_option maxHeartbeats 4000000 in
set_option maxRecDepth 100000 in
theorem tX9_gather_10 {p : Program} {l : Launch} {e : Env} {s : State} {m : MethodId} {args : Array Value} {below : List Frame} {meth : Method} {c : Code} {D : va_G} {a : Nat → Nat} {cc : Nat → ClassId} {A : Nat → Prop} {N : Nat} {r : Int32} {σr : St} {k2 : St → Int32 → Option (Int32 × St)} (C : M_Cx RX9 p s m args meth c D cc cX9_gather (Cond.code yX9_gather cX9_gather 3 (some .boolean) :: WM) 3 (some .boolean)) (hA : ∀ q, s.heap.size ≤ q → A q) (hk2 : ∀ {σ : St} {x1 : Int32} {H : Heap} {locs : List Loc} {ls : Array Slot}, k2 σ x1 = some (r, σr) → va_P D vwCl (wM a cc σ) H → va_D A (wM a cc σ) → va_S A s.heap H locs → lv_has ls 3 [(0, .ref (a 0)), (1, .int x1)] → W p l e rmX9_gather s m args below meth c H locs 0 0 (M_Mi D a cc A below args s r σr) (F0 m 2 ls [])) : ∀ (n : Nat) {σ : St} {x1 : Int32} {x2 : Int32} {H : Heap} {locs : List Loc} {ls : Array Slot}, fX9_gather_10 N k2 n σ x1 x2 = some (r, σr) → va_P D vwCl (wM a cc σ) H → va_D A (wM a cc σ) → va_S A s.heap H locs → lv_has ls 3 [(0, .ref (a 0)), (1, .int x1), (2, .int x2)] → W p l e rmX9_gather s m args below meth c H locs 0 0 (M_Mi D a cc A below args s r σr) (F0 m 10 ls []) := by
  obtain ⟨hx, hb, hr, hml, hown, hts, hin, hK, hlocks⟩ := id C
  intro n
  induction n with
  | zero => intro σ x1 x2 H locs ls h; exact none_s h
  | succ n ih =>
    intro σ x1 x2 H locs ls h hP hD hS hl
    refine lv_iload_n hx hb dX9_gather_10 rfl (lv_at hl 2 rfl) ?_
    refine lv_iconst (v := (1 : Int32)) hx hb dX9_gather_11 (by decide) ?_
    refine lv_aload_n hx hb dX9_gather_12 rfl (lv_at hl 0 rfl) ?_
    refine M_gt17 C hP dX9_gather_13 ?_
    refine lv_ishl hx hb dX9_gather_16 ?_
    refine lv_icmp_ge (tgt := 44) hx hb dX9_gather_17 (by decide) (fun c3 => ?_) (fun c3 => ?_)
    · have h := ifT c3 h
      obtain ⟨u4, eu4, h⟩ := letS_n h
      refine lv_iinc (v := u4) (lv' := [(1, .int u4), (0, .ref (a 0)), (2, .int x2)]) hx hb dX9_gather_44 hl (k := 1) rfl (by rw [eu4]; rfl) (by decide) rfl (fun ls hl => ?_)
      refine lv_goto (tgt := 2) hx hb dX9_gather_47 (by decide) ?_
      exact hk2 h hP hD hS (lv_sub hl [1, 0] rfl)
    · have h := ifF c3 h
      refine lv_aload_n hx hb dX9_gather_20 rfl (lv_at hl 0 rfl) ?_
      refine M_gt31 C hP dX9_gather_21 ?_
      refine lv_sipush (v := (512 : Int32)) hx hb dX9_gather_24 (by decide) ?_
      refine lv_iload_n hx hb dX9_gather_27 rfl (lv_at hl 1 rfl) ?_
      refine lv_imul hx hb dX9_gather_28 ?_
      refine lv_iload_n hx hb dX9_gather_29 rfl (lv_at hl 2 rfl) ?_
      refine lv_iadd hx hb dX9_gather_30 ?_
      refine lv_aload_n hx hb dX9_gather_31 rfl (lv_at hl 0 rfl) ?_
      refine lv_iload_n hx hb dX9_gather_32 rfl (lv_at hl 1 rfl) ?_
      refine lv_iload_n hx hb dX9_gather_33 rfl (lv_at hl 2 rfl) ?_
      obtain ⟨r6, σ5, hc, h⟩ := bnd_s h
      refine M_callVi (As := [.int x1, .int x2]) (rest := [.int (((512 : Int32) * x1) + x2), .ref (a 31)]) C hA (fun sz => kX9_satisfied l sz hc) gX9_satisfied hP hD hS ⟨by decide, by decide⟩ ⟨rfl, rfl⟩ rfl hl.1 rfl (lv_room (Nat.le_of_ble_eq_true rfl)) dX9_gather_34 (fun H locs hP hD hS => ?_)
      obtain ⟨g7, h⟩ := grd_s h
      obtain ⟨σ8, eσ8, h⟩ := letS_n h
      refine M_st31 C hP hD hS g7 eσ8 dX9_gather_37 (fun H locs hP hD hS => ?_)
      obtain ⟨u9, eu9, h⟩ := letS_n h
      refine lv_iinc (v := u9) (lv' := [(2, .int u9), (0, .ref (a 0)), (1, .int x1)]) hx hb dX9_gather_38 hl (k := 2) rfl (by rw [eu9]; rfl) (by decide) rfl (fun ls hl => ?_)
      refine lv_goto (tgt := 10) hx hb dX9_gather_41 (by decide) ?_
      exact ih h hP hD hS (lv_sub hl [1, 2, 0] rfl)
set_option maxHeartbeats 4000000 in
set_option maxRecDepth 100000 in
theorem tX9_gather_113 {p : Program} {l : Launch} {e : Env} {s : State} {m : MethodId} {args : Array Value} {below : List Frame} {meth : Method} {c : Code} {D : va_G} {a : Nat → Nat} {cc : Nat → ClassId} {A : Nat → Prop} {N : Nat} {r : Int32} {σr : St} {k78 : St → Int32 → Option (Int32 × St)} (C : M_Cx RX9 p s m args meth c D cc cX9_gather (Cond.code yX9_gather cX9_gather 3 (some .boolean) :: WM) 3 (some .boolean)) (hA : ∀ q, s.heap.size ≤ q → A q) (hk78 : ∀ {σ : St} {x1 : Int32} {H : Heap} {locs : List Loc} {ls : Array Slot}, k78 σ x1 = some (r, σr) → va_P D vwCl (wM a cc σ) H → va_D A (wM a cc σ) → va_S A s.heap H locs → lv_has ls 3 [(0, .ref (a 0)), (1, .int x1)] → W p l e rmX9_gather s m args below meth c H locs 0 0 (M_Mi D a cc A below args s r σr) (F0 m 78 ls [])) {σ : St} {x1 : Int32} {H : Heap} {locs : List Loc} {ls : Array Slot} (h : fX9_gather_113 N k78 σ x1 = some (r, σr)) : va_P D vwCl (wM a cc σ) H → va_D A (wM a cc σ) → va_S A s.heap H locs → lv_has ls 3 [(0, .ref (a 0)), (1, .int x1)] → W p l e rmX9_gather s m args below meth c H locs 0 0 (M_Mi D a cc A below args s r σr) (F0 m 113 ls []) := by
  obtain ⟨hx, hb, hr, hml, hown, hts, hin, hK, hlocks⟩ := id C
  intro hP hD hS hl
  obtain ⟨u20, eu20, h⟩ := letS_n h
  refine lv_iinc (v := u20) (lv' := [(1, .int u20), (0, .ref (a 0))]) hx hb dX9_gather_113 hl (k := 1) rfl (by rw [eu20]; rfl) (by decide) rfl (fun ls hl => ?_)
  refine lv_goto (tgt := 78) hx hb dX9_gather_116 (by decide) ?_
  exact hk78 h hP hD hS (lv_sub hl [1, 0] rfl)
set_option maxHeartbeats 4000000 in
set_option maxRecDepth 100000 in
theorem tX9_gather_136 {p : Program} {l : Launch} {e : Env} {s : State} {m : MethodId} {args : Array Value} {below : List Frame} {meth : Method} {c : Code} {D : va_G} {a : Nat → Nat} {cc : Nat → ClassId} {A : Nat → Prop} {N : Nat} {r : Int32} {σr : St} {k126 : St → Int32 → Option (Int32 × St)} (C : M_Cx RX9 p s m args meth c D cc cX9_gather (Cond.code yX9_gather cX9_gather 3 (some .boolean) :: WM) 3 (some .boolean)) (hA : ∀ q, s.heap.size ≤ q → A q) (hk126 : ∀ {σ : St} {x1 : Int32} {H : Heap} {locs : List Loc} {ls : Array Slot}, k126 σ x1 = some (r, σr) → va_P D vwCl (wM a cc σ) H → va_D A (wM a cc σ) → va_S A s.heap H locs → lv_has ls 3 [(0, .ref (a 0)), (1, .int x1)] → W p l e rmX9_gather s m args below meth c H locs 0 0 (M_Mi D a cc A below args s r σr) (F0 m 126 ls [])) : ∀ (n : Nat) {σ : St} {x1 : Int32} {x2 : Int32} {H : Heap} {locs : List Loc} {ls : Array Slot}, fX9_gather_136 N k126 n σ x1 x2 = some (r, σr) → va_P D vwCl (wM a cc σ) H → va_D A (wM a cc σ) → va_S A s.heap H locs → lv_has ls 3 [(0, .ref (a 0)), (1, .int x1), (2, .int x2)] → W p l e rmX9_gather s m args below meth c H locs 0 0 (M_Mi D a cc A below args s r σr) (F0 m 136 ls []) := by
  obtain ⟨hx, hb, hr, hml, hown, hts, hin, hK, hlocks⟩ := id C
  intro n
  induction n with
  | zero => intro σ x1 x2 H locs ls h; exact none_s h
  | succ n ih =>
    intro σ x1 x2 H locs ls h hP hD hS hl
    refine lv_iload_n hx hb dX9_gather_136 rfl (lv_at hl 2 rfl) ?_
    refine lv_bipush (v := (8 : Int32)) hx hb dX9_gather_137 (by decide) ?_
    refine lv_icmp_ge (tgt := 181) hx hb dX9_gather_139 (by decide) (fun c22 => ?_) (fun c22 => ?_)
    · have h := ifT c22 h
      obtain ⟨u23, eu23, h⟩ := letS_n h
      refine lv_iinc (v := u23) (lv' := [(1, .int u23), (0, .ref (a 0)), (2, .int x2)]) hx hb dX9_gather_181 hl (k := 1) rfl (by rw [eu23]; rfl) (by decide) rfl (fun ls hl => ?_)
      refine lv_goto (tgt := 126) hx hb dX9_gather_184 (by decide) ?_
      exact hk126 h hP hD hS (lv_sub hl [1, 0] rfl)
    · have h := ifF c22 h
      refine lv_aload_n hx hb dX9_gather_142 rfl (lv_at hl 0 rfl) ?_
      refine M_gt36 C hP dX9_gather_143 ?_
      refine lv_bipush (v := (8 : Int32)) hx hb dX9_gather_146 (by decide) ?_
      refine lv_iload_n hx hb dX9_gather_148 rfl (lv_at hl 1 rfl) ?_
      refine lv_imul hx hb dX9_gather_149 ?_
      refine lv_iload_n hx hb dX9_gather_150 rfl (lv_at hl 2 rfl) ?_
      refine lv_iadd hx hb dX9_gather_151 ?_
      refine lv_aload_n hx hb dX9_gather_152 rfl (lv_at hl 0 rfl) ?_
      refine lv_iload_n hx hb dX9_gather_153 rfl (lv_at hl 1 rfl) ?_
      refine lv_iload_n hx hb dX9_gather_154 rfl (lv_at hl 2 rfl) ?_
      obtain ⟨r25, σ24, hc, h⟩ := bnd_s h
      refine M_callVi (As := [.int x1, .int x2]) (rest := [.int (((8 : Int32) * x1) + x2), .ref (a 36)]) C hA (fun sz => kX9_after l sz hc) gX9_after hP hD hS ⟨by decide, by decide⟩ ⟨rfl, rfl⟩ rfl hl.1 rfl (lv_room (Nat.le_of_ble_eq_true rfl)) dX9_gather_155 (fun H locs hP hD hS => ?_)
      obtain ⟨g26, h⟩ := grd_s h
      obtain ⟨σ27, eσ27, h⟩ := letS_n h
      refine M_st36 C hP hD hS g26 eσ27 dX9_gather_158 (fun H locs hP hD hS => ?_)
      refine lv_aload_n hx hb dX9_gather_159 rfl (lv_at hl 0 rfl) ?_
      refine M_gt36 C hP dX9_gather_160 ?_
      refine lv_bipush (v := (8 : Int32)) hx hb dX9_gather_163 (by decide) ?_
      refine lv_iload_n hx hb dX9_gather_165 rfl (lv_at hl 1 rfl) ?_
      refine lv_imul hx hb dX9_gather_166 ?_
      refine lv_iload_n hx hb dX9_gather_167 rfl (lv_at hl 2 rfl) ?_
      refine lv_iadd hx hb dX9_gather_168 ?_
      obtain ⟨g28, h⟩ := grd_s h
      refine M_ld36 C hP g28 dX9_gather_169 ?_
      refine lv_if_ge (tgt := 175) hx hb dX9_gather_170 (by decide) (fun c29 => ?_) (fun c29 => ?_)
      · have h := ifT c29 h
        obtain ⟨u30, eu30, h⟩ := letS_n h
        refine lv_iinc (v := u30) (lv' := [(2, .int u30), (0, .ref (a 0)), (1, .int x1)]) hx hb dX9_gather_175 hl (k := 2) rfl (by rw [eu30]; rfl) (by decide) rfl (fun ls hl => ?_)
        refine lv_goto (tgt := 136) hx hb dX9_gather_178 (by decide) ?_
        exact ih h hP hD hS (lv_sub hl [1, 2, 0] rfl)
      · have h := ifF c29 h
        refine lv_iconst (v := (0 : Int32)) hx hb dX9_gather_173 (by decide) ?_
        exact M_zretZ C h hP hD hS dX9_gather_174
set_option maxHeartbeats 4000000 in
set_option maxRecDepth 100000 in
theorem tX9_gather_126 {p : Program} {l : Launch} {e : Env} {s : State} {m : MethodId} {args : Array Value} {below : List Frame} {meth : Method} {c : Code} {D : va_G} {a : Nat → Nat} {cc : Nat → ClassId} {A : Nat → Prop} {N : Nat} {r : Int32} {σr : St} (C : M_Cx RX9 p s m args meth c D cc cX9_gather (Cond.code yX9_gather cX9_gather 3 (some .boolean) :: WM) 3 (some .boolean)) (hA : ∀ q, s.heap.size ≤ q → A q) : ∀ (n : Nat) {σ : St} {x1 : Int32} {H : Heap} {locs : List Loc} {ls : Array Slot}, fX9_gather_126 N n σ x1 = some (r, σr) → va_P D vwCl (wM a cc σ) H → va_D A (wM a cc σ) → va_S A s.heap H locs → lv_has ls 3 [(0, .ref (a 0)), (1, .int x1)] → W p l e rmX9_gather s m args below meth c H locs 0 0 (M_Mi D a cc A below args s r σr) (F0 m 126 ls []) := by
  obtain ⟨hx, hb, hr, hml, hown, hts, hin, hK, hlocks⟩ := id C
  intro n
  induction n with
  | zero => intro σ x1 H locs ls h; exact none_s h
  | succ n ih =>
    intro σ x1 H locs ls h hP hD hS hl
    refine lv_iload_n hx hb dX9_gather_126 rfl (lv_at hl 1 rfl) ?_
    refine lv_aload_n hx hb dX9_gather_127 rfl (lv_at hl 0 rfl) ?_
    refine M_gt34 C hP dX9_gather_128 ?_
    refine lv_icmp_ge (tgt := 187) hx hb dX9_gather_131 (by decide) (fun c21 => ?_) (fun c21 => ?_)
    · have h := ifT c21 h
      refine lv_iconst (v := (1 : Int32)) hx hb dX9_gather_187 (by decide) ?_
      exact M_zretZ C h hP hD hS dX9_gather_188
    · have h := ifF c21 h
      refine lv_iconst (v := (0 : Int32)) hx hb dX9_gather_134 (by decide) ?_
      refine lv_istore_n (lv' := [(2, .int (0 : Int32)), (0, .ref (a 0)), (1, .int x1)]) hx hb dX9_gather_135 rfl hl (by decide) rfl (fun ls hl => ?_)
      exact tX9_gather_136 C hA ih N h hP hD hS (lv_sub hl [1, 2, 0] rfl)
set_option maxHeartbeats 4000000 in
set_option maxRecDepth 100000 in
theorem tX9_gather_78 {p : Program} {l : Launch} {e : Env} {s : State} {m : MethodId} {args : Array Value} {below : List Frame} {meth : Method} {c : Code} {D : va_G} {a : Nat → Nat} {cc : Nat → ClassId} {A : Nat → Prop} {N : Nat} {r : Int32} {σr : St} (C : M_Cx RX9 p s m args meth c D cc cX9_gather (Cond.code yX9_gather cX9_gather 3 (some .boolean) :: WM) 3 (some .boolean)) (hA : ∀ q, s.heap.size ≤ q → A q) : ∀ (n : Nat) {σ : St} {x1 : Int32} {H : Heap} {locs : List Loc} {ls : Array Slot}, fX9_gather_78 N n σ x1 = some (r, σr) → va_P D vwCl (wM a cc σ) H → va_D A (wM a cc σ) → va_S A s.heap H locs → lv_has ls 3 [(0, .ref (a 0)), (1, .int x1)] → W p l e rmX9_gather s m args below meth c H locs 0 0 (M_Mi D a cc A below args s r σr) (F0 m 78 ls []) := by
  obtain ⟨hx, hb, hr, hml, hown, hts, hin, hK, hlocks⟩ := id C
  intro n
  induction n with
  | zero => intro σ x1 H locs ls h; exact none_s h
  | succ n ih =>
    intro σ x1 H locs ls h hP hD hS hl
    refine lv_iload_n hx hb dX9_gather_78 rfl (lv_at hl 1 rfl) ?_
    refine lv_iconst (v := (1 : Int32)) hx hb dX9_gather_79 (by decide) ?_
    refine lv_aload_n hx hb dX9_gather_80 rfl (lv_at hl 0 rfl) ?_
    refine M_gt17 C hP dX9_gather_81 ?_
    refine lv_ishl hx hb dX9_gather_84 ?_
    refine lv_icmp_ge (tgt := 119) hx hb dX9_gather_85 (by decide) (fun c14 => ?_) (fun c14 => ?_)
    · have h := ifT c14 h
      refine lv_aload_n hx hb dX9_gather_119 rfl (lv_at hl 0 rfl) ?_
      refine lv_iconst (v := (1 : Int32)) hx hb dX9_gather_120 (by decide) ?_
      obtain ⟨σ15, eσ15, h⟩ := letS_n h
      refine M_pt34 C hP hD hS eσ15 dX9_gather_121 (fun H locs hP hD hS => ?_)
      refine lv_iconst (v := (0 : Int32)) hx hb dX9_gather_124 (by decide) ?_
      refine lv_istore_n (lv' := [(1, .int (0 : Int32)), (0, .ref (a 0))]) hx hb dX9_gather_125 rfl hl (by decide) rfl (fun ls hl => ?_)
      exact tX9_gather_126 C hA N h hP hD hS (lv_sub hl [1, 0] rfl)
    · have h := ifF c14 h
      refine lv_iload_n hx hb dX9_gather_88 rfl (lv_at hl 1 rfl) ?_
      refine lv_iconst (v := (1 : Int32)) hx hb dX9_gather_89 (by decide) ?_
      refine lv_iand hx hb dX9_gather_90 ?_
      refine lv_iconst (v := (1 : Int32)) hx hb dX9_gather_91 (by decide) ?_
      refine lv_icmp_ne (tgt := 113) hx hb dX9_gather_92 (by decide) (fun c16 => ?_) (fun c16 => ?_)
      · have h := ifF c16 h
        exact tX9_gather_113 C hA ih h hP hD hS (lv_sub hl [0, 1] rfl)
      · have h := ifT c16 h
        refine lv_aload_n hx hb dX9_gather_95 rfl (lv_at hl 0 rfl) ?_
        refine M_gt35 C hP dX9_gather_96 ?_
        refine lv_iload_n hx hb dX9_gather_99 rfl (lv_at hl 1 rfl) ?_
        refine lv_bipush (v := (6 : Int32)) hx hb dX9_gather_100 (by decide) ?_
        refine lv_ishr hx hb dX9_gather_102 ?_
        refine lv_dup2_11 hx hb dX9_gather_103 rfl rfl ?_
        obtain ⟨g17, h⟩ := grd_s h
        refine M_ld35 C hP g17 dX9_gather_104 ?_
        refine lv_lconst (v := (1 : Int64)) hx hb dX9_gather_105 (by decide) ?_
        refine lv_iload_n hx hb dX9_gather_106 rfl (lv_at hl 1 rfl) ?_
        refine lv_bipush (v := (63 : Int32)) hx hb dX9_gather_107 (by decide) ?_
        refine lv_iand hx hb dX9_gather_109 ?_
        refine lv_lshl hx hb dX9_gather_110 rfl ?_
        refine lv_lor hx hb dX9_gather_111 ?_
        obtain ⟨g18, h⟩ := grd_s h
        obtain ⟨σ19, eσ19, h⟩ := letS_n h
        refine M_st35 C hP hD hS g18 eσ19 dX9_gather_112 (fun H locs hP hD hS => ?_)
        exact tX9_gather_113 C hA ih h hP hD hS (lv_sub hl [0, 1] rfl)
set_option maxHeartbeats 4000000 in
set_option maxRecDepth 100000 in
theorem tX9_gather_57 {p : Program} {l : Launch} {e : Env} {s : State} {m : MethodId} {args : Array Value} {below : List Frame} {meth : Method} {c : Code} {D : va_G} {a : Nat → Nat} {cc : Nat → ClassId} {A : Nat → Prop} {N : Nat} {r : Int32} {σr : St} (C : M_Cx RX9 p s m args meth c D cc cX9_gather (Cond.code yX9_gather cX9_gather 3 (some .boolean) :: WM) 3 (some .boolean)) (hA : ∀ q, s.heap.size ≤ q → A q) : ∀ (n : Nat) {σ : St} {x1 : Int32} {H : Heap} {locs : List Loc} {ls : Array Slot}, fX9_gather_57 N n σ x1 = some (r, σr) → va_P D vwCl (wM a cc σ) H → va_D A (wM a cc σ) → va_S A s.heap H locs → lv_has ls 3 [(0, .ref (a 0)), (1, .int x1)] → W p l e rmX9_gather s m args below meth c H locs 0 0 (M_Mi D a cc A below args s r σr) (F0 m 57 ls []) := by
  obtain ⟨hx, hb, hr, hml, hown, hts, hin, hK, hlocks⟩ := id C
  intro n
  induction n with
  | zero => intro σ x1 H locs ls h; exact none_s h
  | succ n ih =>
    intro σ x1 H locs ls h hP hD hS hl
    refine lv_iload_n hx hb dX9_gather_57 rfl (lv_at hl 1 rfl) ?_
    refine lv_bipush (v := (8 : Int32)) hx hb dX9_gather_58 (by decide) ?_
    refine lv_icmp_ge (tgt := 76) hx hb dX9_gather_60 (by decide) (fun c10 => ?_) (fun c10 => ?_)
    · have h := ifT c10 h
      refine lv_iconst (v := (0 : Int32)) hx hb dX9_gather_76 (by decide) ?_
      refine lv_istore_n (lv' := [(1, .int (0 : Int32)), (0, .ref (a 0))]) hx hb dX9_gather_77 rfl hl (by decide) rfl (fun ls hl => ?_)
      exact tX9_gather_78 C hA N h hP hD hS (lv_sub hl [1, 0] rfl)
    · have h := ifF c10 h
      refine lv_aload_n hx hb dX9_gather_63 rfl (lv_at hl 0 rfl) ?_
      refine M_gt35 C hP dX9_gather_64 ?_
      refine lv_iload_n hx hb dX9_gather_67 rfl (lv_at hl 1 rfl) ?_
      refine lv_lconst (v := (0 : Int64)) hx hb dX9_gather_68 (by decide) ?_
      obtain ⟨g11, h⟩ := grd_s h
      obtain ⟨σ12, eσ12, h⟩ := letS_n h
      refine M_st35 C hP hD hS g11 eσ12 dX9_gather_69 (fun H locs hP hD hS => ?_)
      obtain ⟨u13, eu13, h⟩ := letS_n h
      refine lv_iinc (v := u13) (lv' := [(1, .int u13), (0, .ref (a 0))]) hx hb dX9_gather_70 hl (k := 1) rfl (by rw [eu13]; rfl) (by decide) rfl (fun ls hl => ?_)
      refine lv_goto (tgt := 57) hx hb dX9_gather_73 (by decide) ?_
      exact ih h hP hD hS (lv_sub hl [1, 0] rfl)
set_option maxHeartbeats 4000000 in
set_option maxRecDepth 100000 in
theorem tX9_gather_2 {p : Program} {l : Launch} {e : Env} {s : State} {m : MethodId} {args : Array Value} {below : List Frame} {meth : Method} {c : Code} {D : va_G} {a : Nat → Nat} {cc : Nat → ClassId} {A : Nat → Prop} {N : Nat} {r : Int32} {σr : St} (C : M_Cx RX9 p s m args meth c D cc cX9_gather (Cond.code yX9_gather cX9_gather 3 (some .boolean) :: WM) 3 (some .boolean)) (hA : ∀ q, s.heap.size ≤ q → A q) : ∀ (n : Nat) {σ : St} {x1 : Int32} {H : Heap} {locs : List Loc} {ls : Array Slot}, fX9_gather_2 N n σ x1 = some (r, σr) → va_P D vwCl (wM a cc σ) H → va_D A (wM a cc σ) → va_S A s.heap H locs → lv_has ls 3 [(0, .ref (a 0)), (1, .int x1)] → W p l e rmX9_gather s m args below meth c H locs 0 0 (M_Mi D a cc A below args s r σr) (F0 m 2 ls []) := by
  obtain ⟨hx, hb, hr, hml, hown, hts, hin, hK, hlocks⟩ := id C
  intro n
  induction n with
  | zero => intro σ x1 H locs ls h; exact none_s h
  | succ n ih =>
    intro σ x1 H locs ls h hP hD hS hl
    refine lv_iload_n hx hb dX9_gather_2 rfl (lv_at hl 1 rfl) ?_
    refine lv_bipush (v := (8 : Int32)) hx hb dX9_gather_3 (by decide) ?_
    refine lv_icmp_ge (tgt := 50) hx hb dX9_gather_5 (by decide) (fun c1 => ?_) (fun c1 => ?_)
    · have h := ifT c1 h
      refine lv_aload_n hx hb dX9_gather_50 rfl (lv_at hl 0 rfl) ?_
      refine lv_iconst (v := (0 : Int32)) hx hb dX9_gather_51 (by decide) ?_
      obtain ⟨σ2, eσ2, h⟩ := letS_n h
      refine M_pt34 C hP hD hS eσ2 dX9_gather_52 (fun H locs hP hD hS => ?_)
      refine lv_iconst (v := (0 : Int32)) hx hb dX9_gather_55 (by decide) ?_
      refine lv_istore_n (lv' := [(1, .int (0 : Int32)), (0, .ref (a 0))]) hx hb dX9_gather_56 rfl hl (by decide) rfl (fun ls hl => ?_)
      exact tX9_gather_57 C hA N h hP hD hS (lv_sub hl [1, 0] rfl)
    · have h := ifF c1 h
      refine lv_iconst (v := (0 : Int32)) hx hb dX9_gather_8 (by decide) ?_
      refine lv_istore_n (lv' := [(2, .int (0 : Int32)), (0, .ref (a 0)), (1, .int x1)]) hx hb dX9_gather_9 rfl hl (by decide) rfl (fun ls hl => ?_)
      exact tX9_gather_10 C hA ih N h hP hD hS (lv_sub hl [1, 2, 0] rfl)
set_option maxHeartbeats 4000000 in
set_option maxRecDepth 100000 in
theorem tX9_gather {p : Program} {l : Launch} {e : Env} {s : State} {m : MethodId} {args : Array Value} {below : List Frame} {meth : Method} {c : Code} {D : va_G} {a : Nat → Nat} {cc : Nat → ClassId} {A : Nat → Prop} {N : Nat} {r : Int32} {σr : St} (C : M_Cx RX9 p s m args meth c D cc cX9_gather (Cond.code yX9_gather cX9_gather 3 (some .boolean) :: WM) 3 (some .boolean)) (hA : ∀ q, s.heap.size ≤ q → A q) {σ : St} {H : Heap} {locs : List Loc} {ls : Array Slot} (h : fX9_gather N σ = some (r, σr)) : va_P D vwCl (wM a cc σ) H → va_D A (wM a cc σ) → va_S A s.heap H locs → lv_has ls 3 [(0, .ref (a 0))] → W p l e rmX9_gather s m args below meth c H locs 0 0 (M_Mi D a cc A below args s r σr) (F0 m 0 ls []) := by
  obtain ⟨hx, hb, hr, hml, hown, hts, hin, hK, hlocks⟩ := id C
  intro hP hD hS hl
  refine lv_iconst (v := (0 : Int32)) hx hb dX9_gather_0 (by decide) ?_
  refine lv_istore_n (lv' := [(1, .int (0 : Int32)), (0, .ref (a 0))]) hx hb dX9_gather_1 rfl hl (by decide) rfl (fun ls hl => ?_)
  exact tX9_gather_2 C hA N h hP hD hS (lv_sub hl [1, 0] rfl)
set_option maxRecDepth 100000 in
theorem kX9_gather (l : Launch) (sz : Nat) {D : va_G} {a : Nat → Nat} {cc : Nat → ClassId} {N : Nat} {r : Int32} {σr : St} {σ : St} (h : fX9_gather N σ = some (r, σr)) : Met l yX9_gather ((Cond.code yX9_gather cX9_gather 3 (some .boolean) :: WM)) rmX9_gather (M_Pc D a cc [.ref (a 0)] σ sz) (M_Qi D a cc σ sz r σr) 0 0 (va_A (wM a cc σ) sz) := by
  refine Met.ofW (cc := cX9_gather) (maxL := 3) (ret := (some .boolean)) (by decide) rfl ?_
  intro p e s m args below meth c s₁ B hml hv
  obtain ⟨rfl, hsz, hP, hK, hD0⟩ := hv
  subst hsz
  have hl := lv_entry ([.ref (a 0)]) (n := 3) (Nat.le_of_ble_eq_true rfl)
  rw [lg_entry_eq]
  generalize (lg_sl ([.ref (a 0)]) ++ List.replicate (3 - (lg_sl ([.ref (a 0)])).length) Slot.unset).toArray = ls at hl ⊢
  exact tX9_gather ⟨B.exec, B.bytes, B.returns, hml, findClass_of_methodNamed B.named, atoms_spec (ws := (Cond.code yX9_gather cX9_gather 3 (some .boolean) :: WM)) B.pre, (fun w h => List.mem_cons_of_mem _ (inWM w h)), hK, B.notSynchronized⟩ (fun q h => Or.inr h) h hP hD0.self va_S.rf hl
set_option maxHeartbeats 4000000 in
set_option maxRecDepth 100000 in
theorem tX9_fail_36 {p : Program} {l : Launch} {e : Env} {s : State} {m : MethodId} {args : Array Value} {below : List Frame} {meth : Method} {c : Code} {D : va_G} {a : Nat → Nat} {cc : Nat → ClassId} {A : Nat → Prop} {N : Nat} {σr : St} {k2 : St → Int32 → Option St} (C : M_Cx RX9 p s m args meth c D cc cX9_fail (Cond.code yX9_fail cX9_fail 6 none :: WM) 6 none) (hA : ∀ q, s.heap.size ≤ q → A q) (hk2 : ∀ {σ : St} {x1 : Int32} {H : Heap} {locs : List Loc} {ls : Array Slot}, k2 σ x1 = some σr → va_P D vwCl (wM a cc σ) H → va_D A (wM a cc σ) → va_S A s.heap H locs → lv_has ls 6 [(0, .ref (a 0)), (1, .int x1)] → W p l e rmX9_fail s m args below meth c H locs 0 0 (M_Mv D a cc A below args s σr) (F0 m 2 ls [])) {σ : St} {x1 : Int32} {y0 : Int32} {y1 : Int32} {H : Heap} {locs : List Loc} {ls : Array Slot} (h : fX9_fail_36 N k2 σ x1 y0 y1 = some σr) : va_P D vwCl (wM a cc σ) H → va_D A (wM a cc σ) → va_S A s.heap H locs → lv_has ls 6 [(0, .ref (a 0)), (1, .int x1)] → W p l e rmX9_fail s m args below meth c H locs 0 0 (M_Mv D a cc A below args s σr) (F0 m 36 ls [.int y0, .int y1, .ref (a 37)]) := by
  obtain ⟨hx, hb, hr, hml, hown, hts, hin, hK, hlocks⟩ := id C
  intro hP hD hS hl
  obtain ⟨g5, h⟩ := grd_s h
  obtain ⟨σ6, eσ6, h⟩ := letS_n h
  refine M_st37 C hP hD hS g5 eσ6 dX9_fail_36 (fun H locs hP hD hS => ?_)
  obtain ⟨u7, eu7, h⟩ := letS_n h
  refine lv_iinc (v := u7) (lv' := [(1, .int u7), (0, .ref (a 0))]) hx hb dX9_fail_37 hl (k := 1) rfl (by rw [eu7]; rfl) (by decide) rfl (fun ls hl => ?_)
  refine lv_goto (tgt := 2) hx hb dX9_fail_40 (by decide) ?_
  exact hk2 h hP hD hS (lv_sub hl [1, 0] rfl)
set_option maxHeartbeats 4000000 in
set_option maxRecDepth 100000 in
theorem tX9_fail_112 {p : Program} {l : Launch} {e : Env} {s : State} {m : MethodId} {args : Array Value} {below : List Frame} {meth : Method} {c : Code} {D : va_G} {a : Nat → Nat} {cc : Nat → ClassId} {A : Nat → Prop} {N : Nat} {σr : St} {k47 : St → Int32 → Int32 → Option St} {k61 : St → Int32 → Int32 → Int32 → Option St} {k75 : St → Int32 → Int32 → Int32 → Int32 → Int32 → Option St} (C : M_Cx RX9 p s m args meth c D cc cX9_fail (Cond.code yX9_fail cX9_fail 6 none :: WM) 6 none) (hA : ∀ q, s.heap.size ≤ q → A q) (hk47 : ∀ {σ : St} {x1 : Int32} {x2 : Int32} {H : Heap} {locs : List Loc} {ls : Array Slot}, k47 σ x1 x2 = some σr → va_P D vwCl (wM a cc σ) H → va_D A (wM a cc σ) → va_S A s.heap H locs → lv_has ls 6 [(0, .ref (a 0)), (1, .int x1), (2, .int x2)] → W p l e rmX9_fail s m args below meth c H locs 0 0 (M_Mv D a cc A below args s σr) (F0 m 47 ls [])) (hk61 : ∀ {σ : St} {x1 : Int32} {x2 : Int32} {x3 : Int32} {H : Heap} {locs : List Loc} {ls : Array Slot}, k61 σ x1 x2 x3 = some σr → va_P D vwCl (wM a cc σ) H → va_D A (wM a cc σ) → va_S A s.heap H locs → lv_has ls 6 [(0, .ref (a 0)), (1, .int x1), (2, .int x2), (3, .int x3)] → W p l e rmX9_fail s m args below meth c H locs 0 0 (M_Mv D a cc A below args s σr) (F0 m 61 ls [])) (hk75 : ∀ {σ : St} {x1 : Int32} {x2 : Int32} {x3 : Int32} {x4 : Int32} {x5 : Int32} {H : Heap} {locs : List Loc} {ls : Array Slot}, k75 σ x1 x2 x3 x4 x5 = some σr → va_P D vwCl (wM a cc σ) H → va_D A (wM a cc σ) → va_S A s.heap H locs → lv_has ls 6 [(0, .ref (a 0)), (1, .int x1), (2, .int x2), (3, .int x3), (4, .int x4), (5, .int x5)] → W p l e rmX9_fail s m args below meth c H locs 0 0 (M_Mv D a cc A below args s σr) (F0 m 75 ls [])) {σ : St} {x1 : Int32} {x2 : Int32} {x3 : Int32} {x5 : Int32} {y0 : Int32} {H : Heap} {locs : List Loc} {ls : Array Slot} (h : fX9_fail_112 N k47 k61 k75 σ x1 x2 x3 x5 y0 = some σr) : va_P D vwCl (wM a cc σ) H → va_D A (wM a cc σ) → va_S A s.heap H locs → lv_has ls 6 [(0, .ref (a 0)), (1, .int x1), (2, .int x2), (3, .int x3), (5, .int x5)] → W p l e rmX9_fail s m args below meth c H locs 0 0 (M_Mv D a cc A below args s σr) (F0 m 112 ls [.int y0]) := by
  obtain ⟨hx, hb, hr, hml, hown, hts, hin, hK, hlocks⟩ := id C
  intro hP hD hS hl
  refine lv_istore (lv' := [(4, .int y0), (0, .ref (a 0)), (1, .int x1), (2, .int x2), (3, .int x3), (5, .int x5)]) hx hb dX9_fail_112 hl (by decide) rfl (fun ls hl => ?_)
  obtain ⟨u21, eu21, h⟩ := letS_n h
  refine lv_iinc (v := u21) (lv' := [(5, .int u21), (4, .int y0), (0, .ref (a 0)), (1, .int x1), (2, .int x2), (3, .int x3)]) hx hb dX9_fail_114 hl (k := 5) rfl (by rw [eu21]; rfl) (by decide) rfl (fun ls hl => ?_)
  refine lv_goto (tgt := 75) hx hb dX9_fail_117 (by decide) ?_
  exact hk75 h hP hD hS (lv_sub hl [2, 3, 4, 5, 1, 0] rfl)
set_option maxHeartbeats 4000000 in
set_option maxRecDepth 100000 in
theorem tX9_fail_111 {p : Program} {l : Launch} {e : Env} {s : State} {m : MethodId} {args : Array Value} {below : List Frame} {meth : Method} {c : Code} {D : va_G} {a : Nat → Nat} {cc : Nat → ClassId} {A : Nat → Prop} {N : Nat} {σr : St} {k47 : St → Int32 → Int32 → Option St} {k61 : St → Int32 → Int32 → Int32 → Option St} {k75 : St → Int32 → Int32 → Int32 → Int32 → Int32 → Option St} (C : M_Cx RX9 p s m args meth c D cc cX9_fail (Cond.code yX9_fail cX9_fail 6 none :: WM) 6 none) (hA : ∀ q, s.heap.size ≤ q → A q) (hk47 : ∀ {σ : St} {x1 : Int32} {x2 : Int32} {H : Heap} {locs : List Loc} {ls : Array Slot}, k47 σ x1 x2 = some σr → va_P D vwCl (wM a cc σ) H → va_D A (wM a cc σ) → va_S A s.heap H locs → lv_has ls 6 [(0, .ref (a 0)), (1, .int x1), (2, .int x2)] → W p l e rmX9_fail s m args below meth c H locs 0 0 (M_Mv D a cc A below args s σr) (F0 m 47 ls [])) (hk61 : ∀ {σ : St} {x1 : Int32} {x2 : Int32} {x3 : Int32} {H : Heap} {locs : List Loc} {ls : Array Slot}, k61 σ x1 x2 x3 = some σr → va_P D vwCl (wM a cc σ) H → va_D A (wM a cc σ) → va_S A s.heap H locs → lv_has ls 6 [(0, .ref (a 0)), (1, .int x1), (2, .int x2), (3, .int x3)] → W p l e rmX9_fail s m args below meth c H locs 0 0 (M_Mv D a cc A below args s σr) (F0 m 61 ls [])) (hk75 : ∀ {σ : St} {x1 : Int32} {x2 : Int32} {x3 : Int32} {x4 : Int32} {x5 : Int32} {H : Heap} {locs : List Loc} {ls : Array Slot}, k75 σ x1 x2 x3 x4 x5 = some σr → va_P D vwCl (wM a cc σ) H → va_D A (wM a cc σ) → va_S A s.heap H locs → lv_has ls 6 [(0, .ref (a 0)), (1, .int x1), (2, .int x2), (3, .int x3), (4, .int x4), (5, .int x5)] → W p l e rmX9_fail s m args below meth c H locs 0 0 (M_Mv D a cc A below args s σr) (F0 m 75 ls [])) {σ : St} {x1 : Int32} {x2 : Int32} {x3 : Int32} {x5 : Int32} {H : Heap} {locs : List Loc} {ls : Array Slot} (h : fX9_fail_111 N k47 k61 k75 σ x1 x2 x3 x5 = some σr) : va_P D vwCl (wM a cc σ) H → va_D A (wM a cc σ) → va_S A s.heap H locs → lv_has ls 6 [(0, .ref (a 0)), (1, .int x1), (2, .int x2), (3, .int x3), (5, .int x5)] → W p l e rmX9_fail s m args below meth c H locs 0 0 (M_Mv D a cc A below args s σr) (F0 m 111 ls []) := by
  obtain ⟨hx, hb, hr, hml, hown, hts, hin, hK, hlocks⟩ := id C
  intro hP hD hS hl
  refine lv_iconst (v := (0 : Int32)) hx hb dX9_fail_111 (by decide) ?_
  exact tX9_fail_112 C hA hk47 hk61 hk75 h hP hD hS (lv_sub hl [0, 1, 2, 3, 4] rfl)
set_option maxHeartbeats 4000000 in
set_option maxRecDepth 100000 in
theorem tX9_fail_168 {p : Program} {l : Launch} {e : Env} {s : State} {m : MethodId} {args : Array Value} {below : List Frame} {meth : Method} {c : Code} {D : va_G} {a : Nat → Nat} {cc : Nat → ClassId} {A : Nat → Prop} {N : Nat} {σr : St} {k47 : St → Int32 → Int32 → Option St} {k61 : St → Int32 → Int32 → Int32 → Option St} (C : M_Cx RX9 p s m args meth c D cc cX9_fail (Cond.code yX9_fail cX9_fail 6 none :: WM) 6 none) (hA : ∀ q, s.heap.size ≤ q → A q) (hk47 : ∀ {σ : St} {x1 : Int32} {x2 : Int32} {H : Heap} {locs : List Loc} {ls : Array Slot}, k47 σ x1 x2 = some σr → va_P D vwCl (wM a cc σ) H → va_D A (wM a cc σ) → va_S A s.heap H locs → lv_has ls 6 [(0, .ref (a 0)), (1, .int x1), (2, .int x2)] → W p l e rmX9_fail s m args below meth c H locs 0 0 (M_Mv D a cc A below args s σr) (F0 m 47 ls [])) (hk61 : ∀ {σ : St} {x1 : Int32} {x2 : Int32} {x3 : Int32} {H : Heap} {locs : List Loc} {ls : Array Slot}, k61 σ x1 x2 x3 = some σr → va_P D vwCl (wM a cc σ) H → va_D A (wM a cc σ) → va_S A s.heap H locs → lv_has ls 6 [(0, .ref (a 0)), (1, .int x1), (2, .int x2), (3, .int x3)] → W p l e rmX9_fail s m args below meth c H locs 0 0 (M_Mv D a cc A below args s σr) (F0 m 61 ls [])) {σ : St} {x1 : Int32} {x2 : Int32} {x3 : Int32} {y0 : Int32} {y1 : Int32} {H : Heap} {locs : List Loc} {ls : Array Slot} (h : fX9_fail_168 N k47 k61 σ x1 x2 x3 y0 y1 = some σr) : va_P D vwCl (wM a cc σ) H → va_D A (wM a cc σ) → va_S A s.heap H locs → lv_has ls 6 [(0, .ref (a 0)), (1, .int x1), (2, .int x2), (3, .int x3)] → W p l e rmX9_fail s m args below meth c H locs 0 0 (M_Mv D a cc A below args s σr) (F0 m 168 ls [.int y0, .int y1, .ref (a 37)]) := by
  obtain ⟨hx, hb, hr, hml, hown, hts, hin, hK, hlocks⟩ := id C
  intro hP hD hS hl
  obtain ⟨g25, h⟩ := grd_s h
  obtain ⟨σ26, eσ26, h⟩ := letS_n h
  refine M_st37 C hP hD hS g25 eσ26 dX9_fail_168 (fun H locs hP hD hS => ?_)
  obtain ⟨u27, eu27, h⟩ := letS_n h
  refine lv_iinc (v := u27) (lv' := [(3, .int u27), (0, .ref (a 0)), (1, .int x1), (2, .int x2)]) hx hb dX9_fail_169 hl (k := 3) rfl (by rw [eu27]; rfl) (by decide) rfl (fun ls hl => ?_)
  refine lv_goto (tgt := 61) hx hb dX9_fail_172 (by decide) ?_
  exact hk61 h hP hD hS (lv_sub hl [1, 2, 3, 0] rfl)
set_option maxHeartbeats 4000000 in
set_option maxRecDepth 100000 in
theorem tX9_fail_163 {p : Program} {l : Launch} {e : Env} {s : State} {m : MethodId} {args : Array Value} {below : List Frame} {meth : Method} {c : Code} {D : va_G} {a : Nat → Nat} {cc : Nat → ClassId} {A : Nat → Prop} {N : Nat} {σr : St} {k47 : St → Int32 → Int32 → Option St} {k61 : St → Int32 → Int32 → Int32 → Option St} (C : M_Cx RX9 p s m args meth c D cc cX9_fail (Cond.code yX9_fail cX9_fail 6 none :: WM) 6 none) (hA : ∀ q, s.heap.size ≤ q → A q) (hk47 : ∀ {σ : St} {x1 : Int32} {x2 : Int32} {H : Heap} {locs : List Loc} {ls : Array Slot}, k47 σ x1 x2 = some σr → va_P D vwCl (wM a cc σ) H → va_D A (wM a cc σ) → va_S A s.heap H locs → lv_has ls 6 [(0, .ref (a 0)), (1, .int x1), (2, .int x2)] → W p l e rmX9_fail s m args below meth c H locs 0 0 (M_Mv D a cc A below args s σr) (F0 m 47 ls [])) (hk61 : ∀ {σ : St} {x1 : Int32} {x2 : Int32} {x3 : Int32} {H : Heap} {locs : List Loc} {ls : Array Slot}, k61 σ x1 x2 x3 = some σr → va_P D vwCl (wM a cc σ) H → va_D A (wM a cc σ) → va_S A s.heap H locs → lv_has ls 6 [(0, .ref (a 0)), (1, .int x1), (2, .int x2), (3, .int x3)] → W p l e rmX9_fail s m args below meth c H locs 0 0 (M_Mv D a cc A below args s σr) (F0 m 61 ls [])) {σ : St} {x1 : Int32} {x2 : Int32} {x3 : Int32} {y0 : Int32} {H : Heap} {locs : List Loc} {ls : Array Slot} (h : fX9_fail_163 N k47 k61 σ x1 x2 x3 y0 = some σr) : va_P D vwCl (wM a cc σ) H → va_D A (wM a cc σ) → va_S A s.heap H locs → lv_has ls 6 [(0, .ref (a 0)), (1, .int x1), (2, .int x2), (3, .int x3)] → W p l e rmX9_fail s m args below meth c H locs 0 0 (M_Mv D a cc A below args s σr) (F0 m 163 ls [.int y0, .ref (a 37)]) := by
  obtain ⟨hx, hb, hr, hml, hown, hts, hin, hK, hlocks⟩ := id C
  intro hP hD hS hl
  refine lv_iconst (v := (1 : Int32)) hx hb dX9_fail_163 (by decide) ?_
  refine lv_goto (tgt := 168) hx hb dX9_fail_164 (by decide) ?_
  exact tX9_fail_168 C hA hk47 hk61 h hP hD hS (lv_sub hl [0, 1, 2, 3] rfl)
set_option maxHeartbeats 4000000 in
set_option maxRecDepth 100000 in
theorem tX9_fail_143 {p : Program} {l : Launch} {e : Env} {s : State} {m : MethodId} {args : Array Value} {below : List Frame} {meth : Method} {c : Code} {D : va_G} {a : Nat → Nat} {cc : Nat → ClassId} {A : Nat → Prop} {N : Nat} {σr : St} {k47 : St → Int32 → Int32 → Option St} {k61 : St → Int32 → Int32 → Int32 → Option St} (C : M_Cx RX9 p s m args meth c D cc cX9_fail (Cond.code yX9_fail cX9_fail 6 none :: WM) 6 none) (hA : ∀ q, s.heap.size ≤ q → A q) (hk47 : ∀ {σ : St} {x1 : Int32} {x2 : Int32} {H : Heap} {locs : List Loc} {ls : Array Slot}, k47 σ x1 x2 = some σr → va_P D vwCl (wM a cc σ) H → va_D A (wM a cc σ) → va_S A s.heap H locs → lv_has ls 6 [(0, .ref (a 0)), (1, .int x1), (2, .int x2)] → W p l e rmX9_fail s m args below meth c H locs 0 0 (M_Mv D a cc A below args s σr) (F0 m 47 ls [])) (hk61 : ∀ {σ : St} {x1 : Int32} {x2 : Int32} {x3 : Int32} {H : Heap} {locs : List Loc} {ls : Array Slot}, k61 σ x1 x2 x3 = some σr → va_P D vwCl (wM a cc σ) H → va_D A (wM a cc σ) → va_S A s.heap H locs → lv_has ls 6 [(0, .ref (a 0)), (1, .int x1), (2, .int x2), (3, .int x3)] → W p l e rmX9_fail s m args below meth c H locs 0 0 (M_Mv D a cc A below args s σr) (F0 m 61 ls [])) {σ : St} {x2 : Int32} {x3 : Int32} {x4 : Int32} {y0 : Int32} {H : Heap} {locs : List Loc} {ls : Array Slot} (h : fX9_fail_143 N k47 k61 σ x2 x3 x4 y0 = some σr) : va_P D vwCl (wM a cc σ) H → va_D A (wM a cc σ) → va_S A s.heap H locs → lv_has ls 6 [(0, .ref (a 0)), (2, .int x2), (3, .int x3), (4, .int x4)] → W p l e rmX9_fail s m args below meth c H locs 0 0 (M_Mv D a cc A below args s σr) (F0 m 143 ls [.int y0]) := by
  obtain ⟨hx, hb, hr, hml, hown, hts, hin, hK, hlocks⟩ := id C
  intro hP hD hS hl
  refine lv_istore_n (lv' := [(1, .int y0), (0, .ref (a 0)), (2, .int x2), (3, .int x3), (4, .int x4)]) hx hb dX9_fail_143 rfl hl (by decide) rfl (fun ls hl => ?_)
  refine lv_aload_n hx hb dX9_fail_144 rfl (lv_at hl 1 rfl) ?_
  refine M_gt37 C hP dX9_fail_145 ?_
  refine lv_iload_n hx hb dX9_fail_148 rfl (lv_at hl 3 rfl) ?_
  refine lv_aload_n hx hb dX9_fail_149 rfl (lv_at hl 1 rfl) ?_
  refine M_gt37 C hP dX9_fail_150 ?_
  refine lv_iload_n hx hb dX9_fail_153 rfl (lv_at hl 3 rfl) ?_
  obtain ⟨g22, h⟩ := grd_s h
  refine M_ld37 C hP g22 dX9_fail_154 ?_
  refine lv_if_ne (tgt := 163) hx hb dX9_fail_155 (by decide) (fun c23 => ?_) (fun c23 => ?_)
  · have h := ifF c23 h
    exact tX9_fail_163 C hA hk47 hk61 h hP hD hS (lv_sub hl [1, 0, 2, 3] rfl)
  · have h := ifT c23 h
    refine lv_iload hx hb dX9_fail_158 (lv_at hl 4 rfl) ?_
    refine lv_if_eq (tgt := 167) hx hb dX9_fail_160 (by decide) (fun c24 => ?_) (fun c24 => ?_)
    · have h := ifT c24 h
      refine lv_iconst (v := (0 : Int32)) hx hb dX9_fail_167 (by decide) ?_
      exact tX9_fail_168 C hA hk47 hk61 h hP hD hS (lv_sub hl [1, 0, 2, 3] rfl)
    · have h := ifF c24 h
      exact tX9_fail_163 C hA hk47 hk61 h hP hD hS (lv_sub hl [1, 0, 2, 3] rfl)
set_option maxHeartbeats 4000000 in
set_option maxRecDepth 100000 in
theorem tX9_fail_138 {p : Program} {l : Launch} {e : Env} {s : State} {m : MethodId} {args : Array Value} {below : List Frame} {meth : Method} {c : Code} {D : va_G} {a : Nat → Nat} {cc : Nat → ClassId} {A : Nat → Prop} {N : Nat} {σr : St} {k47 : St → Int32 → Int32 → Option St} {k61 : St → Int32 → Int32 → Int32 → Option St} (C : M_Cx RX9 p s m args meth c D cc cX9_fail (Cond.code yX9_fail cX9_fail 6 none :: WM) 6 none) (hA : ∀ q, s.heap.size ≤ q → A q) (hk47 : ∀ {σ : St} {x1 : Int32} {x2 : Int32} {H : Heap} {locs : List Loc} {ls : Array Slot}, k47 σ x1 x2 = some σr → va_P D vwCl (wM a cc σ) H → va_D A (wM a cc σ) → va_S A s.heap H locs → lv_has ls 6 [(0, .ref (a 0)), (1, .int x1), (2, .int x2)] → W p l e rmX9_fail s m args below meth c H locs 0 0 (M_Mv D a cc A below args s σr) (F0 m 47 ls [])) (hk61 : ∀ {σ : St} {x1 : Int32} {x2 : Int32} {x3 : Int32} {H : Heap} {locs : List Loc} {ls : Array Slot}, k61 σ x1 x2 x3 = some σr → va_P D vwCl (wM a cc σ) H → va_D A (wM a cc σ) → va_S A s.heap H locs → lv_has ls 6 [(0, .ref (a 0)), (1, .int x1), (2, .int x2), (3, .int x3)] → W p l e rmX9_fail s m args below meth c H locs 0 0 (M_Mv D a cc A below args s σr) (F0 m 61 ls [])) {σ : St} {x2 : Int32} {x3 : Int32} {x4 : Int32} {H : Heap} {locs : List Loc} {ls : Array Slot} (h : fX9_fail_138 N k47 k61 σ x2 x3 x4 = some σr) : va_P D vwCl (wM a cc σ) H → va_D A (wM a cc σ) → va_S A s.heap H locs → lv_has ls 6 [(0, .ref (a 0)), (2, .int x2), (3, .int x3), (4, .int x4)] → W p l e rmX9_fail s m args below meth c H locs 0 0 (M_Mv D a cc A below args s σr) (F0 m 138 ls []) := by
  obtain ⟨hx, hb, hr, hml, hown, hts, hin, hK, hlocks⟩ := id C
  intro hP hD hS hl
  refine lv_iconst (v := (1 : Int32)) hx hb dX9_fail_138 (by decide) ?_
  refine lv_goto (tgt := 143) hx hb dX9_fail_139 (by decide) ?_
  exact tX9_fail_143 C hA hk47 hk61 h hP hD hS (lv_sub hl [0, 1, 2, 3] rfl)
set_option maxHeartbeats 4000000 in
set_option maxRecDepth 100000 in
theorem tX9_fail_142 {p : Program} {l : Launch} {e : Env} {s : State} {m : MethodId} {args : Array Value} {below : List Frame} {meth : Method} {c : Code} {D : va_G} {a : Nat → Nat} {cc : Nat → ClassId} {A : Nat → Prop} {N : Nat} {σr : St} {k47 : St → Int32 → Int32 → Option St} {k61 : St → Int32 → Int32 → Int32 → Option St} (C : M_Cx RX9 p s m args meth c D cc cX9_fail (Cond.code yX9_fail cX9_fail 6 none :: WM) 6 none) (hA : ∀ q, s.heap.size ≤ q → A q) (hk47 : ∀ {σ : St} {x1 : Int32} {x2 : Int32} {H : Heap} {locs : List Loc} {ls : Array Slot}, k47 σ x1 x2 = some σr → va_P D vwCl (wM a cc σ) H → va_D A (wM a cc σ) → va_S A s.heap H locs → lv_has ls 6 [(0, .ref (a 0)), (1, .int x1), (2, .int x2)] → W p l e rmX9_fail s m args below meth c H locs 0 0 (M_Mv D a cc A below args s σr) (F0 m 47 ls [])) (hk61 : ∀ {σ : St} {x1 : Int32} {x2 : Int32} {x3 : Int32} {H : Heap} {locs : List Loc} {ls : Array Slot}, k61 σ x1 x2 x3 = some σr → va_P D vwCl (wM a cc σ) H → va_D A (wM a cc σ) → va_S A s.heap H locs → lv_has ls 6 [(0, .ref (a 0)), (1, .int x1), (2, .int x2), (3, .int x3)] → W p l e rmX9_fail s m args below meth c H locs 0 0 (M_Mv D a cc A below args s σr) (F0 m 61 ls [])) {σ : St} {x2 : Int32} {x3 : Int32} {x4 : Int32} {H : Heap} {locs : List Loc} {ls : Array Slot} (h : fX9_fail_142 N k47 k61 σ x2 x3 x4 = some σr) : va_P D vwCl (wM a cc σ) H → va_D A (wM a cc σ) → va_S A s.heap H locs → lv_has ls 6 [(0, .ref (a 0)), (2, .int x2), (3, .int x3), (4, .int x4)] → W p l e rmX9_fail s m args below meth c H locs 0 0 (M_Mv D a cc A below args s σr) (F0 m 142 ls []) := by
  obtain ⟨hx, hb, hr, hml, hown, hts, hin, hK, hlocks⟩ := id C
  intro hP hD hS hl
  refine lv_iconst (v := (0 : Int32)) hx hb dX9_fail_142 (by decide) ?_
  exact tX9_fail_143 C hA hk47 hk61 h hP hD hS (lv_sub hl [0, 1, 2, 3] rfl)
set_option maxHeartbeats 4000000 in
set_option maxRecDepth 100000 in
theorem tX9_fail_75 {p : Program} {l : Launch} {e : Env} {s : State} {m : MethodId} {args : Array Value} {below : List Frame} {meth : Method} {c : Code} {D : va_G} {a : Nat → Nat} {cc : Nat → ClassId} {A : Nat → Prop} {N : Nat} {σr : St} {k47 : St → Int32 → Int32 → Option St} {k61 : St → Int32 → Int32 → Int32 → Option St} (C : M_Cx RX9 p s m args meth c D cc cX9_fail (Cond.code yX9_fail cX9_fail 6 none :: WM) 6 none) (hA : ∀ q, s.heap.size ≤ q → A q) (hk47 : ∀ {σ : St} {x1 : Int32} {x2 : Int32} {H : Heap} {locs : List Loc} {ls : Array Slot}, k47 σ x1 x2 = some σr → va_P D vwCl (wM a cc σ) H → va_D A (wM a cc σ) → va_S A s.heap H locs → lv_has ls 6 [(0, .ref (a 0)), (1, .int x1), (2, .int x2)] → W p l e rmX9_fail s m args below meth c H locs 0 0 (M_Mv D a cc A below args s σr) (F0 m 47 ls [])) (hk61 : ∀ {σ : St} {x1 : Int32} {x2 : Int32} {x3 : Int32} {H : Heap} {locs : List Loc} {ls : Array Slot}, k61 σ x1 x2 x3 = some σr → va_P D vwCl (wM a cc σ) H → va_D A (wM a cc σ) → va_S A s.heap H locs → lv_has ls 6 [(0, .ref (a 0)), (1, .int x1), (2, .int x2), (3, .int x3)] → W p l e rmX9_fail s m args below meth c H locs 0 0 (M_Mv D a cc A below args s σr) (F0 m 61 ls [])) : ∀ (n : Nat) {σ : St} {x1 : Int32} {x2 : Int32} {x3 : Int32} {x4 : Int32} {x5 : Int32} {H : Heap} {locs : List Loc} {ls : Array Slot}, fX9_fail_75 N k47 k61 n σ x1 x2 x3 x4 x5 = some σr → va_P D vwCl (wM a cc σ) H → va_D A (wM a cc σ) → va_S A s.heap H locs → lv_has ls 6 [(0, .ref (a 0)), (1, .int x1), (2, .int x2), (3, .int x3), (4, .int x4), (5, .int x5)] → W p l e rmX9_fail s m args below meth c H locs 0 0 (M_Mv D a cc A below args s σr) (F0 m 75 ls []) := by
  obtain ⟨hx, hb, hr, hml, hown, hts, hin, hK, hlocks⟩ := id C
  intro n
  induction n with
  | zero => intro σ x1 x2 x3 x4 x5 H locs ls h; exact none_s h
  | succ n ih =>
    intro σ x1 x2 x3 x4 x5 H locs ls h hP hD hS hl
    refine lv_iload hx hb dX9_fail_75 (lv_at hl 5 rfl) ?_
    refine lv_bipush (v := (8 : Int32)) hx hb dX9_fail_77 (by decide) ?_
    refine lv_icmp_ge (tgt := 120) hx hb dX9_fail_79 (by decide) (fun c12 => ?_) (fun c12 => ?_)
    · have h := ifT c12 h
      refine lv_iload_n hx hb dX9_fail_120 rfl (lv_at hl 1 rfl) ?_
      refine lv_if_ne (tgt := 138) hx hb dX9_fail_121 (by decide) (fun c13 => ?_) (fun c13 => ?_)
      · have h := ifF c13 h
        exact tX9_fail_138 C hA hk47 hk61 h hP hD hS (lv_sub hl [0, 2, 3, 4] rfl)
      · have h := ifT c13 h
        refine lv_iload hx hb dX9_fail_124 (lv_at hl 4 rfl) ?_
        refine lv_if_eq (tgt := 142) hx hb dX9_fail_126 (by decide) (fun c14 => ?_) (fun c14 => ?_)
        · have h := ifT c14 h
          exact tX9_fail_142 C hA hk47 hk61 h hP hD hS (lv_sub hl [0, 2, 3, 4] rfl)
        · have h := ifF c14 h
          refine lv_aload_n hx hb dX9_fail_129 rfl (lv_at hl 0 rfl) ?_
          refine M_gt37 C hP dX9_fail_130 ?_
          refine lv_iload_n hx hb dX9_fail_133 rfl (lv_at hl 3 rfl) ?_
          obtain ⟨g15, h⟩ := grd_s h
          refine M_ld37 C hP g15 dX9_fail_134 ?_
          refine lv_if_ne (tgt := 142) hx hb dX9_fail_135 (by decide) (fun c16 => ?_) (fun c16 => ?_)
          · have h := ifF c16 h
            exact tX9_fail_142 C hA hk47 hk61 h hP hD hS (lv_sub hl [0, 2, 3, 4] rfl)
          · have h := ifT c16 h
            exact tX9_fail_138 C hA hk47 hk61 h hP hD hS (lv_sub hl [0, 2, 3, 4] rfl)
    · have h := ifF c12 h
      refine lv_iload hx hb dX9_fail_82 (lv_at hl 4 rfl) ?_
      refine lv_if_eq (tgt := 111) hx hb dX9_fail_84 (by decide) (fun c17 => ?_) (fun c17 => ?_)
      · have h := ifT c17 h
        exact tX9_fail_111 C hA hk47 hk61 ih h hP hD hS (lv_sub hl [0, 1, 2, 3, 5] rfl)
      · have h := ifF c17 h
        refine lv_aload_n hx hb dX9_fail_87 rfl (lv_at hl 0 rfl) ?_
        refine M_gt37 C hP dX9_fail_88 ?_
        refine lv_aload_n hx hb dX9_fail_91 rfl (lv_at hl 0 rfl) ?_
        refine M_gt36 C hP dX9_fail_92 ?_
        refine lv_bipush (v := (8 : Int32)) hx hb dX9_fail_95 (by decide) ?_
        refine lv_iload_n hx hb dX9_fail_97 rfl (lv_at hl 3 rfl) ?_
        refine lv_imul hx hb dX9_fail_98 ?_
        refine lv_iload hx hb dX9_fail_99 (lv_at hl 5 rfl) ?_
        refine lv_iadd hx hb dX9_fail_101 ?_
        obtain ⟨g18, h⟩ := grd_s h
        refine M_ld36 C hP g18 dX9_fail_102 ?_
        obtain ⟨g19, h⟩ := grd_s h
        refine M_ld37 C hP g19 dX9_fail_103 ?_
        refine lv_if_eq (tgt := 111) hx hb dX9_fail_104 (by decide) (fun c20 => ?_) (fun c20 => ?_)
        · have h := ifT c20 h
          exact tX9_fail_111 C hA hk47 hk61 ih h hP hD hS (lv_sub hl [0, 1, 2, 3, 5] rfl)
        · have h := ifF c20 h
          refine lv_iconst (v := (1 : Int32)) hx hb dX9_fail_107 (by decide) ?_
          refine lv_goto (tgt := 112) hx hb dX9_fail_108 (by decide) ?_
          exact tX9_fail_112 C hA hk47 hk61 ih h hP hD hS (lv_sub hl [0, 1, 2, 3, 5] rfl)
set_option maxHeartbeats 4000000 in
set_option maxRecDepth 100000 in
theorem tX9_fail_61 {p : Program} {l : Launch} {e : Env} {s : State} {m : MethodId} {args : Array Value} {below : List Frame} {meth : Method} {c : Code} {D : va_G} {a : Nat → Nat} {cc : Nat → ClassId} {A : Nat → Prop} {N : Nat} {σr : St} {k47 : St → Int32 → Int32 → Option St} (C : M_Cx RX9 p s m args meth c D cc cX9_fail (Cond.code yX9_fail cX9_fail 6 none :: WM) 6 none) (hA : ∀ q, s.heap.size ≤ q → A q) (hk47 : ∀ {σ : St} {x1 : Int32} {x2 : Int32} {H : Heap} {locs : List Loc} {ls : Array Slot}, k47 σ x1 x2 = some σr → va_P D vwCl (wM a cc σ) H → va_D A (wM a cc σ) → va_S A s.heap H locs → lv_has ls 6 [(0, .ref (a 0)), (1, .int x1), (2, .int x2)] → W p l e rmX9_fail s m args below meth c H locs 0 0 (M_Mv D a cc A below args s σr) (F0 m 47 ls [])) : ∀ (n : Nat) {σ : St} {x1 : Int32} {x2 : Int32} {x3 : Int32} {H : Heap} {locs : List Loc} {ls : Array Slot}, fX9_fail_61 N k47 n σ x1 x2 x3 = some σr → va_P D vwCl (wM a cc σ) H → va_D A (wM a cc σ) → va_S A s.heap H locs → lv_has ls 6 [(0, .ref (a 0)), (1, .int x1), (2, .int x2), (3, .int x3)] → W p l e rmX9_fail s m args below meth c H locs 0 0 (M_Mv D a cc A below args s σr) (F0 m 61 ls []) := by
  obtain ⟨hx, hb, hr, hml, hown, hts, hin, hK, hlocks⟩ := id C
  intro n
  induction n with
  | zero => intro σ x1 x2 x3 H locs ls h; exact none_s h
  | succ n ih =>
    intro σ x1 x2 x3 H locs ls h hP hD hS hl
    refine lv_iload_n hx hb dX9_fail_61 rfl (lv_at hl 3 rfl) ?_
    refine lv_aload_n hx hb dX9_fail_62 rfl (lv_at hl 0 rfl) ?_
    refine M_gt34 C hP dX9_fail_63 ?_
    refine lv_icmp_ge (tgt := 175) hx hb dX9_fail_66 (by decide) (fun c10 => ?_) (fun c10 => ?_)
    · have h := ifT c10 h
      obtain ⟨u11, eu11, h⟩ := letS_n h
      refine lv_iinc (v := u11) (lv' := [(2, .int u11), (0, .ref (a 0)), (1, .int x1), (3, .int x3)]) hx hb dX9_fail_175 hl (k := 2) rfl (by rw [eu11]; rfl) (by decide) rfl (fun ls hl => ?_)
      refine lv_goto (tgt := 47) hx hb dX9_fail_178 (by decide) ?_
      exact hk47 h hP hD hS (lv_sub hl [1, 2, 0] rfl)
    · have h := ifF c10 h
      refine lv_iconst (v := (1 : Int32)) hx hb dX9_fail_69 (by decide) ?_
      refine lv_istore (lv' := [(4, .int (1 : Int32)), (0, .ref (a 0)), (1, .int x1), (2, .int x2), (3, .int x3)]) hx hb dX9_fail_70 hl (by decide) rfl (fun ls hl => ?_)
      refine lv_iconst (v := (0 : Int32)) hx hb dX9_fail_72 (by decide) ?_
      refine lv_istore (lv' := [(5, .int (0 : Int32)), (4, .int (1 : Int32)), (0, .ref (a 0)), (1, .int x1), (2, .int x2), (3, .int x3)]) hx hb dX9_fail_73 hl (by decide) rfl (fun ls hl => ?_)
      exact tX9_fail_75 C hA hk47 ih N h hP hD hS (lv_sub hl [2, 3, 4, 5, 1, 0] rfl)
set_option maxHeartbeats 4000000 in
set_option maxRecDepth 100000 in
theorem tX9_fail_47 {p : Program} {l : Launch} {e : Env} {s : State} {m : MethodId} {args : Array Value} {below : List Frame} {meth : Method} {c : Code} {D : va_G} {a : Nat → Nat} {cc : Nat → ClassId} {A : Nat → Prop} {N : Nat} {σr : St} (C : M_Cx RX9 p s m args meth c D cc cX9_fail (Cond.code yX9_fail cX9_fail 6 none :: WM) 6 none) (hA : ∀ q, s.heap.size ≤ q → A q) : ∀ (n : Nat) {σ : St} {x1 : Int32} {x2 : Int32} {H : Heap} {locs : List Loc} {ls : Array Slot}, fX9_fail_47 N n σ x1 x2 = some σr → va_P D vwCl (wM a cc σ) H → va_D A (wM a cc σ) → va_S A s.heap H locs → lv_has ls 6 [(0, .ref (a 0)), (1, .int x1), (2, .int x2)] → W p l e rmX9_fail s m args below meth c H locs 0 0 (M_Mv D a cc A below args s σr) (F0 m 47 ls []) := by
  obtain ⟨hx, hb, hr, hml, hown, hts, hin, hK, hlocks⟩ := id C
  intro n
  induction n with
  | zero => intro σ x1 x2 H locs ls h; exact none_s h
  | succ n ih =>
    intro σ x1 x2 H locs ls h hP hD hS hl
    refine lv_iload_n hx hb dX9_fail_47 rfl (lv_at hl 2 rfl) ?_
    refine lv_bipush (v := (40 : Int32)) hx hb dX9_fail_48 (by decide) ?_
    refine lv_icmp_gt (tgt := 181) hx hb dX9_fail_50 (by decide) (fun c8 => ?_) (fun c8 => ?_)
    · have h := ifT c8 h
      exact M_vret C h hP hD hS dX9_fail_181
    · have h := ifF c8 h
      refine lv_iload_n hx hb dX9_fail_53 rfl (lv_at hl 1 rfl) ?_
      refine lv_if_eq (tgt := 181) hx hb dX9_fail_54 (by decide) (fun c9 => ?_) (fun c9 => ?_)
      · have h := ifT c9 h
        exact M_vret C h hP hD hS dX9_fail_181
      · have h := ifF c9 h
        refine lv_iconst (v := (0 : Int32)) hx hb dX9_fail_57 (by decide) ?_
        refine lv_istore_n (lv' := [(1, .int (0 : Int32)), (0, .ref (a 0)), (2, .int x2)]) hx hb dX9_fail_58 rfl hl (by decide) rfl (fun ls hl => ?_)
        refine lv_iconst (v := (0 : Int32)) hx hb dX9_fail_59 (by decide) ?_
        refine lv_istore_n (lv' := [(3, .int (0 : Int32)), (1, .int (0 : Int32)), (0, .ref (a 0)), (2, .int x2)]) hx hb dX9_fail_60 rfl hl (by decide) rfl (fun ls hl => ?_)
        exact tX9_fail_61 C hA ih N h hP hD hS (lv_sub hl [2, 1, 3, 0] rfl)
set_option maxHeartbeats 4000000 in
set_option maxRecDepth 100000 in
theorem tX9_fail_2 {p : Program} {l : Launch} {e : Env} {s : State} {m : MethodId} {args : Array Value} {below : List Frame} {meth : Method} {c : Code} {D : va_G} {a : Nat → Nat} {cc : Nat → ClassId} {A : Nat → Prop} {N : Nat} {σr : St} (C : M_Cx RX9 p s m args meth c D cc cX9_fail (Cond.code yX9_fail cX9_fail 6 none :: WM) 6 none) (hA : ∀ q, s.heap.size ≤ q → A q) : ∀ (n : Nat) {σ : St} {x1 : Int32} {H : Heap} {locs : List Loc} {ls : Array Slot}, fX9_fail_2 N n σ x1 = some σr → va_P D vwCl (wM a cc σ) H → va_D A (wM a cc σ) → va_S A s.heap H locs → lv_has ls 6 [(0, .ref (a 0)), (1, .int x1)] → W p l e rmX9_fail s m args below meth c H locs 0 0 (M_Mv D a cc A below args s σr) (F0 m 2 ls []) := by
  obtain ⟨hx, hb, hr, hml, hown, hts, hin, hK, hlocks⟩ := id C
  intro n
  induction n with
  | zero => intro σ x1 H locs ls h; exact none_s h
  | succ n ih =>
    intro σ x1 H locs ls h hP hD hS hl
    refine lv_iload_n hx hb dX9_fail_2 rfl (lv_at hl 1 rfl) ?_
    refine lv_aload_n hx hb dX9_fail_3 rfl (lv_at hl 0 rfl) ?_
    refine M_gt34 C hP dX9_fail_4 ?_
    refine lv_icmp_ge (tgt := 43) hx hb dX9_fail_7 (by decide) (fun c1 => ?_) (fun c1 => ?_)
    · have h := ifT c1 h
      refine lv_iconst (v := (1 : Int32)) hx hb dX9_fail_43 (by decide) ?_
      refine lv_istore_n (lv' := [(1, .int (1 : Int32)), (0, .ref (a 0))]) hx hb dX9_fail_44 rfl hl (by decide) rfl (fun ls hl => ?_)
      refine lv_iconst (v := (0 : Int32)) hx hb dX9_fail_45 (by decide) ?_
      refine lv_istore_n (lv' := [(2, .int (0 : Int32)), (1, .int (1 : Int32)), (0, .ref (a 0))]) hx hb dX9_fail_46 rfl hl (by decide) rfl (fun ls hl => ?_)
      exact tX9_fail_47 C hA N h hP hD hS (lv_sub hl [2, 1, 0] rfl)
    · have h := ifF c1 h
      refine lv_aload_n hx hb dX9_fail_10 rfl (lv_at hl 0 rfl) ?_
      refine M_gt37 C hP dX9_fail_11 ?_
      refine lv_iload_n hx hb dX9_fail_14 rfl (lv_at hl 1 rfl) ?_
      refine lv_aload_n hx hb dX9_fail_15 rfl (lv_at hl 0 rfl) ?_
      refine lv_iload_n hx hb dX9_fail_16 rfl (lv_at hl 1 rfl) ?_
      refine lv_iconst (v := (1 : Int32)) hx hb dX9_fail_17 (by decide) ?_
      refine lv_aload_n hx hb dX9_fail_18 rfl (lv_at hl 0 rfl) ?_
      refine M_gt17 C hP dX9_fail_19 ?_
      refine lv_ishl hx hb dX9_fail_22 ?_
      refine lv_iconst (v := (1 : Int32)) hx hb dX9_fail_23 (by decide) ?_
      refine lv_isub hx hb dX9_fail_24 ?_
      obtain ⟨r3, σ2, hc, h⟩ := bnd_s h
      refine M_callVi (As := [.int x1, .int (((1 : Int32) <<< ((gI σ 17 0) &&& 31)) - (1 : Int32))]) (rest := [.int x1, .ref (a 37)]) C hA (fun sz => kX9_marked l sz hc) gX9_marked hP hD hS ⟨by decide, by decide⟩ ⟨rfl, rfl⟩ rfl hl.1 rfl (lv_room (Nat.le_of_ble_eq_true rfl)) dX9_fail_25 (fun H locs hP hD hS => ?_)
      refine lv_if_ne (tgt := 35) hx hb dX9_fail_28 (by decide) (fun c4 => ?_) (fun c4 => ?_)
      · have h := ifF c4 h
        refine lv_iconst (v := (0 : Int32)) hx hb dX9_fail_35 (by decide) ?_
        exact tX9_fail_36 C hA ih h hP hD hS (lv_sub hl [0, 1] rfl)
      · have h := ifT c4 h
        refine lv_iconst (v := (1 : Int32)) hx hb dX9_fail_31 (by decide) ?_
        refine lv_goto (tgt := 36) hx hb dX9_fail_32 (by decide) ?_
        exact tX9_fail_36 C hA ih h hP hD hS (lv_sub hl [0, 1] rfl)
set_option maxHeartbeats 4000000 in
set_option maxRecDepth 100000 in
theorem tX9_fail {p : Program} {l : Launch} {e : Env} {s : State} {m : MethodId} {args : Array Value} {below : List Frame} {meth : Method} {c : Code} {D : va_G} {a : Nat → Nat} {cc : Nat → ClassId} {A : Nat → Prop} {N : Nat} {σr : St} (C : M_Cx RX9 p s m args meth c D cc cX9_fail (Cond.code yX9_fail cX9_fail 6 none :: WM) 6 none) (hA : ∀ q, s.heap.size ≤ q → A q) {σ : St} {H : Heap} {locs : List Loc} {ls : Array Slot} (h : fX9_fail N σ = some σr) : va_P D vwCl (wM a cc σ) H → va_D A (wM a cc σ) → va_S A s.heap H locs → lv_has ls 6 [(0, .ref (a 0))] → W p l e rmX9_fail s m args below meth c H locs 0 0 (M_Mv D a cc A below args s σr) (F0 m 0 ls []) := by
  obtain ⟨hx, hb, hr, hml, hown, hts, hin, hK, hlocks⟩ := id C
  intro hP hD hS hl
  refine lv_iconst (v := (0 : Int32)) hx hb dX9_fail_0 (by decide) ?_
  refine lv_istore_n (lv' := [(1, .int (0 : Int32)), (0, .ref (a 0))]) hx hb dX9_fail_1 rfl hl (by decide) rfl (fun ls hl => ?_)
  exact tX9_fail_2 C hA N h hP hD hS (lv_sub hl [1, 0] rfl)
set_option maxRecDepth 100000 in
theorem kX9_fail (l : Launch) (sz : Nat) {D : va_G} {a : Nat → Nat} {cc : Nat → ClassId} {N : Nat} {σr : St} {σ : St} (h : fX9_fail N σ = some σr) : Met l yX9_fail ((Cond.code yX9_fail cX9_fail 6 none :: WM)) rmX9_fail (M_Pc D a cc [.ref (a 0)] σ sz) (M_Qv D a cc σ sz σr) 0 0 (va_A (wM a cc σ) sz) := by
  refine Met.ofW (cc := cX9_fail) (maxL := 6) (ret := none) (by decide) rfl ?_
  intro p e s m args below meth c s₁ B hml hv
  obtain ⟨rfl, hsz, hP, hK, hD0⟩ := hv
  subst hsz
  have hl := lv_entry ([.ref (a 0)]) (n := 6) (Nat.le_of_ble_eq_true rfl)
  rw [lg_entry_eq]
  generalize (lg_sl ([.ref (a 0)]) ++ List.replicate (6 - (lg_sl ([.ref (a 0)])).length) Slot.unset).toArray = ls at hl ⊢
  exact tX9_fail ⟨B.exec, B.bytes, B.returns, hml, findClass_of_methodNamed B.named, atoms_spec (ws := (Cond.code yX9_fail cX9_fail 6 none :: WM)) B.pre, (fun w h => List.mem_cons_of_mem _ (inWM w h)), hK, B.notSynchronized⟩ (fun q h => Or.inr h) h hP hD0.self va_S.rf hl
set_option maxHeartbeats 4000000 in
set_option maxRecDepth 100000 in
theorem tX9_sortAt {p : Program} {l : Launch} {e : Env} {s : State} {m : MethodId} {args : Array Value} {below : List Frame} {meth : Method} {c : Code} {D : va_G} {a : Nat → Nat} {cc : Nat → ClassId} {A : Nat → Prop} {N : Nat} {r : Int32} {σr : St} (C : M_Cx RX9 p s m args meth c D cc cX9_sortAt (Cond.code yX9_sortAt cX9_sortAt 4 (some .int) :: WM) 4 (some .int)) (hA : ∀ q, s.heap.size ≤ q → A q) {σ : St} {p0 : Int32} {p1 : Int32} {H : Heap} {locs : List Loc} {ls : Array Slot} (h : fX9_sortAt N σ p0 p1 = some (r, σr)) : va_P D vwCl (wM a cc σ) H → va_D A (wM a cc σ) → va_S A s.heap H locs → lv_has ls 4 [(0, .ref (a 0)), (1, .int p0), (2, .int p1)] → W p l e rmX9_sortAt s m args below meth c H locs 0 0 (M_Mi D a cc A below args s r σr) (F0 m 0 ls []) := by
  obtain ⟨hx, hb, hr, hml, hown, hts, hin, hK, hlocks⟩ := id C
  intro hP hD hS hl
  refine lv_aload_n hx hb dX9_sortAt_0 rfl (lv_at hl 0 rfl) ?_
  refine M_gt36 C hP dX9_sortAt_1 ?_
  refine lv_bipush (v := (8 : Int32)) hx hb dX9_sortAt_4 (by decide) ?_
  refine lv_iload_n hx hb dX9_sortAt_6 rfl (lv_at hl 1 rfl) ?_
  refine lv_imul hx hb dX9_sortAt_7 ?_
  refine lv_iload_n hx hb dX9_sortAt_8 rfl (lv_at hl 2 rfl) ?_
  refine lv_iadd hx hb dX9_sortAt_9 ?_
  obtain ⟨g1, h⟩ := grd_s h
  refine M_ld36 C hP g1 dX9_sortAt_10 ?_
  obtain ⟨u2, eu2, h⟩ := letS_n h
  refine lv_topE eu2 ?_
  refine lv_istore_n (lv' := [(3, .int u2), (0, .ref (a 0)), (1, .int p0), (2, .int p1)]) hx hb dX9_sortAt_11 rfl hl (by decide) rfl (fun ls hl => ?_)
  refine lv_aload_n hx hb dX9_sortAt_12 rfl (lv_at hl 1 rfl) ?_
  refine M_gt37 C hP dX9_sortAt_13 ?_
  refine lv_iload_n hx hb dX9_sortAt_16 rfl (lv_at hl 0 rfl) ?_
  obtain ⟨g3, h⟩ := grd_s h
  refine M_ld37 C hP g3 dX9_sortAt_17 ?_
  refine lv_if_eq (tgt := 25) hx hb dX9_sortAt_18 (by decide) (fun c4 => ?_) (fun c4 => ?_)
  · have h := ifT c4 h
    refine lv_aload_n hx hb dX9_sortAt_25 rfl (lv_at hl 1 rfl) ?_
    refine M_gt38 C hP dX9_sortAt_26 ?_
    refine lv_iload_n hx hb dX9_sortAt_29 rfl (lv_at hl 0 rfl) ?_
    obtain ⟨g5, h⟩ := grd_s h
    refine M_ld38 C hP g5 dX9_sortAt_30 ?_
    exact M_iret C h hP hD hS dX9_sortAt_31
  · have h := ifF c4 h
    refine lv_iconst (v := (-1 : Int32)) hx hb dX9_sortAt_21 (by decide) ?_
    refine lv_goto (tgt := 31) hx hb dX9_sortAt_22 (by decide) ?_
    exact M_iret C h hP hD hS dX9_sortAt_31
set_option maxRecDepth 100000 in
theorem kX9_sortAt (l : Launch) (sz : Nat) {D : va_G} {a : Nat → Nat} {cc : Nat → ClassId} {N : Nat} {r : Int32} {σr : St} {σ : St} {p0 : Int32} {p1 : Int32} (h : fX9_sortAt N σ p0 p1 = some (r, σr)) : Met l yX9_sortAt ((Cond.code yX9_sortAt cX9_sortAt 4 (some .int) :: WM)) rmX9_sortAt (M_Pc D a cc [.ref (a 0), .int p0, .int p1] σ sz) (M_Qi D a cc σ sz r σr) 0 0 (va_A (wM a cc σ) sz) := by
  refine Met.ofW (cc := cX9_sortAt) (maxL := 4) (ret := (some .int)) (by decide) rfl ?_
  intro p e s m args below meth c s₁ B hml hv
  obtain ⟨rfl, hsz, hP, hK, hD0⟩ := hv
  subst hsz
  have hl := lv_entry ([.ref (a 0), .int p0, .int p1]) (n := 4) (Nat.le_of_ble_eq_true rfl)
  rw [lg_entry_eq]
  generalize (lg_sl ([.ref (a 0), .int p0, .int p1]) ++ List.replicate (4 - (lg_sl ([.ref (a 0), .int p0, .int p1])).length) Slot.unset).toArray = ls at hl ⊢
  exact tX9_sortAt ⟨B.exec, B.bytes, B.returns, hml, findClass_of_methodNamed B.named, atoms_spec (ws := (Cond.code yX9_sortAt cX9_sortAt 4 (some .int) :: WM)) B.pre, (fun w h => List.mem_cons_of_mem _ (inWM w h)), hK, B.notSynchronized⟩ (fun q h => Or.inr h) h hP hD0.self va_S.rf hl
set_option maxHeartbeats 4000000 in
set_option maxRecDepth 100000 in
theorem tX9_split_140 {p : Program} {l : Launch} {e : Env} {s : State} {m : MethodId} {args : Array Value} {below : List Frame} {meth : Method} {c : Code} {D : va_G} {a : Nat → Nat} {cc : Nat → ClassId} {A : Nat → Prop} {N : Nat} {σr : St} {k25 : St → Int32 → Option St} {k35 : St → Int32 → Int32 → Int32 → Option St} {k49 : St → Int32 → Int32 → Int32 → Int32 → Int32 → Option St} {k105 : St → Int32 → Int32 → Int32 → Int32 → Int32 → Int32 → Int32 → Option St} (C : M_Cx RX9 p s m args meth c D cc cX9_split (Cond.code yX9_split cX9_split 8 none :: WM) 8 none) (hA : ∀ q, s.heap.size ≤ q → A q) (hk25 : ∀ {σ : St} {x1 : Int32} {H : Heap} {locs : List Loc} {ls : Array Slot}, k25 σ x1 = some σr → va_P D vwCl (wM a cc σ) H → va_D A (wM a cc σ) → va_S A s.heap H locs → lv_has ls 8 [(0, .ref (a 0)), (1, .int x1)] → W p l e rmX9_split s m args below meth c H locs 0 0 (M_Mv D a cc A below args s σr) (F0 m 25 ls [])) (hk35 : ∀ {σ : St} {x1 : Int32} {x2 : Int32} {x3 : Int32} {H : Heap} {locs : List Loc} {ls : Array Slot}, k35 σ x1 x2 x3 = some σr → va_P D vwCl (wM a cc σ) H → va_D A (wM a cc σ) → va_S A s.heap H locs → lv_has ls 8 [(0, .ref (a 0)), (1, .int x1), (2, .int x2), (3, .int x3)] → W p l e rmX9_split s m args below meth c H locs 0 0 (M_Mv D a cc A below args s σr) (F0 m 35 ls [])) (hk49 : ∀ {σ : St} {x1 : Int32} {x2 : Int32} {x3 : Int32} {x4 : Int32} {x5 : Int32} {H : Heap} {locs : List Loc} {ls : Array Slot}, k49 σ x1 x2 x3 x4 x5 = some σr → va_P D vwCl (wM a cc σ) H → va_D A (wM a cc σ) → va_S A s.heap H locs → lv_has ls 8 [(0, .ref (a 0)), (1, .int x1), (2, .int x2), (3, .int x3), (4, .int x4), (5, .int x5)] → W p l e rmX9_split s m args below meth c H locs 0 0 (M_Mv D a cc A below args s σr) (F0 m 49 ls [])) (hk105 : ∀ {σ : St} {x1 : Int32} {x2 : Int32} {x3 : Int32} {x4 : Int32} {x5 : Int32} {x6 : Int32} {x7 : Int32} {H : Heap} {locs : List Loc} {ls : Array Slot}, k105 σ x1 x2 x3 x4 x5 x6 x7 = some σr → va_P D vwCl (wM a cc σ) H → va_D A (wM a cc σ) → va_S A s.heap H locs → lv_has ls 8 [(0, .ref (a 0)), (1, .int x1), (2, .int x2), (3, .int x3), (4, .int x4), (5, .int x5), (6, .int x6), (7, .int x7)] → W p l e rmX9_split s m args below meth c H locs 0 0 (M_Mv D a cc A below args s σr) (F0 m 105 ls [])) {σ : St} {x1 : Int32} {x2 : Int32} {x3 : Int32} {x4 : Int32} {x5 : Int32} {x7 : Int32} {y0 : Int32} {H : Heap} {locs : List Loc} {ls : Array Slot} (h : fX9_split_140 N k25 k35 k49 k105 σ x1 x2 x3 x4 x5 x7 y0 = some σr) : va_P D vwCl (wM a cc σ) H → va_D A (wM a cc σ) → va_S A s.heap H locs → lv_has ls 8 [(0, .ref (a 0)), (1, .int x1), (2, .int x2), (3, .int x3), (4, .int x4), (5, .int x5), (7, .int x7)] → W p l e rmX9_split s m args below meth c H locs 0 0 (M_Mv D a cc A below args s σr) (F0 m 140 ls [.int y0]) := by
  obtain ⟨hx, hb, hr, hml, hown, hts, hin, hK, hlocks⟩ := id C
  intro hP hD hS hl
  refine lv_istore (lv' := [(6, .int y0), (0, .ref (a 0)), (1, .int x1), (2, .int x2), (3, .int x3), (4, .int x4), (5, .int x5), (7, .int x7)]) hx hb dX9_split_140 hl (by decide) rfl (fun ls hl => ?_)
  obtain ⟨u24, eu24, h⟩ := letS_n h
  refine lv_iinc (v := u24) (lv' := [(7, .int u24), (6, .int y0), (0, .ref (a 0)), (1, .int x1), (2, .int x2), (3, .int x3), (4, .int x4), (5, .int x5)]) hx hb dX9_split_142 hl (k := 7) rfl (by rw [eu24]; rfl) (by decide) rfl (fun ls hl => ?_)
  refine lv_goto (tgt := 105) hx hb dX9_split_145 (by decide) ?_
  exact hk105 h hP hD hS (lv_sub hl [2, 3, 4, 5, 6, 7, 1, 0] rfl)
set_option maxHeartbeats 4000000 in
set_option maxRecDepth 100000 in
theorem tX9_split_139 {p : Program} {l : Launch} {e : Env} {s : State} {m : MethodId} {args : Array Value} {below : List Frame} {meth : Method} {c : Code} {D : va_G} {a : Nat → Nat} {cc : Nat → ClassId} {A : Nat → Prop} {N : Nat} {σr : St} {k25 : St → Int32 → Option St} {k35 : St → Int32 → Int32 → Int32 → Option St} {k49 : St → Int32 → Int32 → Int32 → Int32 → Int32 → Option St} {k105 : St → Int32 → Int32 → Int32 → Int32 → Int32 → Int32 → Int32 → Option St} (C : M_Cx RX9 p s m args meth c D cc cX9_split (Cond.code yX9_split cX9_split 8 none :: WM) 8 none) (hA : ∀ q, s.heap.size ≤ q → A q) (hk25 : ∀ {σ : St} {x1 : Int32} {H : Heap} {locs : List Loc} {ls : Array Slot}, k25 σ x1 = some σr → va_P D vwCl (wM a cc σ) H → va_D A (wM a cc σ) → va_S A s.heap H locs → lv_has ls 8 [(0, .ref (a 0)), (1, .int x1)] → W p l e rmX9_split s m args below meth c H locs 0 0 (M_Mv D a cc A below args s σr) (F0 m 25 ls [])) (hk35 : ∀ {σ : St} {x1 : Int32} {x2 : Int32} {x3 : Int32} {H : Heap} {locs : List Loc} {ls : Array Slot}, k35 σ x1 x2 x3 = some σr → va_P D vwCl (wM a cc σ) H → va_D A (wM a cc σ) → va_S A s.heap H locs → lv_has ls 8 [(0, .ref (a 0)), (1, .int x1), (2, .int x2), (3, .int x3)] → W p l e rmX9_split s m args below meth c H locs 0 0 (M_Mv D a cc A below args s σr) (F0 m 35 ls [])) (hk49 : ∀ {σ : St} {x1 : Int32} {x2 : Int32} {x3 : Int32} {x4 : Int32} {x5 : Int32} {H : Heap} {locs : List Loc} {ls : Array Slot}, k49 σ x1 x2 x3 x4 x5 = some σr → va_P D vwCl (wM a cc σ) H → va_D A (wM a cc σ) → va_S A s.heap H locs → lv_has ls 8 [(0, .ref (a 0)), (1, .int x1), (2, .int x2), (3, .int x3), (4, .int x4), (5, .int x5)] → W p l e rmX9_split s m args below meth c H locs 0 0 (M_Mv D a cc A below args s σr) (F0 m 49 ls [])) (hk105 : ∀ {σ : St} {x1 : Int32} {x2 : Int32} {x3 : Int32} {x4 : Int32} {x5 : Int32} {x6 : Int32} {x7 : Int32} {H : Heap} {locs : List Loc} {ls : Array Slot}, k105 σ x1 x2 x3 x4 x5 x6 x7 = some σr → va_P D vwCl (wM a cc σ) H → va_D A (wM a cc σ) → va_S A s.heap H locs → lv_has ls 8 [(0, .ref (a 0)), (1, .int x1), (2, .int x2), (3, .int x3), (4, .int x4), (5, .int x5), (6, .int x6), (7, .int x7)] → W p l e rmX9_split s m args below meth c H locs 0 0 (M_Mv D a cc A below args s σr) (F0 m 105 ls [])) {σ : St} {x1 : Int32} {x2 : Int32} {x3 : Int32} {x4 : Int32} {x5 : Int32} {x7 : Int32} {H : Heap} {locs : List Loc} {ls : Array Slot} (h : fX9_split_139 N k25 k35 k49 k105 σ x1 x2 x3 x4 x5 x7 = some σr) : va_P D vwCl (wM a cc σ) H → va_D A (wM a cc σ) → va_S A s.heap H locs → lv_has ls 8 [(0, .ref (a 0)), (1, .int x1), (2, .int x2), (3, .int x3), (4, .int x4), (5, .int x5), (7, .int x7)] → W p l e rmX9_split s m args below meth c H locs 0 0 (M_Mv D a cc A below args s σr) (F0 m 139 ls []) := by
  obtain ⟨hx, hb, hr, hml, hown, hts, hin, hK, hlocks⟩ := id C
  intro hP hD hS hl
  refine lv_iconst (v := (0 : Int32)) hx hb dX9_split_139 (by decide) ?_
  exact tX9_split_140 C hA hk25 hk35 hk49 hk105 h hP hD hS (lv_sub hl [0, 1, 2, 3, 4, 5, 6] rfl)
set_option maxHeartbeats 4000000 in
set_option maxRecDepth 100000 in
theorem tX9_split_160 {p : Program} {l : Launch} {e : Env} {s : State} {m : MethodId} {args : Array Value} {below : List Frame} {meth : Method} {c : Code} {D : va_G} {a : Nat → Nat} {cc : Nat → ClassId} {A : Nat → Prop} {N : Nat} {σr : St} {k25 : St → Int32 → Option St} {k35 : St → Int32 → Int32 → Int32 → Option St} {k49 : St → Int32 → Int32 → Int32 → Int32 → Int32 → Option St} (C : M_Cx RX9 p s m args meth c D cc cX9_split (Cond.code yX9_split cX9_split 8 none :: WM) 8 none) (hA : ∀ q, s.heap.size ≤ q → A q) (hk25 : ∀ {σ : St} {x1 : Int32} {H : Heap} {locs : List Loc} {ls : Array Slot}, k25 σ x1 = some σr → va_P D vwCl (wM a cc σ) H → va_D A (wM a cc σ) → va_S A s.heap H locs → lv_has ls 8 [(0, .ref (a 0)), (1, .int x1)] → W p l e rmX9_split s m args below meth c H locs 0 0 (M_Mv D a cc A below args s σr) (F0 m 25 ls [])) (hk35 : ∀ {σ : St} {x1 : Int32} {x2 : Int32} {x3 : Int32} {H : Heap} {locs : List Loc} {ls : Array Slot}, k35 σ x1 x2 x3 = some σr → va_P D vwCl (wM a cc σ) H → va_D A (wM a cc σ) → va_S A s.heap H locs → lv_has ls 8 [(0, .ref (a 0)), (1, .int x1), (2, .int x2), (3, .int x3)] → W p l e rmX9_split s m args below meth c H locs 0 0 (M_Mv D a cc A below args s σr) (F0 m 35 ls [])) (hk49 : ∀ {σ : St} {x1 : Int32} {x2 : Int32} {x3 : Int32} {x4 : Int32} {x5 : Int32} {H : Heap} {locs : List Loc} {ls : Array Slot}, k49 σ x1 x2 x3 x4 x5 = some σr → va_P D vwCl (wM a cc σ) H → va_D A (wM a cc σ) → va_S A s.heap H locs → lv_has ls 8 [(0, .ref (a 0)), (1, .int x1), (2, .int x2), (3, .int x3), (4, .int x4), (5, .int x5)] → W p l e rmX9_split s m args below meth c H locs 0 0 (M_Mv D a cc A below args s σr) (F0 m 49 ls [])) {σ : St} {x1 : Int32} {x2 : Int32} {x3 : Int32} {x5 : Int32} {y0 : Int32} {H : Heap} {locs : List Loc} {ls : Array Slot} (h : fX9_split_160 N k25 k35 k49 σ x1 x2 x3 x5 y0 = some σr) : va_P D vwCl (wM a cc σ) H → va_D A (wM a cc σ) → va_S A s.heap H locs → lv_has ls 8 [(0, .ref (a 0)), (1, .int x1), (2, .int x2), (3, .int x3), (5, .int x5)] → W p l e rmX9_split s m args below meth c H locs 0 0 (M_Mv D a cc A below args s σr) (F0 m 160 ls [.int y0]) := by
  obtain ⟨hx, hb, hr, hml, hown, hts, hin, hK, hlocks⟩ := id C
  intro hP hD hS hl
  refine lv_istore (lv' := [(4, .int y0), (0, .ref (a 0)), (1, .int x1), (2, .int x2), (3, .int x3), (5, .int x5)]) hx hb dX9_split_160 hl (by decide) rfl (fun ls hl => ?_)
  obtain ⟨u25, eu25, h⟩ := letS_n h
  refine lv_iinc (v := u25) (lv' := [(5, .int u25), (4, .int y0), (0, .ref (a 0)), (1, .int x1), (2, .int x2), (3, .int x3)]) hx hb dX9_split_162 hl (k := 5) rfl (by rw [eu25]; rfl) (by decide) rfl (fun ls hl => ?_)
  refine lv_goto (tgt := 49) hx hb dX9_split_165 (by decide) ?_
  exact hk49 h hP hD hS (lv_sub hl [2, 3, 4, 5, 1, 0] rfl)
set_option maxHeartbeats 4000000 in
set_option maxRecDepth 100000 in
theorem tX9_split_105 {p : Program} {l : Launch} {e : Env} {s : State} {m : MethodId} {args : Array Value} {below : List Frame} {meth : Method} {c : Code} {D : va_G} {a : Nat → Nat} {cc : Nat → ClassId} {A : Nat → Prop} {N : Nat} {σr : St} {k25 : St → Int32 → Option St} {k35 : St → Int32 → Int32 → Int32 → Option St} {k49 : St → Int32 → Int32 → Int32 → Int32 → Int32 → Option St} (C : M_Cx RX9 p s m args meth c D cc cX9_split (Cond.code yX9_split cX9_split 8 none :: WM) 8 none) (hA : ∀ q, s.heap.size ≤ q → A q) (hk25 : ∀ {σ : St} {x1 : Int32} {H : Heap} {locs : List Loc} {ls : Array Slot}, k25 σ x1 = some σr → va_P D vwCl (wM a cc σ) H → va_D A (wM a cc σ) → va_S A s.heap H locs → lv_has ls 8 [(0, .ref (a 0)), (1, .int x1)] → W p l e rmX9_split s m args below meth c H locs 0 0 (M_Mv D a cc A below args s σr) (F0 m 25 ls [])) (hk35 : ∀ {σ : St} {x1 : Int32} {x2 : Int32} {x3 : Int32} {H : Heap} {locs : List Loc} {ls : Array Slot}, k35 σ x1 x2 x3 = some σr → va_P D vwCl (wM a cc σ) H → va_D A (wM a cc σ) → va_S A s.heap H locs → lv_has ls 8 [(0, .ref (a 0)), (1, .int x1), (2, .int x2), (3, .int x3)] → W p l e rmX9_split s m args below meth c H locs 0 0 (M_Mv D a cc A below args s σr) (F0 m 35 ls [])) (hk49 : ∀ {σ : St} {x1 : Int32} {x2 : Int32} {x3 : Int32} {x4 : Int32} {x5 : Int32} {H : Heap} {locs : List Loc} {ls : Array Slot}, k49 σ x1 x2 x3 x4 x5 = some σr → va_P D vwCl (wM a cc σ) H → va_D A (wM a cc σ) → va_S A s.heap H locs → lv_has ls 8 [(0, .ref (a 0)), (1, .int x1), (2, .int x2), (3, .int x3), (4, .int x4), (5, .int x5)] → W p l e rmX9_split s m args below meth c H locs 0 0 (M_Mv D a cc A below args s σr) (F0 m 49 ls [])) : ∀ (n : Nat) {σ : St} {x1 : Int32} {x2 : Int32} {x3 : Int32} {x4 : Int32} {x5 : Int32} {x6 : Int32} {x7 : Int32} {H : Heap} {locs : List Loc} {ls : Array Slot}, fX9_split_105 N k25 k35 k49 n σ x1 x2 x3 x4 x5 x6 x7 = some σr → va_P D vwCl (wM a cc σ) H → va_D A (wM a cc σ) → va_S A s.heap H locs → lv_has ls 8 [(0, .ref (a 0)), (1, .int x1), (2, .int x2), (3, .int x3), (4, .int x4), (5, .int x5), (6, .int x6), (7, .int x7)] → W p l e rmX9_split s m args below meth c H locs 0 0 (M_Mv D a cc A below args s σr) (F0 m 105 ls []) := by
  obtain ⟨hx, hb, hr, hml, hown, hts, hin, hK, hlocks⟩ := id C
  intro n
  induction n with
  | zero => intro σ x1 x2 x3 x4 x5 x6 x7 H locs ls h; exact none_s h
  | succ n ih =>
    intro σ x1 x2 x3 x4 x5 x6 x7 H locs ls h hP hD hS hl
    refine lv_iload hx hb dX9_split_105 (lv_at hl 7 rfl) ?_
    refine lv_bipush (v := (8 : Int32)) hx hb dX9_split_107 (by decide) ?_
    refine lv_icmp_ge (tgt := 148) hx hb dX9_split_109 (by decide) (fun c16 => ?_) (fun c16 => ?_)
    · have h := ifT c16 h
      refine lv_iload hx hb dX9_split_148 (lv_at hl 6 rfl) ?_
      refine lv_if_eq (tgt := 158) hx hb dX9_split_150 (by decide) (fun c17 => ?_) (fun c17 => ?_)
      · have h := ifT c17 h
        refine lv_iload hx hb dX9_split_158 (lv_at hl 4 rfl) ?_
        exact tX9_split_160 C hA hk25 hk35 hk49 h hP hD hS (lv_sub hl [0, 1, 2, 3, 5] rfl)
      · have h := ifF c17 h
        refine lv_iload hx hb dX9_split_153 (lv_at hl 5 rfl) ?_
        refine lv_goto (tgt := 160) hx hb dX9_split_155 (by decide) ?_
        exact tX9_split_160 C hA hk25 hk35 hk49 h hP hD hS (lv_sub hl [0, 1, 2, 3, 5] rfl)
    · have h := ifF c16 h
      refine lv_iload hx hb dX9_split_112 (lv_at hl 6 rfl) ?_
      refine lv_if_eq (tgt := 139) hx hb dX9_split_114 (by decide) (fun c18 => ?_) (fun c18 => ?_)
      · have h := ifT c18 h
        exact tX9_split_139 C hA hk25 hk35 hk49 ih h hP hD hS (lv_sub hl [0, 1, 2, 3, 4, 5, 7] rfl)
      · have h := ifF c18 h
        refine lv_aload_n hx hb dX9_split_117 rfl (lv_at hl 0 rfl) ?_
        refine lv_iload_n hx hb dX9_split_118 rfl (lv_at hl 3 rfl) ?_
        refine lv_iload hx hb dX9_split_119 (lv_at hl 7 rfl) ?_
        obtain ⟨r20, σ19, hc, h⟩ := bnd_s h
        refine M_callVi (As := [.int x3, .int x7]) (rest := []) C hA (fun sz => kX9_sortAt l sz hc) gX9_sortAt hP hD hS ⟨by decide, by decide⟩ ⟨rfl, rfl⟩ rfl hl.1 rfl (lv_room (Nat.le_of_ble_eq_true rfl)) dX9_split_121 (fun H locs hP hD hS => ?_)
        refine lv_aload_n hx hb dX9_split_124 rfl (lv_at hl 0 rfl) ?_
        refine lv_iload hx hb dX9_split_125 (lv_at hl 5 rfl) ?_
        refine lv_iload hx hb dX9_split_127 (lv_at hl 7 rfl) ?_
        obtain ⟨r22, σ21, hc, h⟩ := bnd_s h
        refine M_callVi (As := [.int x5, .int x7]) (rest := [.int r20]) C hA (fun sz => kX9_sortAt l sz hc) gX9_sortAt hP hD hS ⟨by decide, by decide⟩ ⟨rfl, rfl⟩ rfl hl.1 rfl (lv_room (Nat.le_of_ble_eq_true rfl)) dX9_split_129 (fun H locs hP hD hS => ?_)
        refine lv_icmp_ne (tgt := 139) hx hb dX9_split_132 (by decide) (fun c23 => ?_) (fun c23 => ?_)
        · have h := ifF c23 h
          exact tX9_split_139 C hA hk25 hk35 hk49 ih h hP hD hS (lv_sub hl [0, 1, 2, 3, 4, 5, 7] rfl)
        · have h := ifT c23 h
          refine lv_iconst (v := (1 : Int32)) hx hb dX9_split_135 (by decide) ?_
          refine lv_goto (tgt := 140) hx hb dX9_split_136 (by decide) ?_
          exact tX9_split_140 C hA hk25 hk35 hk49 ih h hP hD hS (lv_sub hl [0, 1, 2, 3, 4, 5, 7] rfl)
set_option maxHeartbeats 4000000 in
set_option maxRecDepth 100000 in
theorem tX9_split_100 {p : Program} {l : Launch} {e : Env} {s : State} {m : MethodId} {args : Array Value} {below : List Frame} {meth : Method} {c : Code} {D : va_G} {a : Nat → Nat} {cc : Nat → ClassId} {A : Nat → Prop} {N : Nat} {σr : St} {k25 : St → Int32 → Option St} {k35 : St → Int32 → Int32 → Int32 → Option St} {k49 : St → Int32 → Int32 → Int32 → Int32 → Int32 → Option St} (C : M_Cx RX9 p s m args meth c D cc cX9_split (Cond.code yX9_split cX9_split 8 none :: WM) 8 none) (hA : ∀ q, s.heap.size ≤ q → A q) (hk25 : ∀ {σ : St} {x1 : Int32} {H : Heap} {locs : List Loc} {ls : Array Slot}, k25 σ x1 = some σr → va_P D vwCl (wM a cc σ) H → va_D A (wM a cc σ) → va_S A s.heap H locs → lv_has ls 8 [(0, .ref (a 0)), (1, .int x1)] → W p l e rmX9_split s m args below meth c H locs 0 0 (M_Mv D a cc A below args s σr) (F0 m 25 ls [])) (hk35 : ∀ {σ : St} {x1 : Int32} {x2 : Int32} {x3 : Int32} {H : Heap} {locs : List Loc} {ls : Array Slot}, k35 σ x1 x2 x3 = some σr → va_P D vwCl (wM a cc σ) H → va_D A (wM a cc σ) → va_S A s.heap H locs → lv_has ls 8 [(0, .ref (a 0)), (1, .int x1), (2, .int x2), (3, .int x3)] → W p l e rmX9_split s m args below meth c H locs 0 0 (M_Mv D a cc A below args s σr) (F0 m 35 ls [])) (hk49 : ∀ {σ : St} {x1 : Int32} {x2 : Int32} {x3 : Int32} {x4 : Int32} {x5 : Int32} {H : Heap} {locs : List Loc} {ls : Array Slot}, k49 σ x1 x2 x3 x4 x5 = some σr → va_P D vwCl (wM a cc σ) H → va_D A (wM a cc σ) → va_S A s.heap H locs → lv_has ls 8 [(0, .ref (a 0)), (1, .int x1), (2, .int x2), (3, .int x3), (4, .int x4), (5, .int x5)] → W p l e rmX9_split s m args below meth c H locs 0 0 (M_Mv D a cc A below args s σr) (F0 m 49 ls [])) {σ : St} {x1 : Int32} {x2 : Int32} {x3 : Int32} {x4 : Int32} {x5 : Int32} {y0 : Int32} {H : Heap} {locs : List Loc} {ls : Array Slot} (h : fX9_split_100 N k25 k35 k49 σ x1 x2 x3 x4 x5 y0 = some σr) : va_P D vwCl (wM a cc σ) H → va_D A (wM a cc σ) → va_S A s.heap H locs → lv_has ls 8 [(0, .ref (a 0)), (1, .int x1), (2, .int x2), (3, .int x3), (4, .int x4), (5, .int x5)] → W p l e rmX9_split s m args below meth c H locs 0 0 (M_Mv D a cc A below args s σr) (F0 m 100 ls [.int y0]) := by
  obtain ⟨hx, hb, hr, hml, hown, hts, hin, hK, hlocks⟩ := id C
  intro hP hD hS hl
  refine lv_istore (lv' := [(6, .int y0), (0, .ref (a 0)), (1, .int x1), (2, .int x2), (3, .int x3), (4, .int x4), (5, .int x5)]) hx hb dX9_split_100 hl (by decide) rfl (fun ls hl => ?_)
  refine lv_iconst (v := (0 : Int32)) hx hb dX9_split_102 (by decide) ?_
  refine lv_istore (lv' := [(7, .int (0 : Int32)), (6, .int y0), (0, .ref (a 0)), (1, .int x1), (2, .int x2), (3, .int x3), (4, .int x4), (5, .int x5)]) hx hb dX9_split_103 hl (by decide) rfl (fun ls hl => ?_)
  exact tX9_split_105 C hA hk25 hk35 hk49 N h hP hD hS (lv_sub hl [2, 3, 4, 5, 6, 7, 1, 0] rfl)
set_option maxHeartbeats 4000000 in
set_option maxRecDepth 100000 in
theorem tX9_split_99 {p : Program} {l : Launch} {e : Env} {s : State} {m : MethodId} {args : Array Value} {below : List Frame} {meth : Method} {c : Code} {D : va_G} {a : Nat → Nat} {cc : Nat → ClassId} {A : Nat → Prop} {N : Nat} {σr : St} {k25 : St → Int32 → Option St} {k35 : St → Int32 → Int32 → Int32 → Option St} {k49 : St → Int32 → Int32 → Int32 → Int32 → Int32 → Option St} (C : M_Cx RX9 p s m args meth c D cc cX9_split (Cond.code yX9_split cX9_split 8 none :: WM) 8 none) (hA : ∀ q, s.heap.size ≤ q → A q) (hk25 : ∀ {σ : St} {x1 : Int32} {H : Heap} {locs : List Loc} {ls : Array Slot}, k25 σ x1 = some σr → va_P D vwCl (wM a cc σ) H → va_D A (wM a cc σ) → va_S A s.heap H locs → lv_has ls 8 [(0, .ref (a 0)), (1, .int x1)] → W p l e rmX9_split s m args below meth c H locs 0 0 (M_Mv D a cc A below args s σr) (F0 m 25 ls [])) (hk35 : ∀ {σ : St} {x1 : Int32} {x2 : Int32} {x3 : Int32} {H : Heap} {locs : List Loc} {ls : Array Slot}, k35 σ x1 x2 x3 = some σr → va_P D vwCl (wM a cc σ) H → va_D A (wM a cc σ) → va_S A s.heap H locs → lv_has ls 8 [(0, .ref (a 0)), (1, .int x1), (2, .int x2), (3, .int x3)] → W p l e rmX9_split s m args below meth c H locs 0 0 (M_Mv D a cc A below args s σr) (F0 m 35 ls [])) (hk49 : ∀ {σ : St} {x1 : Int32} {x2 : Int32} {x3 : Int32} {x4 : Int32} {x5 : Int32} {H : Heap} {locs : List Loc} {ls : Array Slot}, k49 σ x1 x2 x3 x4 x5 = some σr → va_P D vwCl (wM a cc σ) H → va_D A (wM a cc σ) → va_S A s.heap H locs → lv_has ls 8 [(0, .ref (a 0)), (1, .int x1), (2, .int x2), (3, .int x3), (4, .int x4), (5, .int x5)] → W p l e rmX9_split s m args below meth c H locs 0 0 (M_Mv D a cc A below args s σr) (F0 m 49 ls [])) {σ : St} {x1 : Int32} {x2 : Int32} {x3 : Int32} {x4 : Int32} {x5 : Int32} {H : Heap} {locs : List Loc} {ls : Array Slot} (h : fX9_split_99 N k25 k35 k49 σ x1 x2 x3 x4 x5 = some σr) : va_P D vwCl (wM a cc σ) H → va_D A (wM a cc σ) → va_S A s.heap H locs → lv_has ls 8 [(0, .ref (a 0)), (1, .int x1), (2, .int x2), (3, .int x3), (4, .int x4), (5, .int x5)] → W p l e rmX9_split s m args below meth c H locs 0 0 (M_Mv D a cc A below args s σr) (F0 m 99 ls []) := by
  obtain ⟨hx, hb, hr, hml, hown, hts, hin, hK, hlocks⟩ := id C
  intro hP hD hS hl
  refine lv_iconst (v := (0 : Int32)) hx hb dX9_split_99 (by decide) ?_
  exact tX9_split_100 C hA hk25 hk35 hk49 h hP hD hS (lv_sub hl [0, 1, 2, 3, 4, 5] rfl)
set_option maxHeartbeats 4000000 in
set_option maxRecDepth 100000 in
theorem tX9_split_210 {p : Program} {l : Launch} {e : Env} {s : State} {m : MethodId} {args : Array Value} {below : List Frame} {meth : Method} {c : Code} {D : va_G} {a : Nat → Nat} {cc : Nat → ClassId} {A : Nat → Prop} {N : Nat} {σr : St} {k25 : St → Int32 → Option St} {k35 : St → Int32 → Int32 → Int32 → Option St} (C : M_Cx RX9 p s m args meth c D cc cX9_split (Cond.code yX9_split cX9_split 8 none :: WM) 8 none) (hA : ∀ q, s.heap.size ≤ q → A q) (hk25 : ∀ {σ : St} {x1 : Int32} {H : Heap} {locs : List Loc} {ls : Array Slot}, k25 σ x1 = some σr → va_P D vwCl (wM a cc σ) H → va_D A (wM a cc σ) → va_S A s.heap H locs → lv_has ls 8 [(0, .ref (a 0)), (1, .int x1)] → W p l e rmX9_split s m args below meth c H locs 0 0 (M_Mv D a cc A below args s σr) (F0 m 25 ls [])) (hk35 : ∀ {σ : St} {x1 : Int32} {x2 : Int32} {x3 : Int32} {H : Heap} {locs : List Loc} {ls : Array Slot}, k35 σ x1 x2 x3 = some σr → va_P D vwCl (wM a cc σ) H → va_D A (wM a cc σ) → va_S A s.heap H locs → lv_has ls 8 [(0, .ref (a 0)), (1, .int x1), (2, .int x2), (3, .int x3)] → W p l e rmX9_split s m args below meth c H locs 0 0 (M_Mv D a cc A below args s σr) (F0 m 35 ls [])) {σ : St} {x1 : Int32} {x3 : Int32} {y0 : Int32} {y1 : Int32} {H : Heap} {locs : List Loc} {ls : Array Slot} (h : fX9_split_210 N k25 k35 σ x1 x3 y0 y1 = some σr) : va_P D vwCl (wM a cc σ) H → va_D A (wM a cc σ) → va_S A s.heap H locs → lv_has ls 8 [(0, .ref (a 0)), (1, .int x1), (3, .int x3)] → W p l e rmX9_split s m args below meth c H locs 0 0 (M_Mv D a cc A below args s σr) (F0 m 210 ls [.int y0, .int y1]) := by
  obtain ⟨hx, hb, hr, hml, hown, hts, hin, hK, hlocks⟩ := id C
  intro hP hD hS hl
  refine lv_iadd hx hb dX9_split_210 ?_
  obtain ⟨u33, eu33, h⟩ := letS_n h
  refine lv_topE eu33 ?_
  refine lv_istore_n (lv' := [(2, .int u33), (0, .ref (a 0)), (1, .int x1), (3, .int x3)]) hx hb dX9_split_211 rfl hl (by decide) rfl (fun ls hl => ?_)
  obtain ⟨u34, eu34, h⟩ := letS_n h
  refine lv_iinc (v := u34) (lv' := [(3, .int u34), (2, .int u33), (0, .ref (a 0)), (1, .int x1)]) hx hb dX9_split_212 hl (k := 3) rfl (by rw [eu34]; rfl) (by decide) rfl (fun ls hl => ?_)
  refine lv_goto (tgt := 35) hx hb dX9_split_215 (by decide) ?_
  exact hk35 h hP hD hS (lv_sub hl [2, 3, 1, 0] rfl)
set_option maxHeartbeats 4000000 in
set_option maxRecDepth 100000 in
theorem tX9_split_209 {p : Program} {l : Launch} {e : Env} {s : State} {m : MethodId} {args : Array Value} {below : List Frame} {meth : Method} {c : Code} {D : va_G} {a : Nat → Nat} {cc : Nat → ClassId} {A : Nat → Prop} {N : Nat} {σr : St} {k25 : St → Int32 → Option St} {k35 : St → Int32 → Int32 → Int32 → Option St} (C : M_Cx RX9 p s m args meth c D cc cX9_split (Cond.code yX9_split cX9_split 8 none :: WM) 8 none) (hA : ∀ q, s.heap.size ≤ q → A q) (hk25 : ∀ {σ : St} {x1 : Int32} {H : Heap} {locs : List Loc} {ls : Array Slot}, k25 σ x1 = some σr → va_P D vwCl (wM a cc σ) H → va_D A (wM a cc σ) → va_S A s.heap H locs → lv_has ls 8 [(0, .ref (a 0)), (1, .int x1)] → W p l e rmX9_split s m args below meth c H locs 0 0 (M_Mv D a cc A below args s σr) (F0 m 25 ls [])) (hk35 : ∀ {σ : St} {x1 : Int32} {x2 : Int32} {x3 : Int32} {H : Heap} {locs : List Loc} {ls : Array Slot}, k35 σ x1 x2 x3 = some σr → va_P D vwCl (wM a cc σ) H → va_D A (wM a cc σ) → va_S A s.heap H locs → lv_has ls 8 [(0, .ref (a 0)), (1, .int x1), (2, .int x2), (3, .int x3)] → W p l e rmX9_split s m args below meth c H locs 0 0 (M_Mv D a cc A below args s σr) (F0 m 35 ls [])) {σ : St} {x1 : Int32} {x3 : Int32} {y0 : Int32} {H : Heap} {locs : List Loc} {ls : Array Slot} (h : fX9_split_209 N k25 k35 σ x1 x3 y0 = some σr) : va_P D vwCl (wM a cc σ) H → va_D A (wM a cc σ) → va_S A s.heap H locs → lv_has ls 8 [(0, .ref (a 0)), (1, .int x1), (3, .int x3)] → W p l e rmX9_split s m args below meth c H locs 0 0 (M_Mv D a cc A below args s σr) (F0 m 209 ls [.int y0]) := by
  obtain ⟨hx, hb, hr, hml, hown, hts, hin, hK, hlocks⟩ := id C
  intro hP hD hS hl
  refine lv_iconst (v := (0 : Int32)) hx hb dX9_split_209 (by decide) ?_
  exact tX9_split_210 C hA hk25 hk35 h hP hD hS (lv_sub hl [0, 1, 2] rfl)
set_option maxHeartbeats 4000000 in
set_option maxRecDepth 100000 in
theorem tX9_split_189 {p : Program} {l : Launch} {e : Env} {s : State} {m : MethodId} {args : Array Value} {below : List Frame} {meth : Method} {c : Code} {D : va_G} {a : Nat → Nat} {cc : Nat → ClassId} {A : Nat → Prop} {N : Nat} {σr : St} {k25 : St → Int32 → Option St} {k35 : St → Int32 → Int32 → Int32 → Option St} (C : M_Cx RX9 p s m args meth c D cc cX9_split (Cond.code yX9_split cX9_split 8 none :: WM) 8 none) (hA : ∀ q, s.heap.size ≤ q → A q) (hk25 : ∀ {σ : St} {x1 : Int32} {H : Heap} {locs : List Loc} {ls : Array Slot}, k25 σ x1 = some σr → va_P D vwCl (wM a cc σ) H → va_D A (wM a cc σ) → va_S A s.heap H locs → lv_has ls 8 [(0, .ref (a 0)), (1, .int x1)] → W p l e rmX9_split s m args below meth c H locs 0 0 (M_Mv D a cc A below args s σr) (F0 m 25 ls [])) (hk35 : ∀ {σ : St} {x1 : Int32} {x2 : Int32} {x3 : Int32} {H : Heap} {locs : List Loc} {ls : Array Slot}, k35 σ x1 x2 x3 = some σr → va_P D vwCl (wM a cc σ) H → va_D A (wM a cc σ) → va_S A s.heap H locs → lv_has ls 8 [(0, .ref (a 0)), (1, .int x1), (2, .int x2), (3, .int x3)] → W p l e rmX9_split s m args below meth c H locs 0 0 (M_Mv D a cc A below args s σr) (F0 m 35 ls [])) {σ : St} {x1 : Int32} {x2 : Int32} {x3 : Int32} {x4 : Int32} {y0 : Int32} {y1 : Int32} {H : Heap} {locs : List Loc} {ls : Array Slot} (h : fX9_split_189 N k25 k35 σ x1 x2 x3 x4 y0 y1 = some σr) : va_P D vwCl (wM a cc σ) H → va_D A (wM a cc σ) → va_S A s.heap H locs → lv_has ls 8 [(0, .ref (a 0)), (1, .int x1), (2, .int x2), (3, .int x3), (4, .int x4)] → W p l e rmX9_split s m args below meth c H locs 0 0 (M_Mv D a cc A below args s σr) (F0 m 189 ls [.int y0, .int y1, .ref (a 39)]) := by
  obtain ⟨hx, hb, hr, hml, hown, hts, hin, hK, hlocks⟩ := id C
  intro hP hD hS hl
  obtain ⟨g28, h⟩ := grd_s h
  obtain ⟨σ29, eσ29, h⟩ := letS_n h
  refine M_st39 C hP hD hS g28 eσ29 dX9_split_189 (fun H locs hP hD hS => ?_)
  refine lv_iload_n hx hb dX9_split_190 rfl (lv_at hl 2 rfl) ?_
  refine lv_iload hx hb dX9_split_191 (lv_at hl 4 rfl) ?_
  refine lv_if_ge (tgt := 209) hx hb dX9_split_193 (by decide) (fun c30 => ?_) (fun c30 => ?_)
  · have h := ifT c30 h
    exact tX9_split_209 C hA hk25 hk35 h hP hD hS (lv_sub hl [0, 1, 3] rfl)
  · have h := ifF c30 h
    refine lv_aload_n hx hb dX9_split_196 rfl (lv_at hl 0 rfl) ?_
    refine M_gt37 C hP dX9_split_197 ?_
    refine lv_iload_n hx hb dX9_split_200 rfl (lv_at hl 3 rfl) ?_
    obtain ⟨g31, h⟩ := grd_s h
    refine M_ld37 C hP g31 dX9_split_201 ?_
    refine lv_if_ne (tgt := 209) hx hb dX9_split_202 (by decide) (fun c32 => ?_) (fun c32 => ?_)
    · have h := ifF c32 h
      exact tX9_split_209 C hA hk25 hk35 h hP hD hS (lv_sub hl [0, 1, 3] rfl)
    · have h := ifT c32 h
      refine lv_iconst (v := (1 : Int32)) hx hb dX9_split_205 (by decide) ?_
      refine lv_goto (tgt := 210) hx hb dX9_split_206 (by decide) ?_
      exact tX9_split_210 C hA hk25 hk35 h hP hD hS (lv_sub hl [0, 1, 3] rfl)
set_option maxHeartbeats 4000000 in
set_option maxRecDepth 100000 in
theorem tX9_split_168 {p : Program} {l : Launch} {e : Env} {s : State} {m : MethodId} {args : Array Value} {below : List Frame} {meth : Method} {c : Code} {D : va_G} {a : Nat → Nat} {cc : Nat → ClassId} {A : Nat → Prop} {N : Nat} {σr : St} {k25 : St → Int32 → Option St} {k35 : St → Int32 → Int32 → Int32 → Option St} (C : M_Cx RX9 p s m args meth c D cc cX9_split (Cond.code yX9_split cX9_split 8 none :: WM) 8 none) (hA : ∀ q, s.heap.size ≤ q → A q) (hk25 : ∀ {σ : St} {x1 : Int32} {H : Heap} {locs : List Loc} {ls : Array Slot}, k25 σ x1 = some σr → va_P D vwCl (wM a cc σ) H → va_D A (wM a cc σ) → va_S A s.heap H locs → lv_has ls 8 [(0, .ref (a 0)), (1, .int x1)] → W p l e rmX9_split s m args below meth c H locs 0 0 (M_Mv D a cc A below args s σr) (F0 m 25 ls [])) (hk35 : ∀ {σ : St} {x1 : Int32} {x2 : Int32} {x3 : Int32} {H : Heap} {locs : List Loc} {ls : Array Slot}, k35 σ x1 x2 x3 = some σr → va_P D vwCl (wM a cc σ) H → va_D A (wM a cc σ) → va_S A s.heap H locs → lv_has ls 8 [(0, .ref (a 0)), (1, .int x1), (2, .int x2), (3, .int x3)] → W p l e rmX9_split s m args below meth c H locs 0 0 (M_Mv D a cc A below args s σr) (F0 m 35 ls [])) {σ : St} {x1 : Int32} {x2 : Int32} {x3 : Int32} {x4 : Int32} {H : Heap} {locs : List Loc} {ls : Array Slot} (h : fX9_split_168 N k25 k35 σ x1 x2 x3 x4 = some σr) : va_P D vwCl (wM a cc σ) H → va_D A (wM a cc σ) → va_S A s.heap H locs → lv_has ls 8 [(0, .ref (a 0)), (1, .int x1), (2, .int x2), (3, .int x3), (4, .int x4)] → W p l e rmX9_split s m args below meth c H locs 0 0 (M_Mv D a cc A below args s σr) (F0 m 168 ls []) := by
  obtain ⟨hx, hb, hr, hml, hown, hts, hin, hK, hlocks⟩ := id C
  intro hP hD hS hl
  refine lv_aload_n hx hb dX9_split_168 rfl (lv_at hl 0 rfl) ?_
  refine M_gt39 C hP dX9_split_169 ?_
  refine lv_iload_n hx hb dX9_split_172 rfl (lv_at hl 3 rfl) ?_
  refine lv_iload hx hb dX9_split_173 (lv_at hl 4 rfl) ?_
  refine lv_if_ge (tgt := 182) hx hb dX9_split_175 (by decide) (fun c26 => ?_) (fun c26 => ?_)
  · have h := ifT c26 h
    refine lv_aload_n hx hb dX9_split_182 rfl (lv_at hl 0 rfl) ?_
    refine M_gt39 C hP dX9_split_183 ?_
    refine lv_iload hx hb dX9_split_186 (lv_at hl 4 rfl) ?_
    obtain ⟨g27, h⟩ := grd_s h
    refine M_ld39 C hP g27 dX9_split_188 ?_
    exact tX9_split_189 C hA hk25 hk35 h hP hD hS (lv_sub hl [0, 1, 2, 3, 4] rfl)
  · have h := ifF c26 h
    refine lv_iload_n hx hb dX9_split_178 rfl (lv_at hl 2 rfl) ?_
    refine lv_goto (tgt := 189) hx hb dX9_split_179 (by decide) ?_
    exact tX9_split_189 C hA hk25 hk35 h hP hD hS (lv_sub hl [0, 1, 2, 3, 4] rfl)
set_option maxHeartbeats 4000000 in
set_option maxRecDepth 100000 in
theorem tX9_split_49 {p : Program} {l : Launch} {e : Env} {s : State} {m : MethodId} {args : Array Value} {below : List Frame} {meth : Method} {c : Code} {D : va_G} {a : Nat → Nat} {cc : Nat → ClassId} {A : Nat → Prop} {N : Nat} {σr : St} {k25 : St → Int32 → Option St} {k35 : St → Int32 → Int32 → Int32 → Option St} (C : M_Cx RX9 p s m args meth c D cc cX9_split (Cond.code yX9_split cX9_split 8 none :: WM) 8 none) (hA : ∀ q, s.heap.size ≤ q → A q) (hk25 : ∀ {σ : St} {x1 : Int32} {H : Heap} {locs : List Loc} {ls : Array Slot}, k25 σ x1 = some σr → va_P D vwCl (wM a cc σ) H → va_D A (wM a cc σ) → va_S A s.heap H locs → lv_has ls 8 [(0, .ref (a 0)), (1, .int x1)] → W p l e rmX9_split s m args below meth c H locs 0 0 (M_Mv D a cc A below args s σr) (F0 m 25 ls [])) (hk35 : ∀ {σ : St} {x1 : Int32} {x2 : Int32} {x3 : Int32} {H : Heap} {locs : List Loc} {ls : Array Slot}, k35 σ x1 x2 x3 = some σr → va_P D vwCl (wM a cc σ) H → va_D A (wM a cc σ) → va_S A s.heap H locs → lv_has ls 8 [(0, .ref (a 0)), (1, .int x1), (2, .int x2), (3, .int x3)] → W p l e rmX9_split s m args below meth c H locs 0 0 (M_Mv D a cc A below args s σr) (F0 m 35 ls [])) : ∀ (n : Nat) {σ : St} {x1 : Int32} {x2 : Int32} {x3 : Int32} {x4 : Int32} {x5 : Int32} {H : Heap} {locs : List Loc} {ls : Array Slot}, fX9_split_49 N k25 k35 n σ x1 x2 x3 x4 x5 = some σr → va_P D vwCl (wM a cc σ) H → va_D A (wM a cc σ) → va_S A s.heap H locs → lv_has ls 8 [(0, .ref (a 0)), (1, .int x1), (2, .int x2), (3, .int x3), (4, .int x4), (5, .int x5)] → W p l e rmX9_split s m args below meth c H locs 0 0 (M_Mv D a cc A below args s σr) (F0 m 49 ls []) := by
  obtain ⟨hx, hb, hr, hml, hown, hts, hin, hK, hlocks⟩ := id C
  intro n
  induction n with
  | zero => intro σ x1 x2 x3 x4 x5 H locs ls h; exact none_s h
  | succ n ih =>
    intro σ x1 x2 x3 x4 x5 H locs ls h hP hD hS hl
    refine lv_iload hx hb dX9_split_49 (lv_at hl 5 rfl) ?_
    refine lv_iload_n hx hb dX9_split_51 rfl (lv_at hl 3 rfl) ?_
    refine lv_icmp_ge (tgt := 168) hx hb dX9_split_52 (by decide) (fun c7 => ?_) (fun c7 => ?_)
    · have h := ifT c7 h
      exact tX9_split_168 C hA hk25 hk35 h hP hD hS (lv_sub hl [0, 1, 2, 3, 4] rfl)
    · have h := ifF c7 h
      refine lv_iload hx hb dX9_split_55 (lv_at hl 4 rfl) ?_
      refine lv_if_ge (tgt := 168) hx hb dX9_split_57 (by decide) (fun c8 => ?_) (fun c8 => ?_)
      · have h := ifT c8 h
        exact tX9_split_168 C hA hk25 hk35 h hP hD hS (lv_sub hl [0, 1, 2, 3, 4] rfl)
      · have h := ifF c8 h
        refine lv_aload_n hx hb dX9_split_60 rfl (lv_at hl 0 rfl) ?_
        refine M_gt37 C hP dX9_split_61 ?_
        refine lv_iload_n hx hb dX9_split_64 rfl (lv_at hl 3 rfl) ?_
        obtain ⟨g9, h⟩ := grd_s h
        refine M_ld37 C hP g9 dX9_split_65 ?_
        refine lv_if_ne (tgt := 168) hx hb dX9_split_66 (by decide) (fun c10 => ?_) (fun c10 => ?_)
        · have h := ifF c10 h
          exact tX9_split_168 C hA hk25 hk35 h hP hD hS (lv_sub hl [0, 1, 2, 3, 4] rfl)
        · have h := ifT c10 h
          refine lv_aload_n hx hb dX9_split_69 rfl (lv_at hl 0 rfl) ?_
          refine M_gt37 C hP dX9_split_70 ?_
          refine lv_iload hx hb dX9_split_73 (lv_at hl 5 rfl) ?_
          obtain ⟨g11, h⟩ := grd_s h
          refine M_ld37 C hP g11 dX9_split_75 ?_
          refine lv_if_ne (tgt := 99) hx hb dX9_split_76 (by decide) (fun c12 => ?_) (fun c12 => ?_)
          · have h := ifF c12 h
            exact tX9_split_99 C hA hk25 hk35 ih h hP hD hS (lv_sub hl [0, 1, 2, 3, 4, 5] rfl)
          · have h := ifT c12 h
            refine lv_aload_n hx hb dX9_split_79 rfl (lv_at hl 0 rfl) ?_
            refine M_gt38 C hP dX9_split_80 ?_
            refine lv_iload_n hx hb dX9_split_83 rfl (lv_at hl 3 rfl) ?_
            obtain ⟨g13, h⟩ := grd_s h
            refine M_ld38 C hP g13 dX9_split_84 ?_
            refine lv_aload_n hx hb dX9_split_85 rfl (lv_at hl 0 rfl) ?_
            refine M_gt38 C hP dX9_split_86 ?_
            refine lv_iload hx hb dX9_split_89 (lv_at hl 5 rfl) ?_
            obtain ⟨g14, h⟩ := grd_s h
            refine M_ld38 C hP g14 dX9_split_91 ?_
            refine lv_icmp_ne (tgt := 99) hx hb dX9_split_92 (by decide) (fun c15 => ?_) (fun c15 => ?_)
            · have h := ifF c15 h
              exact tX9_split_99 C hA hk25 hk35 ih h hP hD hS (lv_sub hl [0, 1, 2, 3, 4, 5] rfl)
            · have h := ifT c15 h
              refine lv_iconst (v := (1 : Int32)) hx hb dX9_split_95 (by decide) ?_
              refine lv_goto (tgt := 100) hx hb dX9_split_96 (by decide) ?_
              exact tX9_split_100 C hA hk25 hk35 ih h hP hD hS (lv_sub hl [0, 1, 2, 3, 4, 5] rfl)
set_option maxHeartbeats 4000000 in
set_option maxRecDepth 100000 in
theorem tX9_split_220 {p : Program} {l : Launch} {e : Env} {s : State} {m : MethodId} {args : Array Value} {below : List Frame} {meth : Method} {c : Code} {D : va_G} {a : Nat → Nat} {cc : Nat → ClassId} {A : Nat → Prop} {N : Nat} {σr : St} {k25 : St → Int32 → Option St} (C : M_Cx RX9 p s m args meth c D cc cX9_split (Cond.code yX9_split cX9_split 8 none :: WM) 8 none) (hA : ∀ q, s.heap.size ≤ q → A q) (hk25 : ∀ {σ : St} {x1 : Int32} {H : Heap} {locs : List Loc} {ls : Array Slot}, k25 σ x1 = some σr → va_P D vwCl (wM a cc σ) H → va_D A (wM a cc σ) → va_S A s.heap H locs → lv_has ls 8 [(0, .ref (a 0)), (1, .int x1)] → W p l e rmX9_split s m args below meth c H locs 0 0 (M_Mv D a cc A below args s σr) (F0 m 25 ls [])) : ∀ (n : Nat) {σ : St} {x1 : Int32} {x3 : Int32} {H : Heap} {locs : List Loc} {ls : Array Slot}, fX9_split_220 N k25 n σ x1 x3 = some σr → va_P D vwCl (wM a cc σ) H → va_D A (wM a cc σ) → va_S A s.heap H locs → lv_has ls 8 [(0, .ref (a 0)), (1, .int x1), (3, .int x3)] → W p l e rmX9_split s m args below meth c H locs 0 0 (M_Mv D a cc A below args s σr) (F0 m 220 ls []) := by
  obtain ⟨hx, hb, hr, hml, hown, hts, hin, hK, hlocks⟩ := id C
  intro n
  induction n with
  | zero => intro σ x1 x3 H locs ls h; exact none_s h
  | succ n ih =>
    intro σ x1 x3 H locs ls h hP hD hS hl
    refine lv_iload_n hx hb dX9_split_220 rfl (lv_at hl 2 rfl) ?_
    refine lv_aload_n hx hb dX9_split_221 rfl (lv_at hl 0 rfl) ?_
    refine M_gt34 C hP dX9_split_222 ?_
    refine lv_icmp_ge (tgt := 246) hx hb dX9_split_225 (by decide) (fun c35 => ?_) (fun c35 => ?_)
    · have h := ifT c35 h
      obtain ⟨u36, eu36, h⟩ := letS_n h
      refine lv_iinc (v := u36) (lv' := [(1, .int u36), (0, .ref (a 0)), (3, .int x3)]) hx hb dX9_split_246 hl (k := 1) rfl (by rw [eu36]; rfl) (by decide) rfl (fun ls hl => ?_)
      refine lv_goto (tgt := 25) hx hb dX9_split_249 (by decide) ?_
      exact hk25 h hP hD hS (lv_sub hl [1, 0] rfl)
    · have h := ifF c35 h
      refine lv_aload_n hx hb dX9_split_228 rfl (lv_at hl 0 rfl) ?_
      refine M_gt38 C hP dX9_split_229 ?_
      refine lv_iload_n hx hb dX9_split_232 rfl (lv_at hl 2 rfl) ?_
      refine lv_aload_n hx hb dX9_split_233 rfl (lv_at hl 0 rfl) ?_
      refine M_gt39 C hP dX9_split_234 ?_
      refine lv_iload_n hx hb dX9_split_237 rfl (lv_at hl 2 rfl) ?_
      obtain ⟨g37, h⟩ := grd_s h
      refine M_ld39 C hP g37 dX9_split_238 ?_
      obtain ⟨g38, h⟩ := grd_s h
      obtain ⟨σ39, eσ39, h⟩ := letS_n h
      refine M_st38 C hP hD hS g38 eσ39 dX9_split_239 (fun H locs hP hD hS => ?_)
      obtain ⟨u40, eu40, h⟩ := letS_n h
      refine lv_iinc (v := u40) (lv' := [(3, .int u40), (0, .ref (a 0)), (1, .int x1)]) hx hb dX9_split_240 hl (k := 2) rfl (by rw [eu40]; rfl) (by decide) rfl (fun ls hl => ?_)
      refine lv_goto (tgt := 220) hx hb dX9_split_243 (by decide) ?_
      exact ih h hP hD hS (lv_sub hl [1, 2, 0] rfl)
set_option maxHeartbeats 4000000 in
set_option maxRecDepth 100000 in
theorem tX9_split_35 {p : Program} {l : Launch} {e : Env} {s : State} {m : MethodId} {args : Array Value} {below : List Frame} {meth : Method} {c : Code} {D : va_G} {a : Nat → Nat} {cc : Nat → ClassId} {A : Nat → Prop} {N : Nat} {σr : St} {k25 : St → Int32 → Option St} (C : M_Cx RX9 p s m args meth c D cc cX9_split (Cond.code yX9_split cX9_split 8 none :: WM) 8 none) (hA : ∀ q, s.heap.size ≤ q → A q) (hk25 : ∀ {σ : St} {x1 : Int32} {H : Heap} {locs : List Loc} {ls : Array Slot}, k25 σ x1 = some σr → va_P D vwCl (wM a cc σ) H → va_D A (wM a cc σ) → va_S A s.heap H locs → lv_has ls 8 [(0, .ref (a 0)), (1, .int x1)] → W p l e rmX9_split s m args below meth c H locs 0 0 (M_Mv D a cc A below args s σr) (F0 m 25 ls [])) : ∀ (n : Nat) {σ : St} {x1 : Int32} {x2 : Int32} {x3 : Int32} {H : Heap} {locs : List Loc} {ls : Array Slot}, fX9_split_35 N k25 n σ x1 x2 x3 = some σr → va_P D vwCl (wM a cc σ) H → va_D A (wM a cc σ) → va_S A s.heap H locs → lv_has ls 8 [(0, .ref (a 0)), (1, .int x1), (2, .int x2), (3, .int x3)] → W p l e rmX9_split s m args below meth c H locs 0 0 (M_Mv D a cc A below args s σr) (F0 m 35 ls []) := by
  obtain ⟨hx, hb, hr, hml, hown, hts, hin, hK, hlocks⟩ := id C
  intro n
  induction n with
  | zero => intro σ x1 x2 x3 H locs ls h; exact none_s h
  | succ n ih =>
    intro σ x1 x2 x3 H locs ls h hP hD hS hl
    refine lv_iload_n hx hb dX9_split_35 rfl (lv_at hl 3 rfl) ?_
    refine lv_aload_n hx hb dX9_split_36 rfl (lv_at hl 0 rfl) ?_
    refine M_gt34 C hP dX9_split_37 ?_
    refine lv_icmp_ge (tgt := 218) hx hb dX9_split_40 (by decide) (fun c6 => ?_) (fun c6 => ?_)
    · have h := ifT c6 h
      refine lv_iconst (v := (0 : Int32)) hx hb dX9_split_218 (by decide) ?_
      refine lv_istore_n (lv' := [(3, .int (0 : Int32)), (0, .ref (a 0)), (1, .int x1), (2, .int x2)]) hx hb dX9_split_219 rfl hl (by decide) rfl (fun ls hl => ?_)
      exact tX9_split_220 C hA hk25 N h hP hD hS (lv_sub hl [1, 2, 0] rfl)
    · have h := ifF c6 h
      refine lv_iconst (v := (-1 : Int32)) hx hb dX9_split_43 (by decide) ?_
      refine lv_istore (lv' := [(4, .int (-1 : Int32)), (0, .ref (a 0)), (1, .int x1), (2, .int x2), (3, .int x3)]) hx hb dX9_split_44 hl (by decide) rfl (fun ls hl => ?_)
      refine lv_iconst (v := (0 : Int32)) hx hb dX9_split_46 (by decide) ?_
      refine lv_istore (lv' := [(5, .int (0 : Int32)), (4, .int (-1 : Int32)), (0, .ref (a 0)), (1, .int x1), (2, .int x2), (3, .int x3)]) hx hb dX9_split_47 hl (by decide) rfl (fun ls hl => ?_)
      exact tX9_split_49 C hA hk25 ih N h hP hD hS (lv_sub hl [2, 3, 4, 5, 1, 0] rfl)
set_option maxHeartbeats 4000000 in
set_option maxRecDepth 100000 in
theorem tX9_split_25 {p : Program} {l : Launch} {e : Env} {s : State} {m : MethodId} {args : Array Value} {below : List Frame} {meth : Method} {c : Code} {D : va_G} {a : Nat → Nat} {cc : Nat → ClassId} {A : Nat → Prop} {N : Nat} {σr : St} (C : M_Cx RX9 p s m args meth c D cc cX9_split (Cond.code yX9_split cX9_split 8 none :: WM) 8 none) (hA : ∀ q, s.heap.size ≤ q → A q) : ∀ (n : Nat) {σ : St} {x1 : Int32} {H : Heap} {locs : List Loc} {ls : Array Slot}, fX9_split_25 N n σ x1 = some σr → va_P D vwCl (wM a cc σ) H → va_D A (wM a cc σ) → va_S A s.heap H locs → lv_has ls 8 [(0, .ref (a 0)), (1, .int x1)] → W p l e rmX9_split s m args below meth c H locs 0 0 (M_Mv D a cc A below args s σr) (F0 m 25 ls []) := by
  obtain ⟨hx, hb, hr, hml, hown, hts, hin, hK, hlocks⟩ := id C
  intro n
  induction n with
  | zero => intro σ x1 H locs ls h; exact none_s h
  | succ n ih =>
    intro σ x1 H locs ls h hP hD hS hl
    refine lv_iload_n hx hb dX9_split_25 rfl (lv_at hl 1 rfl) ?_
    refine lv_bipush (v := (40 : Int32)) hx hb dX9_split_26 (by decide) ?_
    refine lv_icmp_ge (tgt := 252) hx hb dX9_split_28 (by decide) (fun c5 => ?_) (fun c5 => ?_)
    · have h := ifT c5 h
      exact M_vret C h hP hD hS dX9_split_252
    · have h := ifF c5 h
      refine lv_iconst (v := (0 : Int32)) hx hb dX9_split_31 (by decide) ?_
      refine lv_istore_n (lv' := [(2, .int (0 : Int32)), (0, .ref (a 0)), (1, .int x1)]) hx hb dX9_split_32 rfl hl (by decide) rfl (fun ls hl => ?_)
      refine lv_iconst (v := (0 : Int32)) hx hb dX9_split_33 (by decide) ?_
      refine lv_istore_n (lv' := [(3, .int (0 : Int32)), (2, .int (0 : Int32)), (0, .ref (a 0)), (1, .int x1)]) hx hb dX9_split_34 rfl hl (by decide) rfl (fun ls hl => ?_)
      exact tX9_split_35 C hA ih N h hP hD hS (lv_sub hl [2, 3, 1, 0] rfl)
set_option maxHeartbeats 4000000 in
set_option maxRecDepth 100000 in
theorem tX9_split_2 {p : Program} {l : Launch} {e : Env} {s : State} {m : MethodId} {args : Array Value} {below : List Frame} {meth : Method} {c : Code} {D : va_G} {a : Nat → Nat} {cc : Nat → ClassId} {A : Nat → Prop} {N : Nat} {σr : St} (C : M_Cx RX9 p s m args meth c D cc cX9_split (Cond.code yX9_split cX9_split 8 none :: WM) 8 none) (hA : ∀ q, s.heap.size ≤ q → A q) : ∀ (n : Nat) {σ : St} {x1 : Int32} {H : Heap} {locs : List Loc} {ls : Array Slot}, fX9_split_2 N n σ x1 = some σr → va_P D vwCl (wM a cc σ) H → va_D A (wM a cc σ) → va_S A s.heap H locs → lv_has ls 8 [(0, .ref (a 0)), (1, .int x1)] → W p l e rmX9_split s m args below meth c H locs 0 0 (M_Mv D a cc A below args s σr) (F0 m 2 ls []) := by
  obtain ⟨hx, hb, hr, hml, hown, hts, hin, hK, hlocks⟩ := id C
  intro n
  induction n with
  | zero => intro σ x1 H locs ls h; exact none_s h
  | succ n ih =>
    intro σ x1 H locs ls h hP hD hS hl
    refine lv_iload_n hx hb dX9_split_2 rfl (lv_at hl 1 rfl) ?_
    refine lv_aload_n hx hb dX9_split_3 rfl (lv_at hl 0 rfl) ?_
    refine M_gt34 C hP dX9_split_4 ?_
    refine lv_icmp_ge (tgt := 23) hx hb dX9_split_7 (by decide) (fun c1 => ?_) (fun c1 => ?_)
    · have h := ifT c1 h
      refine lv_iconst (v := (0 : Int32)) hx hb dX9_split_23 (by decide) ?_
      refine lv_istore_n (lv' := [(1, .int (0 : Int32)), (0, .ref (a 0))]) hx hb dX9_split_24 rfl hl (by decide) rfl (fun ls hl => ?_)
      exact tX9_split_25 C hA N h hP hD hS (lv_sub hl [1, 0] rfl)
    · have h := ifF c1 h
      refine lv_aload_n hx hb dX9_split_10 rfl (lv_at hl 0 rfl) ?_
      refine M_gt38 C hP dX9_split_11 ?_
      refine lv_iload_n hx hb dX9_split_14 rfl (lv_at hl 1 rfl) ?_
      refine lv_iconst (v := (0 : Int32)) hx hb dX9_split_15 (by decide) ?_
      obtain ⟨g2, h⟩ := grd_s h
      obtain ⟨σ3, eσ3, h⟩ := letS_n h
      refine M_st38 C hP hD hS g2 eσ3 dX9_split_16 (fun H locs hP hD hS => ?_)
      obtain ⟨u4, eu4, h⟩ := letS_n h
      refine lv_iinc (v := u4) (lv' := [(1, .int u4), (0, .ref (a 0))]) hx hb dX9_split_17 hl (k := 1) rfl (by rw [eu4]; rfl) (by decide) rfl (fun ls hl => ?_)
      refine lv_goto (tgt := 2) hx hb dX9_split_20 (by decide) ?_
      exact ih h hP hD hS (lv_sub hl [1, 0] rfl)
set_option maxHeartbeats 4000000 in
set_option maxRecDepth 100000 in
theorem tX9_split {p : Program} {l : Launch} {e : Env} {s : State} {m : MethodId} {args : Array Value} {below : List Frame} {meth : Method} {c : Code} {D : va_G} {a : Nat → Nat} {cc : Nat → ClassId} {A : Nat → Prop} {N : Nat} {σr : St} (C : M_Cx RX9 p s m args meth c D cc cX9_split (Cond.code yX9_split cX9_split 8 none :: WM) 8 none) (hA : ∀ q, s.heap.size ≤ q → A q) {σ : St} {H : Heap} {locs : List Loc} {ls : Array Slot} (h : fX9_split N σ = some σr) : va_P D vwCl (wM a cc σ) H → va_D A (wM a cc σ) → va_S A s.heap H locs → lv_has ls 8 [(0, .ref (a 0))] → W p l e rmX9_split s m args below meth c H locs 0 0 (M_Mv D a cc A below args s σr) (F0 m 0 ls []) := by
  obtain ⟨hx, hb, hr, hml, hown, hts, hin, hK, hlocks⟩ := id C
  intro hP hD hS hl
  refine lv_iconst (v := (0 : Int32)) hx hb dX9_split_0 (by decide) ?_
  refine lv_istore_n (lv' := [(1, .int (0 : Int32)), (0, .ref (a 0))]) hx hb dX9_split_1 rfl hl (by decide) rfl (fun ls hl => ?_)
  exact tX9_split_2 C hA N h hP hD hS (lv_sub hl [1, 0] rfl)
set_option maxRecDepth 100000 in
theorem kX9_split (l : Launch) (sz : Nat) {D : va_G} {a : Nat → Nat} {cc : Nat → ClassId} {N : Nat} {σr : St} {σ : St} (h : fX9_split N σ = some σr) : Met l yX9_split ((Cond.code yX9_split cX9_split 8 none :: WM)) rmX9_split (M_Pc D a cc [.ref (a 0)] σ sz) (M_Qv D a cc σ sz σr) 0 0 (va_A (wM a cc σ) sz) := by
  refine Met.ofW (cc := cX9_split) (maxL := 8) (ret := none) (by decide) rfl ?_
  intro p e s m args below meth c s₁ B hml hv
  obtain ⟨rfl, hsz, hP, hK, hD0⟩ := hv
  subst hsz
  have hl := lv_entry ([.ref (a 0)]) (n := 8) (Nat.le_of_ble_eq_true rfl)
  rw [lg_entry_eq]
  generalize (lg_sl ([.ref (a 0)]) ++ List.replicate (8 - (lg_sl ([.ref (a 0)])).length) Slot.unset).toArray = ls at hl ⊢
  exact tX9_split ⟨B.exec, B.bytes, B.returns, hml, findClass_of_methodNamed B.named, atoms_spec (ws := (Cond.code yX9_split cX9_split 8 none :: WM)) B.pre, (fun w h => List.mem_cons_of_mem _ (inWM w h)), hK, B.notSynchronized⟩ (fun q h => Or.inr h) h hP hD0.self va_S.rf hl
set_option maxHeartbeats 4000000 in
set_option maxRecDepth 100000 in
theorem tX9_number_89 {p : Program} {l : Launch} {e : Env} {s : State} {m : MethodId} {args : Array Value} {below : List Frame} {meth : Method} {c : Code} {D : va_G} {a : Nat → Nat} {cc : Nat → ClassId} {A : Nat → Prop} {N : Nat} {σr : St} {k55 : St → Int32 → Option St} {k65 : St → Int32 → Int32 → Option St} (C : M_Cx RX9 p s m args meth c D cc cX9_number (Cond.code yX9_number cX9_number 5 none :: WM) 5 none) (hA : ∀ q, s.heap.size ≤ q → A q) (hk55 : ∀ {σ : St} {x1 : Int32} {H : Heap} {locs : List Loc} {ls : Array Slot}, k55 σ x1 = some σr → va_P D vwCl (wM a cc σ) H → va_D A (wM a cc σ) → va_S A s.heap H locs → lv_has ls 5 [(0, .ref (a 0)), (1, .int x1)] → W p l e rmX9_number s m args below meth c H locs 0 0 (M_Mv D a cc A below args s σr) (F0 m 55 ls [])) (hk65 : ∀ {σ : St} {x1 : Int32} {x2 : Int32} {H : Heap} {locs : List Loc} {ls : Array Slot}, k65 σ x1 x2 = some σr → va_P D vwCl (wM a cc σ) H → va_D A (wM a cc σ) → va_S A s.heap H locs → lv_has ls 5 [(0, .ref (a 0)), (1, .int x1), (2, .int x2)] → W p l e rmX9_number s m args below meth c H locs 0 0 (M_Mv D a cc A below args s σr) (F0 m 65 ls [])) {σ : St} {x1 : Int32} {x2 : Int32} {H : Heap} {locs : List Loc} {ls : Array Slot} (h : fX9_number_89 N k55 k65 σ x1 x2 = some σr) : va_P D vwCl (wM a cc σ) H → va_D A (wM a cc σ) → va_S A s.heap H locs → lv_has ls 5 [(0, .ref (a 0)), (1, .int x1), (2, .int x2)] → W p l e rmX9_number s m args below meth c H locs 0 0 (M_Mv D a cc A below args s σr) (F0 m 89 ls []) := by
  obtain ⟨hx, hb, hr, hml, hown, hts, hin, hK, hlocks⟩ := id C
  intro hP hD hS hl
  obtain ⟨u33, eu33, h⟩ := letS_n h
  refine lv_iinc (v := u33) (lv' := [(2, .int u33), (0, .ref (a 0)), (1, .int x1)]) hx hb dX9_number_89 hl (k := 2) rfl (by rw [eu33]; rfl) (by decide) rfl (fun ls hl => ?_)
  refine lv_goto (tgt := 65) hx hb dX9_number_92 (by decide) ?_
  exact hk65 h hP hD hS (lv_sub hl [1, 2, 0] rfl)
set_option maxHeartbeats 4000000 in
set_option maxRecDepth 100000 in
theorem tX9_number_173 {p : Program} {l : Launch} {e : Env} {s : State} {m : MethodId} {args : Array Value} {below : List Frame} {meth : Method} {c : Code} {D : va_G} {a : Nat → Nat} {cc : Nat → ClassId} {A : Nat → Prop} {N : Nat} {σr : St} {k55 : St → Int32 → Option St} {k97 : St → Int32 → Int32 → Int32 → Option St} (C : M_Cx RX9 p s m args meth c D cc cX9_number (Cond.code yX9_number cX9_number 5 none :: WM) 5 none) (hA : ∀ q, s.heap.size ≤ q → A q) (hk55 : ∀ {σ : St} {x1 : Int32} {H : Heap} {locs : List Loc} {ls : Array Slot}, k55 σ x1 = some σr → va_P D vwCl (wM a cc σ) H → va_D A (wM a cc σ) → va_S A s.heap H locs → lv_has ls 5 [(0, .ref (a 0)), (1, .int x1)] → W p l e rmX9_number s m args below meth c H locs 0 0 (M_Mv D a cc A below args s σr) (F0 m 55 ls [])) (hk97 : ∀ {σ : St} {x1 : Int32} {x2 : Int32} {x3 : Int32} {H : Heap} {locs : List Loc} {ls : Array Slot}, k97 σ x1 x2 x3 = some σr → va_P D vwCl (wM a cc σ) H → va_D A (wM a cc σ) → va_S A s.heap H locs → lv_has ls 5 [(0, .ref (a 0)), (1, .int x1), (2, .int x2), (3, .int x3)] → W p l e rmX9_number s m args below meth c H locs 0 0 (M_Mv D a cc A below args s σr) (F0 m 97 ls [])) {σ : St} {x1 : Int32} {x2 : Int32} {x3 : Int32} {y0 : Int32} {y1 : Int32} {H : Heap} {locs : List Loc} {ls : Array Slot} (h : fX9_number_173 N k55 k97 σ x1 x2 x3 y0 y1 = some σr) : va_P D vwCl (wM a cc σ) H → va_D A (wM a cc σ) → va_S A s.heap H locs → lv_has ls 5 [(0, .ref (a 0)), (1, .int x1), (2, .int x2), (3, .int x3)] → W p l e rmX9_number s m args below meth c H locs 0 0 (M_Mv D a cc A below args s σr) (F0 m 173 ls [.int y0, .int y1, .ref (a 45)]) := by
  obtain ⟨hx, hb, hr, hml, hown, hts, hin, hK, hlocks⟩ := id C
  intro hP hD hS hl
  obtain ⟨g30, h⟩ := grd_s h
  obtain ⟨σ31, eσ31, h⟩ := letS_n h
  refine M_st45 C hP hD hS g30 eσ31 dX9_number_173 (fun H locs hP hD hS => ?_)
  obtain ⟨u32, eu32, h⟩ := letS_n h
  refine lv_iinc (v := u32) (lv' := [(3, .int u32), (0, .ref (a 0)), (1, .int x1), (2, .int x2)]) hx hb dX9_number_174 hl (k := 3) rfl (by rw [eu32]; rfl) (by decide) rfl (fun ls hl => ?_)
  refine lv_goto (tgt := 97) hx hb dX9_number_177 (by decide) ?_
  exact hk97 h hP hD hS (lv_sub hl [1, 2, 3, 0] rfl)
set_option maxHeartbeats 4000000 in
set_option maxRecDepth 100000 in
theorem tX9_number_147 {p : Program} {l : Launch} {e : Env} {s : State} {m : MethodId} {args : Array Value} {below : List Frame} {meth : Method} {c : Code} {D : va_G} {a : Nat → Nat} {cc : Nat → ClassId} {A : Nat → Prop} {N : Nat} {σr : St} {k55 : St → Int32 → Option St} {k97 : St → Int32 → Int32 → Int32 → Option St} (C : M_Cx RX9 p s m args meth c D cc cX9_number (Cond.code yX9_number cX9_number 5 none :: WM) 5 none) (hA : ∀ q, s.heap.size ≤ q → A q) (hk55 : ∀ {σ : St} {x1 : Int32} {H : Heap} {locs : List Loc} {ls : Array Slot}, k55 σ x1 = some σr → va_P D vwCl (wM a cc σ) H → va_D A (wM a cc σ) → va_S A s.heap H locs → lv_has ls 5 [(0, .ref (a 0)), (1, .int x1)] → W p l e rmX9_number s m args below meth c H locs 0 0 (M_Mv D a cc A below args s σr) (F0 m 55 ls [])) (hk97 : ∀ {σ : St} {x1 : Int32} {x2 : Int32} {x3 : Int32} {H : Heap} {locs : List Loc} {ls : Array Slot}, k97 σ x1 x2 x3 = some σr → va_P D vwCl (wM a cc σ) H → va_D A (wM a cc σ) → va_S A s.heap H locs → lv_has ls 5 [(0, .ref (a 0)), (1, .int x1), (2, .int x2), (3, .int x3)] → W p l e rmX9_number s m args below meth c H locs 0 0 (M_Mv D a cc A below args s σr) (F0 m 97 ls [])) {σ : St} {x1 : Int32} {x2 : Int32} {x3 : Int32} {x4 : Int32} {H : Heap} {locs : List Loc} {ls : Array Slot} (h : fX9_number_147 N k55 k97 σ x1 x2 x3 x4 = some σr) : va_P D vwCl (wM a cc σ) H → va_D A (wM a cc σ) → va_S A s.heap H locs → lv_has ls 5 [(0, .ref (a 0)), (1, .int x1), (2, .int x2), (3, .int x3), (4, .int x4)] → W p l e rmX9_number s m args below meth c H locs 0 0 (M_Mv D a cc A below args s σr) (F0 m 147 ls []) := by
  obtain ⟨hx, hb, hr, hml, hown, hts, hin, hK, hlocks⟩ := id C
  intro hP hD hS hl
  refine lv_aload_n hx hb dX9_number_147 rfl (lv_at hl 0 rfl) ?_
  refine M_gt45 C hP dX9_number_148 ?_
  refine lv_bipush (v := (8 : Int32)) hx hb dX9_number_151 (by decide) ?_
  refine lv_iload_n hx hb dX9_number_153 rfl (lv_at hl 1 rfl) ?_
  refine lv_imul hx hb dX9_number_154 ?_
  refine lv_iload_n hx hb dX9_number_155 rfl (lv_at hl 3 rfl) ?_
  refine lv_iadd hx hb dX9_number_156 ?_
  refine lv_iload hx hb dX9_number_157 (lv_at hl 4 rfl) ?_
  refine lv_if_ge (tgt := 166) hx hb dX9_number_159 (by decide) (fun c28 => ?_) (fun c28 => ?_)
  · have h := ifT c28 h
    refine lv_aload_n hx hb dX9_number_166 rfl (lv_at hl 0 rfl) ?_
    refine M_gt39 C hP dX9_number_167 ?_
    refine lv_iload hx hb dX9_number_170 (lv_at hl 4 rfl) ?_
    obtain ⟨g29, h⟩ := grd_s h
    refine M_ld39 C hP g29 dX9_number_172 ?_
    exact tX9_number_173 C hA hk55 hk97 h hP hD hS (lv_sub hl [0, 1, 2, 3] rfl)
  · have h := ifF c28 h
    refine lv_iconst (v := (-1 : Int32)) hx hb dX9_number_162 (by decide) ?_
    refine lv_goto (tgt := 173) hx hb dX9_number_163 (by decide) ?_
    exact tX9_number_173 C hA hk55 hk97 h hP hD hS (lv_sub hl [0, 1, 2, 3] rfl)
set_option maxHeartbeats 4000000 in
set_option maxRecDepth 100000 in
theorem tX9_number_97 {p : Program} {l : Launch} {e : Env} {s : State} {m : MethodId} {args : Array Value} {below : List Frame} {meth : Method} {c : Code} {D : va_G} {a : Nat → Nat} {cc : Nat → ClassId} {A : Nat → Prop} {N : Nat} {σr : St} {k55 : St → Int32 → Option St} (C : M_Cx RX9 p s m args meth c D cc cX9_number (Cond.code yX9_number cX9_number 5 none :: WM) 5 none) (hA : ∀ q, s.heap.size ≤ q → A q) (hk55 : ∀ {σ : St} {x1 : Int32} {H : Heap} {locs : List Loc} {ls : Array Slot}, k55 σ x1 = some σr → va_P D vwCl (wM a cc σ) H → va_D A (wM a cc σ) → va_S A s.heap H locs → lv_has ls 5 [(0, .ref (a 0)), (1, .int x1)] → W p l e rmX9_number s m args below meth c H locs 0 0 (M_Mv D a cc A below args s σr) (F0 m 55 ls [])) : ∀ (n : Nat) {σ : St} {x1 : Int32} {x2 : Int32} {x3 : Int32} {H : Heap} {locs : List Loc} {ls : Array Slot}, fX9_number_97 N k55 n σ x1 x2 x3 = some σr → va_P D vwCl (wM a cc σ) H → va_D A (wM a cc σ) → va_S A s.heap H locs → lv_has ls 5 [(0, .ref (a 0)), (1, .int x1), (2, .int x2), (3, .int x3)] → W p l e rmX9_number s m args below meth c H locs 0 0 (M_Mv D a cc A below args s σr) (F0 m 97 ls []) := by
  obtain ⟨hx, hb, hr, hml, hown, hts, hin, hK, hlocks⟩ := id C
  intro n
  induction n with
  | zero => intro σ x1 x2 x3 H locs ls h; exact none_s h
  | succ n ih =>
    intro σ x1 x2 x3 H locs ls h hP hD hS hl
    refine lv_iload_n hx hb dX9_number_97 rfl (lv_at hl 3 rfl) ?_
    refine lv_bipush (v := (8 : Int32)) hx hb dX9_number_98 (by decide) ?_
    refine lv_icmp_ge (tgt := 180) hx hb dX9_number_100 (by decide) (fun c18 => ?_) (fun c18 => ?_)
    · have h := ifT c18 h
      obtain ⟨u19, eu19, h⟩ := letS_n h
      refine lv_iinc (v := u19) (lv' := [(1, .int u19), (0, .ref (a 0)), (2, .int x2), (3, .int x3)]) hx hb dX9_number_180 hl (k := 1) rfl (by rw [eu19]; rfl) (by decide) rfl (fun ls hl => ?_)
      refine lv_goto (tgt := 55) hx hb dX9_number_183 (by decide) ?_
      exact hk55 h hP hD hS (lv_sub hl [1, 0] rfl)
    · have h := ifF c18 h
      refine lv_aload_n hx hb dX9_number_103 rfl (lv_at hl 0 rfl) ?_
      refine lv_iload_n hx hb dX9_number_104 rfl (lv_at hl 2 rfl) ?_
      refine lv_iload_n hx hb dX9_number_105 rfl (lv_at hl 3 rfl) ?_
      obtain ⟨r21, σ20, hc, h⟩ := bnd_s h
      refine M_callVi (As := [.int x2, .int x3]) (rest := []) C hA (fun sz => kX9_sortAt l sz hc) gX9_sortAt hP hD hS ⟨by decide, by decide⟩ ⟨rfl, rfl⟩ rfl hl.1 rfl (lv_room (Nat.le_of_ble_eq_true rfl)) dX9_number_106 (fun H locs hP hD hS => ?_)
      refine lv_istore (lv' := [(4, .int r21), (0, .ref (a 0)), (1, .int x1), (2, .int x2), (3, .int x3)]) hx hb dX9_number_109 hl (by decide) rfl (fun ls hl => ?_)
      refine lv_iload hx hb dX9_number_111 (lv_at hl 0 rfl) ?_
      refine lv_if_lt (tgt := 147) hx hb dX9_number_113 (by decide) (fun c22 => ?_) (fun c22 => ?_)
      · have h := ifT c22 h
        exact tX9_number_147 C hA hk55 ih h hP hD hS (lv_sub hl [1, 2, 3, 4, 0] rfl)
      · have h := ifF c22 h
        refine lv_aload_n hx hb dX9_number_116 rfl (lv_at hl 1 rfl) ?_
        refine M_gt39 C hP dX9_number_117 ?_
        refine lv_iload hx hb dX9_number_120 (lv_at hl 0 rfl) ?_
        obtain ⟨g23, h⟩ := grd_s h
        refine M_ld39 C hP g23 dX9_number_122 ?_
        refine lv_if_ge (tgt := 147) hx hb dX9_number_123 (by decide) (fun c24 => ?_) (fun c24 => ?_)
        · have h := ifT c24 h
          exact tX9_number_147 C hA hk55 ih h hP hD hS (lv_sub hl [1, 2, 3, 4, 0] rfl)
        · have h := ifF c24 h
          refine lv_aload_n hx hb dX9_number_126 rfl (lv_at hl 1 rfl) ?_
          refine M_gt39 C hP dX9_number_127 ?_
          refine lv_iload hx hb dX9_number_130 (lv_at hl 0 rfl) ?_
          refine lv_aload_n hx hb dX9_number_132 rfl (lv_at hl 1 rfl) ?_
          refine M_gt40 C hP dX9_number_133 ?_
          obtain ⟨g25, h⟩ := grd_s h
          obtain ⟨σ26, eσ26, h⟩ := letS_n h
          refine M_st39 C hP hD hS g25 eσ26 dX9_number_136 (fun H locs hP hD hS => ?_)
          refine lv_aload_n hx hb dX9_number_137 rfl (lv_at hl 1 rfl) ?_
          refine lv_dup hx hb dX9_number_138 rfl ?_
          refine M_gt40 C hP dX9_number_139 ?_
          refine lv_iconst (v := (1 : Int32)) hx hb dX9_number_142 (by decide) ?_
          refine lv_iadd hx hb dX9_number_143 ?_
          obtain ⟨σ27, eσ27, h⟩ := letS_n h
          refine M_pt40 C hP hD hS eσ27 dX9_number_144 (fun H locs hP hD hS => ?_)
          exact tX9_number_147 C hA hk55 ih h hP hD hS (lv_sub hl [1, 2, 3, 4, 0] rfl)
set_option maxHeartbeats 4000000 in
set_option maxRecDepth 100000 in
theorem tX9_number_65 {p : Program} {l : Launch} {e : Env} {s : State} {m : MethodId} {args : Array Value} {below : List Frame} {meth : Method} {c : Code} {D : va_G} {a : Nat → Nat} {cc : Nat → ClassId} {A : Nat → Prop} {N : Nat} {σr : St} {k55 : St → Int32 → Option St} (C : M_Cx RX9 p s m args meth c D cc cX9_number (Cond.code yX9_number cX9_number 5 none :: WM) 5 none) (hA : ∀ q, s.heap.size ≤ q → A q) (hk55 : ∀ {σ : St} {x1 : Int32} {H : Heap} {locs : List Loc} {ls : Array Slot}, k55 σ x1 = some σr → va_P D vwCl (wM a cc σ) H → va_D A (wM a cc σ) → va_S A s.heap H locs → lv_has ls 5 [(0, .ref (a 0)), (1, .int x1)] → W p l e rmX9_number s m args below meth c H locs 0 0 (M_Mv D a cc A below args s σr) (F0 m 55 ls [])) : ∀ (n : Nat) {σ : St} {x1 : Int32} {x2 : Int32} {H : Heap} {locs : List Loc} {ls : Array Slot}, fX9_number_65 N k55 n σ x1 x2 = some σr → va_P D vwCl (wM a cc σ) H → va_D A (wM a cc σ) → va_S A s.heap H locs → lv_has ls 5 [(0, .ref (a 0)), (1, .int x1), (2, .int x2)] → W p l e rmX9_number s m args below meth c H locs 0 0 (M_Mv D a cc A below args s σr) (F0 m 65 ls []) := by
  obtain ⟨hx, hb, hr, hml, hown, hts, hin, hK, hlocks⟩ := id C
  intro n
  induction n with
  | zero => intro σ x1 x2 H locs ls h; exact none_s h
  | succ n ih =>
    intro σ x1 x2 H locs ls h hP hD hS hl
    refine lv_aload_n hx hb dX9_number_65 rfl (lv_at hl 0 rfl) ?_
    refine M_gt37 C hP dX9_number_66 ?_
    refine lv_iload_n hx hb dX9_number_69 rfl (lv_at hl 2 rfl) ?_
    obtain ⟨g13, h⟩ := grd_s h
    refine M_ld37 C hP g13 dX9_number_70 ?_
    refine lv_if_ne (tgt := 89) hx hb dX9_number_71 (by decide) (fun c14 => ?_) (fun c14 => ?_)
    · have h := ifF c14 h
      exact tX9_number_89 C hA hk55 ih h hP hD hS (lv_sub hl [0, 1, 2] rfl)
    · have h := ifT c14 h
      refine lv_aload_n hx hb dX9_number_74 rfl (lv_at hl 0 rfl) ?_
      refine M_gt39 C hP dX9_number_75 ?_
      refine lv_aload_n hx hb dX9_number_78 rfl (lv_at hl 0 rfl) ?_
      refine M_gt38 C hP dX9_number_79 ?_
      refine lv_iload_n hx hb dX9_number_82 rfl (lv_at hl 2 rfl) ?_
      obtain ⟨g15, h⟩ := grd_s h
      refine M_ld38 C hP g15 dX9_number_83 ?_
      obtain ⟨g16, h⟩ := grd_s h
      refine M_ld39 C hP g16 dX9_number_84 ?_
      refine lv_iload_n hx hb dX9_number_85 rfl (lv_at hl 1 rfl) ?_
      refine lv_icmp_eq (tgt := 95) hx hb dX9_number_86 (by decide) (fun c17 => ?_) (fun c17 => ?_)
      · have h := ifT c17 h
        refine lv_iconst (v := (0 : Int32)) hx hb dX9_number_95 (by decide) ?_
        refine lv_istore_n (lv' := [(3, .int (0 : Int32)), (0, .ref (a 0)), (1, .int x1), (2, .int x2)]) hx hb dX9_number_96 rfl hl (by decide) rfl (fun ls hl => ?_)
        exact tX9_number_97 C hA hk55 N h hP hD hS (lv_sub hl [1, 2, 3, 0] rfl)
      · have h := ifF c17 h
        exact tX9_number_89 C hA hk55 ih h hP hD hS (lv_sub hl [0, 1, 2] rfl)
set_option maxHeartbeats 4000000 in
set_option maxRecDepth 100000 in
theorem tX9_number_55 {p : Program} {l : Launch} {e : Env} {s : State} {m : MethodId} {args : Array Value} {below : List Frame} {meth : Method} {c : Code} {D : va_G} {a : Nat → Nat} {cc : Nat → ClassId} {A : Nat → Prop} {N : Nat} {σr : St} (C : M_Cx RX9 p s m args meth c D cc cX9_number (Cond.code yX9_number cX9_number 5 none :: WM) 5 none) (hA : ∀ q, s.heap.size ≤ q → A q) : ∀ (n : Nat) {σ : St} {x1 : Int32} {H : Heap} {locs : List Loc} {ls : Array Slot}, fX9_number_55 N n σ x1 = some σr → va_P D vwCl (wM a cc σ) H → va_D A (wM a cc σ) → va_S A s.heap H locs → lv_has ls 5 [(0, .ref (a 0)), (1, .int x1)] → W p l e rmX9_number s m args below meth c H locs 0 0 (M_Mv D a cc A below args s σr) (F0 m 55 ls []) := by
  obtain ⟨hx, hb, hr, hml, hown, hts, hin, hK, hlocks⟩ := id C
  intro n
  induction n with
  | zero => intro σ x1 H locs ls h; exact none_s h
  | succ n ih =>
    intro σ x1 H locs ls h hP hD hS hl
    refine lv_iload_n hx hb dX9_number_55 rfl (lv_at hl 1 rfl) ?_
    refine lv_aload_n hx hb dX9_number_56 rfl (lv_at hl 0 rfl) ?_
    refine M_gt40 C hP dX9_number_57 ?_
    refine lv_icmp_ge (tgt := 186) hx hb dX9_number_60 (by decide) (fun c12 => ?_) (fun c12 => ?_)
    · have h := ifT c12 h
      exact M_vret C h hP hD hS dX9_number_186
    · have h := ifF c12 h
      refine lv_iconst (v := (0 : Int32)) hx hb dX9_number_63 (by decide) ?_
      refine lv_istore_n (lv' := [(2, .int (0 : Int32)), (0, .ref (a 0)), (1, .int x1)]) hx hb dX9_number_64 rfl hl (by decide) rfl (fun ls hl => ?_)
      exact tX9_number_65 C hA ih N h hP hD hS (lv_sub hl [1, 2, 0] rfl)
set_option maxHeartbeats 4000000 in
set_option maxRecDepth 100000 in
theorem tX9_number_2 {p : Program} {l : Launch} {e : Env} {s : State} {m : MethodId} {args : Array Value} {below : List Frame} {meth : Method} {c : Code} {D : va_G} {a : Nat → Nat} {cc : Nat → ClassId} {A : Nat → Prop} {N : Nat} {σr : St} (C : M_Cx RX9 p s m args meth c D cc cX9_number (Cond.code yX9_number cX9_number 5 none :: WM) 5 none) (hA : ∀ q, s.heap.size ≤ q → A q) : ∀ (n : Nat) {σ : St} {x1 : Int32} {H : Heap} {locs : List Loc} {ls : Array Slot}, fX9_number_2 N n σ x1 = some σr → va_P D vwCl (wM a cc σ) H → va_D A (wM a cc σ) → va_S A s.heap H locs → lv_has ls 5 [(0, .ref (a 0)), (1, .int x1)] → W p l e rmX9_number s m args below meth c H locs 0 0 (M_Mv D a cc A below args s σr) (F0 m 2 ls []) := by
  obtain ⟨hx, hb, hr, hml, hown, hts, hin, hK, hlocks⟩ := id C
  intro n
  induction n with
  | zero => intro σ x1 H locs ls h; exact none_s h
  | succ n ih =>
    intro σ x1 H locs ls h hP hD hS hl
    refine lv_iload_n hx hb dX9_number_2 rfl (lv_at hl 1 rfl) ?_
    refine lv_bipush (v := (40 : Int32)) hx hb dX9_number_3 (by decide) ?_
    refine lv_icmp_ge (tgt := 21) hx hb dX9_number_5 (by decide) (fun c1 => ?_) (fun c1 => ?_)
    · have h := ifT c1 h
      refine lv_aload_n hx hb dX9_number_21 rfl (lv_at hl 0 rfl) ?_
      refine lv_iconst (v := (0 : Int32)) hx hb dX9_number_22 (by decide) ?_
      obtain ⟨σ2, eσ2, h⟩ := letS_n h
      refine M_pt40 C hP hD hS eσ2 dX9_number_23 (fun H locs hP hD hS => ?_)
      refine lv_aload_n hx hb dX9_number_26 rfl (lv_at hl 0 rfl) ?_
      refine M_gt37 C hP dX9_number_27 ?_
      refine lv_iconst (v := (0 : Int32)) hx hb dX9_number_30 (by decide) ?_
      obtain ⟨g3, h⟩ := grd_s h
      refine M_ld37 C hP g3 dX9_number_31 ?_
      refine lv_if_eq (tgt := 36) hx hb dX9_number_32 (by decide) (fun c4 => ?_) (fun c4 => ?_)
      · have h := ifT c4 h
        refine lv_aload_n hx hb dX9_number_36 rfl (lv_at hl 0 rfl) ?_
        refine M_gt39 C hP dX9_number_37 ?_
        refine lv_aload_n hx hb dX9_number_40 rfl (lv_at hl 0 rfl) ?_
        refine M_gt38 C hP dX9_number_41 ?_
        refine lv_iconst (v := (0 : Int32)) hx hb dX9_number_44 (by decide) ?_
        obtain ⟨g5, h⟩ := grd_s h
        refine M_ld38 C hP g5 dX9_number_45 ?_
        refine lv_iconst (v := (0 : Int32)) hx hb dX9_number_46 (by decide) ?_
        obtain ⟨g6, h⟩ := grd_s h
        obtain ⟨σ7, eσ7, h⟩ := letS_n h
        refine M_st39 C hP hD hS g6 eσ7 dX9_number_47 (fun H locs hP hD hS => ?_)
        refine lv_aload_n hx hb dX9_number_48 rfl (lv_at hl 0 rfl) ?_
        refine lv_iconst (v := (1 : Int32)) hx hb dX9_number_49 (by decide) ?_
        obtain ⟨σ8, eσ8, h⟩ := letS_n h
        refine M_pt40 C hP hD hS eσ8 dX9_number_50 (fun H locs hP hD hS => ?_)
        refine lv_iconst (v := (0 : Int32)) hx hb dX9_number_53 (by decide) ?_
        refine lv_istore_n (lv' := [(1, .int (0 : Int32)), (0, .ref (a 0))]) hx hb dX9_number_54 rfl hl (by decide) rfl (fun ls hl => ?_)
        exact tX9_number_55 C hA N h hP hD hS (lv_sub hl [1, 0] rfl)
      · have h := ifF c4 h
        exact M_vret C h hP hD hS dX9_number_35
    · have h := ifF c1 h
      refine lv_aload_n hx hb dX9_number_8 rfl (lv_at hl 0 rfl) ?_
      refine M_gt39 C hP dX9_number_9 ?_
      refine lv_iload_n hx hb dX9_number_12 rfl (lv_at hl 1 rfl) ?_
      refine lv_iconst (v := (-1 : Int32)) hx hb dX9_number_13 (by decide) ?_
      obtain ⟨g9, h⟩ := grd_s h
      obtain ⟨σ10, eσ10, h⟩ := letS_n h
      refine M_st39 C hP hD hS g9 eσ10 dX9_number_14 (fun H locs hP hD hS => ?_)
      obtain ⟨u11, eu11, h⟩ := letS_n h
      refine lv_iinc (v := u11) (lv' := [(1, .int u11), (0, .ref (a 0))]) hx hb dX9_number_15 hl (k := 1) rfl (by rw [eu11]; rfl) (by decide) rfl (fun ls hl => ?_)
      refine lv_goto (tgt := 2) hx hb dX9_number_18 (by decide) ?_
      exact ih h hP hD hS (lv_sub hl [1, 0] rfl)
set_option maxHeartbeats 4000000 in
set_option maxRecDepth 100000 in
theorem tX9_number {p : Program} {l : Launch} {e : Env} {s : State} {m : MethodId} {args : Array Value} {below : List Frame} {meth : Method} {c : Code} {D : va_G} {a : Nat → Nat} {cc : Nat → ClassId} {A : Nat → Prop} {N : Nat} {σr : St} (C : M_Cx RX9 p s m args meth c D cc cX9_number (Cond.code yX9_number cX9_number 5 none :: WM) 5 none) (hA : ∀ q, s.heap.size ≤ q → A q) {σ : St} {H : Heap} {locs : List Loc} {ls : Array Slot} (h : fX9_number N σ = some σr) : va_P D vwCl (wM a cc σ) H → va_D A (wM a cc σ) → va_S A s.heap H locs → lv_has ls 5 [(0, .ref (a 0))] → W p l e rmX9_number s m args below meth c H locs 0 0 (M_Mv D a cc A below args s σr) (F0 m 0 ls []) := by
  obtain ⟨hx, hb, hr, hml, hown, hts, hin, hK, hlocks⟩ := id C
  intro hP hD hS hl
  refine lv_iconst (v := (0 : Int32)) hx hb dX9_number_0 (by decide) ?_
  refine lv_istore_n (lv' := [(1, .int (0 : Int32)), (0, .ref (a 0))]) hx hb dX9_number_1 rfl hl (by decide) rfl (fun ls hl => ?_)
  exact tX9_number_2 C hA N h hP hD hS (lv_sub hl [1, 0] rfl)
set_option maxRecDepth 100000 in
theorem kX9_number (l : Launch) (sz : Nat) {D : va_G} {a : Nat → Nat} {cc : Nat → ClassId} {N : Nat} {σr : St} {σ : St} (h : fX9_number N σ = some σr) : Met l yX9_number ((Cond.code yX9_number cX9_number 5 none :: WM)) rmX9_number (M_Pc D a cc [.ref (a 0)] σ sz) (M_Qv D a cc σ sz σr) 0 0 (va_A (wM a cc σ) sz) := by
  refine Met.ofW (cc := cX9_number) (maxL := 5) (ret := none) (by decide) rfl ?_
  intro p e s m args below meth c s₁ B hml hv
  obtain ⟨rfl, hsz, hP, hK, hD0⟩ := hv
  subst hsz
  have hl := lv_entry ([.ref (a 0)]) (n := 5) (Nat.le_of_ble_eq_true rfl)
  rw [lg_entry_eq]
  generalize (lg_sl ([.ref (a 0)]) ++ List.replicate (5 - (lg_sl ([.ref (a 0)])).length) Slot.unset).toArray = ls at hl ⊢
  exact tX9_number ⟨B.exec, B.bytes, B.returns, hml, findClass_of_methodNamed B.named, atoms_spec (ws := (Cond.code yX9_number cX9_number 5 none :: WM)) B.pre, (fun w h => List.mem_cons_of_mem _ (inWM w h)), hK, B.notSynchronized⟩ (fun q h => Or.inr h) h hP hD0.self va_S.rf hl
set_option maxHeartbeats 4000000 in
set_option maxRecDepth 100000 in
theorem tX9_codeAfter {p : Program} {l : Launch} {e : Env} {s : State} {m : MethodId} {args : Array Value} {below : List Frame} {meth : Method} {c : Code} {D : va_G} {a : Nat → Nat} {cc : Nat → ClassId} {A : Nat → Prop} {N : Nat} {r : Int32} {σr : St} (C : M_Cx RX9 p s m args meth c D cc cX9_codeAfter (Cond.code yX9_codeAfter cX9_codeAfter 4 (some .int) :: WM) 4 (some .int)) (hA : ∀ q, s.heap.size ≤ q → A q) {σ : St} {p0 : Int32} {p1 : Int32} {H : Heap} {locs : List Loc} {ls : Array Slot} (h : fX9_codeAfter N σ p0 p1 = some (r, σr)) : va_P D vwCl (wM a cc σ) H → va_D A (wM a cc σ) → va_S A s.heap H locs → lv_has ls 4 [(0, .ref (a 0)), (1, .int p0), (2, .int p1)] → W p l e rmX9_codeAfter s m args below meth c H locs 0 0 (M_Mi D a cc A below args s r σr) (F0 m 0 ls []) := by
  obtain ⟨hx, hb, hr, hml, hown, hts, hin, hK, hlocks⟩ := id C
  intro hP hD hS hl
  refine lv_iload_n hx hb dX9_codeAfter_0 rfl (lv_at hl 1 rfl) ?_
  refine lv_aload_n hx hb dX9_codeAfter_1 rfl (lv_at hl 0 rfl) ?_
  refine M_gt40 C hP dX9_codeAfter_2 ?_
  refine lv_icmp_lt (tgt := 13) hx hb dX9_codeAfter_5 (by decide) (fun c1 => ?_) (fun c1 => ?_)
  · have h := ifT c1 h
    refine lv_aload_n hx hb dX9_codeAfter_13 rfl (lv_at hl 0 rfl) ?_
    refine M_gt45 C hP dX9_codeAfter_14 ?_
    refine lv_bipush (v := (8 : Int32)) hx hb dX9_codeAfter_17 (by decide) ?_
    refine lv_iload_n hx hb dX9_codeAfter_19 rfl (lv_at hl 1 rfl) ?_
    refine lv_imul hx hb dX9_codeAfter_20 ?_
    refine lv_iload_n hx hb dX9_codeAfter_21 rfl (lv_at hl 2 rfl) ?_
    refine lv_iadd hx hb dX9_codeAfter_22 ?_
    obtain ⟨g2, h⟩ := grd_s h
    refine M_ld45 C hP g2 dX9_codeAfter_23 ?_
    obtain ⟨u3, eu3, h⟩ := letS_n h
    refine lv_topE eu3 ?_
    refine lv_istore_n (lv' := [(3, .int u3), (0, .ref (a 0)), (1, .int p0), (2, .int p1)]) hx hb dX9_codeAfter_24 rfl hl (by decide) rfl (fun ls hl => ?_)
    refine lv_iload_n hx hb dX9_codeAfter_25 rfl (lv_at hl 0 rfl) ?_
    refine lv_if_ge (tgt := 36) hx hb dX9_codeAfter_26 (by decide) (fun c4 => ?_) (fun c4 => ?_)
    · have h := ifT c4 h
      refine lv_iload_n hx hb dX9_codeAfter_36 rfl (lv_at hl 0 rfl) ?_
      exact M_iret C h hP hD hS dX9_codeAfter_37
    · have h := ifF c4 h
      refine lv_aload_n hx hb dX9_codeAfter_29 rfl (lv_at hl 1 rfl) ?_
      refine M_gt40 C hP dX9_codeAfter_30 ?_
      refine lv_goto (tgt := 37) hx hb dX9_codeAfter_33 (by decide) ?_
      exact M_iret C h hP hD hS dX9_codeAfter_37
  · have h := ifF c1 h
    refine lv_aload_n hx hb dX9_codeAfter_8 rfl (lv_at hl 0 rfl) ?_
    refine M_gt40 C hP dX9_codeAfter_9 ?_
    exact M_iret C h hP hD hS dX9_codeAfter_12
set_option maxRecDepth 100000 in
theorem kX9_codeAfter (l : Launch) (sz : Nat) {D : va_G} {a : Nat → Nat} {cc : Nat → ClassId} {N : Nat} {r : Int32} {σr : St} {σ : St} {p0 : Int32} {p1 : Int32} (h : fX9_codeAfter N σ p0 p1 = some (r, σr)) : Met l yX9_codeAfter ((Cond.code yX9_codeAfter cX9_codeAfter 4 (some .int) :: WM)) rmX9_codeAfter (M_Pc D a cc [.ref (a 0), .int p0, .int p1] σ sz) (M_Qi D a cc σ sz r σr) 0 0 (va_A (wM a cc σ) sz) := by
  refine Met.ofW (cc := cX9_codeAfter) (maxL := 4) (ret := (some .int)) (by decide) rfl ?_
  intro p e s m args below meth c s₁ B hml hv
  obtain ⟨rfl, hsz, hP, hK, hD0⟩ := hv
  subst hsz
  have hl := lv_entry ([.ref (a 0), .int p0, .int p1]) (n := 4) (Nat.le_of_ble_eq_true rfl)
  rw [lg_entry_eq]
  generalize (lg_sl ([.ref (a 0), .int p0, .int p1]) ++ List.replicate (4 - (lg_sl ([.ref (a 0), .int p0, .int p1])).length) Slot.unset).toArray = ls at hl ⊢
  exact tX9_codeAfter ⟨B.exec, B.bytes, B.returns, hml, findClass_of_methodNamed B.named, atoms_spec (ws := (Cond.code yX9_codeAfter cX9_codeAfter 4 (some .int) :: WM)) B.pre, (fun w h => List.mem_cons_of_mem _ (inWM w h)), hK, B.notSynchronized⟩ (fun q h => Or.inr h) h hP hD0.self va_S.rf hl
set_option maxHeartbeats 4000000 in
set_option maxRecDepth 100000 in
theorem tX9_wayOf {p : Program} {l : Launch} {e : Env} {s : State} {m : MethodId} {args : Array Value} {below : List Frame} {meth : Method} {c : Code} {D : va_G} {a : Nat → Nat} {cc : Nat → ClassId} {A : Nat → Prop} {N : Nat} {r : Int32} {σr : St} (C : M_Cx RX9 p s m args meth c D cc cX9_wayOf (Cond.code yX9_wayOf cX9_wayOf 6 (some .int) :: WM) 6 (some .int)) (hA : ∀ q, s.heap.size ≤ q → A q) {σ : St} {p0 : Int32} {p1 : Int32} {H : Heap} {locs : List Loc} {ls : Array Slot} (h : fX9_wayOf N σ p0 p1 = some (r, σr)) : va_P D vwCl (wM a cc σ) H → va_D A (wM a cc σ) → va_S A s.heap H locs → lv_has ls 6 [(0, .ref (a 0)), (1, .int p0), (2, .int p1)] → W p l e rmX9_wayOf s m args below meth c H locs 0 0 (M_Mi D a cc A below args s r σr) (F0 m 0 ls []) := by
  obtain ⟨hx, hb, hr, hml, hown, hts, hin, hK, hlocks⟩ := id C
  intro hP hD hS hl
  refine lv_iload_n hx hb dX9_wayOf_0 rfl (lv_at hl 2 rfl) ?_
  refine lv_aload_n hx hb dX9_wayOf_1 rfl (lv_at hl 0 rfl) ?_
  refine M_gt41 C hP dX9_wayOf_2 ?_
  refine lv_ishr hx hb dX9_wayOf_5 ?_
  obtain ⟨u1, eu1, h⟩ := letS_n h
  refine lv_topE eu1 ?_
  refine lv_istore_n (lv' := [(3, .int u1), (0, .ref (a 0)), (1, .int p0), (2, .int p1)]) hx hb dX9_wayOf_6 rfl hl (by decide) rfl (fun ls hl => ?_)
  refine lv_iload_n hx hb dX9_wayOf_7 rfl (lv_at hl 0 rfl) ?_
  refine lv_iconst (v := (2 : Int32)) hx hb dX9_wayOf_8 (by decide) ?_
  refine lv_ishr hx hb dX9_wayOf_9 ?_
  refine lv_iconst (v := (1 : Int32)) hx hb dX9_wayOf_10 (by decide) ?_
  refine lv_iand hx hb dX9_wayOf_11 ?_
  refine lv_iload_n hx hb dX9_wayOf_12 rfl (lv_at hl 0 rfl) ?_
  refine lv_iconst (v := (2 : Int32)) hx hb dX9_wayOf_13 (by decide) ?_
  refine lv_iand hx hb dX9_wayOf_14 ?_
  refine lv_iadd hx hb dX9_wayOf_15 ?_
  refine lv_iload_n hx hb dX9_wayOf_16 rfl (lv_at hl 0 rfl) ?_
  refine lv_iconst (v := (1 : Int32)) hx hb dX9_wayOf_17 (by decide) ?_
  refine lv_iand hx hb dX9_wayOf_18 ?_
  refine lv_iconst (v := (2 : Int32)) hx hb dX9_wayOf_19 (by decide) ?_
  refine lv_ishl hx hb dX9_wayOf_20 ?_
  refine lv_iadd hx hb dX9_wayOf_21 ?_
  obtain ⟨u2, eu2, h⟩ := letS_n h
  refine lv_topE eu2 ?_
  refine lv_istore (lv' := [(4, .int u2), (3, .int u1), (0, .ref (a 0)), (1, .int p0), (2, .int p1)]) hx hb dX9_wayOf_22 hl (by decide) rfl (fun ls hl => ?_)
  refine lv_aload_n hx hb dX9_wayOf_24 rfl (lv_at hl 2 rfl) ?_
  refine lv_iload_n hx hb dX9_wayOf_25 rfl (lv_at hl 4 rfl) ?_
  refine lv_iconst (v := (1 : Int32)) hx hb dX9_wayOf_26 (by decide) ?_
  refine lv_aload_n hx hb dX9_wayOf_27 rfl (lv_at hl 2 rfl) ?_
  refine M_gt41 C hP dX9_wayOf_28 ?_
  refine lv_ishl hx hb dX9_wayOf_31 ?_
  refine lv_iconst (v := (1 : Int32)) hx hb dX9_wayOf_32 (by decide) ?_
  refine lv_isub hx hb dX9_wayOf_33 ?_
  refine lv_iand hx hb dX9_wayOf_34 ?_
  refine lv_iload hx hb dX9_wayOf_35 (lv_at hl 0 rfl) ?_
  obtain ⟨r4, σ3, hc, h⟩ := bnd_s h
  refine M_callVi (As := [.int (p1 &&& (((1 : Int32) <<< ((gI σ 41 0) &&& 31)) - (1 : Int32))), .int u2]) (rest := []) C hA (fun sz => kX9_codeAfter l sz hc) gX9_codeAfter hP hD hS ⟨by decide, by decide⟩ ⟨rfl, rfl⟩ rfl hl.1 rfl (lv_room (Nat.le_of_ble_eq_true rfl)) dX9_wayOf_37 (fun H locs hP hD hS => ?_)
  refine lv_istore (lv' := [(5, .int r4), (4, .int u2), (3, .int u1), (0, .ref (a 0)), (1, .int p0), (2, .int p1)]) hx hb dX9_wayOf_40 hl (by decide) rfl (fun ls hl => ?_)
  refine lv_iload_n hx hb dX9_wayOf_42 rfl (lv_at hl 4 rfl) ?_
  refine lv_aload_n hx hb dX9_wayOf_43 rfl (lv_at hl 3 rfl) ?_
  refine M_gt41 C hP dX9_wayOf_44 ?_
  refine lv_icmp_ne (tgt := 67) hx hb dX9_wayOf_47 (by decide) (fun c5 => ?_) (fun c5 => ?_)
  · have h := ifF c5 h
    refine lv_iload hx hb dX9_wayOf_67 (lv_at hl 0 rfl) ?_
    refine lv_iload_n hx hb dX9_wayOf_69 rfl (lv_at hl 4 rfl) ?_
    refine lv_ishr hx hb dX9_wayOf_70 ?_
    refine lv_iconst (v := (1 : Int32)) hx hb dX9_wayOf_71 (by decide) ?_
    refine lv_iand hx hb dX9_wayOf_72 ?_
    exact M_iret C h hP hD hS dX9_wayOf_73
  · have h := ifT c5 h
    refine lv_iload hx hb dX9_wayOf_50 (lv_at hl 0 rfl) ?_
    refine lv_aload_n hx hb dX9_wayOf_52 rfl (lv_at hl 3 rfl) ?_
    refine M_gt40 C hP dX9_wayOf_53 ?_
    refine lv_icmp_ne (tgt := 63) hx hb dX9_wayOf_56 (by decide) (fun c6 => ?_) (fun c6 => ?_)
    · have h := ifF c6 h
      refine lv_iconst (v := (0 : Int32)) hx hb dX9_wayOf_63 (by decide) ?_
      refine lv_goto (tgt := 73) hx hb dX9_wayOf_64 (by decide) ?_
      exact M_iret C h hP hD hS dX9_wayOf_73
    · have h := ifT c6 h
      refine lv_iconst (v := (1 : Int32)) hx hb dX9_wayOf_59 (by decide) ?_
      refine lv_goto (tgt := 73) hx hb dX9_wayOf_60 (by decide) ?_
      exact M_iret C h hP hD hS dX9_wayOf_73
set_option maxRecDepth 100000 in
theorem kX9_wayOf (l : Launch) (sz : Nat) {D : va_G} {a : Nat → Nat} {cc : Nat → ClassId} {N : Nat} {r : Int32} {σr : St} {σ : St} {p0 : Int32} {p1 : Int32} (h : fX9_wayOf N σ p0 p1 = some (r, σr)) : Met l yX9_wayOf ((Cond.code yX9_wayOf cX9_wayOf 6 (some .int) :: WM)) rmX9_wayOf (M_Pc D a cc [.ref (a 0), .int p0, .int p1] σ sz) (M_Qi D a cc σ sz r σr) 0 0 (va_A (wM a cc σ) sz) := by
  refine Met.ofW (cc := cX9_wayOf) (maxL := 6) (ret := (some .int)) (by decide) rfl ?_
  intro p e s m args below meth c s₁ B hml hv
  obtain ⟨rfl, hsz, hP, hK, hD0⟩ := hv
  subst hsz
  have hl := lv_entry ([.ref (a 0), .int p0, .int p1]) (n := 6) (Nat.le_of_ble_eq_true rfl)
  rw [lg_entry_eq]
  generalize (lg_sl ([.ref (a 0), .int p0, .int p1]) ++ List.replicate (6 - (lg_sl ([.ref (a 0), .int p0, .int p1])).length) Slot.unset).toArray = ls at hl ⊢
  exact tX9_wayOf ⟨B.exec, B.bytes, B.returns, hml, findClass_of_methodNamed B.named, atoms_spec (ws := (Cond.code yX9_wayOf cX9_wayOf 6 (some .int) :: WM)) B.pre, (fun w h => List.mem_cons_of_mem _ (inWM w h)), hK, B.notSynchronized⟩ (fun q h => Or.inr h) h hP hD0.self va_S.rf hl
set_option maxHeartbeats 4000000 in
set_option maxRecDepth 100000 in
theorem tX9_pair_46 {p : Program} {l : Launch} {e : Env} {s : State} {m : MethodId} {args : Array Value} {below : List Frame} {meth : Method} {c : Code} {D : va_G} {a : Nat → Nat} {cc : Nat → ClassId} {A : Nat → Prop} {N : Nat} {r : Int32} {σr : St} {k10 : St → Int32 → Int32 → Int32 → Option (Int32 × St)} (C : M_Cx RX9 p s m args meth c D cc cX9_pair (Cond.code yX9_pair cX9_pair 5 (some .int) :: WM) 5 (some .int)) (hA : ∀ q, s.heap.size ≤ q → A q) (hk10 : ∀ {σ : St} {x1 : Int32} {x2 : Int32} {x4 : Int32} {H : Heap} {locs : List Loc} {ls : Array Slot}, k10 σ x1 x2 x4 = some (r, σr) → va_P D vwCl (wM a cc σ) H → va_D A (wM a cc σ) → va_S A s.heap H locs → lv_has ls 5 [(0, .ref (a 0)), (1, .int x1), (2, .int x2), (4, .int x4)] → W p l e rmX9_pair s m args below meth c H locs 0 0 (M_Mi D a cc A below args s r σr) (F0 m 10 ls [])) {σ : St} {x1 : Int32} {x2 : Int32} {x4 : Int32} {H : Heap} {locs : List Loc} {ls : Array Slot} (h : fX9_pair_46 N k10 σ x1 x2 x4 = some (r, σr)) : va_P D vwCl (wM a cc σ) H → va_D A (wM a cc σ) → va_S A s.heap H locs → lv_has ls 5 [(0, .ref (a 0)), (1, .int x1), (2, .int x2), (4, .int x4)] → W p l e rmX9_pair s m args below meth c H locs 0 0 (M_Mi D a cc A below args s r σr) (F0 m 46 ls []) := by
  obtain ⟨hx, hb, hr, hml, hown, hts, hin, hK, hlocks⟩ := id C
  intro hP hD hS hl
  obtain ⟨u12, eu12, h⟩ := letS_n h
  refine lv_iinc (v := u12) (lv' := [(4, .int u12), (0, .ref (a 0)), (1, .int x1), (2, .int x2)]) hx hb dX9_pair_46 hl (k := 3) rfl (by rw [eu12]; rfl) (by decide) rfl (fun ls hl => ?_)
  refine lv_goto (tgt := 10) hx hb dX9_pair_49 (by decide) ?_
  exact hk10 h hP hD hS (lv_sub hl [1, 2, 3, 0] rfl)
set_option maxHeartbeats 4000000 in
set_option maxRecDepth 100000 in
theorem tX9_pair_10 {p : Program} {l : Launch} {e : Env} {s : State} {m : MethodId} {args : Array Value} {below : List Frame} {meth : Method} {c : Code} {D : va_G} {a : Nat → Nat} {cc : Nat → ClassId} {A : Nat → Prop} {N : Nat} {r : Int32} {σr : St} (C : M_Cx RX9 p s m args meth c D cc cX9_pair (Cond.code yX9_pair cX9_pair 5 (some .int) :: WM) 5 (some .int)) (hA : ∀ q, s.heap.size ≤ q → A q) : ∀ (n : Nat) {σ : St} {x1 : Int32} {x2 : Int32} {x4 : Int32} {H : Heap} {locs : List Loc} {ls : Array Slot}, fX9_pair_10 N n σ x1 x2 x4 = some (r, σr) → va_P D vwCl (wM a cc σ) H → va_D A (wM a cc σ) → va_S A s.heap H locs → lv_has ls 5 [(0, .ref (a 0)), (1, .int x1), (2, .int x2), (4, .int x4)] → W p l e rmX9_pair s m args below meth c H locs 0 0 (M_Mi D a cc A below args s r σr) (F0 m 10 ls []) := by
  obtain ⟨hx, hb, hr, hml, hown, hts, hin, hK, hlocks⟩ := id C
  intro n
  induction n with
  | zero => intro σ x1 x2 x4 H locs ls h; exact none_s h
  | succ n ih =>
    intro σ x1 x2 x4 H locs ls h hP hD hS hl
    refine lv_iload hx hb dX9_pair_10 (lv_at hl 3 rfl) ?_
    refine lv_aload_n hx hb dX9_pair_12 rfl (lv_at hl 0 rfl) ?_
    refine M_gt42 C hP dX9_pair_13 ?_
    refine lv_icmp_ge (tgt := 52) hx hb dX9_pair_16 (by decide) (fun c2 => ?_) (fun c2 => ?_)
    · have h := ifT c2 h
      refine lv_aload_n hx hb dX9_pair_52 rfl (lv_at hl 0 rfl) ?_
      refine M_gt47 C hP dX9_pair_53 ?_
      refine lv_aload_n hx hb dX9_pair_56 rfl (lv_at hl 0 rfl) ?_
      refine M_gt42 C hP dX9_pair_57 ?_
      refine lv_iload_n hx hb dX9_pair_60 rfl (lv_at hl 1 rfl) ?_
      obtain ⟨g3, h⟩ := grd_s h
      obtain ⟨σ4, eσ4, h⟩ := letS_n h
      refine M_st47 C hP hD hS g3 eσ4 dX9_pair_61 (fun H locs hP hD hS => ?_)
      refine lv_aload_n hx hb dX9_pair_62 rfl (lv_at hl 0 rfl) ?_
      refine M_gt48 C hP dX9_pair_63 ?_
      refine lv_aload_n hx hb dX9_pair_66 rfl (lv_at hl 0 rfl) ?_
      refine M_gt42 C hP dX9_pair_67 ?_
      refine lv_iload_n hx hb dX9_pair_70 rfl (lv_at hl 2 rfl) ?_
      obtain ⟨g5, h⟩ := grd_s h
      obtain ⟨σ6, eσ6, h⟩ := letS_n h
      refine M_st48 C hP hD hS g5 eσ6 dX9_pair_71 (fun H locs hP hD hS => ?_)
      refine lv_aload_n hx hb dX9_pair_72 rfl (lv_at hl 0 rfl) ?_
      refine lv_dup hx hb dX9_pair_73 rfl ?_
      refine M_gt42 C hP dX9_pair_74 ?_
      refine lv_iconst (v := (1 : Int32)) hx hb dX9_pair_77 (by decide) ?_
      refine lv_iadd hx hb dX9_pair_78 ?_
      obtain ⟨σ7, eσ7, h⟩ := letS_n h
      refine M_pt42 C hP hD hS eσ7 dX9_pair_79 (fun H locs hP hD hS => ?_)
      refine lv_iconst (v := (1 : Int32)) hx hb dX9_pair_82 (by decide) ?_
      refine lv_aload_n hx hb dX9_pair_83 rfl (lv_at hl 0 rfl) ?_
      refine M_gt42 C hP dX9_pair_84 ?_
      refine lv_iadd hx hb dX9_pair_87 ?_
      exact M_iret C h hP hD hS dX9_pair_88
    · have h := ifF c2 h
      refine lv_aload_n hx hb dX9_pair_19 rfl (lv_at hl 0 rfl) ?_
      refine M_gt47 C hP dX9_pair_20 ?_
      refine lv_iload hx hb dX9_pair_23 (lv_at hl 3 rfl) ?_
      obtain ⟨g8, h⟩ := grd_s h
      refine M_ld47 C hP g8 dX9_pair_25 ?_
      refine lv_iload_n hx hb dX9_pair_26 rfl (lv_at hl 1 rfl) ?_
      refine lv_icmp_ne (tgt := 46) hx hb dX9_pair_27 (by decide) (fun c9 => ?_) (fun c9 => ?_)
      · have h := ifF c9 h
        exact tX9_pair_46 C hA ih h hP hD hS (lv_sub hl [0, 1, 2, 3] rfl)
      · have h := ifT c9 h
        refine lv_aload_n hx hb dX9_pair_30 rfl (lv_at hl 0 rfl) ?_
        refine M_gt48 C hP dX9_pair_31 ?_
        refine lv_iload hx hb dX9_pair_34 (lv_at hl 3 rfl) ?_
        obtain ⟨g10, h⟩ := grd_s h
        refine M_ld48 C hP g10 dX9_pair_36 ?_
        refine lv_iload_n hx hb dX9_pair_37 rfl (lv_at hl 2 rfl) ?_
        refine lv_icmp_ne (tgt := 46) hx hb dX9_pair_38 (by decide) (fun c11 => ?_) (fun c11 => ?_)
        · have h := ifF c11 h
          exact tX9_pair_46 C hA ih h hP hD hS (lv_sub hl [0, 1, 2, 3] rfl)
        · have h := ifT c11 h
          refine lv_iconst (v := (2 : Int32)) hx hb dX9_pair_41 (by decide) ?_
          refine lv_iload hx hb dX9_pair_42 (lv_at hl 3 rfl) ?_
          refine lv_iadd hx hb dX9_pair_44 ?_
          exact M_iret C h hP hD hS dX9_pair_45
set_option maxHeartbeats 4000000 in
set_option maxRecDepth 100000 in
theorem tX9_pair {p : Program} {l : Launch} {e : Env} {s : State} {m : MethodId} {args : Array Value} {below : List Frame} {meth : Method} {c : Code} {D : va_G} {a : Nat → Nat} {cc : Nat → ClassId} {A : Nat → Prop} {N : Nat} {r : Int32} {σr : St} (C : M_Cx RX9 p s m args meth c D cc cX9_pair (Cond.code yX9_pair cX9_pair 5 (some .int) :: WM) 5 (some .int)) (hA : ∀ q, s.heap.size ≤ q → A q) {σ : St} {p0 : Int32} {p1 : Int32} {p2 : Int32} {H : Heap} {locs : List Loc} {ls : Array Slot} (h : fX9_pair N σ p0 p1 p2 = some (r, σr)) : va_P D vwCl (wM a cc σ) H → va_D A (wM a cc σ) → va_S A s.heap H locs → lv_has ls 5 [(0, .ref (a 0)), (1, .int p0), (2, .int p1), (3, .int p2)] → W p l e rmX9_pair s m args below meth c H locs 0 0 (M_Mi D a cc A below args s r σr) (F0 m 0 ls []) := by
  obtain ⟨hx, hb, hr, hml, hown, hts, hin, hK, hlocks⟩ := id C
  intro hP hD hS hl
  refine lv_iload_n hx hb dX9_pair_0 rfl (lv_at hl 1 rfl) ?_
  refine lv_iload_n hx hb dX9_pair_1 rfl (lv_at hl 2 rfl) ?_
  refine lv_icmp_ne (tgt := 7) hx hb dX9_pair_2 (by decide) (fun c1 => ?_) (fun c1 => ?_)
  · have h := ifF c1 h
    refine lv_iload_n hx hb dX9_pair_7 rfl (lv_at hl 3 rfl) ?_
    refine lv_istore (lv' := [(4, .int p2), (0, .ref (a 0)), (1, .int p0), (2, .int p1), (3, .int p2)]) hx hb dX9_pair_8 hl (by decide) rfl (fun ls hl => ?_)
    exact tX9_pair_10 C hA N h hP hD hS (lv_sub hl [1, 2, 3, 0] rfl)
  · have h := ifT c1 h
    refine lv_iload_n hx hb dX9_pair_5 rfl (lv_at hl 1 rfl) ?_
    exact M_iret C h hP hD hS dX9_pair_6
set_option maxRecDepth 100000 in
theorem kX9_pair (l : Launch) (sz : Nat) {D : va_G} {a : Nat → Nat} {cc : Nat → ClassId} {N : Nat} {r : Int32} {σr : St} {σ : St} {p0 : Int32} {p1 : Int32} {p2 : Int32} (h : fX9_pair N σ p0 p1 p2 = some (r, σr)) : Met l yX9_pair ((Cond.code yX9_pair cX9_pair 5 (some .int) :: WM)) rmX9_pair (M_Pc D a cc [.ref (a 0), .int p0, .int p1, .int p2] σ sz) (M_Qi D a cc σ sz r σr) 0 0 (va_A (wM a cc σ) sz) := by
  refine Met.ofW (cc := cX9_pair) (maxL := 5) (ret := (some .int)) (by decide) rfl ?_
  intro p e s m args below meth c s₁ B hml hv
  obtain ⟨rfl, hsz, hP, hK, hD0⟩ := hv
  subst hsz
  have hl := lv_entry ([.ref (a 0), .int p0, .int p1, .int p2]) (n := 5) (Nat.le_of_ble_eq_true rfl)
  rw [lg_entry_eq]
  generalize (lg_sl ([.ref (a 0), .int p0, .int p1, .int p2]) ++ List.replicate (5 - (lg_sl ([.ref (a 0), .int p0, .int p1, .int p2])).length) Slot.unset).toArray = ls at hl ⊢
  exact tX9_pair ⟨B.exec, B.bytes, B.returns, hml, findClass_of_methodNamed B.named, atoms_spec (ws := (Cond.code yX9_pair cX9_pair 5 (some .int) :: WM)) B.pre, (fun w h => List.mem_cons_of_mem _ (inWM w h)), hK, B.notSynchronized⟩ (fun q h => Or.inr h) h hP hD0.self va_S.rf hl
set_option maxHeartbeats 4000000 in
set_option maxRecDepth 100000 in
theorem tX9_count_50 {p : Program} {l : Launch} {e : Env} {s : State} {m : MethodId} {args : Array Value} {below : List Frame} {meth : Method} {c : Code} {D : va_G} {a : Nat → Nat} {cc : Nat → ClassId} {A : Nat → Prop} {N : Nat} {σr : St} {k40 : St → Int32 → Int32 → Option St} (C : M_Cx RX9 p s m args meth c D cc cX9_count (Cond.code yX9_count cX9_count 6 none :: WM) 6 none) (hA : ∀ q, s.heap.size ≤ q → A q) (hk40 : ∀ {σ : St} {x1 : Int32} {x2 : Int32} {H : Heap} {locs : List Loc} {ls : Array Slot}, k40 σ x1 x2 = some σr → va_P D vwCl (wM a cc σ) H → va_D A (wM a cc σ) → va_S A s.heap H locs → lv_has ls 6 [(0, .ref (a 0)), (1, .int x1), (2, .int x2)] → W p l e rmX9_count s m args below meth c H locs 0 0 (M_Mv D a cc A below args s σr) (F0 m 40 ls [])) : ∀ (n : Nat) {σ : St} {x1 : Int32} {x2 : Int32} {x3 : Int32} {H : Heap} {locs : List Loc} {ls : Array Slot}, fX9_count_50 N k40 n σ x1 x2 x3 = some σr → va_P D vwCl (wM a cc σ) H → va_D A (wM a cc σ) → va_S A s.heap H locs → lv_has ls 6 [(0, .ref (a 0)), (1, .int x1), (2, .int x2), (3, .int x3)] → W p l e rmX9_count s m args below meth c H locs 0 0 (M_Mv D a cc A below args s σr) (F0 m 50 ls []) := by
  obtain ⟨hx, hb, hr, hml, hown, hts, hin, hK, hlocks⟩ := id C
  intro n
  induction n with
  | zero => intro σ x1 x2 x3 H locs ls h; exact none_s h
  | succ n ih =>
    intro σ x1 x2 x3 H locs ls h hP hD hS hl
    refine lv_iload_n hx hb dX9_count_50 rfl (lv_at hl 3 rfl) ?_
    refine lv_iconst (v := (1 : Int32)) hx hb dX9_count_51 (by decide) ?_
    refine lv_iload_n hx hb dX9_count_52 rfl (lv_at hl 1 rfl) ?_
    refine lv_ishl hx hb dX9_count_53 ?_
    refine lv_icmp_ge (tgt := 81) hx hb dX9_count_54 (by decide) (fun c8 => ?_) (fun c8 => ?_)
    · have h := ifT c8 h
      obtain ⟨u9, eu9, h⟩ := letS_n h
      refine lv_iinc (v := u9) (lv' := [(2, .int u9), (0, .ref (a 0)), (1, .int x1), (3, .int x3)]) hx hb dX9_count_81 hl (k := 2) rfl (by rw [eu9]; rfl) (by decide) rfl (fun ls hl => ?_)
      refine lv_goto (tgt := 40) hx hb dX9_count_84 (by decide) ?_
      exact hk40 h hP hD hS (lv_sub hl [1, 2, 0] rfl)
    · have h := ifF c8 h
      refine lv_aload_n hx hb dX9_count_57 rfl (lv_at hl 0 rfl) ?_
      refine M_gt46 C hP dX9_count_58 ?_
      refine lv_sipush (v := (512 : Int32)) hx hb dX9_count_61 (by decide) ?_
      refine lv_iload_n hx hb dX9_count_64 rfl (lv_at hl 2 rfl) ?_
      refine lv_imul hx hb dX9_count_65 ?_
      refine lv_iload_n hx hb dX9_count_66 rfl (lv_at hl 3 rfl) ?_
      refine lv_iadd hx hb dX9_count_67 ?_
      refine lv_aload_n hx hb dX9_count_68 rfl (lv_at hl 0 rfl) ?_
      refine lv_iload_n hx hb dX9_count_69 rfl (lv_at hl 2 rfl) ?_
      refine lv_iload_n hx hb dX9_count_70 rfl (lv_at hl 3 rfl) ?_
      obtain ⟨r11, σ10, hc, h⟩ := bnd_s h
      refine M_callVi (As := [.int x2, .int x3]) (rest := [.int (((512 : Int32) * x2) + x3), .ref (a 46)]) C hA (fun sz => kX9_wayOf l sz hc) gX9_wayOf hP hD hS ⟨by decide, by decide⟩ ⟨rfl, rfl⟩ rfl hl.1 rfl (lv_room (Nat.le_of_ble_eq_true rfl)) dX9_count_71 (fun H locs hP hD hS => ?_)
      obtain ⟨g12, h⟩ := grd_s h
      obtain ⟨σ13, eσ13, h⟩ := letS_n h
      refine M_st46 C hP hD hS g12 eσ13 dX9_count_74 (fun H locs hP hD hS => ?_)
      obtain ⟨u14, eu14, h⟩ := letS_n h
      refine lv_iinc (v := u14) (lv' := [(3, .int u14), (0, .ref (a 0)), (1, .int x1), (2, .int x2)]) hx hb dX9_count_75 hl (k := 3) rfl (by rw [eu14]; rfl) (by decide) rfl (fun ls hl => ?_)
      refine lv_goto (tgt := 50) hx hb dX9_count_78 (by decide) ?_
      exact ih h hP hD hS (lv_sub hl [1, 2, 3, 0] rfl)
set_option maxHeartbeats 4000000 in
set_option maxRecDepth 100000 in
theorem tX9_count_120 {p : Program} {l : Launch} {e : Env} {s : State} {m : MethodId} {args : Array Value} {below : List Frame} {meth : Method} {c : Code} {D : va_G} {a : Nat → Nat} {cc : Nat → ClassId} {A : Nat → Prop} {N : Nat} {σr : St} {k96 : St → Int32 → Option St} {k108 : St → Int32 → Int32 → Int32 → Option St} (C : M_Cx RX9 p s m args meth c D cc cX9_count (Cond.code yX9_count cX9_count 6 none :: WM) 6 none) (hA : ∀ q, s.heap.size ≤ q → A q) (hk96 : ∀ {σ : St} {x2 : Int32} {H : Heap} {locs : List Loc} {ls : Array Slot}, k96 σ x2 = some σr → va_P D vwCl (wM a cc σ) H → va_D A (wM a cc σ) → va_S A s.heap H locs → lv_has ls 6 [(0, .ref (a 0)), (2, .int x2)] → W p l e rmX9_count s m args below meth c H locs 0 0 (M_Mv D a cc A below args s σr) (F0 m 96 ls [])) (hk108 : ∀ {σ : St} {x2 : Int32} {x3 : Int32} {x4 : Int32} {H : Heap} {locs : List Loc} {ls : Array Slot}, k108 σ x2 x3 x4 = some σr → va_P D vwCl (wM a cc σ) H → va_D A (wM a cc σ) → va_S A s.heap H locs → lv_has ls 6 [(0, .ref (a 0)), (2, .int x2), (3, .int x3), (4, .int x4)] → W p l e rmX9_count s m args below meth c H locs 0 0 (M_Mv D a cc A below args s σr) (F0 m 108 ls [])) : ∀ (n : Nat) {σ : St} {x2 : Int32} {x3 : Int32} {x4 : Int32} {x5 : Int32} {H : Heap} {locs : List Loc} {ls : Array Slot}, fX9_count_120 N k96 k108 n σ x2 x3 x4 x5 = some σr → va_P D vwCl (wM a cc σ) H → va_D A (wM a cc σ) → va_S A s.heap H locs → lv_has ls 6 [(0, .ref (a 0)), (2, .int x2), (3, .int x3), (4, .int x4), (5, .int x5)] → W p l e rmX9_count s m args below meth c H locs 0 0 (M_Mv D a cc A below args s σr) (F0 m 120 ls []) := by
  obtain ⟨hx, hb, hr, hml, hown, hts, hin, hK, hlocks⟩ := id C
  intro n
  induction n with
  | zero => intro σ x2 x3 x4 x5 H locs ls h; exact none_s h
  | succ n ih =>
    intro σ x2 x3 x4 x5 H locs ls h hP hD hS hl
    refine lv_iload hx hb dX9_count_120 (lv_at hl 4 rfl) ?_
    refine lv_iconst (v := (1 : Int32)) hx hb dX9_count_122 (by decide) ?_
    refine lv_iload_n hx hb dX9_count_123 rfl (lv_at hl 1 rfl) ?_
    refine lv_ishl hx hb dX9_count_124 ?_
    refine lv_icmp_ge (tgt := 187) hx hb dX9_count_125 (by decide) (fun c19 => ?_) (fun c19 => ?_)
    · have h := ifT c19 h
      obtain ⟨u20, eu20, h⟩ := letS_n h
      refine lv_iinc (v := u20) (lv' := [(4, .int u20), (0, .ref (a 0)), (2, .int x2), (3, .int x3), (5, .int x5)]) hx hb dX9_count_187 hl (k := 3) rfl (by rw [eu20]; rfl) (by decide) rfl (fun ls hl => ?_)
      refine lv_goto (tgt := 108) hx hb dX9_count_190 (by decide) ?_
      exact hk108 h hP hD hS (lv_sub hl [1, 2, 3, 0] rfl)
    · have h := ifF c19 h
      refine lv_aload_n hx hb dX9_count_128 rfl (lv_at hl 0 rfl) ?_
      refine M_gt46 C hP dX9_count_129 ?_
      refine lv_sipush (v := (512 : Int32)) hx hb dX9_count_132 (by decide) ?_
      refine lv_iload hx hb dX9_count_135 (lv_at hl 3 rfl) ?_
      refine lv_imul hx hb dX9_count_137 ?_
      refine lv_iload hx hb dX9_count_138 (lv_at hl 4 rfl) ?_
      refine lv_iadd hx hb dX9_count_140 ?_
      refine lv_aload_n hx hb dX9_count_141 rfl (lv_at hl 0 rfl) ?_
      refine lv_aload_n hx hb dX9_count_142 rfl (lv_at hl 0 rfl) ?_
      refine M_gt46 C hP dX9_count_143 ?_
      refine lv_sipush (v := (512 : Int32)) hx hb dX9_count_146 (by decide) ?_
      refine lv_iload hx hb dX9_count_149 (lv_at hl 3 rfl) ?_
      refine lv_imul hx hb dX9_count_151 ?_
      refine lv_iconst (v := (2 : Int32)) hx hb dX9_count_152 (by decide) ?_
      refine lv_iload hx hb dX9_count_153 (lv_at hl 4 rfl) ?_
      refine lv_imul hx hb dX9_count_155 ?_
      refine lv_iadd hx hb dX9_count_156 ?_
      obtain ⟨g21, h⟩ := grd_s h
      refine M_ld46 C hP g21 dX9_count_157 ?_
      refine lv_aload_n hx hb dX9_count_158 rfl (lv_at hl 0 rfl) ?_
      refine M_gt46 C hP dX9_count_159 ?_
      refine lv_sipush (v := (512 : Int32)) hx hb dX9_count_162 (by decide) ?_
      refine lv_iload hx hb dX9_count_165 (lv_at hl 3 rfl) ?_
      refine lv_imul hx hb dX9_count_167 ?_
      refine lv_iconst (v := (2 : Int32)) hx hb dX9_count_168 (by decide) ?_
      refine lv_iload hx hb dX9_count_169 (lv_at hl 4 rfl) ?_
      refine lv_imul hx hb dX9_count_171 ?_
      refine lv_iadd hx hb dX9_count_172 ?_
      refine lv_iconst (v := (1 : Int32)) hx hb dX9_count_173 (by decide) ?_
      refine lv_iadd hx hb dX9_count_174 ?_
      obtain ⟨g22, h⟩ := grd_s h
      refine M_ld46 C hP g22 dX9_count_175 ?_
      refine lv_iload_n hx hb dX9_count_176 rfl (lv_at hl 2 rfl) ?_
      obtain ⟨r24, σ23, hc, h⟩ := bnd_s h
      refine M_callVi (As := [.int (gI σ 46 (((512 : Int32) * x4) + ((2 : Int32) * x5)).toNatClampNeg), .int (gI σ 46 ((((512 : Int32) * x4) + ((2 : Int32) * x5)) + (1 : Int32)).toNatClampNeg), .int x3]) (rest := [.int (((512 : Int32) * x4) + x5), .ref (a 46)]) C hA (fun sz => kX9_pair l sz hc) gX9_pair hP hD hS ⟨by decide, by decide⟩ ⟨rfl, rfl⟩ rfl hl.1 rfl (lv_room (Nat.le_of_ble_eq_true rfl)) dX9_count_177 (fun H locs hP hD hS => ?_)
      obtain ⟨g25, h⟩ := grd_s h
      obtain ⟨σ26, eσ26, h⟩ := letS_n h
      refine M_st46 C hP hD hS g25 eσ26 dX9_count_180 (fun H locs hP hD hS => ?_)
      obtain ⟨u27, eu27, h⟩ := letS_n h
      refine lv_iinc (v := u27) (lv' := [(5, .int u27), (0, .ref (a 0)), (2, .int x2), (3, .int x3), (4, .int x4)]) hx hb dX9_count_181 hl (k := 4) rfl (by rw [eu27]; rfl) (by decide) rfl (fun ls hl => ?_)
      refine lv_goto (tgt := 120) hx hb dX9_count_184 (by decide) ?_
      exact ih h hP hD hS (lv_sub hl [1, 2, 3, 4, 0] rfl)
set_option maxHeartbeats 4000000 in
set_option maxRecDepth 100000 in
theorem tX9_count_108 {p : Program} {l : Launch} {e : Env} {s : State} {m : MethodId} {args : Array Value} {below : List Frame} {meth : Method} {c : Code} {D : va_G} {a : Nat → Nat} {cc : Nat → ClassId} {A : Nat → Prop} {N : Nat} {σr : St} {k96 : St → Int32 → Option St} (C : M_Cx RX9 p s m args meth c D cc cX9_count (Cond.code yX9_count cX9_count 6 none :: WM) 6 none) (hA : ∀ q, s.heap.size ≤ q → A q) (hk96 : ∀ {σ : St} {x2 : Int32} {H : Heap} {locs : List Loc} {ls : Array Slot}, k96 σ x2 = some σr → va_P D vwCl (wM a cc σ) H → va_D A (wM a cc σ) → va_S A s.heap H locs → lv_has ls 6 [(0, .ref (a 0)), (2, .int x2)] → W p l e rmX9_count s m args below meth c H locs 0 0 (M_Mv D a cc A below args s σr) (F0 m 96 ls [])) : ∀ (n : Nat) {σ : St} {x2 : Int32} {x3 : Int32} {x4 : Int32} {H : Heap} {locs : List Loc} {ls : Array Slot}, fX9_count_108 N k96 n σ x2 x3 x4 = some σr → va_P D vwCl (wM a cc σ) H → va_D A (wM a cc σ) → va_S A s.heap H locs → lv_has ls 6 [(0, .ref (a 0)), (2, .int x2), (3, .int x3), (4, .int x4)] → W p l e rmX9_count s m args below meth c H locs 0 0 (M_Mv D a cc A below args s σr) (F0 m 108 ls []) := by
  obtain ⟨hx, hb, hr, hml, hown, hts, hin, hK, hlocks⟩ := id C
  intro n
  induction n with
  | zero => intro σ x2 x3 x4 H locs ls h; exact none_s h
  | succ n ih =>
    intro σ x2 x3 x4 H locs ls h hP hD hS hl
    refine lv_iload hx hb dX9_count_108 (lv_at hl 3 rfl) ?_
    refine lv_aload_n hx hb dX9_count_110 rfl (lv_at hl 0 rfl) ?_
    refine M_gt41 C hP dX9_count_111 ?_
    refine lv_icmp_gt (tgt := 193) hx hb dX9_count_114 (by decide) (fun c17 => ?_) (fun c17 => ?_)
    · have h := ifT c17 h
      obtain ⟨u18, eu18, h⟩ := letS_n h
      refine lv_iinc (v := u18) (lv' := [(2, .int u18), (0, .ref (a 0)), (3, .int x3), (4, .int x4)]) hx hb dX9_count_193 hl (k := 1) rfl (by rw [eu18]; rfl) (by decide) rfl (fun ls hl => ?_)
      refine lv_goto (tgt := 96) hx hb dX9_count_196 (by decide) ?_
      exact hk96 h hP hD hS (lv_sub hl [1, 0] rfl)
    · have h := ifF c17 h
      refine lv_iconst (v := (0 : Int32)) hx hb dX9_count_117 (by decide) ?_
      refine lv_istore (lv' := [(5, .int (0 : Int32)), (0, .ref (a 0)), (2, .int x2), (3, .int x3), (4, .int x4)]) hx hb dX9_count_118 hl (by decide) rfl (fun ls hl => ?_)
      exact tX9_count_120 C hA hk96 ih N h hP hD hS (lv_sub hl [1, 2, 3, 4, 0] rfl)
set_option maxHeartbeats 4000000 in
set_option maxRecDepth 100000 in
theorem tX9_count_96 {p : Program} {l : Launch} {e : Env} {s : State} {m : MethodId} {args : Array Value} {below : List Frame} {meth : Method} {c : Code} {D : va_G} {a : Nat → Nat} {cc : Nat → ClassId} {A : Nat → Prop} {N : Nat} {σr : St} (C : M_Cx RX9 p s m args meth c D cc cX9_count (Cond.code yX9_count cX9_count 6 none :: WM) 6 none) (hA : ∀ q, s.heap.size ≤ q → A q) : ∀ (n : Nat) {σ : St} {x2 : Int32} {H : Heap} {locs : List Loc} {ls : Array Slot}, fX9_count_96 N n σ x2 = some σr → va_P D vwCl (wM a cc σ) H → va_D A (wM a cc σ) → va_S A s.heap H locs → lv_has ls 6 [(0, .ref (a 0)), (2, .int x2)] → W p l e rmX9_count s m args below meth c H locs 0 0 (M_Mv D a cc A below args s σr) (F0 m 96 ls []) := by
  obtain ⟨hx, hb, hr, hml, hown, hts, hin, hK, hlocks⟩ := id C
  intro n
  induction n with
  | zero => intro σ x2 H locs ls h; exact none_s h
  | succ n ih =>
    intro σ x2 H locs ls h hP hD hS hl
    refine lv_iload_n hx hb dX9_count_96 rfl (lv_at hl 1 rfl) ?_
    refine lv_if_lt (tgt := 199) hx hb dX9_count_97 (by decide) (fun c15 => ?_) (fun c15 => ?_)
    · have h := ifT c15 h
      exact M_vret C h hP hD hS dX9_count_199
    · have h := ifF c15 h
      refine lv_aload_n hx hb dX9_count_100 rfl (lv_at hl 0 rfl) ?_
      refine M_gt42 C hP dX9_count_101 ?_
      obtain ⟨u16, eu16, h⟩ := letS_n h
      refine lv_topE eu16 ?_
      refine lv_istore_n (lv' := [(3, .int u16), (0, .ref (a 0)), (2, .int x2)]) hx hb dX9_count_104 rfl hl (by decide) rfl (fun ls hl => ?_)
      refine lv_iconst (v := (0 : Int32)) hx hb dX9_count_105 (by decide) ?_
      refine lv_istore (lv' := [(4, .int (0 : Int32)), (3, .int u16), (0, .ref (a 0)), (2, .int x2)]) hx hb dX9_count_106 hl (by decide) rfl (fun ls hl => ?_)
      exact tX9_count_108 C hA ih N h hP hD hS (lv_sub hl [2, 3, 1, 0] rfl)
set_option maxHeartbeats 4000000 in
set_option maxRecDepth 100000 in
theorem tX9_count_40 {p : Program} {l : Launch} {e : Env} {s : State} {m : MethodId} {args : Array Value} {below : List Frame} {meth : Method} {c : Code} {D : va_G} {a : Nat → Nat} {cc : Nat → ClassId} {A : Nat → Prop} {N : Nat} {σr : St} (C : M_Cx RX9 p s m args meth c D cc cX9_count (Cond.code yX9_count cX9_count 6 none :: WM) 6 none) (hA : ∀ q, s.heap.size ≤ q → A q) : ∀ (n : Nat) {σ : St} {x1 : Int32} {x2 : Int32} {H : Heap} {locs : List Loc} {ls : Array Slot}, fX9_count_40 N n σ x1 x2 = some σr → va_P D vwCl (wM a cc σ) H → va_D A (wM a cc σ) → va_S A s.heap H locs → lv_has ls 6 [(0, .ref (a 0)), (1, .int x1), (2, .int x2)] → W p l e rmX9_count s m args below meth c H locs 0 0 (M_Mv D a cc A below args s σr) (F0 m 40 ls []) := by
  obtain ⟨hx, hb, hr, hml, hown, hts, hin, hK, hlocks⟩ := id C
  intro n
  induction n with
  | zero => intro σ x1 x2 H locs ls h; exact none_s h
  | succ n ih =>
    intro σ x1 x2 H locs ls h hP hD hS hl
    refine lv_iload_n hx hb dX9_count_40 rfl (lv_at hl 2 rfl) ?_
    refine lv_aload_n hx hb dX9_count_41 rfl (lv_at hl 0 rfl) ?_
    refine M_gt41 C hP dX9_count_42 ?_
    refine lv_icmp_gt (tgt := 87) hx hb dX9_count_45 (by decide) (fun c5 => ?_) (fun c5 => ?_)
    · have h := ifT c5 h
      refine lv_aload_n hx hb dX9_count_87 rfl (lv_at hl 0 rfl) ?_
      refine lv_iconst (v := (0 : Int32)) hx hb dX9_count_88 (by decide) ?_
      obtain ⟨σ6, eσ6, h⟩ := letS_n h
      refine M_pt42 C hP hD hS eσ6 dX9_count_89 (fun H locs hP hD hS => ?_)
      refine lv_iload_n hx hb dX9_count_92 rfl (lv_at hl 1 rfl) ?_
      refine lv_iconst (v := (1 : Int32)) hx hb dX9_count_93 (by decide) ?_
      refine lv_isub hx hb dX9_count_94 ?_
      obtain ⟨u7, eu7, h⟩ := letS_n h
      refine lv_topE eu7 ?_
      refine lv_istore_n (lv' := [(2, .int u7), (0, .ref (a 0)), (1, .int x1)]) hx hb dX9_count_95 rfl hl (by decide) rfl (fun ls hl => ?_)
      exact tX9_count_96 C hA N h hP hD hS (lv_sub hl [1, 0] rfl)
    · have h := ifF c5 h
      refine lv_iconst (v := (0 : Int32)) hx hb dX9_count_48 (by decide) ?_
      refine lv_istore_n (lv' := [(3, .int (0 : Int32)), (0, .ref (a 0)), (1, .int x1), (2, .int x2)]) hx hb dX9_count_49 rfl hl (by decide) rfl (fun ls hl => ?_)
      exact tX9_count_50 C hA ih N h hP hD hS (lv_sub hl [1, 2, 3, 0] rfl)
set_option maxHeartbeats 4000000 in
set_option maxRecDepth 100000 in
theorem tX9_count_5 {p : Program} {l : Launch} {e : Env} {s : State} {m : MethodId} {args : Array Value} {below : List Frame} {meth : Method} {c : Code} {D : va_G} {a : Nat → Nat} {cc : Nat → ClassId} {A : Nat → Prop} {N : Nat} {σr : St} (C : M_Cx RX9 p s m args meth c D cc cX9_count (Cond.code yX9_count cX9_count 6 none :: WM) 6 none) (hA : ∀ q, s.heap.size ≤ q → A q) : ∀ (n : Nat) {σ : St} {H : Heap} {locs : List Loc} {ls : Array Slot}, fX9_count_5 N n σ = some σr → va_P D vwCl (wM a cc σ) H → va_D A (wM a cc σ) → va_S A s.heap H locs → lv_has ls 6 [(0, .ref (a 0))] → W p l e rmX9_count s m args below meth c H locs 0 0 (M_Mv D a cc A below args s σr) (F0 m 5 ls []) := by
  obtain ⟨hx, hb, hr, hml, hown, hts, hin, hK, hlocks⟩ := id C
  intro n
  induction n with
  | zero => intro σ H locs ls h; exact none_s h
  | succ n ih =>
    intro σ H locs ls h hP hD hS hl
    refine lv_iconst (v := (1 : Int32)) hx hb dX9_count_5 (by decide) ?_
    refine lv_aload_n hx hb dX9_count_6 rfl (lv_at hl 0 rfl) ?_
    refine M_gt41 C hP dX9_count_7 ?_
    refine lv_ishl hx hb dX9_count_10 ?_
    refine lv_aload_n hx hb dX9_count_11 rfl (lv_at hl 0 rfl) ?_
    refine M_gt40 C hP dX9_count_12 ?_
    refine lv_icmp_gt (tgt := 31) hx hb dX9_count_15 (by decide) (fun c2 => ?_) (fun c2 => ?_)
    · have h := ifT c2 h
      refine lv_aload_n hx hb dX9_count_31 rfl (lv_at hl 0 rfl) ?_
      refine M_gt41 C hP dX9_count_32 ?_
      refine lv_iconst (v := (3 : Int32)) hx hb dX9_count_35 (by decide) ?_
      refine lv_iadd hx hb dX9_count_36 ?_
      obtain ⟨u3, eu3, h⟩ := letS_n h
      refine lv_topE eu3 ?_
      refine lv_istore_n (lv' := [(1, .int u3), (0, .ref (a 0))]) hx hb dX9_count_37 rfl hl (by decide) rfl (fun ls hl => ?_)
      refine lv_iconst (v := (0 : Int32)) hx hb dX9_count_38 (by decide) ?_
      refine lv_istore_n (lv' := [(2, .int (0 : Int32)), (1, .int u3), (0, .ref (a 0))]) hx hb dX9_count_39 rfl hl (by decide) rfl (fun ls hl => ?_)
      exact tX9_count_40 C hA N h hP hD hS (lv_sub hl [2, 1, 0] rfl)
    · have h := ifF c2 h
      refine lv_aload_n hx hb dX9_count_18 rfl (lv_at hl 0 rfl) ?_
      refine lv_dup hx hb dX9_count_19 rfl ?_
      refine M_gt41 C hP dX9_count_20 ?_
      refine lv_iconst (v := (1 : Int32)) hx hb dX9_count_23 (by decide) ?_
      refine lv_iadd hx hb dX9_count_24 ?_
      obtain ⟨σ4, eσ4, h⟩ := letS_n h
      refine M_pt41 C hP hD hS eσ4 dX9_count_25 (fun H locs hP hD hS => ?_)
      refine lv_goto (tgt := 5) hx hb dX9_count_28 (by decide) ?_
      exact ih h hP hD hS (lv_sub hl [0] rfl)
set_option maxHeartbeats 4000000 in
set_option maxRecDepth 100000 in
theorem tX9_count {p : Program} {l : Launch} {e : Env} {s : State} {m : MethodId} {args : Array Value} {below : List Frame} {meth : Method} {c : Code} {D : va_G} {a : Nat → Nat} {cc : Nat → ClassId} {A : Nat → Prop} {N : Nat} {σr : St} (C : M_Cx RX9 p s m args meth c D cc cX9_count (Cond.code yX9_count cX9_count 6 none :: WM) 6 none) (hA : ∀ q, s.heap.size ≤ q → A q) {σ : St} {H : Heap} {locs : List Loc} {ls : Array Slot} (h : fX9_count N σ = some σr) : va_P D vwCl (wM a cc σ) H → va_D A (wM a cc σ) → va_S A s.heap H locs → lv_has ls 6 [(0, .ref (a 0))] → W p l e rmX9_count s m args below meth c H locs 0 0 (M_Mv D a cc A below args s σr) (F0 m 0 ls []) := by
  obtain ⟨hx, hb, hr, hml, hown, hts, hin, hK, hlocks⟩ := id C
  intro hP hD hS hl
  refine lv_aload_n hx hb dX9_count_0 rfl (lv_at hl 0 rfl) ?_
  refine lv_iconst (v := (1 : Int32)) hx hb dX9_count_1 (by decide) ?_
  obtain ⟨σ1, eσ1, h⟩ := letS_n h
  refine M_pt41 C hP hD hS eσ1 dX9_count_2 (fun H locs hP hD hS => ?_)
  exact tX9_count_5 C hA N h hP hD hS (lv_sub hl [0] rfl)
set_option maxRecDepth 100000 in
theorem kX9_count (l : Launch) (sz : Nat) {D : va_G} {a : Nat → Nat} {cc : Nat → ClassId} {N : Nat} {σr : St} {σ : St} (h : fX9_count N σ = some σr) : Met l yX9_count ((Cond.code yX9_count cX9_count 6 none :: WM)) rmX9_count (M_Pc D a cc [.ref (a 0)] σ sz) (M_Qv D a cc σ sz σr) 0 0 (va_A (wM a cc σ) sz) := by
  refine Met.ofW (cc := cX9_count) (maxL := 6) (ret := none) (by decide) rfl ?_
  intro p e s m args below meth c s₁ B hml hv
  obtain ⟨rfl, hsz, hP, hK, hD0⟩ := hv
  subst hsz
  have hl := lv_entry ([.ref (a 0)]) (n := 6) (Nat.le_of_ble_eq_true rfl)
  rw [lg_entry_eq]
  generalize (lg_sl ([.ref (a 0)]) ++ List.replicate (6 - (lg_sl ([.ref (a 0)])).length) Slot.unset).toArray = ls at hl ⊢
  exact tX9_count ⟨B.exec, B.bytes, B.returns, hml, findClass_of_methodNamed B.named, atoms_spec (ws := (Cond.code yX9_count cX9_count 6 none :: WM)) B.pre, (fun w h => List.mem_cons_of_mem _ (inWM w h)), hK, B.notSynchronized⟩ (fun q h => Or.inr h) h hP hD0.self va_S.rf hl
set_option maxHeartbeats 4000000 in
set_option maxRecDepth 100000 in
theorem tX9_compile_45 {p : Program} {l : Launch} {e : Env} {s : State} {m : MethodId} {args : Array Value} {below : List Frame} {meth : Method} {c : Code} {D : va_G} {a : Nat → Nat} {cc : Nat → ClassId} {A : Nat → Prop} {N : Nat} {r : Int32} {σr : St} (C : M_Cx RX9 p s m args meth c D cc cX9_compile (Cond.code yX9_compile cX9_compile 1 (some .int) :: WM) 1 (some .int)) (hA : ∀ q, s.heap.size ≤ q → A q) {σ : St} {H : Heap} {locs : List Loc} {ls : Array Slot} (h : fX9_compile_45 N σ = some (r, σr)) : va_P D vwCl (wM a cc σ) H → va_D A (wM a cc σ) → va_S A s.heap H locs → lv_has ls 1 [(0, .ref (a 0))] → W p l e rmX9_compile s m args below meth c H locs 0 0 (M_Mi D a cc A below args s r σr) (F0 m 45 ls []) := by
  obtain ⟨hx, hb, hr, hml, hown, hts, hin, hK, hlocks⟩ := id C
  intro hP hD hS hl
  refine lv_aload_n hx hb dX9_compile_45 rfl (lv_at hl 0 rfl) ?_
  refine lv_iconst (v := (2 : Int32)) hx hb dX9_compile_46 (by decide) ?_
  obtain ⟨r20, σ19, hc, h⟩ := bnd_s h
  refine M_callVi (As := [.int (2 : Int32)]) (rest := []) C hA (fun sz => kX9_raise l sz hc) gX9_raise hP hD hS ⟨by decide, by decide⟩ ⟨rfl, rfl⟩ rfl hl.1 rfl (lv_room (Nat.le_of_ble_eq_true rfl)) dX9_compile_47 (fun H locs hP hD hS => ?_)
  exact M_iret C h hP hD hS dX9_compile_50
set_option maxHeartbeats 4000000 in
set_option maxRecDepth 100000 in
theorem tX9_compile {p : Program} {l : Launch} {e : Env} {s : State} {m : MethodId} {args : Array Value} {below : List Frame} {meth : Method} {c : Code} {D : va_G} {a : Nat → Nat} {cc : Nat → ClassId} {A : Nat → Prop} {N : Nat} {r : Int32} {σr : St} (C : M_Cx RX9 p s m args meth c D cc cX9_compile (Cond.code yX9_compile cX9_compile 1 (some .int) :: WM) 1 (some .int)) (hA : ∀ q, s.heap.size ≤ q → A q) {σ : St} {H : Heap} {locs : List Loc} {ls : Array Slot} (h : fX9_compile N σ = some (r, σr)) : va_P D vwCl (wM a cc σ) H → va_D A (wM a cc σ) → va_S A s.heap H locs → lv_has ls 1 [(0, .ref (a 0))] → W p l e rmX9_compile s m args below meth c H locs 0 0 (M_Mi D a cc A below args s r σr) (F0 m 0 ls []) := by
  obtain ⟨hx, hb, hr, hml, hown, hts, hin, hK, hlocks⟩ := id C
  intro hP hD hS hl
  refine lv_aload_n hx hb dX9_compile_0 rfl (lv_at hl 0 rfl) ?_
  obtain ⟨σ1, hc, h⟩ := bnd1_s h
  refine M_callVv (As := []) (rest := []) C hA (fun sz => kX9_read l sz hc) gX9_read hP hD hS ⟨by decide, by decide⟩ ⟨rfl, rfl⟩ rfl hl.1 rfl (lv_room (Nat.le_of_ble_eq_true rfl)) dX9_compile_1 (fun H locs hP hD hS => ?_)
  refine lv_aload_n hx hb dX9_compile_4 rfl (lv_at hl 0 rfl) ?_
  refine M_gt12 C hP dX9_compile_5 ?_
  refine lv_if_ne (tgt := 25) hx hb dX9_compile_8 (by decide) (fun c2 => ?_) (fun c2 => ?_)
  · have h := ifF c2 h
    refine lv_aload_n hx hb dX9_compile_25 rfl (lv_at hl 0 rfl) ?_
    obtain ⟨σ3, hc, h⟩ := bnd1_s h
    refine M_callVv (As := []) (rest := []) C hA (fun sz => kX9_collect l sz hc) gX9_collect hP hD hS ⟨by decide, by decide⟩ ⟨rfl, rfl⟩ rfl hl.1 rfl (lv_room (Nat.le_of_ble_eq_true rfl)) dX9_compile_26 (fun H locs hP hD hS => ?_)
    refine lv_aload_n hx hb dX9_compile_29 rfl (lv_at hl 0 rfl) ?_
    refine M_gt17 C hP dX9_compile_30 ?_
    refine lv_bipush (v := (9 : Int32)) hx hb dX9_compile_33 (by decide) ?_
    refine lv_icmp_gt (tgt := 45) hx hb dX9_compile_35 (by decide) (fun c4 => ?_) (fun c4 => ?_)
    · have h := ifT c4 h
      exact tX9_compile_45 C hA h hP hD hS (lv_sub hl [0] rfl)
    · have h := ifF c4 h
      refine lv_aload_n hx hb dX9_compile_38 rfl (lv_at hl 0 rfl) ?_
      obtain ⟨r6, σ5, hc, h⟩ := bnd_s h
      refine M_callVi (As := []) (rest := []) C hA (fun sz => kX9_gather l sz hc) gX9_gather hP hD hS ⟨by decide, by decide⟩ ⟨rfl, rfl⟩ rfl hl.1 rfl (lv_room (Nat.le_of_ble_eq_true rfl)) dX9_compile_39 (fun H locs hP hD hS => ?_)
      refine lv_if_ne (tgt := 51) hx hb dX9_compile_42 (by decide) (fun c7 => ?_) (fun c7 => ?_)
      · have h := ifF c7 h
        refine lv_aload_n hx hb dX9_compile_51 rfl (lv_at hl 0 rfl) ?_
        refine lv_iconst (v := (0 : Int32)) hx hb dX9_compile_52 (by decide) ?_
        obtain ⟨σ8, eσ8, h⟩ := letS_n h
        refine M_pt0 C hP hD hS eσ8 dX9_compile_53 (fun H locs hP hD hS => ?_)
        refine lv_aload_n hx hb dX9_compile_56 rfl (lv_at hl 0 rfl) ?_
        obtain ⟨σ9, hc, h⟩ := bnd1_s h
        refine M_callVv (As := []) (rest := []) C hA (fun sz => kX9_fail l sz hc) gX9_fail hP hD hS ⟨by decide, by decide⟩ ⟨rfl, rfl⟩ rfl hl.1 rfl (lv_room (Nat.le_of_ble_eq_true rfl)) dX9_compile_57 (fun H locs hP hD hS => ?_)
        refine lv_aload_n hx hb dX9_compile_60 rfl (lv_at hl 0 rfl) ?_
        obtain ⟨σ10, hc, h⟩ := bnd1_s h
        refine M_callVv (As := []) (rest := []) C hA (fun sz => kX9_split l sz hc) gX9_split hP hD hS ⟨by decide, by decide⟩ ⟨rfl, rfl⟩ rfl hl.1 rfl (lv_room (Nat.le_of_ble_eq_true rfl)) dX9_compile_61 (fun H locs hP hD hS => ?_)
        refine lv_aload_n hx hb dX9_compile_64 rfl (lv_at hl 0 rfl) ?_
        obtain ⟨σ11, hc, h⟩ := bnd1_s h
        refine M_callVv (As := []) (rest := []) C hA (fun sz => kX9_number l sz hc) gX9_number hP hD hS ⟨by decide, by decide⟩ ⟨rfl, rfl⟩ rfl hl.1 rfl (lv_room (Nat.le_of_ble_eq_true rfl)) dX9_compile_65 (fun H locs hP hD hS => ?_)
        refine lv_aload_n hx hb dX9_compile_68 rfl (lv_at hl 0 rfl) ?_
        obtain ⟨σ12, hc, h⟩ := bnd1_s h
        refine M_callVv (As := []) (rest := []) C hA (fun sz => kX9_count l sz hc) gX9_count hP hD hS ⟨by decide, by decide⟩ ⟨rfl, rfl⟩ rfl hl.1 rfl (lv_room (Nat.le_of_ble_eq_true rfl)) dX9_compile_69 (fun H locs hP hD hS => ?_)
        refine lv_aload_n hx hb dX9_compile_72 rfl (lv_at hl 0 rfl) ?_
        refine lv_aload_n hx hb dX9_compile_73 rfl (lv_at hl 0 rfl) ?_
        refine M_gt17 C hP dX9_compile_74 ?_
        obtain ⟨σ13, eσ13, h⟩ := letS_n h
        refine M_pt43 C hP hD hS eσ13 dX9_compile_77 (fun H locs hP hD hS => ?_)
        refine lv_aload_n hx hb dX9_compile_80 rfl (lv_at hl 0 rfl) ?_
        refine lv_aload_n hx hb dX9_compile_81 rfl (lv_at hl 0 rfl) ?_
        refine M_gt34 C hP dX9_compile_82 ?_
        obtain ⟨σ14, eσ14, h⟩ := letS_n h
        refine M_pt44 C hP hD hS eσ14 dX9_compile_85 (fun H locs hP hD hS => ?_)
        refine lv_aload_n hx hb dX9_compile_88 rfl (lv_at hl 0 rfl) ?_
        refine lv_iconst (v := (-1 : Int32)) hx hb dX9_compile_89 (by decide) ?_
        obtain ⟨σ15, eσ15, h⟩ := letS_n h
        refine M_pt49 C hP hD hS eσ15 dX9_compile_90 (fun H locs hP hD hS => ?_)
        refine lv_aload_n hx hb dX9_compile_93 rfl (lv_at hl 0 rfl) ?_
        refine M_gt40 C hP dX9_compile_94 ?_
        exact M_iret C h hP hD hS dX9_compile_97
      · have h := ifT c7 h
        exact tX9_compile_45 C hA h hP hD hS (lv_sub hl [0] rfl)
  · have h := ifT c2 h
    refine lv_aload_n hx hb dX9_compile_11 rfl (lv_at hl 0 rfl) ?_
    refine lv_aload_n hx hb dX9_compile_12 rfl (lv_at hl 0 rfl) ?_
    refine M_gt11 C hP dX9_compile_13 ?_
    obtain ⟨σ16, eσ16, h⟩ := letS_n h
    refine M_pt3 C hP hD hS eσ16 dX9_compile_16 (fun H locs hP hD hS => ?_)
    refine lv_aload_n hx hb dX9_compile_19 rfl (lv_at hl 0 rfl) ?_
    refine lv_iconst (v := (1 : Int32)) hx hb dX9_compile_20 (by decide) ?_
    obtain ⟨r18, σ17, hc, h⟩ := bnd_s h
    refine M_callVi (As := [.int (1 : Int32)]) (rest := []) C hA (fun sz => kX9_raise l sz hc) gX9_raise hP hD hS ⟨by decide, by decide⟩ ⟨rfl, rfl⟩ rfl hl.1 rfl (lv_room (Nat.le_of_ble_eq_true rfl)) dX9_compile_21 (fun H locs hP hD hS => ?_)
    exact M_iret C h hP hD hS dX9_compile_24
set_option maxRecDepth 100000 in
theorem kX9_compile (l : Launch) (sz : Nat) {D : va_G} {a : Nat → Nat} {cc : Nat → ClassId} {N : Nat} {r : Int32} {σr : St} {σ : St} (h : fX9_compile N σ = some (r, σr)) : Met l yX9_compile ((Cond.code yX9_compile cX9_compile 1 (some .int) :: WM)) rmX9_compile (M_Pc D a cc [.ref (a 0)] σ sz) (M_Qi D a cc σ sz r σr) 0 0 (va_A (wM a cc σ) sz) := by
  refine Met.ofW (cc := cX9_compile) (maxL := 1) (ret := (some .int)) (by decide) rfl ?_
  intro p e s m args below meth c s₁ B hml hv
  obtain ⟨rfl, hsz, hP, hK, hD0⟩ := hv
  subst hsz
  have hl := lv_entry ([.ref (a 0)]) (n := 1) (Nat.le_of_ble_eq_true rfl)
  rw [lg_entry_eq]
  generalize (lg_sl ([.ref (a 0)]) ++ List.replicate (1 - (lg_sl ([.ref (a 0)])).length) Slot.unset).toArray = ls at hl ⊢
  exact tX9_compile ⟨B.exec, B.bytes, B.returns, hml, findClass_of_methodNamed B.named, atoms_spec (ws := (Cond.code yX9_compile cX9_compile 1 (some .int) :: WM)) B.pre, (fun w h => List.mem_cons_of_mem _ (inWM w h)), hK, B.notSynchronized⟩ (fun q h => Or.inr h) h hP hD0.self va_S.rf hl
set_option maxHeartbeats 4000000 in
set_option maxRecDepth 100000 in
theorem tX9_size_26 {p : Program} {l : Launch} {e : Env} {s : State} {m : MethodId} {args : Array Value} {below : List Frame} {meth : Method} {c : Code} {D : va_G} {a : Nat → Nat} {cc : Nat → ClassId} {A : Nat → Prop} {N : Nat} {r : Int32} {σr : St} (C : M_Cx RX9 p s m args meth c D cc cX9_size (Cond.code yX9_size cX9_size 2 (some .int) :: WM) 2 (some .int)) (hA : ∀ q, s.heap.size ≤ q → A q) {σ : St} {x1 : Int32} {y0 : Int32} {H : Heap} {locs : List Loc} {ls : Array Slot} (h : fX9_size_26 N σ x1 y0 = some (r, σr)) : va_P D vwCl (wM a cc σ) H → va_D A (wM a cc σ) → va_S A s.heap H locs → lv_has ls 2 [(0, .ref (a 0)), (1, .int x1)] → W p l e rmX9_size s m args below meth c H locs 0 0 (M_Mi D a cc A below args s r σr) (F0 m 26 ls [.int y0, .ref (a 0)]) := by
  obtain ⟨hx, hb, hr, hml, hown, hts, hin, hK, hlocks⟩ := id C
  intro hP hD hS hl
  obtain ⟨σ4, eσ4, h⟩ := letS_n h
  refine M_pt0 C hP hD hS eσ4 dX9_size_26 (fun H locs hP hD hS => ?_)
  refine lv_aload_n hx hb dX9_size_29 rfl (lv_at hl 0 rfl) ?_
  refine M_gt0 C hP dX9_size_30 ?_
  refine lv_if_le (tgt := 38) hx hb dX9_size_33 (by decide) (fun c5 => ?_) (fun c5 => ?_)
  · have h := ifT c5 h
    refine lv_iload_n hx hb dX9_size_38 rfl (lv_at hl 1 rfl) ?_
    refine lv_if_ne (tgt := 49) hx hb dX9_size_39 (by decide) (fun c6 => ?_) (fun c6 => ?_)
    · have h := ifF c6 h
      refine lv_iload_n hx hb dX9_size_49 rfl (lv_at hl 1 rfl) ?_
      refine lv_iconst (v := (1 : Int32)) hx hb dX9_size_50 (by decide) ?_
      refine lv_icmp_ne (tgt := 61) hx hb dX9_size_51 (by decide) (fun c7 => ?_) (fun c7 => ?_)
      · have h := ifF c7 h
        refine lv_iload_n hx hb dX9_size_61 rfl (lv_at hl 1 rfl) ?_
        refine lv_iconst (v := (2 : Int32)) hx hb dX9_size_62 (by decide) ?_
        refine lv_icmp_ne (tgt := 73) hx hb dX9_size_63 (by decide) (fun c8 => ?_) (fun c8 => ?_)
        · have h := ifF c8 h
          refine lv_iload_n hx hb dX9_size_73 rfl (lv_at hl 1 rfl) ?_
          refine lv_iconst (v := (3 : Int32)) hx hb dX9_size_74 (by decide) ?_
          refine lv_icmp_ne (tgt := 85) hx hb dX9_size_75 (by decide) (fun c9 => ?_) (fun c9 => ?_)
          · have h := ifF c9 h
            refine lv_aload_n hx hb dX9_size_85 rfl (lv_at hl 0 rfl) ?_
            refine M_gt42 C hP dX9_size_86 ?_
            exact M_iret C h hP hD hS dX9_size_89
          · have h := ifT c9 h
            refine lv_aload_n hx hb dX9_size_78 rfl (lv_at hl 0 rfl) ?_
            refine M_gt41 C hP dX9_size_79 ?_
            refine lv_goto (tgt := 89) hx hb dX9_size_82 (by decide) ?_
            exact M_iret C h hP hD hS dX9_size_89
        · have h := ifT c8 h
          refine lv_aload_n hx hb dX9_size_66 rfl (lv_at hl 0 rfl) ?_
          refine M_gt44 C hP dX9_size_67 ?_
          refine lv_goto (tgt := 89) hx hb dX9_size_70 (by decide) ?_
          exact M_iret C h hP hD hS dX9_size_89
      · have h := ifT c7 h
        refine lv_aload_n hx hb dX9_size_54 rfl (lv_at hl 0 rfl) ?_
        refine M_gt43 C hP dX9_size_55 ?_
        refine lv_goto (tgt := 89) hx hb dX9_size_58 (by decide) ?_
        exact M_iret C h hP hD hS dX9_size_89
    · have h := ifT c6 h
      refine lv_aload_n hx hb dX9_size_42 rfl (lv_at hl 0 rfl) ?_
      refine M_gt40 C hP dX9_size_43 ?_
      refine lv_goto (tgt := 89) hx hb dX9_size_46 (by decide) ?_
      exact M_iret C h hP hD hS dX9_size_89
  · have h := ifF c5 h
    refine lv_iconst (v := (0 : Int32)) hx hb dX9_size_36 (by decide) ?_
    exact M_iret C h hP hD hS dX9_size_37
set_option maxHeartbeats 4000000 in
set_option maxRecDepth 100000 in
theorem tX9_size_21 {p : Program} {l : Launch} {e : Env} {s : State} {m : MethodId} {args : Array Value} {below : List Frame} {meth : Method} {c : Code} {D : va_G} {a : Nat → Nat} {cc : Nat → ClassId} {A : Nat → Prop} {N : Nat} {r : Int32} {σr : St} (C : M_Cx RX9 p s m args meth c D cc cX9_size (Cond.code yX9_size cX9_size 2 (some .int) :: WM) 2 (some .int)) (hA : ∀ q, s.heap.size ≤ q → A q) {σ : St} {x1 : Int32} {H : Heap} {locs : List Loc} {ls : Array Slot} (h : fX9_size_21 N σ x1 = some (r, σr)) : va_P D vwCl (wM a cc σ) H → va_D A (wM a cc σ) → va_S A s.heap H locs → lv_has ls 2 [(0, .ref (a 0)), (1, .int x1)] → W p l e rmX9_size s m args below meth c H locs 0 0 (M_Mi D a cc A below args s r σr) (F0 m 21 ls [.ref (a 0)]) := by
  obtain ⟨hx, hb, hr, hml, hown, hts, hin, hK, hlocks⟩ := id C
  intro hP hD hS hl
  refine lv_iconst (v := (2 : Int32)) hx hb dX9_size_21 (by decide) ?_
  refine lv_goto (tgt := 26) hx hb dX9_size_22 (by decide) ?_
  exact tX9_size_26 C hA h hP hD hS (lv_sub hl [0, 1] rfl)
set_option maxHeartbeats 4000000 in
set_option maxRecDepth 100000 in
theorem tX9_size {p : Program} {l : Launch} {e : Env} {s : State} {m : MethodId} {args : Array Value} {below : List Frame} {meth : Method} {c : Code} {D : va_G} {a : Nat → Nat} {cc : Nat → ClassId} {A : Nat → Prop} {N : Nat} {r : Int32} {σr : St} (C : M_Cx RX9 p s m args meth c D cc cX9_size (Cond.code yX9_size cX9_size 2 (some .int) :: WM) 2 (some .int)) (hA : ∀ q, s.heap.size ≤ q → A q) {σ : St} {p0 : Int32} {H : Heap} {locs : List Loc} {ls : Array Slot} (h : fX9_size N σ p0 = some (r, σr)) : va_P D vwCl (wM a cc σ) H → va_D A (wM a cc σ) → va_S A s.heap H locs → lv_has ls 2 [(0, .ref (a 0)), (1, .int p0)] → W p l e rmX9_size s m args below meth c H locs 0 0 (M_Mi D a cc A below args s r σr) (F0 m 0 ls []) := by
  obtain ⟨hx, hb, hr, hml, hown, hts, hin, hK, hlocks⟩ := id C
  intro hP hD hS hl
  refine lv_aload_n hx hb dX9_size_0 rfl (lv_at hl 0 rfl) ?_
  refine lv_aload_n hx hb dX9_size_1 rfl (lv_at hl 0 rfl) ?_
  refine M_gt40 C hP dX9_size_2 ?_
  refine lv_if_ge (tgt := 12) hx hb dX9_size_5 (by decide) (fun c1 => ?_) (fun c1 => ?_)
  · have h := ifT c1 h
    refine lv_iload_n hx hb dX9_size_12 rfl (lv_at hl 1 rfl) ?_
    refine lv_if_lt (tgt := 21) hx hb dX9_size_13 (by decide) (fun c2 => ?_) (fun c2 => ?_)
    · have h := ifT c2 h
      exact tX9_size_21 C hA h hP hD hS (lv_sub hl [0, 1] rfl)
    · have h := ifF c2 h
      refine lv_iload_n hx hb dX9_size_16 rfl (lv_at hl 1 rfl) ?_
      refine lv_iconst (v := (4 : Int32)) hx hb dX9_size_17 (by decide) ?_
      refine lv_icmp_le (tgt := 25) hx hb dX9_size_18 (by decide) (fun c3 => ?_) (fun c3 => ?_)
      · have h := ifT c3 h
        refine lv_iconst (v := (0 : Int32)) hx hb dX9_size_25 (by decide) ?_
        exact tX9_size_26 C hA h hP hD hS (lv_sub hl [0, 1] rfl)
      · have h := ifF c3 h
        exact tX9_size_21 C hA h hP hD hS (lv_sub hl [0, 1] rfl)
  · have h := ifF c1 h
    refine lv_iconst (v := (1 : Int32)) hx hb dX9_size_8 (by decide) ?_
    refine lv_goto (tgt := 26) hx hb dX9_size_9 (by decide) ?_
    exact tX9_size_26 C hA h hP hD hS (lv_sub hl [0, 1] rfl)
set_option maxRecDepth 100000 in
theorem kX9_size (l : Launch) (sz : Nat) {D : va_G} {a : Nat → Nat} {cc : Nat → ClassId} {N : Nat} {r : Int32} {σr : St} {σ : St} {p0 : Int32} (h : fX9_size N σ p0 = some (r, σr)) : Met l yX9_size ((Cond.code yX9_size cX9_size 2 (some .int) :: WM)) rmX9_size (M_Pc D a cc [.ref (a 0), .int p0] σ sz) (M_Qi D a cc σ sz r σr) 0 0 (va_A (wM a cc σ) sz) := by
  refine Met.ofW (cc := cX9_size) (maxL := 2) (ret := (some .int)) (by decide) rfl ?_
  intro p e s m args below meth c s₁ B hml hv
  obtain ⟨rfl, hsz, hP, hK, hD0⟩ := hv
  subst hsz
  have hl := lv_entry ([.ref (a 0), .int p0]) (n := 2) (Nat.le_of_ble_eq_true rfl)
  rw [lg_entry_eq]
  generalize (lg_sl ([.ref (a 0), .int p0]) ++ List.replicate (2 - (lg_sl ([.ref (a 0), .int p0])).length) Slot.unset).toArray = ls at hl ⊢
  exact tX9_size ⟨B.exec, B.bytes, B.returns, hml, findClass_of_methodNamed B.named, atoms_spec (ws := (Cond.code yX9_size cX9_size 2 (some .int) :: WM)) B.pre, (fun w h => List.mem_cons_of_mem _ (inWM w h)), hK, B.notSynchronized⟩ (fun q h => Or.inr h) h hP hD0.self va_S.rf hl
set_option maxHeartbeats 4000000 in
set_option maxRecDepth 100000 in
theorem tX9_next_39 {p : Program} {l : Launch} {e : Env} {s : State} {m : MethodId} {args : Array Value} {below : List Frame} {meth : Method} {c : Code} {D : va_G} {a : Nat → Nat} {cc : Nat → ClassId} {A : Nat → Prop} {N : Nat} {r : Int32} {σr : St} (C : M_Cx RX9 p s m args meth c D cc cX9_next (Cond.code yX9_next cX9_next 3 (some .int) :: WM) 3 (some .int)) (hA : ∀ q, s.heap.size ≤ q → A q) {σ : St} {x1 : Int32} {x2 : Int32} {y0 : Int32} {H : Heap} {locs : List Loc} {ls : Array Slot} (h : fX9_next_39 N σ x1 x2 y0 = some (r, σr)) : va_P D vwCl (wM a cc σ) H → va_D A (wM a cc σ) → va_S A s.heap H locs → lv_has ls 3 [(0, .ref (a 0)), (1, .int x1), (2, .int x2)] → W p l e rmX9_next s m args below meth c H locs 0 0 (M_Mi D a cc A below args s r σr) (F0 m 39 ls [.int y0, .ref (a 0)]) := by
  obtain ⟨hx, hb, hr, hml, hown, hts, hin, hK, hlocks⟩ := id C
  intro hP hD hS hl
  obtain ⟨σ6, eσ6, h⟩ := letS_n h
  refine M_pt0 C hP hD hS eσ6 dX9_next_39 (fun H locs hP hD hS => ?_)
  refine lv_aload_n hx hb dX9_next_42 rfl (lv_at hl 0 rfl) ?_
  refine M_gt0 C hP dX9_next_43 ?_
  refine lv_if_le (tgt := 53) hx hb dX9_next_46 (by decide) (fun c7 => ?_) (fun c7 => ?_)
  · have h := ifT c7 h
    refine lv_aload_n hx hb dX9_next_53 rfl (lv_at hl 0 rfl) ?_
    refine M_gt45 C hP dX9_next_54 ?_
    refine lv_bipush (v := (8 : Int32)) hx hb dX9_next_57 (by decide) ?_
    refine lv_iload_n hx hb dX9_next_59 rfl (lv_at hl 1 rfl) ?_
    refine lv_imul hx hb dX9_next_60 ?_
    refine lv_iload_n hx hb dX9_next_61 rfl (lv_at hl 2 rfl) ?_
    refine lv_iadd hx hb dX9_next_62 ?_
    obtain ⟨g8, h⟩ := grd_s h
    refine M_ld45 C hP g8 dX9_next_63 ?_
    exact M_iret C h hP hD hS dX9_next_64
  · have h := ifF c7 h
    refine lv_iconst (v := (0 : Int32)) hx hb dX9_next_49 (by decide) ?_
    refine lv_goto (tgt := 64) hx hb dX9_next_50 (by decide) ?_
    exact M_iret C h hP hD hS dX9_next_64
set_option maxHeartbeats 4000000 in
set_option maxRecDepth 100000 in
theorem tX9_next_34 {p : Program} {l : Launch} {e : Env} {s : State} {m : MethodId} {args : Array Value} {below : List Frame} {meth : Method} {c : Code} {D : va_G} {a : Nat → Nat} {cc : Nat → ClassId} {A : Nat → Prop} {N : Nat} {r : Int32} {σr : St} (C : M_Cx RX9 p s m args meth c D cc cX9_next (Cond.code yX9_next cX9_next 3 (some .int) :: WM) 3 (some .int)) (hA : ∀ q, s.heap.size ≤ q → A q) {σ : St} {x1 : Int32} {x2 : Int32} {H : Heap} {locs : List Loc} {ls : Array Slot} (h : fX9_next_34 N σ x1 x2 = some (r, σr)) : va_P D vwCl (wM a cc σ) H → va_D A (wM a cc σ) → va_S A s.heap H locs → lv_has ls 3 [(0, .ref (a 0)), (1, .int x1), (2, .int x2)] → W p l e rmX9_next s m args below meth c H locs 0 0 (M_Mi D a cc A below args s r σr) (F0 m 34 ls [.ref (a 0)]) := by
  obtain ⟨hx, hb, hr, hml, hown, hts, hin, hK, hlocks⟩ := id C
  intro hP hD hS hl
  refine lv_iconst (v := (2 : Int32)) hx hb dX9_next_34 (by decide) ?_
  refine lv_goto (tgt := 39) hx hb dX9_next_35 (by decide) ?_
  exact tX9_next_39 C hA h hP hD hS (lv_sub hl [0, 1, 2] rfl)
set_option maxHeartbeats 4000000 in
set_option maxRecDepth 100000 in
theorem tX9_next {p : Program} {l : Launch} {e : Env} {s : State} {m : MethodId} {args : Array Value} {below : List Frame} {meth : Method} {c : Code} {D : va_G} {a : Nat → Nat} {cc : Nat → ClassId} {A : Nat → Prop} {N : Nat} {r : Int32} {σr : St} (C : M_Cx RX9 p s m args meth c D cc cX9_next (Cond.code yX9_next cX9_next 3 (some .int) :: WM) 3 (some .int)) (hA : ∀ q, s.heap.size ≤ q → A q) {σ : St} {p0 : Int32} {p1 : Int32} {H : Heap} {locs : List Loc} {ls : Array Slot} (h : fX9_next N σ p0 p1 = some (r, σr)) : va_P D vwCl (wM a cc σ) H → va_D A (wM a cc σ) → va_S A s.heap H locs → lv_has ls 3 [(0, .ref (a 0)), (1, .int p0), (2, .int p1)] → W p l e rmX9_next s m args below meth c H locs 0 0 (M_Mi D a cc A below args s r σr) (F0 m 0 ls []) := by
  obtain ⟨hx, hb, hr, hml, hown, hts, hin, hK, hlocks⟩ := id C
  intro hP hD hS hl
  refine lv_aload_n hx hb dX9_next_0 rfl (lv_at hl 0 rfl) ?_
  refine lv_aload_n hx hb dX9_next_1 rfl (lv_at hl 0 rfl) ?_
  refine M_gt40 C hP dX9_next_2 ?_
  refine lv_if_ge (tgt := 12) hx hb dX9_next_5 (by decide) (fun c1 => ?_) (fun c1 => ?_)
  · have h := ifT c1 h
    refine lv_iload_n hx hb dX9_next_12 rfl (lv_at hl 1 rfl) ?_
    refine lv_if_lt (tgt := 34) hx hb dX9_next_13 (by decide) (fun c2 => ?_) (fun c2 => ?_)
    · have h := ifT c2 h
      exact tX9_next_34 C hA h hP hD hS (lv_sub hl [0, 1, 2] rfl)
    · have h := ifF c2 h
      refine lv_iload_n hx hb dX9_next_16 rfl (lv_at hl 1 rfl) ?_
      refine lv_aload_n hx hb dX9_next_17 rfl (lv_at hl 0 rfl) ?_
      refine M_gt40 C hP dX9_next_18 ?_
      refine lv_icmp_ge (tgt := 34) hx hb dX9_next_21 (by decide) (fun c3 => ?_) (fun c3 => ?_)
      · have h := ifT c3 h
        exact tX9_next_34 C hA h hP hD hS (lv_sub hl [0, 1, 2] rfl)
      · have h := ifF c3 h
        refine lv_iload_n hx hb dX9_next_24 rfl (lv_at hl 2 rfl) ?_
        refine lv_if_lt (tgt := 34) hx hb dX9_next_25 (by decide) (fun c4 => ?_) (fun c4 => ?_)
        · have h := ifT c4 h
          exact tX9_next_34 C hA h hP hD hS (lv_sub hl [0, 1, 2] rfl)
        · have h := ifF c4 h
          refine lv_iload_n hx hb dX9_next_28 rfl (lv_at hl 2 rfl) ?_
          refine lv_bipush (v := (7 : Int32)) hx hb dX9_next_29 (by decide) ?_
          refine lv_icmp_le (tgt := 38) hx hb dX9_next_31 (by decide) (fun c5 => ?_) (fun c5 => ?_)
          · have h := ifT c5 h
            refine lv_iconst (v := (0 : Int32)) hx hb dX9_next_38 (by decide) ?_
            exact tX9_next_39 C hA h hP hD hS (lv_sub hl [0, 1, 2] rfl)
          · have h := ifF c5 h
            exact tX9_next_34 C hA h hP hD hS (lv_sub hl [0, 1, 2] rfl)
  · have h := ifF c1 h
    refine lv_iconst (v := (1 : Int32)) hx hb dX9_next_8 (by decide) ?_
    refine lv_goto (tgt := 39) hx hb dX9_next_9 (by decide) ?_
    exact tX9_next_39 C hA h hP hD hS (lv_sub hl [0, 1, 2] rfl)
set_option maxRecDepth 100000 in
theorem kX9_next (l : Launch) (sz : Nat) {D : va_G} {a : Nat → Nat} {cc : Nat → ClassId} {N : Nat} {r : Int32} {σr : St} {σ : St} {p0 : Int32} {p1 : Int32} (h : fX9_next N σ p0 p1 = some (r, σr)) : Met l yX9_next ((Cond.code yX9_next cX9_next 3 (some .int) :: WM)) rmX9_next (M_Pc D a cc [.ref (a 0), .int p0, .int p1] σ sz) (M_Qi D a cc σ sz r σr) 0 0 (va_A (wM a cc σ) sz) := by
  refine Met.ofW (cc := cX9_next) (maxL := 3) (ret := (some .int)) (by decide) rfl ?_
  intro p e s m args below meth c s₁ B hml hv
  obtain ⟨rfl, hsz, hP, hK, hD0⟩ := hv
  subst hsz
  have hl := lv_entry ([.ref (a 0), .int p0, .int p1]) (n := 3) (Nat.le_of_ble_eq_true rfl)
  rw [lg_entry_eq]
  generalize (lg_sl ([.ref (a 0), .int p0, .int p1]) ++ List.replicate (3 - (lg_sl ([.ref (a 0), .int p0, .int p1])).length) Slot.unset).toArray = ls at hl ⊢
  exact tX9_next ⟨B.exec, B.bytes, B.returns, hml, findClass_of_methodNamed B.named, atoms_spec (ws := (Cond.code yX9_next cX9_next 3 (some .int) :: WM)) B.pre, (fun w h => List.mem_cons_of_mem _ (inWM w h)), hK, B.notSynchronized⟩ (fun q h => Or.inr h) h hP hD0.self va_S.rf hl
set_option maxHeartbeats 4000000 in
set_option maxRecDepth 100000 in
theorem tX9_output_53 {p : Program} {l : Launch} {e : Env} {s : State} {m : MethodId} {args : Array Value} {below : List Frame} {meth : Method} {c : Code} {D : va_G} {a : Nat → Nat} {cc : Nat → ClassId} {A : Nat → Prop} {N : Nat} {r : Int32} {σr : St} (C : M_Cx RX9 p s m args meth c D cc cX9_output (Cond.code yX9_output cX9_output 5 (some .boolean) :: WM) 5 (some .boolean)) (hA : ∀ q, s.heap.size ≤ q → A q) {σ : St} {x1 : Int32} {x2 : Int32} {x3 : Int32} {y0 : Int32} {H : Heap} {locs : List Loc} {ls : Array Slot} (h : fX9_output_53 N σ x1 x2 x3 y0 = some (r, σr)) : va_P D vwCl (wM a cc σ) H → va_D A (wM a cc σ) → va_S A s.heap H locs → lv_has ls 5 [(0, .ref (a 0)), (1, .int x1), (2, .int x2), (3, .int x3)] → W p l e rmX9_output s m args below meth c H locs 0 0 (M_Mi D a cc A below args s r σr) (F0 m 53 ls [.int y0, .ref (a 0)]) := by
  obtain ⟨hx, hb, hr, hml, hown, hts, hin, hK, hlocks⟩ := id C
  intro hP hD hS hl
  obtain ⟨σ8, eσ8, h⟩ := letS_n h
  refine M_pt0 C hP hD hS eσ8 dX9_output_53 (fun H locs hP hD hS => ?_)
  refine lv_aload_n hx hb dX9_output_56 rfl (lv_at hl 0 rfl) ?_
  refine M_gt0 C hP dX9_output_57 ?_
  refine lv_if_le (tgt := 65) hx hb dX9_output_60 (by decide) (fun c9 => ?_) (fun c9 => ?_)
  · have h := ifT c9 h
    refine lv_aload_n hx hb dX9_output_65 rfl (lv_at hl 0 rfl) ?_
    refine lv_iload_n hx hb dX9_output_66 rfl (lv_at hl 2 rfl) ?_
    refine lv_iload_n hx hb dX9_output_67 rfl (lv_at hl 3 rfl) ?_
    obtain ⟨r11, σ10, hc, h⟩ := bnd_s h
    refine M_callVi (As := [.int x2, .int x3]) (rest := []) C hA (fun sz => kX9_codeAfter l sz hc) gX9_codeAfter hP hD hS ⟨by decide, by decide⟩ ⟨rfl, rfl⟩ rfl hl.1 rfl (lv_room (Nat.le_of_ble_eq_true rfl)) dX9_output_68 (fun H locs hP hD hS => ?_)
    refine lv_istore (lv' := [(4, .int r11), (0, .ref (a 0)), (1, .int x1), (2, .int x2), (3, .int x3)]) hx hb dX9_output_71 hl (by decide) rfl (fun ls hl => ?_)
    refine lv_iload_n hx hb dX9_output_73 rfl (lv_at hl 2 rfl) ?_
    refine lv_aload_n hx hb dX9_output_74 rfl (lv_at hl 1 rfl) ?_
    refine M_gt41 C hP dX9_output_75 ?_
    refine lv_icmp_ne (tgt := 98) hx hb dX9_output_78 (by decide) (fun c12 => ?_) (fun c12 => ?_)
    · have h := ifF c12 h
      refine lv_iload hx hb dX9_output_98 (lv_at hl 0 rfl) ?_
      refine lv_iload_n hx hb dX9_output_100 rfl (lv_at hl 2 rfl) ?_
      refine lv_ishr hx hb dX9_output_101 ?_
      refine lv_iconst (v := (1 : Int32)) hx hb dX9_output_102 (by decide) ?_
      refine lv_iand hx hb dX9_output_103 ?_
      refine lv_iconst (v := (1 : Int32)) hx hb dX9_output_104 (by decide) ?_
      refine lv_icmp_ne (tgt := 112) hx hb dX9_output_105 (by decide) (fun c13 => ?_) (fun c13 => ?_)
      · have h := ifF c13 h
        refine lv_iconst (v := (0 : Int32)) hx hb dX9_output_112 (by decide) ?_
        exact M_zretZ C h hP hD hS dX9_output_113
      · have h := ifT c13 h
        refine lv_iconst (v := (1 : Int32)) hx hb dX9_output_108 (by decide) ?_
        refine lv_goto (tgt := 113) hx hb dX9_output_109 (by decide) ?_
        exact M_zretZ C h hP hD hS dX9_output_113
    · have h := ifT c12 h
      refine lv_iload hx hb dX9_output_81 (lv_at hl 0 rfl) ?_
      refine lv_aload_n hx hb dX9_output_83 rfl (lv_at hl 1 rfl) ?_
      refine M_gt40 C hP dX9_output_84 ?_
      refine lv_icmp_ne (tgt := 94) hx hb dX9_output_87 (by decide) (fun c14 => ?_) (fun c14 => ?_)
      · have h := ifF c14 h
        refine lv_iconst (v := (0 : Int32)) hx hb dX9_output_94 (by decide) ?_
        refine lv_goto (tgt := 113) hx hb dX9_output_95 (by decide) ?_
        exact M_zretZ C h hP hD hS dX9_output_113
      · have h := ifT c14 h
        refine lv_iconst (v := (1 : Int32)) hx hb dX9_output_90 (by decide) ?_
        refine lv_goto (tgt := 113) hx hb dX9_output_91 (by decide) ?_
        exact M_zretZ C h hP hD hS dX9_output_113
  · have h := ifF c9 h
    refine lv_iconst (v := (0 : Int32)) hx hb dX9_output_63 (by decide) ?_
    exact M_zretZ C h hP hD hS dX9_output_64
set_option maxHeartbeats 4000000 in
set_option maxRecDepth 100000 in
theorem tX9_output_48 {p : Program} {l : Launch} {e : Env} {s : State} {m : MethodId} {args : Array Value} {below : List Frame} {meth : Method} {c : Code} {D : va_G} {a : Nat → Nat} {cc : Nat → ClassId} {A : Nat → Prop} {N : Nat} {r : Int32} {σr : St} (C : M_Cx RX9 p s m args meth c D cc cX9_output (Cond.code yX9_output cX9_output 5 (some .boolean) :: WM) 5 (some .boolean)) (hA : ∀ q, s.heap.size ≤ q → A q) {σ : St} {x1 : Int32} {x2 : Int32} {x3 : Int32} {H : Heap} {locs : List Loc} {ls : Array Slot} (h : fX9_output_48 N σ x1 x2 x3 = some (r, σr)) : va_P D vwCl (wM a cc σ) H → va_D A (wM a cc σ) → va_S A s.heap H locs → lv_has ls 5 [(0, .ref (a 0)), (1, .int x1), (2, .int x2), (3, .int x3)] → W p l e rmX9_output s m args below meth c H locs 0 0 (M_Mi D a cc A below args s r σr) (F0 m 48 ls [.ref (a 0)]) := by
  obtain ⟨hx, hb, hr, hml, hown, hts, hin, hK, hlocks⟩ := id C
  intro hP hD hS hl
  refine lv_iconst (v := (2 : Int32)) hx hb dX9_output_48 (by decide) ?_
  refine lv_goto (tgt := 53) hx hb dX9_output_49 (by decide) ?_
  exact tX9_output_53 C hA h hP hD hS (lv_sub hl [0, 1, 2, 3] rfl)
set_option maxHeartbeats 4000000 in
set_option maxRecDepth 100000 in
theorem tX9_output {p : Program} {l : Launch} {e : Env} {s : State} {m : MethodId} {args : Array Value} {below : List Frame} {meth : Method} {c : Code} {D : va_G} {a : Nat → Nat} {cc : Nat → ClassId} {A : Nat → Prop} {N : Nat} {r : Int32} {σr : St} (C : M_Cx RX9 p s m args meth c D cc cX9_output (Cond.code yX9_output cX9_output 5 (some .boolean) :: WM) 5 (some .boolean)) (hA : ∀ q, s.heap.size ≤ q → A q) {σ : St} {p0 : Int32} {p1 : Int32} {p2 : Int32} {H : Heap} {locs : List Loc} {ls : Array Slot} (h : fX9_output N σ p0 p1 p2 = some (r, σr)) : va_P D vwCl (wM a cc σ) H → va_D A (wM a cc σ) → va_S A s.heap H locs → lv_has ls 5 [(0, .ref (a 0)), (1, .int p0), (2, .int p1), (3, .int p2)] → W p l e rmX9_output s m args below meth c H locs 0 0 (M_Mi D a cc A below args s r σr) (F0 m 0 ls []) := by
  obtain ⟨hx, hb, hr, hml, hown, hts, hin, hK, hlocks⟩ := id C
  intro hP hD hS hl
  refine lv_aload_n hx hb dX9_output_0 rfl (lv_at hl 0 rfl) ?_
  refine lv_aload_n hx hb dX9_output_1 rfl (lv_at hl 0 rfl) ?_
  refine M_gt40 C hP dX9_output_2 ?_
  refine lv_if_ge (tgt := 12) hx hb dX9_output_5 (by decide) (fun c1 => ?_) (fun c1 => ?_)
  · have h := ifT c1 h
    refine lv_iload_n hx hb dX9_output_12 rfl (lv_at hl 1 rfl) ?_
    refine lv_if_lt (tgt := 48) hx hb dX9_output_13 (by decide) (fun c2 => ?_) (fun c2 => ?_)
    · have h := ifT c2 h
      exact tX9_output_48 C hA h hP hD hS (lv_sub hl [0, 1, 2, 3] rfl)
    · have h := ifF c2 h
      refine lv_iload_n hx hb dX9_output_16 rfl (lv_at hl 1 rfl) ?_
      refine lv_aload_n hx hb dX9_output_17 rfl (lv_at hl 0 rfl) ?_
      refine M_gt41 C hP dX9_output_18 ?_
      refine lv_icmp_gt (tgt := 48) hx hb dX9_output_21 (by decide) (fun c3 => ?_) (fun c3 => ?_)
      · have h := ifT c3 h
        exact tX9_output_48 C hA h hP hD hS (lv_sub hl [0, 1, 2, 3] rfl)
      · have h := ifF c3 h
        refine lv_iload_n hx hb dX9_output_24 rfl (lv_at hl 2 rfl) ?_
        refine lv_if_lt (tgt := 48) hx hb dX9_output_25 (by decide) (fun c4 => ?_) (fun c4 => ?_)
        · have h := ifT c4 h
          exact tX9_output_48 C hA h hP hD hS (lv_sub hl [0, 1, 2, 3] rfl)
        · have h := ifF c4 h
          refine lv_iload_n hx hb dX9_output_28 rfl (lv_at hl 2 rfl) ?_
          refine lv_iconst (v := (1 : Int32)) hx hb dX9_output_29 (by decide) ?_
          refine lv_aload_n hx hb dX9_output_30 rfl (lv_at hl 0 rfl) ?_
          refine M_gt41 C hP dX9_output_31 ?_
          refine lv_ishl hx hb dX9_output_34 ?_
          refine lv_icmp_ge (tgt := 48) hx hb dX9_output_35 (by decide) (fun c5 => ?_) (fun c5 => ?_)
          · have h := ifT c5 h
            exact tX9_output_48 C hA h hP hD hS (lv_sub hl [0, 1, 2, 3] rfl)
          · have h := ifF c5 h
            refine lv_iload_n hx hb dX9_output_38 rfl (lv_at hl 3 rfl) ?_
            refine lv_if_lt (tgt := 48) hx hb dX9_output_39 (by decide) (fun c6 => ?_) (fun c6 => ?_)
            · have h := ifT c6 h
              exact tX9_output_48 C hA h hP hD hS (lv_sub hl [0, 1, 2, 3] rfl)
            · have h := ifF c6 h
              refine lv_iload_n hx hb dX9_output_42 rfl (lv_at hl 3 rfl) ?_
              refine lv_bipush (v := (7 : Int32)) hx hb dX9_output_43 (by decide) ?_
              refine lv_icmp_le (tgt := 52) hx hb dX9_output_45 (by decide) (fun c7 => ?_) (fun c7 => ?_)
              · have h := ifT c7 h
                refine lv_iconst (v := (0 : Int32)) hx hb dX9_output_52 (by decide) ?_
                exact tX9_output_53 C hA h hP hD hS (lv_sub hl [0, 1, 2, 3] rfl)
              · have h := ifF c7 h
                exact tX9_output_48 C hA h hP hD hS (lv_sub hl [0, 1, 2, 3] rfl)
  · have h := ifF c1 h
    refine lv_iconst (v := (1 : Int32)) hx hb dX9_output_8 (by decide) ?_
    refine lv_goto (tgt := 53) hx hb dX9_output_9 (by decide) ?_
    exact tX9_output_53 C hA h hP hD hS (lv_sub hl [0, 1, 2, 3] rfl)
set_option maxRecDepth 100000 in
theorem kX9_output (l : Launch) (sz : Nat) {D : va_G} {a : Nat → Nat} {cc : Nat → ClassId} {N : Nat} {r : Int32} {σr : St} {σ : St} {p0 : Int32} {p1 : Int32} {p2 : Int32} (h : fX9_output N σ p0 p1 p2 = some (r, σr)) : Met l yX9_output ((Cond.code yX9_output cX9_output 5 (some .boolean) :: WM)) rmX9_output (M_Pc D a cc [.ref (a 0), .int p0, .int p1, .int p2] σ sz) (M_Qi D a cc σ sz r σr) 0 0 (va_A (wM a cc σ) sz) := by
  refine Met.ofW (cc := cX9_output) (maxL := 5) (ret := (some .boolean)) (by decide) rfl ?_
  intro p e s m args below meth c s₁ B hml hv
  obtain ⟨rfl, hsz, hP, hK, hD0⟩ := hv
  subst hsz
  have hl := lv_entry ([.ref (a 0), .int p0, .int p1, .int p2]) (n := 5) (Nat.le_of_ble_eq_true rfl)
  rw [lg_entry_eq]
  generalize (lg_sl ([.ref (a 0), .int p0, .int p1, .int p2]) ++ List.replicate (5 - (lg_sl ([.ref (a 0), .int p0, .int p1, .int p2])).length) Slot.unset).toArray = ls at hl ⊢
  exact tX9_output ⟨B.exec, B.bytes, B.returns, hml, findClass_of_methodNamed B.named, atoms_spec (ws := (Cond.code yX9_output cX9_output 5 (some .boolean) :: WM)) B.pre, (fun w h => List.mem_cons_of_mem _ (inWM w h)), hK, B.notSynchronized⟩ (fun q h => Or.inr h) h hP hD0.self va_S.rf hl
set_option maxHeartbeats 4000000 in
set_option maxRecDepth 100000 in
theorem tX9_begin_43 {p : Program} {l : Launch} {e : Env} {s : State} {m : MethodId} {args : Array Value} {below : List Frame} {meth : Method} {c : Code} {D : va_G} {a : Nat → Nat} {cc : Nat → ClassId} {A : Nat → Prop} {N : Nat} {r : Int32} {σr : St} (C : M_Cx RX9 p s m args meth c D cc cX9_begin (Cond.code yX9_begin cX9_begin 1 (some .boolean) :: WM) 1 (some .boolean)) (hA : ∀ q, s.heap.size ≤ q → A q) {σ : St} {y0 : Int32} {H : Heap} {locs : List Loc} {ls : Array Slot} (h : fX9_begin_43 N σ y0 = some (r, σr)) : va_P D vwCl (wM a cc σ) H → va_D A (wM a cc σ) → va_S A s.heap H locs → lv_has ls 1 [(0, .ref (a 0))] → W p l e rmX9_begin s m args below meth c H locs 0 0 (M_Mi D a cc A below args s r σr) (F0 m 43 ls [.int y0, .ref (a 0)]) := by
  obtain ⟨hx, hb, hr, hml, hown, hts, hin, hK, hlocks⟩ := id C
  intro hP hD hS hl
  obtain ⟨σ6, eσ6, h⟩ := letS_n h
  refine M_pt50 C hP hD hS eσ6 dX9_begin_43 (fun H locs hP hD hS => ?_)
  refine lv_aload_n hx hb dX9_begin_46 rfl (lv_at hl 0 rfl) ?_
  refine M_gt40 C hP dX9_begin_47 ?_
  refine lv_if_le (tgt := 57) hx hb dX9_begin_50 (by decide) (fun c7 => ?_) (fun c7 => ?_)
  · have h := ifT c7 h
    refine lv_iconst (v := (0 : Int32)) hx hb dX9_begin_57 (by decide) ?_
    exact M_zretZ C h hP hD hS dX9_begin_58
  · have h := ifF c7 h
    refine lv_iconst (v := (1 : Int32)) hx hb dX9_begin_53 (by decide) ?_
    refine lv_goto (tgt := 58) hx hb dX9_begin_54 (by decide) ?_
    exact M_zretZ C h hP hD hS dX9_begin_58
set_option maxHeartbeats 4000000 in
set_option maxRecDepth 100000 in
theorem tX9_begin_13 {p : Program} {l : Launch} {e : Env} {s : State} {m : MethodId} {args : Array Value} {below : List Frame} {meth : Method} {c : Code} {D : va_G} {a : Nat → Nat} {cc : Nat → ClassId} {A : Nat → Prop} {N : Nat} {r : Int32} {σr : St} (C : M_Cx RX9 p s m args meth c D cc cX9_begin (Cond.code yX9_begin cX9_begin 1 (some .boolean) :: WM) 1 (some .boolean)) (hA : ∀ q, s.heap.size ≤ q → A q) {σ : St} {y0 : Int32} {H : Heap} {locs : List Loc} {ls : Array Slot} (h : fX9_begin_13 N σ y0 = some (r, σr)) : va_P D vwCl (wM a cc σ) H → va_D A (wM a cc σ) → va_S A s.heap H locs → lv_has ls 1 [(0, .ref (a 0))] → W p l e rmX9_begin s m args below meth c H locs 0 0 (M_Mi D a cc A below args s r σr) (F0 m 13 ls [.int y0, .ref (a 0)]) := by
  obtain ⟨hx, hb, hr, hml, hown, hts, hin, hK, hlocks⟩ := id C
  intro hP hD hS hl
  obtain ⟨σ2, eσ2, h⟩ := letS_n h
  refine M_pt0 C hP hD hS eσ2 dX9_begin_13 (fun H locs hP hD hS => ?_)
  refine lv_aload_n hx hb dX9_begin_16 rfl (lv_at hl 0 rfl) ?_
  refine M_gt0 C hP dX9_begin_17 ?_
  refine lv_if_le (tgt := 25) hx hb dX9_begin_20 (by decide) (fun c3 => ?_) (fun c3 => ?_)
  · have h := ifT c3 h
    refine lv_aload_n hx hb dX9_begin_25 rfl (lv_at hl 0 rfl) ?_
    refine lv_iconst (v := (0 : Int32)) hx hb dX9_begin_26 (by decide) ?_
    obtain ⟨σ4, eσ4, h⟩ := letS_n h
    refine M_pt49 C hP hD hS eσ4 dX9_begin_27 (fun H locs hP hD hS => ?_)
    refine lv_aload_n hx hb dX9_begin_30 rfl (lv_at hl 0 rfl) ?_
    refine lv_aload_n hx hb dX9_begin_31 rfl (lv_at hl 0 rfl) ?_
    refine M_gt40 C hP dX9_begin_32 ?_
    refine lv_if_le (tgt := 42) hx hb dX9_begin_35 (by decide) (fun c5 => ?_) (fun c5 => ?_)
    · have h := ifT c5 h
      refine lv_iconst (v := (-1 : Int32)) hx hb dX9_begin_42 (by decide) ?_
      exact tX9_begin_43 C hA h hP hD hS (lv_sub hl [0] rfl)
    · have h := ifF c5 h
      refine lv_iconst (v := (0 : Int32)) hx hb dX9_begin_38 (by decide) ?_
      refine lv_goto (tgt := 43) hx hb dX9_begin_39 (by decide) ?_
      exact tX9_begin_43 C hA h hP hD hS (lv_sub hl [0] rfl)
  · have h := ifF c3 h
    refine lv_iconst (v := (0 : Int32)) hx hb dX9_begin_23 (by decide) ?_
    exact M_zretZ C h hP hD hS dX9_begin_24
set_option maxHeartbeats 4000000 in
set_option maxRecDepth 100000 in
theorem tX9_begin {p : Program} {l : Launch} {e : Env} {s : State} {m : MethodId} {args : Array Value} {below : List Frame} {meth : Method} {c : Code} {D : va_G} {a : Nat → Nat} {cc : Nat → ClassId} {A : Nat → Prop} {N : Nat} {r : Int32} {σr : St} (C : M_Cx RX9 p s m args meth c D cc cX9_begin (Cond.code yX9_begin cX9_begin 1 (some .boolean) :: WM) 1 (some .boolean)) (hA : ∀ q, s.heap.size ≤ q → A q) {σ : St} {H : Heap} {locs : List Loc} {ls : Array Slot} (h : fX9_begin N σ = some (r, σr)) : va_P D vwCl (wM a cc σ) H → va_D A (wM a cc σ) → va_S A s.heap H locs → lv_has ls 1 [(0, .ref (a 0))] → W p l e rmX9_begin s m args below meth c H locs 0 0 (M_Mi D a cc A below args s r σr) (F0 m 0 ls []) := by
  obtain ⟨hx, hb, hr, hml, hown, hts, hin, hK, hlocks⟩ := id C
  intro hP hD hS hl
  refine lv_aload_n hx hb dX9_begin_0 rfl (lv_at hl 0 rfl) ?_
  refine lv_aload_n hx hb dX9_begin_1 rfl (lv_at hl 0 rfl) ?_
  refine M_gt40 C hP dX9_begin_2 ?_
  refine lv_if_ge (tgt := 12) hx hb dX9_begin_5 (by decide) (fun c1 => ?_) (fun c1 => ?_)
  · have h := ifT c1 h
    refine lv_iconst (v := (0 : Int32)) hx hb dX9_begin_12 (by decide) ?_
    exact tX9_begin_13 C hA h hP hD hS (lv_sub hl [0] rfl)
  · have h := ifF c1 h
    refine lv_iconst (v := (1 : Int32)) hx hb dX9_begin_8 (by decide) ?_
    refine lv_goto (tgt := 13) hx hb dX9_begin_9 (by decide) ?_
    exact tX9_begin_13 C hA h hP hD hS (lv_sub hl [0] rfl)
set_option maxRecDepth 100000 in
theorem kX9_begin (l : Launch) (sz : Nat) {D : va_G} {a : Nat → Nat} {cc : Nat → ClassId} {N : Nat} {r : Int32} {σr : St} {σ : St} (h : fX9_begin N σ = some (r, σr)) : Met l yX9_begin ((Cond.code yX9_begin cX9_begin 1 (some .boolean) :: WM)) rmX9_begin (M_Pc D a cc [.ref (a 0)] σ sz) (M_Qi D a cc σ sz r σr) 0 0 (va_A (wM a cc σ) sz) := by
  refine Met.ofW (cc := cX9_begin) (maxL := 1) (ret := (some .boolean)) (by decide) rfl ?_
  intro p e s m args below meth c s₁ B hml hv
  obtain ⟨rfl, hsz, hP, hK, hD0⟩ := hv
  subst hsz
  have hl := lv_entry ([.ref (a 0)]) (n := 1) (Nat.le_of_ble_eq_true rfl)
  rw [lg_entry_eq]
  generalize (lg_sl ([.ref (a 0)]) ++ List.replicate (1 - (lg_sl ([.ref (a 0)])).length) Slot.unset).toArray = ls at hl ⊢
  exact tX9_begin ⟨B.exec, B.bytes, B.returns, hml, findClass_of_methodNamed B.named, atoms_spec (ws := (Cond.code yX9_begin cX9_begin 1 (some .boolean) :: WM)) B.pre, (fun w h => List.mem_cons_of_mem _ (inWM w h)), hK, B.notSynchronized⟩ (fun q h => Or.inr h) h hP hD0.self va_S.rf hl
set_option maxHeartbeats 4000000 in
set_option maxRecDepth 100000 in
theorem tX9_step_43 {p : Program} {l : Launch} {e : Env} {s : State} {m : MethodId} {args : Array Value} {below : List Frame} {meth : Method} {c : Code} {D : va_G} {a : Nat → Nat} {cc : Nat → ClassId} {A : Nat → Prop} {N : Nat} {r : Int32} {σr : St} (C : M_Cx RX9 p s m args meth c D cc cX9_step (Cond.code yX9_step cX9_step 2 (some .int) :: WM) 2 (some .int)) (hA : ∀ q, s.heap.size ≤ q → A q) {σ : St} {x1 : Int32} {y0 : Int32} {H : Heap} {locs : List Loc} {ls : Array Slot} (h : fX9_step_43 N σ x1 y0 = some (r, σr)) : va_P D vwCl (wM a cc σ) H → va_D A (wM a cc σ) → va_S A s.heap H locs → lv_has ls 2 [(0, .ref (a 0)), (1, .int x1)] → W p l e rmX9_step s m args below meth c H locs 0 0 (M_Mi D a cc A below args s r σr) (F0 m 43 ls [.int y0, .ref (a 0)]) := by
  obtain ⟨hx, hb, hr, hml, hown, hts, hin, hK, hlocks⟩ := id C
  intro hP hD hS hl
  obtain ⟨σ6, eσ6, h⟩ := letS_n h
  refine M_pt0 C hP hD hS eσ6 dX9_step_43 (fun H locs hP hD hS => ?_)
  refine lv_aload_n hx hb dX9_step_46 rfl (lv_at hl 0 rfl) ?_
  refine M_gt0 C hP dX9_step_47 ?_
  refine lv_if_le (tgt := 55) hx hb dX9_step_50 (by decide) (fun c7 => ?_) (fun c7 => ?_)
  · have h := ifT c7 h
    refine lv_aload_n hx hb dX9_step_55 rfl (lv_at hl 0 rfl) ?_
    refine M_gt51 C hP dX9_step_56 ?_
    refine lv_aload_n hx hb dX9_step_59 rfl (lv_at hl 0 rfl) ?_
    refine M_gt49 C hP dX9_step_60 ?_
    refine lv_iload_n hx hb dX9_step_63 rfl (lv_at hl 1 rfl) ?_
    obtain ⟨g8, h⟩ := grd_s h
    obtain ⟨σ9, eσ9, h⟩ := letS_n h
    refine M_st51 C hP hD hS g8 eσ9 dX9_step_64 (fun H locs hP hD hS => ?_)
    refine lv_aload_n hx hb dX9_step_65 rfl (lv_at hl 0 rfl) ?_
    refine lv_dup hx hb dX9_step_66 rfl ?_
    refine M_gt49 C hP dX9_step_67 ?_
    refine lv_iconst (v := (1 : Int32)) hx hb dX9_step_70 (by decide) ?_
    refine lv_iadd hx hb dX9_step_71 ?_
    obtain ⟨σ10, eσ10, h⟩ := letS_n h
    refine M_pt49 C hP hD hS eσ10 dX9_step_72 (fun H locs hP hD hS => ?_)
    refine lv_aload_n hx hb dX9_step_75 rfl (lv_at hl 0 rfl) ?_
    refine lv_aload_n hx hb dX9_step_76 rfl (lv_at hl 0 rfl) ?_
    refine M_gt45 C hP dX9_step_77 ?_
    refine lv_bipush (v := (8 : Int32)) hx hb dX9_step_80 (by decide) ?_
    refine lv_aload_n hx hb dX9_step_82 rfl (lv_at hl 0 rfl) ?_
    refine M_gt50 C hP dX9_step_83 ?_
    refine lv_imul hx hb dX9_step_86 ?_
    refine lv_iload_n hx hb dX9_step_87 rfl (lv_at hl 1 rfl) ?_
    refine lv_iadd hx hb dX9_step_88 ?_
    obtain ⟨g11, h⟩ := grd_s h
    refine M_ld45 C hP g11 dX9_step_89 ?_
    obtain ⟨σ12, eσ12, h⟩ := letS_n h
    refine M_pt50 C hP hD hS eσ12 dX9_step_90 (fun H locs hP hD hS => ?_)
    refine lv_aload_n hx hb dX9_step_93 rfl (lv_at hl 0 rfl) ?_
    refine M_gt50 C hP dX9_step_94 ?_
    exact M_iret C h hP hD hS dX9_step_97
  · have h := ifF c7 h
    refine lv_iconst (v := (0 : Int32)) hx hb dX9_step_53 (by decide) ?_
    exact M_iret C h hP hD hS dX9_step_54
set_option maxHeartbeats 4000000 in
set_option maxRecDepth 100000 in
theorem tX9_step_24 {p : Program} {l : Launch} {e : Env} {s : State} {m : MethodId} {args : Array Value} {below : List Frame} {meth : Method} {c : Code} {D : va_G} {a : Nat → Nat} {cc : Nat → ClassId} {A : Nat → Prop} {N : Nat} {r : Int32} {σr : St} (C : M_Cx RX9 p s m args meth c D cc cX9_step (Cond.code yX9_step cX9_step 2 (some .int) :: WM) 2 (some .int)) (hA : ∀ q, s.heap.size ≤ q → A q) {σ : St} {x1 : Int32} {H : Heap} {locs : List Loc} {ls : Array Slot} (h : fX9_step_24 N σ x1 = some (r, σr)) : va_P D vwCl (wM a cc σ) H → va_D A (wM a cc σ) → va_S A s.heap H locs → lv_has ls 2 [(0, .ref (a 0)), (1, .int x1)] → W p l e rmX9_step s m args below meth c H locs 0 0 (M_Mi D a cc A below args s r σr) (F0 m 24 ls [.ref (a 0)]) := by
  obtain ⟨hx, hb, hr, hml, hown, hts, hin, hK, hlocks⟩ := id C
  intro hP hD hS hl
  refine lv_iconst (v := (1 : Int32)) hx hb dX9_step_24 (by decide) ?_
  refine lv_goto (tgt := 43) hx hb dX9_step_25 (by decide) ?_
  exact tX9_step_43 C hA h hP hD hS (lv_sub hl [0, 1] rfl)
set_option maxHeartbeats 4000000 in
set_option maxRecDepth 100000 in
theorem tX9_step_38 {p : Program} {l : Launch} {e : Env} {s : State} {m : MethodId} {args : Array Value} {below : List Frame} {meth : Method} {c : Code} {D : va_G} {a : Nat → Nat} {cc : Nat → ClassId} {A : Nat → Prop} {N : Nat} {r : Int32} {σr : St} (C : M_Cx RX9 p s m args meth c D cc cX9_step (Cond.code yX9_step cX9_step 2 (some .int) :: WM) 2 (some .int)) (hA : ∀ q, s.heap.size ≤ q → A q) {σ : St} {x1 : Int32} {H : Heap} {locs : List Loc} {ls : Array Slot} (h : fX9_step_38 N σ x1 = some (r, σr)) : va_P D vwCl (wM a cc σ) H → va_D A (wM a cc σ) → va_S A s.heap H locs → lv_has ls 2 [(0, .ref (a 0)), (1, .int x1)] → W p l e rmX9_step s m args below meth c H locs 0 0 (M_Mi D a cc A below args s r σr) (F0 m 38 ls [.ref (a 0)]) := by
  obtain ⟨hx, hb, hr, hml, hown, hts, hin, hK, hlocks⟩ := id C
  intro hP hD hS hl
  refine lv_iconst (v := (2 : Int32)) hx hb dX9_step_38 (by decide) ?_
  refine lv_goto (tgt := 43) hx hb dX9_step_39 (by decide) ?_
  exact tX9_step_43 C hA h hP hD hS (lv_sub hl [0, 1] rfl)
set_option maxHeartbeats 4000000 in
set_option maxRecDepth 100000 in
theorem tX9_step {p : Program} {l : Launch} {e : Env} {s : State} {m : MethodId} {args : Array Value} {below : List Frame} {meth : Method} {c : Code} {D : va_G} {a : Nat → Nat} {cc : Nat → ClassId} {A : Nat → Prop} {N : Nat} {r : Int32} {σr : St} (C : M_Cx RX9 p s m args meth c D cc cX9_step (Cond.code yX9_step cX9_step 2 (some .int) :: WM) 2 (some .int)) (hA : ∀ q, s.heap.size ≤ q → A q) {σ : St} {p0 : Int32} {H : Heap} {locs : List Loc} {ls : Array Slot} (h : fX9_step N σ p0 = some (r, σr)) : va_P D vwCl (wM a cc σ) H → va_D A (wM a cc σ) → va_S A s.heap H locs → lv_has ls 2 [(0, .ref (a 0)), (1, .int p0)] → W p l e rmX9_step s m args below meth c H locs 0 0 (M_Mi D a cc A below args s r σr) (F0 m 0 ls []) := by
  obtain ⟨hx, hb, hr, hml, hown, hts, hin, hK, hlocks⟩ := id C
  intro hP hD hS hl
  refine lv_aload_n hx hb dX9_step_0 rfl (lv_at hl 0 rfl) ?_
  refine lv_aload_n hx hb dX9_step_1 rfl (lv_at hl 0 rfl) ?_
  refine M_gt49 C hP dX9_step_2 ?_
  refine lv_if_lt (tgt := 24) hx hb dX9_step_5 (by decide) (fun c1 => ?_) (fun c1 => ?_)
  · have h := ifT c1 h
    exact tX9_step_24 C hA h hP hD hS (lv_sub hl [0, 1] rfl)
  · have h := ifF c1 h
    refine lv_aload_n hx hb dX9_step_8 rfl (lv_at hl 0 rfl) ?_
    refine M_gt50 C hP dX9_step_9 ?_
    refine lv_if_lt (tgt := 24) hx hb dX9_step_12 (by decide) (fun c2 => ?_) (fun c2 => ?_)
    · have h := ifT c2 h
      exact tX9_step_24 C hA h hP hD hS (lv_sub hl [0, 1] rfl)
    · have h := ifF c2 h
      refine lv_aload_n hx hb dX9_step_15 rfl (lv_at hl 0 rfl) ?_
      refine M_gt49 C hP dX9_step_16 ?_
      refine lv_bipush (v := (60 : Int32)) hx hb dX9_step_19 (by decide) ?_
      refine lv_icmp_ne (tgt := 28) hx hb dX9_step_21 (by decide) (fun c3 => ?_) (fun c3 => ?_)
      · have h := ifF c3 h
        refine lv_iload_n hx hb dX9_step_28 rfl (lv_at hl 1 rfl) ?_
        refine lv_if_lt (tgt := 38) hx hb dX9_step_29 (by decide) (fun c4 => ?_) (fun c4 => ?_)
        · have h := ifT c4 h
          exact tX9_step_38 C hA h hP hD hS (lv_sub hl [0, 1] rfl)
        · have h := ifF c4 h
          refine lv_iload_n hx hb dX9_step_32 rfl (lv_at hl 1 rfl) ?_
          refine lv_bipush (v := (7 : Int32)) hx hb dX9_step_33 (by decide) ?_
          refine lv_icmp_le (tgt := 42) hx hb dX9_step_35 (by decide) (fun c5 => ?_) (fun c5 => ?_)
          · have h := ifT c5 h
            refine lv_iconst (v := (0 : Int32)) hx hb dX9_step_42 (by decide) ?_
            exact tX9_step_43 C hA h hP hD hS (lv_sub hl [0, 1] rfl)
          · have h := ifF c5 h
            exact tX9_step_38 C hA h hP hD hS (lv_sub hl [0, 1] rfl)
      · have h := ifT c3 h
        exact tX9_step_24 C hA h hP hD hS (lv_sub hl [0, 1] rfl)
set_option maxRecDepth 100000 in
theorem kX9_step (l : Launch) (sz : Nat) {D : va_G} {a : Nat → Nat} {cc : Nat → ClassId} {N : Nat} {r : Int32} {σr : St} {σ : St} {p0 : Int32} (h : fX9_step N σ p0 = some (r, σr)) : Met l yX9_step ((Cond.code yX9_step cX9_step 2 (some .int) :: WM)) rmX9_step (M_Pc D a cc [.ref (a 0), .int p0] σ sz) (M_Qi D a cc σ sz r σr) 0 0 (va_A (wM a cc σ) sz) := by
  refine Met.ofW (cc := cX9_step) (maxL := 2) (ret := (some .int)) (by decide) rfl ?_
  intro p e s m args below meth c s₁ B hml hv
  obtain ⟨rfl, hsz, hP, hK, hD0⟩ := hv
  subst hsz
  have hl := lv_entry ([.ref (a 0), .int p0]) (n := 2) (Nat.le_of_ble_eq_true rfl)
  rw [lg_entry_eq]
  generalize (lg_sl ([.ref (a 0), .int p0]) ++ List.replicate (2 - (lg_sl ([.ref (a 0), .int p0])).length) Slot.unset).toArray = ls at hl ⊢
  exact tX9_step ⟨B.exec, B.bytes, B.returns, hml, findClass_of_methodNamed B.named, atoms_spec (ws := (Cond.code yX9_step cX9_step 2 (some .int) :: WM)) B.pre, (fun w h => List.mem_cons_of_mem _ (inWM w h)), hK, B.notSynchronized⟩ (fun q h => Or.inr h) h hP hD0.self va_S.rf hl
set_option maxHeartbeats 4000000 in
set_option maxRecDepth 100000 in
theorem tX9_time {p : Program} {l : Launch} {e : Env} {s : State} {m : MethodId} {args : Array Value} {below : List Frame} {meth : Method} {c : Code} {D : va_G} {a : Nat → Nat} {cc : Nat → ClassId} {A : Nat → Prop} {N : Nat} {r : Int32} {σr : St} (C : M_Cx RX9 p s m args meth c D cc cX9_time (Cond.code yX9_time cX9_time 1 (some .int) :: WM) 1 (some .int)) (hA : ∀ q, s.heap.size ≤ q → A q) {σ : St} {H : Heap} {locs : List Loc} {ls : Array Slot} (h : fX9_time N σ = some (r, σr)) : va_P D vwCl (wM a cc σ) H → va_D A (wM a cc σ) → va_S A s.heap H locs → lv_has ls 1 [(0, .ref (a 0))] → W p l e rmX9_time s m args below meth c H locs 0 0 (M_Mi D a cc A below args s r σr) (F0 m 0 ls []) := by
  obtain ⟨hx, hb, hr, hml, hown, hts, hin, hK, hlocks⟩ := id C
  intro hP hD hS hl
  refine lv_aload_n hx hb dX9_time_0 rfl (lv_at hl 0 rfl) ?_
  refine lv_iconst (v := (0 : Int32)) hx hb dX9_time_1 (by decide) ?_
  obtain ⟨σ1, eσ1, h⟩ := letS_n h
  refine M_pt0 C hP hD hS eσ1 dX9_time_2 (fun H locs hP hD hS => ?_)
  refine lv_aload_n hx hb dX9_time_5 rfl (lv_at hl 0 rfl) ?_
  refine M_gt49 C hP dX9_time_6 ?_
  exact M_iret C h hP hD hS dX9_time_9
set_option maxRecDepth 100000 in
theorem kX9_time (l : Launch) (sz : Nat) {D : va_G} {a : Nat → Nat} {cc : Nat → ClassId} {N : Nat} {r : Int32} {σr : St} {σ : St} (h : fX9_time N σ = some (r, σr)) : Met l yX9_time ((Cond.code yX9_time cX9_time 1 (some .int) :: WM)) rmX9_time (M_Pc D a cc [.ref (a 0)] σ sz) (M_Qi D a cc σ sz r σr) 0 0 (va_A (wM a cc σ) sz) := by
  refine Met.ofW (cc := cX9_time) (maxL := 1) (ret := (some .int)) (by decide) rfl ?_
  intro p e s m args below meth c s₁ B hml hv
  obtain ⟨rfl, hsz, hP, hK, hD0⟩ := hv
  subst hsz
  have hl := lv_entry ([.ref (a 0)]) (n := 1) (Nat.le_of_ble_eq_true rfl)
  rw [lg_entry_eq]
  generalize (lg_sl ([.ref (a 0)]) ++ List.replicate (1 - (lg_sl ([.ref (a 0)])).length) Slot.unset).toArray = ls at hl ⊢
  exact tX9_time ⟨B.exec, B.bytes, B.returns, hml, findClass_of_methodNamed B.named, atoms_spec (ws := (Cond.code yX9_time cX9_time 1 (some .int) :: WM)) B.pre, (fun w h => List.mem_cons_of_mem _ (inWM w h)), hK, B.notSynchronized⟩ (fun q h => Or.inr h) h hP hD0.self va_S.rf hl
set_option maxHeartbeats 4000000 in
set_option maxRecDepth 100000 in
theorem tX9_fails_55 {p : Program} {l : Launch} {e : Env} {s : State} {m : MethodId} {args : Array Value} {below : List Frame} {meth : Method} {c : Code} {D : va_G} {a : Nat → Nat} {cc : Nat → ClassId} {A : Nat → Prop} {N : Nat} {r : Int32} {σr : St} (C : M_Cx RX9 p s m args meth c D cc cX9_fails (Cond.code yX9_fails cX9_fails 4 (some .boolean) :: WM) 4 (some .boolean)) (hA : ∀ q, s.heap.size ≤ q → A q) {σ : St} {x2 : Int32} {H : Heap} {locs : List Loc} {ls : Array Slot} (h : fX9_fails_55 N σ x2 = some (r, σr)) : va_P D vwCl (wM a cc σ) H → va_D A (wM a cc σ) → va_S A s.heap H locs → lv_has ls 4 [(2, .int x2)] → W p l e rmX9_fails s m args below meth c H locs 0 0 (M_Mi D a cc A below args s r σr) (F0 m 55 ls []) := by
  obtain ⟨hx, hb, hr, hml, hown, hts, hin, hK, hlocks⟩ := id C
  intro hP hD hS hl
  refine lv_iload_n hx hb dX9_fails_55 rfl (lv_at hl 0 rfl) ?_
  refine lv_if_ge (tgt := 63) hx hb dX9_fails_56 (by decide) (fun c9 => ?_) (fun c9 => ?_)
  · have h := ifT c9 h
    refine lv_iconst (v := (0 : Int32)) hx hb dX9_fails_63 (by decide) ?_
    exact M_zretZ C h hP hD hS dX9_fails_64
  · have h := ifF c9 h
    refine lv_iconst (v := (1 : Int32)) hx hb dX9_fails_59 (by decide) ?_
    refine lv_goto (tgt := 64) hx hb dX9_fails_60 (by decide) ?_
    exact M_zretZ C h hP hD hS dX9_fails_64
set_option maxHeartbeats 4000000 in
set_option maxRecDepth 100000 in
theorem tX9_fails_20 {p : Program} {l : Launch} {e : Env} {s : State} {m : MethodId} {args : Array Value} {below : List Frame} {meth : Method} {c : Code} {D : va_G} {a : Nat → Nat} {cc : Nat → ClassId} {A : Nat → Prop} {N : Nat} {r : Int32} {σr : St} (C : M_Cx RX9 p s m args meth c D cc cX9_fails (Cond.code yX9_fails cX9_fails 4 (some .boolean) :: WM) 4 (some .boolean)) (hA : ∀ q, s.heap.size ≤ q → A q) : ∀ (n : Nat) {σ : St} {x2 : Int32} {x3 : Int32} {H : Heap} {locs : List Loc} {ls : Array Slot}, fX9_fails_20 N n σ x2 x3 = some (r, σr) → va_P D vwCl (wM a cc σ) H → va_D A (wM a cc σ) → va_S A s.heap H locs → lv_has ls 4 [(0, .ref (a 0)), (2, .int x2), (3, .int x3)] → W p l e rmX9_fails s m args below meth c H locs 0 0 (M_Mi D a cc A below args s r σr) (F0 m 20 ls []) := by
  obtain ⟨hx, hb, hr, hml, hown, hts, hin, hK, hlocks⟩ := id C
  intro n
  induction n with
  | zero => intro σ x2 x3 H locs ls h; exact none_s h
  | succ n ih =>
    intro σ x2 x3 H locs ls h hP hD hS hl
    refine lv_iload_n hx hb dX9_fails_20 rfl (lv_at hl 2 rfl) ?_
    refine lv_aload_n hx hb dX9_fails_21 rfl (lv_at hl 0 rfl) ?_
    refine M_gt49 C hP dX9_fails_22 ?_
    refine lv_icmp_ge (tgt := 55) hx hb dX9_fails_25 (by decide) (fun c3 => ?_) (fun c3 => ?_)
    · have h := ifT c3 h
      exact tX9_fails_55 C hA h hP hD hS (lv_sub hl [1] rfl)
    · have h := ifF c3 h
      refine lv_iload_n hx hb dX9_fails_28 rfl (lv_at hl 1 rfl) ?_
      refine lv_if_lt (tgt := 55) hx hb dX9_fails_29 (by decide) (fun c4 => ?_) (fun c4 => ?_)
      · have h := ifT c4 h
        exact tX9_fails_55 C hA h hP hD hS (lv_sub hl [1] rfl)
      · have h := ifF c4 h
        refine lv_aload_n hx hb dX9_fails_32 rfl (lv_at hl 0 rfl) ?_
        refine M_gt45 C hP dX9_fails_33 ?_
        refine lv_bipush (v := (8 : Int32)) hx hb dX9_fails_36 (by decide) ?_
        refine lv_iload_n hx hb dX9_fails_38 rfl (lv_at hl 1 rfl) ?_
        refine lv_imul hx hb dX9_fails_39 ?_
        refine lv_aload_n hx hb dX9_fails_40 rfl (lv_at hl 0 rfl) ?_
        refine M_gt51 C hP dX9_fails_41 ?_
        refine lv_iload_n hx hb dX9_fails_44 rfl (lv_at hl 2 rfl) ?_
        obtain ⟨g5, h⟩ := grd_s h
        refine M_ld51 C hP g5 dX9_fails_45 ?_
        refine lv_iadd hx hb dX9_fails_46 ?_
        obtain ⟨g6, h⟩ := grd_s h
        refine M_ld45 C hP g6 dX9_fails_47 ?_
        obtain ⟨u7, eu7, h⟩ := letS_n h
        refine lv_topE eu7 ?_
        refine lv_istore_n (lv' := [(2, .int u7), (0, .ref (a 0)), (3, .int x3)]) hx hb dX9_fails_48 rfl hl (by decide) rfl (fun ls hl => ?_)
        obtain ⟨u8, eu8, h⟩ := letS_n h
        refine lv_iinc (v := u8) (lv' := [(3, .int u8), (2, .int u7), (0, .ref (a 0))]) hx hb dX9_fails_49 hl (k := 2) rfl (by rw [eu8]; rfl) (by decide) rfl (fun ls hl => ?_)
        refine lv_goto (tgt := 20) hx hb dX9_fails_52 (by decide) ?_
        exact ih h hP hD hS (lv_sub hl [2, 1, 0] rfl)
set_option maxHeartbeats 4000000 in
set_option maxRecDepth 100000 in
theorem tX9_fails_12 {p : Program} {l : Launch} {e : Env} {s : State} {m : MethodId} {args : Array Value} {below : List Frame} {meth : Method} {c : Code} {D : va_G} {a : Nat → Nat} {cc : Nat → ClassId} {A : Nat → Prop} {N : Nat} {r : Int32} {σr : St} (C : M_Cx RX9 p s m args meth c D cc cX9_fails (Cond.code yX9_fails cX9_fails 4 (some .boolean) :: WM) 4 (some .boolean)) (hA : ∀ q, s.heap.size ≤ q → A q) {σ : St} {x1 : Int32} {y0 : Int32} {H : Heap} {locs : List Loc} {ls : Array Slot} (h : fX9_fails_12 N σ x1 y0 = some (r, σr)) : va_P D vwCl (wM a cc σ) H → va_D A (wM a cc σ) → va_S A s.heap H locs → lv_has ls 4 [(0, .ref (a 0)), (1, .int x1)] → W p l e rmX9_fails s m args below meth c H locs 0 0 (M_Mi D a cc A below args s r σr) (F0 m 12 ls [.int y0]) := by
  obtain ⟨hx, hb, hr, hml, hown, hts, hin, hK, hlocks⟩ := id C
  intro hP hD hS hl
  refine lv_istore_n (lv' := [(2, .int y0), (0, .ref (a 0)), (1, .int x1)]) hx hb dX9_fails_12 rfl hl (by decide) rfl (fun ls hl => ?_)
  refine lv_aload_n hx hb dX9_fails_13 rfl (lv_at hl 1 rfl) ?_
  refine M_gt49 C hP dX9_fails_14 ?_
  refine lv_iload_n hx hb dX9_fails_17 rfl (lv_at hl 2 rfl) ?_
  refine lv_isub hx hb dX9_fails_18 ?_
  obtain ⟨u2, eu2, h⟩ := letS_n h
  refine lv_topE eu2 ?_
  refine lv_istore_n (lv' := [(3, .int u2), (2, .int y0), (0, .ref (a 0)), (1, .int x1)]) hx hb dX9_fails_19 rfl hl (by decide) rfl (fun ls hl => ?_)
  exact tX9_fails_20 C hA N h hP hD hS (lv_sub hl [2, 1, 0] rfl)
set_option maxHeartbeats 4000000 in
set_option maxRecDepth 100000 in
theorem tX9_fails {p : Program} {l : Launch} {e : Env} {s : State} {m : MethodId} {args : Array Value} {below : List Frame} {meth : Method} {c : Code} {D : va_G} {a : Nat → Nat} {cc : Nat → ClassId} {A : Nat → Prop} {N : Nat} {r : Int32} {σr : St} (C : M_Cx RX9 p s m args meth c D cc cX9_fails (Cond.code yX9_fails cX9_fails 4 (some .boolean) :: WM) 4 (some .boolean)) (hA : ∀ q, s.heap.size ≤ q → A q) {σ : St} {p0 : Int32} {H : Heap} {locs : List Loc} {ls : Array Slot} (h : fX9_fails N σ p0 = some (r, σr)) : va_P D vwCl (wM a cc σ) H → va_D A (wM a cc σ) → va_S A s.heap H locs → lv_has ls 4 [(0, .ref (a 0)), (1, .int p0)] → W p l e rmX9_fails s m args below meth c H locs 0 0 (M_Mi D a cc A below args s r σr) (F0 m 0 ls []) := by
  obtain ⟨hx, hb, hr, hml, hown, hts, hin, hK, hlocks⟩ := id C
  intro hP hD hS hl
  refine lv_aload_n hx hb dX9_fails_0 rfl (lv_at hl 0 rfl) ?_
  refine M_gt40 C hP dX9_fails_1 ?_
  refine lv_if_le (tgt := 11) hx hb dX9_fails_4 (by decide) (fun c1 => ?_) (fun c1 => ?_)
  · have h := ifT c1 h
    refine lv_iconst (v := (-1 : Int32)) hx hb dX9_fails_11 (by decide) ?_
    exact tX9_fails_12 C hA h hP hD hS (lv_sub hl [0, 1] rfl)
  · have h := ifF c1 h
    refine lv_iconst (v := (0 : Int32)) hx hb dX9_fails_7 (by decide) ?_
    refine lv_goto (tgt := 12) hx hb dX9_fails_8 (by decide) ?_
    exact tX9_fails_12 C hA h hP hD hS (lv_sub hl [0, 1] rfl)
set_option maxRecDepth 100000 in
theorem kX9_fails (l : Launch) (sz : Nat) {D : va_G} {a : Nat → Nat} {cc : Nat → ClassId} {N : Nat} {r : Int32} {σr : St} {σ : St} {p0 : Int32} (h : fX9_fails N σ p0 = some (r, σr)) : Met l yX9_fails ((Cond.code yX9_fails cX9_fails 4 (some .boolean) :: WM)) rmX9_fails (M_Pc D a cc [.ref (a 0), .int p0] σ sz) (M_Qi D a cc σ sz r σr) 0 0 (va_A (wM a cc σ) sz) := by
  refine Met.ofW (cc := cX9_fails) (maxL := 4) (ret := (some .boolean)) (by decide) rfl ?_
  intro p e s m args below meth c s₁ B hml hv
  obtain ⟨rfl, hsz, hP, hK, hD0⟩ := hv
  subst hsz
  have hl := lv_entry ([.ref (a 0), .int p0]) (n := 4) (Nat.le_of_ble_eq_true rfl)
  rw [lg_entry_eq]
  generalize (lg_sl ([.ref (a 0), .int p0]) ++ List.replicate (4 - (lg_sl ([.ref (a 0), .int p0])).length) Slot.unset).toArray = ls at hl ⊢
  exact tX9_fails ⟨B.exec, B.bytes, B.returns, hml, findClass_of_methodNamed B.named, atoms_spec (ws := (Cond.code yX9_fails cX9_fails 4 (some .boolean) :: WM)) B.pre, (fun w h => List.mem_cons_of_mem _ (inWM w h)), hK, B.notSynchronized⟩ (fun q h => Or.inr h) h hP hD0.self va_S.rf hl
set_option maxHeartbeats 4000000 in
set_option maxRecDepth 100000 in
theorem tX9_shortest_14 {p : Program} {l : Launch} {e : Env} {s : State} {m : MethodId} {args : Array Value} {below : List Frame} {meth : Method} {c : Code} {D : va_G} {a : Nat → Nat} {cc : Nat → ClassId} {A : Nat → Prop} {N : Nat} {r : Int32} {σr : St} (C : M_Cx RX9 p s m args meth c D cc cX9_shortest (Cond.code yX9_shortest cX9_shortest 2 (some .int) :: WM) 2 (some .int)) (hA : ∀ q, s.heap.size ≤ q → A q) {σ : St} {H : Heap} {locs : List Loc} {ls : Array Slot} (h : fX9_shortest_14 N σ = some (r, σr)) : va_P D vwCl (wM a cc σ) H → va_D A (wM a cc σ) → va_S A s.heap H locs → lv_has ls 2 [] → W p l e rmX9_shortest s m args below meth c H locs 0 0 (M_Mi D a cc A below args s r σr) (F0 m 14 ls []) := by
  obtain ⟨hx, hb, hr, hml, hown, hts, hin, hK, hlocks⟩ := id C
  intro hP hD hS hl
  refine lv_iconst (v := (-1 : Int32)) hx hb dX9_shortest_14 (by decide) ?_
  exact M_iret C h hP hD hS dX9_shortest_15
set_option maxHeartbeats 4000000 in
set_option maxRecDepth 100000 in
theorem tX9_shortest_40 {p : Program} {l : Launch} {e : Env} {s : State} {m : MethodId} {args : Array Value} {below : List Frame} {meth : Method} {c : Code} {D : va_G} {a : Nat → Nat} {cc : Nat → ClassId} {A : Nat → Prop} {N : Nat} {r : Int32} {σr : St} (C : M_Cx RX9 p s m args meth c D cc cX9_shortest (Cond.code yX9_shortest cX9_shortest 2 (some .int) :: WM) 2 (some .int)) (hA : ∀ q, s.heap.size ≤ q → A q) {σ : St} {x1 : Int32} {H : Heap} {locs : List Loc} {ls : Array Slot} (h : fX9_shortest_40 N σ x1 = some (r, σr)) : va_P D vwCl (wM a cc σ) H → va_D A (wM a cc σ) → va_S A s.heap H locs → lv_has ls 2 [(1, .int x1)] → W p l e rmX9_shortest s m args below meth c H locs 0 0 (M_Mi D a cc A below args s r σr) (F0 m 40 ls []) := by
  obtain ⟨hx, hb, hr, hml, hown, hts, hin, hK, hlocks⟩ := id C
  intro hP hD hS hl
  refine lv_iload_n hx hb dX9_shortest_40 rfl (lv_at hl 0 rfl) ?_
  exact M_iret C h hP hD hS dX9_shortest_41
set_option maxHeartbeats 4000000 in
set_option maxRecDepth 100000 in
theorem tX9_shortest_18 {p : Program} {l : Launch} {e : Env} {s : State} {m : MethodId} {args : Array Value} {below : List Frame} {meth : Method} {c : Code} {D : va_G} {a : Nat → Nat} {cc : Nat → ClassId} {A : Nat → Prop} {N : Nat} {r : Int32} {σr : St} (C : M_Cx RX9 p s m args meth c D cc cX9_shortest (Cond.code yX9_shortest cX9_shortest 2 (some .int) :: WM) 2 (some .int)) (hA : ∀ q, s.heap.size ≤ q → A q) : ∀ (n : Nat) {σ : St} {x1 : Int32} {H : Heap} {locs : List Loc} {ls : Array Slot}, fX9_shortest_18 N n σ x1 = some (r, σr) → va_P D vwCl (wM a cc σ) H → va_D A (wM a cc σ) → va_S A s.heap H locs → lv_has ls 2 [(0, .ref (a 0)), (1, .int x1)] → W p l e rmX9_shortest s m args below meth c H locs 0 0 (M_Mi D a cc A below args s r σr) (F0 m 18 ls []) := by
  obtain ⟨hx, hb, hr, hml, hown, hts, hin, hK, hlocks⟩ := id C
  intro n
  induction n with
  | zero => intro σ x1 H locs ls h; exact none_s h
  | succ n ih =>
    intro σ x1 H locs ls h hP hD hS hl
    refine lv_iload_n hx hb dX9_shortest_18 rfl (lv_at hl 1 rfl) ?_
    refine lv_aload_n hx hb dX9_shortest_19 rfl (lv_at hl 0 rfl) ?_
    refine M_gt49 C hP dX9_shortest_20 ?_
    refine lv_icmp_ge (tgt := 40) hx hb dX9_shortest_23 (by decide) (fun c3 => ?_) (fun c3 => ?_)
    · have h := ifT c3 h
      exact tX9_shortest_40 C hA h hP hD hS (lv_sub hl [1] rfl)
    · have h := ifF c3 h
      refine lv_aload_n hx hb dX9_shortest_26 rfl (lv_at hl 0 rfl) ?_
      refine lv_iload_n hx hb dX9_shortest_27 rfl (lv_at hl 1 rfl) ?_
      obtain ⟨r5, σ4, hc, h⟩ := bnd_s h
      refine M_callVi (As := [.int x1]) (rest := []) C hA (fun sz => kX9_fails l sz hc) gX9_fails hP hD hS ⟨by decide, by decide⟩ ⟨rfl, rfl⟩ rfl hl.1 rfl (lv_room (Nat.le_of_ble_eq_true rfl)) dX9_shortest_28 (fun H locs hP hD hS => ?_)
      refine lv_if_ne (tgt := 40) hx hb dX9_shortest_31 (by decide) (fun c6 => ?_) (fun c6 => ?_)
      · have h := ifF c6 h
        exact tX9_shortest_40 C hA h hP hD hS (lv_sub hl [1] rfl)
      · have h := ifT c6 h
        obtain ⟨u7, eu7, h⟩ := letS_n h
        refine lv_iinc (v := u7) (lv' := [(1, .int u7), (0, .ref (a 0))]) hx hb dX9_shortest_34 hl (k := 1) rfl (by rw [eu7]; rfl) (by decide) rfl (fun ls hl => ?_)
        refine lv_goto (tgt := 18) hx hb dX9_shortest_37 (by decide) ?_
        exact ih h hP hD hS (lv_sub hl [1, 0] rfl)
set_option maxHeartbeats 4000000 in
set_option maxRecDepth 100000 in
theorem tX9_shortest {p : Program} {l : Launch} {e : Env} {s : State} {m : MethodId} {args : Array Value} {below : List Frame} {meth : Method} {c : Code} {D : va_G} {a : Nat → Nat} {cc : Nat → ClassId} {A : Nat → Prop} {N : Nat} {r : Int32} {σr : St} (C : M_Cx RX9 p s m args meth c D cc cX9_shortest (Cond.code yX9_shortest cX9_shortest 2 (some .int) :: WM) 2 (some .int)) (hA : ∀ q, s.heap.size ≤ q → A q) {σ : St} {H : Heap} {locs : List Loc} {ls : Array Slot} (h : fX9_shortest N σ = some (r, σr)) : va_P D vwCl (wM a cc σ) H → va_D A (wM a cc σ) → va_S A s.heap H locs → lv_has ls 2 [(0, .ref (a 0))] → W p l e rmX9_shortest s m args below meth c H locs 0 0 (M_Mi D a cc A below args s r σr) (F0 m 0 ls []) := by
  obtain ⟨hx, hb, hr, hml, hown, hts, hin, hK, hlocks⟩ := id C
  intro hP hD hS hl
  refine lv_aload_n hx hb dX9_shortest_0 rfl (lv_at hl 0 rfl) ?_
  refine M_gt49 C hP dX9_shortest_1 ?_
  refine lv_if_lt (tgt := 14) hx hb dX9_shortest_4 (by decide) (fun c1 => ?_) (fun c1 => ?_)
  · have h := ifT c1 h
    exact tX9_shortest_14 C hA h hP hD hS (lv_sub hl [] rfl)
  · have h := ifF c1 h
    refine lv_aload_n hx hb dX9_shortest_7 rfl (lv_at hl 0 rfl) ?_
    refine M_gt50 C hP dX9_shortest_8 ?_
    refine lv_if_lt (tgt := 16) hx hb dX9_shortest_11 (by decide) (fun c2 => ?_) (fun c2 => ?_)
    · have h := ifT c2 h
      refine lv_iconst (v := (0 : Int32)) hx hb dX9_shortest_16 (by decide) ?_
      refine lv_istore_n (lv' := [(1, .int (0 : Int32)), (0, .ref (a 0))]) hx hb dX9_shortest_17 rfl hl (by decide) rfl (fun ls hl => ?_)
      exact tX9_shortest_18 C hA N h hP hD hS (lv_sub hl [1, 0] rfl)
    · have h := ifF c2 h
      exact tX9_shortest_14 C hA h hP hD hS (lv_sub hl [] rfl)
set_option maxRecDepth 100000 in
theorem kX9_shortest (l : Launch) (sz : Nat) {D : va_G} {a : Nat → Nat} {cc : Nat → ClassId} {N : Nat} {r : Int32} {σr : St} {σ : St} (h : fX9_shortest N σ = some (r, σr)) : Met l yX9_shortest ((Cond.code yX9_shortest cX9_shortest 2 (some .int) :: WM)) rmX9_shortest (M_Pc D a cc [.ref (a 0)] σ sz) (M_Qi D a cc σ sz r σr) 0 0 (va_A (wM a cc σ) sz) := by
  refine Met.ofW (cc := cX9_shortest) (maxL := 2) (ret := (some .int)) (by decide) rfl ?_
  intro p e s m args below meth c s₁ B hml hv
  obtain ⟨rfl, hsz, hP, hK, hD0⟩ := hv
  subst hsz
  have hl := lv_entry ([.ref (a 0)]) (n := 2) (Nat.le_of_ble_eq_true rfl)
  rw [lg_entry_eq]
  generalize (lg_sl ([.ref (a 0)]) ++ List.replicate (2 - (lg_sl ([.ref (a 0)])).length) Slot.unset).toArray = ls at hl ⊢
  exact tX9_shortest ⟨B.exec, B.bytes, B.returns, hml, findClass_of_methodNamed B.named, atoms_spec (ws := (Cond.code yX9_shortest cX9_shortest 2 (some .int) :: WM)) B.pre, (fun w h => List.mem_cons_of_mem _ (inWM w h)), hK, B.notSynchronized⟩ (fun q h => Or.inr h) h hP hD0.self va_S.rf hl
set_option maxHeartbeats 4000000 in
set_option maxRecDepth 100000 in
theorem tX9_window {p : Program} {l : Launch} {e : Env} {s : State} {m : MethodId} {args : Array Value} {below : List Frame} {meth : Method} {c : Code} {D : va_G} {a : Nat → Nat} {cc : Nat → ClassId} {A : Nat → Prop} {N : Nat} {r : Int32} {σr : St} (C : M_Cx RX9 p s m args meth c D cc cX9_window (Cond.code yX9_window cX9_window 1 (some .int) :: WM) 1 (some .int)) (hA : ∀ q, s.heap.size ≤ q → A q) {σ : St} {H : Heap} {locs : List Loc} {ls : Array Slot} (h : fX9_window N σ = some (r, σr)) : va_P D vwCl (wM a cc σ) H → va_D A (wM a cc σ) → va_S A s.heap H locs → lv_has ls 1 [(0, .ref (a 0))] → W p l e rmX9_window s m args below meth c H locs 0 0 (M_Mi D a cc A below args s r σr) (F0 m 0 ls []) := by
  obtain ⟨hx, hb, hr, hml, hown, hts, hin, hK, hlocks⟩ := id C
  intro hP hD hS hl
  refine lv_aload_n hx hb dX9_window_0 rfl (lv_at hl 0 rfl) ?_
  refine lv_iconst (v := (0 : Int32)) hx hb dX9_window_1 (by decide) ?_
  obtain ⟨σ1, eσ1, h⟩ := letS_n h
  refine M_pt0 C hP hD hS eσ1 dX9_window_2 (fun H locs hP hD hS => ?_)
  refine lv_aload_n hx hb dX9_window_5 rfl (lv_at hl 0 rfl) ?_
  obtain ⟨r3, σ2, hc, h⟩ := bnd_s h
  refine M_callVi (As := []) (rest := []) C hA (fun sz => kX9_shortest l sz hc) gX9_shortest hP hD hS ⟨by decide, by decide⟩ ⟨rfl, rfl⟩ rfl hl.1 rfl (lv_room (Nat.le_of_ble_eq_true rfl)) dX9_window_6 (fun H locs hP hD hS => ?_)
  exact M_iret C h hP hD hS dX9_window_9
set_option maxRecDepth 100000 in
theorem kX9_window (l : Launch) (sz : Nat) {D : va_G} {a : Nat → Nat} {cc : Nat → ClassId} {N : Nat} {r : Int32} {σr : St} {σ : St} (h : fX9_window N σ = some (r, σr)) : Met l yX9_window ((Cond.code yX9_window cX9_window 1 (some .int) :: WM)) rmX9_window (M_Pc D a cc [.ref (a 0)] σ sz) (M_Qi D a cc σ sz r σr) 0 0 (va_A (wM a cc σ) sz) := by
  refine Met.ofW (cc := cX9_window) (maxL := 1) (ret := (some .int)) (by decide) rfl ?_
  intro p e s m args below meth c s₁ B hml hv
  obtain ⟨rfl, hsz, hP, hK, hD0⟩ := hv
  subst hsz
  have hl := lv_entry ([.ref (a 0)]) (n := 1) (Nat.le_of_ble_eq_true rfl)
  rw [lg_entry_eq]
  generalize (lg_sl ([.ref (a 0)]) ++ List.replicate (1 - (lg_sl ([.ref (a 0)])).length) Slot.unset).toArray = ls at hl ⊢
  exact tX9_window ⟨B.exec, B.bytes, B.returns, hml, findClass_of_methodNamed B.named, atoms_spec (ws := (Cond.code yX9_window cX9_window 1 (some .int) :: WM)) B.pre, (fun w h => List.mem_cons_of_mem _ (inWM w h)), hK, B.notSynchronized⟩ (fun q h => Or.inr h) h hP hD0.self va_S.rf hl
set_option maxHeartbeats 4000000 in
set_option maxRecDepth 100000 in
theorem tX9_loop_94 {p : Program} {l : Launch} {e : Env} {s : State} {m : MethodId} {args : Array Value} {below : List Frame} {meth : Method} {c : Code} {D : va_G} {a : Nat → Nat} {cc : Nat → ClassId} {A : Nat → Prop} {N : Nat} {r : Int32} {σr : St} {k48 : St → Int32 → Int32 → Int32 → Option (Int32 × St)} (C : M_Cx RX9 p s m args meth c D cc cX9_loop (Cond.code yX9_loop cX9_loop 5 (some .boolean) :: WM) 5 (some .boolean)) (hA : ∀ q, s.heap.size ≤ q → A q) (hk48 : ∀ {σ : St} {x1 : Int32} {x2 : Int32} {x3 : Int32} {H : Heap} {locs : List Loc} {ls : Array Slot}, k48 σ x1 x2 x3 = some (r, σr) → va_P D vwCl (wM a cc σ) H → va_D A (wM a cc σ) → va_S A s.heap H locs → lv_has ls 5 [(0, .ref (a 0)), (1, .int x1), (2, .int x2), (3, .int x3)] → W p l e rmX9_loop s m args below meth c H locs 0 0 (M_Mi D a cc A below args s r σr) (F0 m 48 ls [])) {σ : St} {x1 : Int32} {x2 : Int32} {x3 : Int32} {H : Heap} {locs : List Loc} {ls : Array Slot} (h : fX9_loop_94 N k48 σ x1 x2 x3 = some (r, σr)) : va_P D vwCl (wM a cc σ) H → va_D A (wM a cc σ) → va_S A s.heap H locs → lv_has ls 5 [(0, .ref (a 0)), (1, .int x1), (2, .int x2), (3, .int x3)] → W p l e rmX9_loop s m args below meth c H locs 0 0 (M_Mi D a cc A below args s r σr) (F0 m 94 ls []) := by
  obtain ⟨hx, hb, hr, hml, hown, hts, hin, hK, hlocks⟩ := id C
  intro hP hD hS hl
  obtain ⟨u15, eu15, h⟩ := letS_n h
  refine lv_iinc (v := u15) (lv' := [(3, .int u15), (0, .ref (a 0)), (1, .int x1), (2, .int x2)]) hx hb dX9_loop_94 hl (k := 3) rfl (by rw [eu15]; rfl) (by decide) rfl (fun ls hl => ?_)
  refine lv_goto (tgt := 48) hx hb dX9_loop_97 (by decide) ?_
  exact hk48 h hP hD hS (lv_sub hl [1, 2, 3, 0] rfl)
set_option maxHeartbeats 4000000 in
set_option maxRecDepth 100000 in
theorem tX9_loop_57 {p : Program} {l : Launch} {e : Env} {s : State} {m : MethodId} {args : Array Value} {below : List Frame} {meth : Method} {c : Code} {D : va_G} {a : Nat → Nat} {cc : Nat → ClassId} {A : Nat → Prop} {N : Nat} {r : Int32} {σr : St} {k48 : St → Int32 → Int32 → Int32 → Option (Int32 × St)} (C : M_Cx RX9 p s m args meth c D cc cX9_loop (Cond.code yX9_loop cX9_loop 5 (some .boolean) :: WM) 5 (some .boolean)) (hA : ∀ q, s.heap.size ≤ q → A q) (hk48 : ∀ {σ : St} {x1 : Int32} {x2 : Int32} {x3 : Int32} {H : Heap} {locs : List Loc} {ls : Array Slot}, k48 σ x1 x2 x3 = some (r, σr) → va_P D vwCl (wM a cc σ) H → va_D A (wM a cc σ) → va_S A s.heap H locs → lv_has ls 5 [(0, .ref (a 0)), (1, .int x1), (2, .int x2), (3, .int x3)] → W p l e rmX9_loop s m args below meth c H locs 0 0 (M_Mi D a cc A below args s r σr) (F0 m 48 ls [])) : ∀ (n : Nat) {σ : St} {x1 : Int32} {x2 : Int32} {x3 : Int32} {x4 : Int32} {H : Heap} {locs : List Loc} {ls : Array Slot}, fX9_loop_57 N k48 n σ x1 x2 x3 x4 = some (r, σr) → va_P D vwCl (wM a cc σ) H → va_D A (wM a cc σ) → va_S A s.heap H locs → lv_has ls 5 [(0, .ref (a 0)), (1, .int x1), (2, .int x2), (3, .int x3), (4, .int x4)] → W p l e rmX9_loop s m args below meth c H locs 0 0 (M_Mi D a cc A below args s r σr) (F0 m 57 ls []) := by
  obtain ⟨hx, hb, hr, hml, hown, hts, hin, hK, hlocks⟩ := id C
  intro n
  induction n with
  | zero => intro σ x1 x2 x3 x4 H locs ls h; exact none_s h
  | succ n ih =>
    intro σ x1 x2 x3 x4 H locs ls h hP hD hS hl
    refine lv_iload hx hb dX9_loop_57 (lv_at hl 4 rfl) ?_
    refine lv_aload_n hx hb dX9_loop_59 rfl (lv_at hl 0 rfl) ?_
    refine M_gt49 C hP dX9_loop_60 ?_
    refine lv_icmp_ge (tgt := 94) hx hb dX9_loop_63 (by decide) (fun c9 => ?_) (fun c9 => ?_)
    · have h := ifT c9 h
      exact tX9_loop_94 C hA hk48 h hP hD hS (lv_sub hl [0, 1, 2, 3] rfl)
    · have h := ifF c9 h
      refine lv_iload_n hx hb dX9_loop_66 rfl (lv_at hl 2 rfl) ?_
      refine lv_if_lt (tgt := 94) hx hb dX9_loop_67 (by decide) (fun c10 => ?_) (fun c10 => ?_)
      · have h := ifT c10 h
        exact tX9_loop_94 C hA hk48 h hP hD hS (lv_sub hl [0, 1, 2, 3] rfl)
      · have h := ifF c10 h
        refine lv_aload_n hx hb dX9_loop_70 rfl (lv_at hl 0 rfl) ?_
        refine M_gt45 C hP dX9_loop_71 ?_
        refine lv_bipush (v := (8 : Int32)) hx hb dX9_loop_74 (by decide) ?_
        refine lv_iload_n hx hb dX9_loop_76 rfl (lv_at hl 2 rfl) ?_
        refine lv_imul hx hb dX9_loop_77 ?_
        refine lv_aload_n hx hb dX9_loop_78 rfl (lv_at hl 0 rfl) ?_
        refine M_gt51 C hP dX9_loop_79 ?_
        refine lv_iload hx hb dX9_loop_82 (lv_at hl 4 rfl) ?_
        obtain ⟨g11, h⟩ := grd_s h
        refine M_ld51 C hP g11 dX9_loop_84 ?_
        refine lv_iadd hx hb dX9_loop_85 ?_
        obtain ⟨g12, h⟩ := grd_s h
        refine M_ld45 C hP g12 dX9_loop_86 ?_
        obtain ⟨u13, eu13, h⟩ := letS_n h
        refine lv_topE eu13 ?_
        refine lv_istore_n (lv' := [(2, .int u13), (0, .ref (a 0)), (1, .int x1), (3, .int x3), (4, .int x4)]) hx hb dX9_loop_87 rfl hl (by decide) rfl (fun ls hl => ?_)
        obtain ⟨u14, eu14, h⟩ := letS_n h
        refine lv_iinc (v := u14) (lv' := [(4, .int u14), (2, .int u13), (0, .ref (a 0)), (1, .int x1), (3, .int x3)]) hx hb dX9_loop_88 hl (k := 4) rfl (by rw [eu14]; rfl) (by decide) rfl (fun ls hl => ?_)
        refine lv_goto (tgt := 57) hx hb dX9_loop_91 (by decide) ?_
        exact ih h hP hD hS (lv_sub hl [2, 3, 1, 4, 0] rfl)
set_option maxHeartbeats 4000000 in
set_option maxRecDepth 100000 in
theorem tX9_loop_48 {p : Program} {l : Launch} {e : Env} {s : State} {m : MethodId} {args : Array Value} {below : List Frame} {meth : Method} {c : Code} {D : va_G} {a : Nat → Nat} {cc : Nat → ClassId} {A : Nat → Prop} {N : Nat} {r : Int32} {σr : St} (C : M_Cx RX9 p s m args meth c D cc cX9_loop (Cond.code yX9_loop cX9_loop 5 (some .boolean) :: WM) 5 (some .boolean)) (hA : ∀ q, s.heap.size ≤ q → A q) : ∀ (n : Nat) {σ : St} {x1 : Int32} {x2 : Int32} {x3 : Int32} {H : Heap} {locs : List Loc} {ls : Array Slot}, fX9_loop_48 N n σ x1 x2 x3 = some (r, σr) → va_P D vwCl (wM a cc σ) H → va_D A (wM a cc σ) → va_S A s.heap H locs → lv_has ls 5 [(0, .ref (a 0)), (1, .int x1), (2, .int x2), (3, .int x3)] → W p l e rmX9_loop s m args below meth c H locs 0 0 (M_Mi D a cc A below args s r σr) (F0 m 48 ls []) := by
  obtain ⟨hx, hb, hr, hml, hown, hts, hin, hK, hlocks⟩ := id C
  intro n
  induction n with
  | zero => intro σ x1 x2 x3 H locs ls h; exact none_s h
  | succ n ih =>
    intro σ x1 x2 x3 H locs ls h hP hD hS hl
    refine lv_iload_n hx hb dX9_loop_48 rfl (lv_at hl 3 rfl) ?_
    refine lv_bipush (v := (41 : Int32)) hx hb dX9_loop_49 (by decide) ?_
    refine lv_icmp_ge (tgt := 100) hx hb dX9_loop_51 (by decide) (fun c7 => ?_) (fun c7 => ?_)
    · have h := ifT c7 h
      refine lv_iload_n hx hb dX9_loop_100 rfl (lv_at hl 2 rfl) ?_
      refine lv_if_lt (tgt := 108) hx hb dX9_loop_101 (by decide) (fun c8 => ?_) (fun c8 => ?_)
      · have h := ifT c8 h
        refine lv_iconst (v := (0 : Int32)) hx hb dX9_loop_108 (by decide) ?_
        exact M_zretZ C h hP hD hS dX9_loop_109
      · have h := ifF c8 h
        refine lv_iconst (v := (1 : Int32)) hx hb dX9_loop_104 (by decide) ?_
        refine lv_goto (tgt := 109) hx hb dX9_loop_105 (by decide) ?_
        exact M_zretZ C h hP hD hS dX9_loop_109
    · have h := ifF c7 h
      refine lv_iload_n hx hb dX9_loop_54 rfl (lv_at hl 1 rfl) ?_
      refine lv_istore (lv' := [(4, .int x1), (0, .ref (a 0)), (1, .int x1), (2, .int x2), (3, .int x3)]) hx hb dX9_loop_55 hl (by decide) rfl (fun ls hl => ?_)
      exact tX9_loop_57 C hA ih N h hP hD hS (lv_sub hl [1, 2, 3, 4, 0] rfl)
set_option maxHeartbeats 4000000 in
set_option maxRecDepth 100000 in
theorem tX9_loop_29 {p : Program} {l : Launch} {e : Env} {s : State} {m : MethodId} {args : Array Value} {below : List Frame} {meth : Method} {c : Code} {D : va_G} {a : Nat → Nat} {cc : Nat → ClassId} {A : Nat → Prop} {N : Nat} {r : Int32} {σr : St} (C : M_Cx RX9 p s m args meth c D cc cX9_loop (Cond.code yX9_loop cX9_loop 5 (some .boolean) :: WM) 5 (some .boolean)) (hA : ∀ q, s.heap.size ≤ q → A q) {σ : St} {x1 : Int32} {y0 : Int32} {H : Heap} {locs : List Loc} {ls : Array Slot} (h : fX9_loop_29 N σ x1 y0 = some (r, σr)) : va_P D vwCl (wM a cc σ) H → va_D A (wM a cc σ) → va_S A s.heap H locs → lv_has ls 5 [(0, .ref (a 0)), (1, .int x1)] → W p l e rmX9_loop s m args below meth c H locs 0 0 (M_Mi D a cc A below args s r σr) (F0 m 29 ls [.int y0, .ref (a 0)]) := by
  obtain ⟨hx, hb, hr, hml, hown, hts, hin, hK, hlocks⟩ := id C
  intro hP hD hS hl
  obtain ⟨σ4, eσ4, h⟩ := letS_n h
  refine M_pt0 C hP hD hS eσ4 dX9_loop_29 (fun H locs hP hD hS => ?_)
  refine lv_aload_n hx hb dX9_loop_32 rfl (lv_at hl 0 rfl) ?_
  refine M_gt0 C hP dX9_loop_33 ?_
  refine lv_if_le (tgt := 41) hx hb dX9_loop_36 (by decide) (fun c5 => ?_) (fun c5 => ?_)
  · have h := ifT c5 h
    refine lv_aload_n hx hb dX9_loop_41 rfl (lv_at hl 0 rfl) ?_
    refine M_gt50 C hP dX9_loop_42 ?_
    obtain ⟨u6, eu6, h⟩ := letS_n h
    refine lv_topE eu6 ?_
    refine lv_istore_n (lv' := [(2, .int u6), (0, .ref (a 0)), (1, .int x1)]) hx hb dX9_loop_45 rfl hl (by decide) rfl (fun ls hl => ?_)
    refine lv_iconst (v := (0 : Int32)) hx hb dX9_loop_46 (by decide) ?_
    refine lv_istore_n (lv' := [(3, .int (0 : Int32)), (2, .int u6), (0, .ref (a 0)), (1, .int x1)]) hx hb dX9_loop_47 rfl hl (by decide) rfl (fun ls hl => ?_)
    exact tX9_loop_48 C hA N h hP hD hS (lv_sub hl [2, 3, 1, 0] rfl)
  · have h := ifF c5 h
    refine lv_iconst (v := (0 : Int32)) hx hb dX9_loop_39 (by decide) ?_
    exact M_zretZ C h hP hD hS dX9_loop_40
set_option maxHeartbeats 4000000 in
set_option maxRecDepth 100000 in
theorem tX9_loop_24 {p : Program} {l : Launch} {e : Env} {s : State} {m : MethodId} {args : Array Value} {below : List Frame} {meth : Method} {c : Code} {D : va_G} {a : Nat → Nat} {cc : Nat → ClassId} {A : Nat → Prop} {N : Nat} {r : Int32} {σr : St} (C : M_Cx RX9 p s m args meth c D cc cX9_loop (Cond.code yX9_loop cX9_loop 5 (some .boolean) :: WM) 5 (some .boolean)) (hA : ∀ q, s.heap.size ≤ q → A q) {σ : St} {x1 : Int32} {H : Heap} {locs : List Loc} {ls : Array Slot} (h : fX9_loop_24 N σ x1 = some (r, σr)) : va_P D vwCl (wM a cc σ) H → va_D A (wM a cc σ) → va_S A s.heap H locs → lv_has ls 5 [(0, .ref (a 0)), (1, .int x1)] → W p l e rmX9_loop s m args below meth c H locs 0 0 (M_Mi D a cc A below args s r σr) (F0 m 24 ls [.ref (a 0)]) := by
  obtain ⟨hx, hb, hr, hml, hown, hts, hin, hK, hlocks⟩ := id C
  intro hP hD hS hl
  refine lv_iconst (v := (2 : Int32)) hx hb dX9_loop_24 (by decide) ?_
  refine lv_goto (tgt := 29) hx hb dX9_loop_25 (by decide) ?_
  exact tX9_loop_29 C hA h hP hD hS (lv_sub hl [0, 1] rfl)
set_option maxHeartbeats 4000000 in
set_option maxRecDepth 100000 in
theorem tX9_loop {p : Program} {l : Launch} {e : Env} {s : State} {m : MethodId} {args : Array Value} {below : List Frame} {meth : Method} {c : Code} {D : va_G} {a : Nat → Nat} {cc : Nat → ClassId} {A : Nat → Prop} {N : Nat} {r : Int32} {σr : St} (C : M_Cx RX9 p s m args meth c D cc cX9_loop (Cond.code yX9_loop cX9_loop 5 (some .boolean) :: WM) 5 (some .boolean)) (hA : ∀ q, s.heap.size ≤ q → A q) {σ : St} {p0 : Int32} {H : Heap} {locs : List Loc} {ls : Array Slot} (h : fX9_loop N σ p0 = some (r, σr)) : va_P D vwCl (wM a cc σ) H → va_D A (wM a cc σ) → va_S A s.heap H locs → lv_has ls 5 [(0, .ref (a 0)), (1, .int p0)] → W p l e rmX9_loop s m args below meth c H locs 0 0 (M_Mi D a cc A below args s r σr) (F0 m 0 ls []) := by
  obtain ⟨hx, hb, hr, hml, hown, hts, hin, hK, hlocks⟩ := id C
  intro hP hD hS hl
  refine lv_aload_n hx hb dX9_loop_0 rfl (lv_at hl 0 rfl) ?_
  refine lv_aload_n hx hb dX9_loop_1 rfl (lv_at hl 0 rfl) ?_
  refine M_gt49 C hP dX9_loop_2 ?_
  refine lv_if_ge (tgt := 12) hx hb dX9_loop_5 (by decide) (fun c1 => ?_) (fun c1 => ?_)
  · have h := ifT c1 h
    refine lv_iload_n hx hb dX9_loop_12 rfl (lv_at hl 1 rfl) ?_
    refine lv_if_lt (tgt := 24) hx hb dX9_loop_13 (by decide) (fun c2 => ?_) (fun c2 => ?_)
    · have h := ifT c2 h
      exact tX9_loop_24 C hA h hP hD hS (lv_sub hl [0, 1] rfl)
    · have h := ifF c2 h
      refine lv_iload_n hx hb dX9_loop_16 rfl (lv_at hl 1 rfl) ?_
      refine lv_aload_n hx hb dX9_loop_17 rfl (lv_at hl 0 rfl) ?_
      refine M_gt49 C hP dX9_loop_18 ?_
      refine lv_icmp_lt (tgt := 28) hx hb dX9_loop_21 (by decide) (fun c3 => ?_) (fun c3 => ?_)
      · have h := ifT c3 h
        refine lv_iconst (v := (0 : Int32)) hx hb dX9_loop_28 (by decide) ?_
        exact tX9_loop_29 C hA h hP hD hS (lv_sub hl [0, 1] rfl)
      · have h := ifF c3 h
        exact tX9_loop_24 C hA h hP hD hS (lv_sub hl [0, 1] rfl)
  · have h := ifF c1 h
    refine lv_iconst (v := (1 : Int32)) hx hb dX9_loop_8 (by decide) ?_
    refine lv_goto (tgt := 29) hx hb dX9_loop_9 (by decide) ?_
    exact tX9_loop_29 C hA h hP hD hS (lv_sub hl [0, 1] rfl)
set_option maxRecDepth 100000 in
theorem kX9_loop (l : Launch) (sz : Nat) {D : va_G} {a : Nat → Nat} {cc : Nat → ClassId} {N : Nat} {r : Int32} {σr : St} {σ : St} {p0 : Int32} (h : fX9_loop N σ p0 = some (r, σr)) : Met l yX9_loop ((Cond.code yX9_loop cX9_loop 5 (some .boolean) :: WM)) rmX9_loop (M_Pc D a cc [.ref (a 0), .int p0] σ sz) (M_Qi D a cc σ sz r σr) 0 0 (va_A (wM a cc σ) sz) := by
  refine Met.ofW (cc := cX9_loop) (maxL := 5) (ret := (some .boolean)) (by decide) rfl ?_
  intro p e s m args below meth c s₁ B hml hv
  obtain ⟨rfl, hsz, hP, hK, hD0⟩ := hv
  subst hsz
  have hl := lv_entry ([.ref (a 0), .int p0]) (n := 5) (Nat.le_of_ble_eq_true rfl)
  rw [lg_entry_eq]
  generalize (lg_sl ([.ref (a 0), .int p0]) ++ List.replicate (5 - (lg_sl ([.ref (a 0), .int p0])).length) Slot.unset).toArray = ls at hl ⊢
  exact tX9_loop ⟨B.exec, B.bytes, B.returns, hml, findClass_of_methodNamed B.named, atoms_spec (ws := (Cond.code yX9_loop cX9_loop 5 (some .boolean) :: WM)) B.pre, (fun w h => List.mem_cons_of_mem _ (inWM w h)), hK, B.notSynchronized⟩ (fun q h => Or.inr h) h hP hD0.self va_S.rf hl
set_option maxHeartbeats 4000000 in
set_option maxRecDepth 100000 in
theorem tX9_tell {p : Program} {l : Launch} {e : Env} {s : State} {m : MethodId} {args : Array Value} {below : List Frame} {meth : Method} {c : Code} {D : va_G} {a : Nat → Nat} {cc : Nat → ClassId} {A : Nat → Prop} {N : Nat} {σr : St} (C : M_Cx RX9 p s m args meth c D cc cX9_tell (Cond.code yX9_tell cX9_tell 2 none :: WM) 2 none) (hA : ∀ q, s.heap.size ≤ q → A q) {σ : St} {p0 : Int32} {H : Heap} {locs : List Loc} {ls : Array Slot} (h : fX9_tell N σ p0 = some σr) : va_P D vwCl (wM a cc σ) H → va_D A (wM a cc σ) → va_S A s.heap H locs → lv_has ls 2 [(0, .ref (a 0)), (1, .int p0)] → W p l e rmX9_tell s m args below meth c H locs 0 0 (M_Mv D a cc A below args s σr) (F0 m 0 ls []) := by
  obtain ⟨hx, hb, hr, hml, hown, hts, hin, hK, hlocks⟩ := id C
  intro hP hD hS hl
  refine lv_aload_n hx hb dX9_tell_0 rfl (lv_at hl 0 rfl) ?_
  refine M_gt52 C hP dX9_tell_1 ?_
  refine lv_aload_n hx hb dX9_tell_4 rfl (lv_at hl 0 rfl) ?_
  refine M_gt53 C hP dX9_tell_5 ?_
  refine lv_iload_n hx hb dX9_tell_8 rfl (lv_at hl 1 rfl) ?_
  obtain ⟨g1, h⟩ := grd_s h
  obtain ⟨σ2, eσ2, h⟩ := letS_n h
  refine M_st52 C hP hD hS g1 eσ2 dX9_tell_9 (fun H locs hP hD hS => ?_)
  refine lv_aload_n hx hb dX9_tell_10 rfl (lv_at hl 0 rfl) ?_
  refine lv_dup hx hb dX9_tell_11 rfl ?_
  refine M_gt53 C hP dX9_tell_12 ?_
  refine lv_iconst (v := (1 : Int32)) hx hb dX9_tell_15 (by decide) ?_
  refine lv_iadd hx hb dX9_tell_16 ?_
  obtain ⟨σ3, eσ3, h⟩ := letS_n h
  refine M_pt53 C hP hD hS eσ3 dX9_tell_17 (fun H locs hP hD hS => ?_)
  exact M_vret C h hP hD hS dX9_tell_20
set_option maxRecDepth 100000 in
theorem kX9_tell (l : Launch) (sz : Nat) {D : va_G} {a : Nat → Nat} {cc : Nat → ClassId} {N : Nat} {σr : St} {σ : St} {p0 : Int32} (h : fX9_tell N σ p0 = some σr) : Met l yX9_tell ((Cond.code yX9_tell cX9_tell 2 none :: WM)) rmX9_tell (M_Pc D a cc [.ref (a 0), .int p0] σ sz) (M_Qv D a cc σ sz σr) 0 0 (va_A (wM a cc σ) sz) := by
  refine Met.ofW (cc := cX9_tell) (maxL := 2) (ret := none) (by decide) rfl ?_
  intro p e s m args below meth c s₁ B hml hv
  obtain ⟨rfl, hsz, hP, hK, hD0⟩ := hv
  subst hsz
  have hl := lv_entry ([.ref (a 0), .int p0]) (n := 2) (Nat.le_of_ble_eq_true rfl)
  rw [lg_entry_eq]
  generalize (lg_sl ([.ref (a 0), .int p0]) ++ List.replicate (2 - (lg_sl ([.ref (a 0), .int p0])).length) Slot.unset).toArray = ls at hl ⊢
  exact tX9_tell ⟨B.exec, B.bytes, B.returns, hml, findClass_of_methodNamed B.named, atoms_spec (ws := (Cond.code yX9_tell cX9_tell 2 none :: WM)) B.pre, (fun w h => List.mem_cons_of_mem _ (inWM w h)), hK, B.notSynchronized⟩ (fun q h => Or.inr h) h hP hD0.self va_S.rf hl
set_option maxHeartbeats 4000000 in
set_option maxRecDepth 100000 in
theorem tX9_tellNumber_18 {p : Program} {l : Launch} {e : Env} {s : State} {m : MethodId} {args : Array Value} {below : List Frame} {meth : Method} {c : Code} {D : va_G} {a : Nat → Nat} {cc : Nat → ClassId} {A : Nat → Prop} {N : Nat} {σr : St} (C : M_Cx RX9 p s m args meth c D cc cX9_tellNumber (Cond.code yX9_tellNumber cX9_tellNumber 2 none :: WM) 2 none) (hA : ∀ q, s.heap.size ≤ q → A q) {σ : St} {x1 : Int32} {H : Heap} {locs : List Loc} {ls : Array Slot} (h : fX9_tellNumber_18 N σ x1 = some σr) : va_P D vwCl (wM a cc σ) H → va_D A (wM a cc σ) → va_S A s.heap H locs → lv_has ls 2 [(0, .ref (a 0)), (1, .int x1)] → W p l e rmX9_tellNumber s m args below meth c H locs 0 0 (M_Mv D a cc A below args s σr) (F0 m 18 ls []) := by
  obtain ⟨hx, hb, hr, hml, hown, hts, hin, hK, hlocks⟩ := id C
  intro hP hD hS hl
  refine lv_aload_n hx hb dX9_tellNumber_18 rfl (lv_at hl 0 rfl) ?_
  refine lv_bipush (v := (48 : Int32)) hx hb dX9_tellNumber_19 (by decide) ?_
  refine lv_iload_n hx hb dX9_tellNumber_21 rfl (lv_at hl 1 rfl) ?_
  refine lv_bipush (v := (10 : Int32)) hx hb dX9_tellNumber_22 (by decide) ?_
  obtain ⟨g4, h⟩ := grd_s h
  refine lv_irem hx hb dX9_tellNumber_24 (nz_ne g4) ?_
  refine lv_iadd hx hb dX9_tellNumber_25 ?_
  refine lv_i2c hx hb dX9_tellNumber_26 rfl ?_
  obtain ⟨σ5, hc, h⟩ := bnd1_s h
  refine M_callVv (As := [.int ((((48 : Int32) + (x1 - x1 / (10 : Int32) * (10 : Int32))).toUInt32 % 65536).toInt32)]) (rest := []) C hA (fun sz => kX9_tell l sz hc) gX9_tell hP hD hS ⟨by decide, by decide⟩ ⟨rfl, rfl⟩ rfl hl.1 rfl (lv_room (Nat.le_of_ble_eq_true rfl)) dX9_tellNumber_27 (fun H locs hP hD hS => ?_)
  exact M_vret C h hP hD hS dX9_tellNumber_30
set_option maxHeartbeats 4000000 in
set_option maxRecDepth 100000 in
theorem tX9_tellNumber {p : Program} {l : Launch} {e : Env} {s : State} {m : MethodId} {args : Array Value} {below : List Frame} {meth : Method} {c : Code} {D : va_G} {a : Nat → Nat} {cc : Nat → ClassId} {A : Nat → Prop} {N : Nat} {σr : St} (C : M_Cx RX9 p s m args meth c D cc cX9_tellNumber (Cond.code yX9_tellNumber cX9_tellNumber 2 none :: WM) 2 none) (hA : ∀ q, s.heap.size ≤ q → A q) {σ : St} {p0 : Int32} {H : Heap} {locs : List Loc} {ls : Array Slot} (h : fX9_tellNumber N σ p0 = some σr) : va_P D vwCl (wM a cc σ) H → va_D A (wM a cc σ) → va_S A s.heap H locs → lv_has ls 2 [(0, .ref (a 0)), (1, .int p0)] → W p l e rmX9_tellNumber s m args below meth c H locs 0 0 (M_Mv D a cc A below args s σr) (F0 m 0 ls []) := by
  obtain ⟨hx, hb, hr, hml, hown, hts, hin, hK, hlocks⟩ := id C
  intro hP hD hS hl
  refine lv_iload_n hx hb dX9_tellNumber_0 rfl (lv_at hl 1 rfl) ?_
  refine lv_bipush (v := (9 : Int32)) hx hb dX9_tellNumber_1 (by decide) ?_
  refine lv_icmp_le (tgt := 18) hx hb dX9_tellNumber_3 (by decide) (fun c1 => ?_) (fun c1 => ?_)
  · have h := ifT c1 h
    exact tX9_tellNumber_18 C hA h hP hD hS (lv_sub hl [0, 1] rfl)
  · have h := ifF c1 h
    refine lv_aload_n hx hb dX9_tellNumber_6 rfl (lv_at hl 0 rfl) ?_
    refine lv_bipush (v := (48 : Int32)) hx hb dX9_tellNumber_7 (by decide) ?_
    refine lv_iload_n hx hb dX9_tellNumber_9 rfl (lv_at hl 1 rfl) ?_
    refine lv_bipush (v := (10 : Int32)) hx hb dX9_tellNumber_10 (by decide) ?_
    obtain ⟨g2, h⟩ := grd_s h
    refine lv_idiv hx hb dX9_tellNumber_12 (nz_ne g2) ?_
    refine lv_iadd hx hb dX9_tellNumber_13 ?_
    refine lv_i2c hx hb dX9_tellNumber_14 rfl ?_
    obtain ⟨σ3, hc, h⟩ := bnd1_s h
    refine M_callVv (As := [.int ((((48 : Int32) + (p0 / (10 : Int32))).toUInt32 % 65536).toInt32)]) (rest := []) C hA (fun sz => kX9_tell l sz hc) gX9_tell hP hD hS ⟨by decide, by decide⟩ ⟨rfl, rfl⟩ rfl hl.1 rfl (lv_room (Nat.le_of_ble_eq_true rfl)) dX9_tellNumber_15 (fun H locs hP hD hS => ?_)
    exact tX9_tellNumber_18 C hA h hP hD hS (lv_sub hl [0, 1] rfl)
set_option maxRecDepth 100000 in
theorem kX9_tellNumber (l : Launch) (sz : Nat) {D : va_G} {a : Nat → Nat} {cc : Nat → ClassId} {N : Nat} {σr : St} {σ : St} {p0 : Int32} (h : fX9_tellNumber N σ p0 = some σr) : Met l yX9_tellNumber ((Cond.code yX9_tellNumber cX9_tellNumber 2 none :: WM)) rmX9_tellNumber (M_Pc D a cc [.ref (a 0), .int p0] σ sz) (M_Qv D a cc σ sz σr) 0 0 (va_A (wM a cc σ) sz) := by
  refine Met.ofW (cc := cX9_tellNumber) (maxL := 2) (ret := none) (by decide) rfl ?_
  intro p e s m args below meth c s₁ B hml hv
  obtain ⟨rfl, hsz, hP, hK, hD0⟩ := hv
  subst hsz
  have hl := lv_entry ([.ref (a 0), .int p0]) (n := 2) (Nat.le_of_ble_eq_true rfl)
  rw [lg_entry_eq]
  generalize (lg_sl ([.ref (a 0), .int p0]) ++ List.replicate (2 - (lg_sl ([.ref (a 0), .int p0])).length) Slot.unset).toArray = ls at hl ⊢
  exact tX9_tellNumber ⟨B.exec, B.bytes, B.returns, hml, findClass_of_methodNamed B.named, atoms_spec (ws := (Cond.code yX9_tellNumber cX9_tellNumber 2 none :: WM)) B.pre, (fun w h => List.mem_cons_of_mem _ (inWM w h)), hK, B.notSynchronized⟩ (fun q h => Or.inr h) h hP hD0.self va_S.rf hl
set_option maxHeartbeats 4000000 in
set_option maxRecDepth 100000 in
theorem tX9_tellWord_58 {p : Program} {l : Launch} {e : Env} {s : State} {m : MethodId} {args : Array Value} {below : List Frame} {meth : Method} {c : Code} {D : va_G} {a : Nat → Nat} {cc : Nat → ClassId} {A : Nat → Prop} {N : Nat} {σr : St} (C : M_Cx RX9 p s m args meth c D cc cX9_tellWord (Cond.code yX9_tellWord cX9_tellWord 4 none :: WM) 4 none) (hA : ∀ q, s.heap.size ≤ q → A q) : ∀ (n : Nat) {σ : St} {x2 : Int64} {H : Heap} {locs : List Loc} {ls : Array Slot}, fX9_tellWord_58 N n σ x2 = some σr → va_P D vwCl (wM a cc σ) H → va_D A (wM a cc σ) → va_S A s.heap H locs → lv_has ls 4 [(0, .ref (a 0)), (2, .long x2)] → W p l e rmX9_tellWord s m args below meth c H locs 0 0 (M_Mv D a cc A below args s σr) (F0 m 58 ls []) := by
  obtain ⟨hx, hb, hr, hml, hown, hts, hin, hK, hlocks⟩ := id C
  intro n
  induction n with
  | zero => intro σ x2 H locs ls h; exact none_s h
  | succ n ih =>
    intro σ x2 H locs ls h hP hD hS hl
    refine lv_lload_n hx hb dX9_tellWord_58 rfl (lv_at hl 1 rfl) ?_
    refine lv_lconst (v := (0 : Int64)) hx hb dX9_tellWord_59 (by decide) ?_
    refine W.lcmp hx hb dX9_tellWord_60 ?_
    refine lv_if_eq (tgt := 83) hx hb dX9_tellWord_61 (by decide) (fun c6 => ?_) (fun c6 => ?_)
    · have h := ifT c6 h
      exact M_vret C h hP hD hS dX9_tellWord_83
    · have h := ifF c6 h
      refine lv_aload_n hx hb dX9_tellWord_64 rfl (lv_at hl 0 rfl) ?_
      refine lv_lload_n hx hb dX9_tellWord_65 rfl (lv_at hl 1 rfl) ?_
      refine lv_ldc2 (v := (255 : Int64)) hx hb hown (hts (.constantLong RX9 131 (255)) (by decide +kernel)) dX9_tellWord_66 ?_
      refine lv_land hx hb dX9_tellWord_69 ?_
      refine lv_l2i hx hb dX9_tellWord_70 rfl ?_
      refine lv_i2c hx hb dX9_tellWord_71 rfl ?_
      obtain ⟨σ7, hc, h⟩ := bnd1_s h
      refine M_callVv (As := [.int ((((x2 &&& (255 : Int64)).toInt32).toUInt32 % 65536).toInt32)]) (rest := []) C hA (fun sz => kX9_tell l sz hc) gX9_tell hP hD hS ⟨by decide, by decide⟩ ⟨rfl, rfl⟩ rfl hl.1 rfl (lv_room (Nat.le_of_ble_eq_true rfl)) dX9_tellWord_72 (fun H locs hP hD hS => ?_)
      refine lv_lload_n hx hb dX9_tellWord_75 rfl (lv_at hl 1 rfl) ?_
      refine lv_bipush (v := (8 : Int32)) hx hb dX9_tellWord_76 (by decide) ?_
      refine lv_lshr hx hb dX9_tellWord_78 rfl ?_
      obtain ⟨u8, eu8, h⟩ := letS_n h
      refine lv_topF eu8 ?_
      refine lv_lstore_n (lv' := [(2, .long u8), (0, .ref (a 0))]) hx hb dX9_tellWord_79 rfl hl (by decide) rfl (fun ls hl => ?_)
      refine lv_goto (tgt := 58) hx hb dX9_tellWord_80 (by decide) ?_
      exact ih h hP hD hS (lv_sub hl [1, 0] rfl)
set_option maxHeartbeats 4000000 in
set_option maxRecDepth 100000 in
theorem tX9_tellWord_57 {p : Program} {l : Launch} {e : Env} {s : State} {m : MethodId} {args : Array Value} {below : List Frame} {meth : Method} {c : Code} {D : va_G} {a : Nat → Nat} {cc : Nat → ClassId} {A : Nat → Prop} {N : Nat} {σr : St} (C : M_Cx RX9 p s m args meth c D cc cX9_tellWord (Cond.code yX9_tellWord cX9_tellWord 4 none :: WM) 4 none) (hA : ∀ q, s.heap.size ≤ q → A q) {σ : St} {y0 : Int64} {H : Heap} {locs : List Loc} {ls : Array Slot} (h : fX9_tellWord_57 N σ y0 = some σr) : va_P D vwCl (wM a cc σ) H → va_D A (wM a cc σ) → va_S A s.heap H locs → lv_has ls 4 [(0, .ref (a 0))] → W p l e rmX9_tellWord s m args below meth c H locs 0 0 (M_Mv D a cc A below args s σr) (F0 m 57 ls [.long y0]) := by
  obtain ⟨hx, hb, hr, hml, hown, hts, hin, hK, hlocks⟩ := id C
  intro hP hD hS hl
  refine lv_lstore_n (lv' := [(2, .long y0), (0, .ref (a 0))]) hx hb dX9_tellWord_57 rfl hl (by decide) rfl (fun ls hl => ?_)
  exact tX9_tellWord_58 C hA N h hP hD hS (lv_sub hl [1, 0] rfl)
set_option maxHeartbeats 4000000 in
set_option maxRecDepth 100000 in
theorem tX9_tellWord {p : Program} {l : Launch} {e : Env} {s : State} {m : MethodId} {args : Array Value} {below : List Frame} {meth : Method} {c : Code} {D : va_G} {a : Nat → Nat} {cc : Nat → ClassId} {A : Nat → Prop} {N : Nat} {σr : St} (C : M_Cx RX9 p s m args meth c D cc cX9_tellWord (Cond.code yX9_tellWord cX9_tellWord 4 none :: WM) 4 none) (hA : ∀ q, s.heap.size ≤ q → A q) {σ : St} {p0 : Int32} {H : Heap} {locs : List Loc} {ls : Array Slot} (h : fX9_tellWord N σ p0 = some σr) : va_P D vwCl (wM a cc σ) H → va_D A (wM a cc σ) → va_S A s.heap H locs → lv_has ls 4 [(0, .ref (a 0)), (1, .int p0)] → W p l e rmX9_tellWord s m args below meth c H locs 0 0 (M_Mv D a cc A below args s σr) (F0 m 0 ls []) := by
  obtain ⟨hx, hb, hr, hml, hown, hts, hin, hK, hlocks⟩ := id C
  intro hP hD hS hl
  refine lv_iload_n hx hb dX9_tellWord_0 rfl (lv_at hl 1 rfl) ?_
  refine lv_if_ne (tgt := 10) hx hb dX9_tellWord_1 (by decide) (fun c1 => ?_) (fun c1 => ?_)
  · have h := ifF c1 h
    refine lv_iload_n hx hb dX9_tellWord_10 rfl (lv_at hl 1 rfl) ?_
    refine lv_iconst (v := (1 : Int32)) hx hb dX9_tellWord_11 (by decide) ?_
    refine lv_icmp_ne (tgt := 21) hx hb dX9_tellWord_12 (by decide) (fun c2 => ?_) (fun c2 => ?_)
    · have h := ifF c2 h
      refine lv_iload_n hx hb dX9_tellWord_21 rfl (lv_at hl 1 rfl) ?_
      refine lv_iconst (v := (2 : Int32)) hx hb dX9_tellWord_22 (by decide) ?_
      refine lv_icmp_ne (tgt := 32) hx hb dX9_tellWord_23 (by decide) (fun c3 => ?_) (fun c3 => ?_)
      · have h := ifF c3 h
        refine lv_iload_n hx hb dX9_tellWord_32 rfl (lv_at hl 1 rfl) ?_
        refine lv_iconst (v := (3 : Int32)) hx hb dX9_tellWord_33 (by decide) ?_
        refine lv_icmp_ne (tgt := 43) hx hb dX9_tellWord_34 (by decide) (fun c4 => ?_) (fun c4 => ?_)
        · have h := ifF c4 h
          refine lv_iload_n hx hb dX9_tellWord_43 rfl (lv_at hl 1 rfl) ?_
          refine lv_iconst (v := (4 : Int32)) hx hb dX9_tellWord_44 (by decide) ?_
          refine lv_icmp_ne (tgt := 54) hx hb dX9_tellWord_45 (by decide) (fun c5 => ?_) (fun c5 => ?_)
          · have h := ifF c5 h
            refine lv_ldc2 (v := (544825888 : Int64)) hx hb hown (hts (.constantLong RX9 333 (544825888)) (by decide +kernel)) dX9_tellWord_54 ?_
            exact tX9_tellWord_57 C hA h hP hD hS (lv_sub hl [0] rfl)
          · have h := ifT c5 h
            refine lv_ldc2 (v := (544106784 : Int64)) hx hb hown (hts (.constantLong RX9 331 (544106784)) (by decide +kernel)) dX9_tellWord_48 ?_
            refine lv_goto (tgt := 57) hx hb dX9_tellWord_51 (by decide) ?_
            exact tX9_tellWord_57 C hA h hP hD hS (lv_sub hl [0] rfl)
        · have h := ifT c4 h
          refine lv_ldc2 (v := (9117586028061030 : Int64)) hx hb hown (hts (.constantLong RX9 329 (9117586028061030)) (by decide +kernel)) dX9_tellWord_37 ?_
          refine lv_goto (tgt := 57) hx hb dX9_tellWord_40 (by decide) ?_
          exact tX9_tellWord_57 C hA h hP hD hS (lv_sub hl [0] rfl)
      · have h := ifT c3 h
        refine lv_ldc2 (v := (544109938 : Int64)) hx hb hown (hts (.constantLong RX9 327 (544109938)) (by decide +kernel)) dX9_tellWord_26 ?_
        refine lv_goto (tgt := 57) hx hb dX9_tellWord_29 (by decide) ?_
        exact tX9_tellWord_57 C hA h hP hD hS (lv_sub hl [0] rfl)
    · have h := ifT c2 h
      refine lv_ldc2 (v := (35705747236210 : Int64)) hx hb hown (hts (.constantLong RX9 325 (35705747236210)) (by decide +kernel)) dX9_tellWord_15 ?_
      refine lv_goto (tgt := 57) hx hb dX9_tellWord_18 (by decide) ?_
      exact tX9_tellWord_57 C hA h hP hD hS (lv_sub hl [0] rfl)
  · have h := ifT c1 h
    refine lv_ldc2 (v := (1701736302 : Int64)) hx hb hown (hts (.constantLong RX9 323 (1701736302)) (by decide +kernel)) dX9_tellWord_4 ?_
    refine lv_goto (tgt := 57) hx hb dX9_tellWord_7 (by decide) ?_
    exact tX9_tellWord_57 C hA h hP hD hS (lv_sub hl [0] rfl)
set_option maxRecDepth 100000 in
theorem kX9_tellWord (l : Launch) (sz : Nat) {D : va_G} {a : Nat → Nat} {cc : Nat → ClassId} {N : Nat} {σr : St} {σ : St} {p0 : Int32} (h : fX9_tellWord N σ p0 = some σr) : Met l yX9_tellWord ((Cond.code yX9_tellWord cX9_tellWord 4 none :: WM)) rmX9_tellWord (M_Pc D a cc [.ref (a 0), .int p0] σ sz) (M_Qv D a cc σ sz σr) 0 0 (va_A (wM a cc σ) sz) := by
  refine Met.ofW (cc := cX9_tellWord) (maxL := 4) (ret := none) (by decide) rfl ?_
  intro p e s m args below meth c s₁ B hml hv
  obtain ⟨rfl, hsz, hP, hK, hD0⟩ := hv
  subst hsz
  have hl := lv_entry ([.ref (a 0), .int p0]) (n := 4) (Nat.le_of_ble_eq_true rfl)
  rw [lg_entry_eq]
  generalize (lg_sl ([.ref (a 0), .int p0]) ++ List.replicate (4 - (lg_sl ([.ref (a 0), .int p0])).length) Slot.unset).toArray = ls at hl ⊢
  exact tX9_tellWord ⟨B.exec, B.bytes, B.returns, hml, findClass_of_methodNamed B.named, atoms_spec (ws := (Cond.code yX9_tellWord cX9_tellWord 4 none :: WM)) B.pre, (fun w h => List.mem_cons_of_mem _ (inWM w h)), hK, B.notSynchronized⟩ (fun q h => Or.inr h) h hP hD0.self va_S.rf hl
set_option maxHeartbeats 4000000 in
set_option maxRecDepth 100000 in
theorem tX9_report_110 {p : Program} {l : Launch} {e : Env} {s : State} {m : MethodId} {args : Array Value} {below : List Frame} {meth : Method} {c : Code} {D : va_G} {a : Nat → Nat} {cc : Nat → ClassId} {A : Nat → Prop} {N : Nat} {r : Int32} {σr : St} (C : M_Cx RX9 p s m args meth c D cc cX9_report (Cond.code yX9_report cX9_report 1 (some .int) :: WM) 1 (some .int)) (hA : ∀ q, s.heap.size ≤ q → A q) {σ : St} {H : Heap} {locs : List Loc} {ls : Array Slot} (h : fX9_report_110 N σ = some (r, σr)) : va_P D vwCl (wM a cc σ) H → va_D A (wM a cc σ) → va_S A s.heap H locs → lv_has ls 1 [(0, .ref (a 0))] → W p l e rmX9_report s m args below meth c H locs 0 0 (M_Mi D a cc A below args s r σr) (F0 m 110 ls []) := by
  obtain ⟨hx, hb, hr, hml, hown, hts, hin, hK, hlocks⟩ := id C
  intro hP hD hS hl
  refine lv_aload_n hx hb dX9_report_110 rfl (lv_at hl 0 rfl) ?_
  refine M_gt53 C hP dX9_report_111 ?_
  exact M_iret C h hP hD hS dX9_report_114
set_option maxHeartbeats 4000000 in
set_option maxRecDepth 100000 in
theorem tX9_report_107 {p : Program} {l : Launch} {e : Env} {s : State} {m : MethodId} {args : Array Value} {below : List Frame} {meth : Method} {c : Code} {D : va_G} {a : Nat → Nat} {cc : Nat → ClassId} {A : Nat → Prop} {N : Nat} {r : Int32} {σr : St} (C : M_Cx RX9 p s m args meth c D cc cX9_report (Cond.code yX9_report cX9_report 1 (some .int) :: WM) 1 (some .int)) (hA : ∀ q, s.heap.size ≤ q → A q) {σ : St} {y0 : Int32} {H : Heap} {locs : List Loc} {ls : Array Slot} (h : fX9_report_107 N σ y0 = some (r, σr)) : va_P D vwCl (wM a cc σ) H → va_D A (wM a cc σ) → va_S A s.heap H locs → lv_has ls 1 [(0, .ref (a 0))] → W p l e rmX9_report s m args below meth c H locs 0 0 (M_Mi D a cc A below args s r σr) (F0 m 107 ls [.int y0, .ref (a 0)]) := by
  obtain ⟨hx, hb, hr, hml, hown, hts, hin, hK, hlocks⟩ := id C
  intro hP hD hS hl
  obtain ⟨σ16, hc, h⟩ := bnd1_s h
  refine M_callVv (As := [.int y0]) (rest := []) C hA (fun sz => kX9_tellNumber l sz hc) gX9_tellNumber hP hD hS ⟨by decide, by decide⟩ ⟨rfl, rfl⟩ rfl hl.1 rfl (lv_room (Nat.le_of_ble_eq_true rfl)) dX9_report_107 (fun H locs hP hD hS => ?_)
  exact tX9_report_110 C hA h hP hD hS (lv_sub hl [0] rfl)
set_option maxHeartbeats 4000000 in
set_option maxRecDepth 100000 in
theorem tX9_report_85 {p : Program} {l : Launch} {e : Env} {s : State} {m : MethodId} {args : Array Value} {below : List Frame} {meth : Method} {c : Code} {D : va_G} {a : Nat → Nat} {cc : Nat → ClassId} {A : Nat → Prop} {N : Nat} {r : Int32} {σr : St} (C : M_Cx RX9 p s m args meth c D cc cX9_report (Cond.code yX9_report cX9_report 1 (some .int) :: WM) 1 (some .int)) (hA : ∀ q, s.heap.size ≤ q → A q) {σ : St} {y0 : Int32} {H : Heap} {locs : List Loc} {ls : Array Slot} (h : fX9_report_85 N σ y0 = some (r, σr)) : va_P D vwCl (wM a cc σ) H → va_D A (wM a cc σ) → va_S A s.heap H locs → lv_has ls 1 [(0, .ref (a 0))] → W p l e rmX9_report s m args below meth c H locs 0 0 (M_Mi D a cc A below args s r σr) (F0 m 85 ls [.int y0, .ref (a 0)]) := by
  obtain ⟨hx, hb, hr, hml, hown, hts, hin, hK, hlocks⟩ := id C
  intro hP hD hS hl
  obtain ⟨σ12, hc, h⟩ := bnd1_s h
  refine M_callVv (As := [.int y0]) (rest := []) C hA (fun sz => kX9_tellWord l sz hc) gX9_tellWord hP hD hS ⟨by decide, by decide⟩ ⟨rfl, rfl⟩ rfl hl.1 rfl (lv_room (Nat.le_of_ble_eq_true rfl)) dX9_report_85 (fun H locs hP hD hS => ?_)
  refine lv_aload_n hx hb dX9_report_88 rfl (lv_at hl 0 rfl) ?_
  refine lv_aload_n hx hb dX9_report_89 rfl (lv_at hl 0 rfl) ?_
  refine M_gt50 C hP dX9_report_90 ?_
  refine lv_if_ge (tgt := 103) hx hb dX9_report_93 (by decide) (fun c13 => ?_) (fun c13 => ?_)
  · have h := ifT c13 h
    refine lv_aload_n hx hb dX9_report_103 rfl (lv_at hl 0 rfl) ?_
    refine M_gt50 C hP dX9_report_104 ?_
    exact tX9_report_107 C hA h hP hD hS (lv_sub hl [0] rfl)
  · have h := ifF c13 h
    refine lv_aload_n hx hb dX9_report_96 rfl (lv_at hl 0 rfl) ?_
    obtain ⟨r15, σ14, hc, h⟩ := bnd_s h
    refine M_callVi (As := []) (rest := [.ref (a 0)]) C hA (fun sz => kX9_shortest l sz hc) gX9_shortest hP hD hS ⟨by decide, by decide⟩ ⟨rfl, rfl⟩ rfl hl.1 rfl (lv_room (Nat.le_of_ble_eq_true rfl)) dX9_report_97 (fun H locs hP hD hS => ?_)
    refine lv_goto (tgt := 107) hx hb dX9_report_100 (by decide) ?_
    exact tX9_report_107 C hA h hP hD hS (lv_sub hl [0] rfl)
set_option maxHeartbeats 4000000 in
set_option maxRecDepth 100000 in
theorem tX9_report_61 {p : Program} {l : Launch} {e : Env} {s : State} {m : MethodId} {args : Array Value} {below : List Frame} {meth : Method} {c : Code} {D : va_G} {a : Nat → Nat} {cc : Nat → ClassId} {A : Nat → Prop} {N : Nat} {r : Int32} {σr : St} (C : M_Cx RX9 p s m args meth c D cc cX9_report (Cond.code yX9_report cX9_report 1 (some .int) :: WM) 1 (some .int)) (hA : ∀ q, s.heap.size ≤ q → A q) {σ : St} {y0 : Int32} {H : Heap} {locs : List Loc} {ls : Array Slot} (h : fX9_report_61 N σ y0 = some (r, σr)) : va_P D vwCl (wM a cc σ) H → va_D A (wM a cc σ) → va_S A s.heap H locs → lv_has ls 1 [(0, .ref (a 0))] → W p l e rmX9_report s m args below meth c H locs 0 0 (M_Mi D a cc A below args s r σr) (F0 m 61 ls [.int y0, .ref (a 0)]) := by
  obtain ⟨hx, hb, hr, hml, hown, hts, hin, hK, hlocks⟩ := id C
  intro hP hD hS hl
  obtain ⟨σ9, hc, h⟩ := bnd1_s h
  refine M_callVv (As := [.int y0]) (rest := []) C hA (fun sz => kX9_tellWord l sz hc) gX9_tellWord hP hD hS ⟨by decide, by decide⟩ ⟨rfl, rfl⟩ rfl hl.1 rfl (lv_room (Nat.le_of_ble_eq_true rfl)) dX9_report_61 (fun H locs hP hD hS => ?_)
  refine lv_aload_n hx hb dX9_report_64 rfl (lv_at hl 0 rfl) ?_
  refine lv_aload_n hx hb dX9_report_65 rfl (lv_at hl 0 rfl) ?_
  refine M_gt49 C hP dX9_report_66 ?_
  obtain ⟨σ10, hc, h⟩ := bnd1_s h
  refine M_callVv (As := [.int (gI σ9 49 0)]) (rest := []) C hA (fun sz => kX9_tellNumber l sz hc) gX9_tellNumber hP hD hS ⟨by decide, by decide⟩ ⟨rfl, rfl⟩ rfl hl.1 rfl (lv_room (Nat.le_of_ble_eq_true rfl)) dX9_report_69 (fun H locs hP hD hS => ?_)
  refine lv_aload_n hx hb dX9_report_72 rfl (lv_at hl 0 rfl) ?_
  refine lv_aload_n hx hb dX9_report_73 rfl (lv_at hl 0 rfl) ?_
  refine M_gt50 C hP dX9_report_74 ?_
  refine lv_if_ge (tgt := 84) hx hb dX9_report_77 (by decide) (fun c11 => ?_) (fun c11 => ?_)
  · have h := ifT c11 h
    refine lv_iconst (v := (4 : Int32)) hx hb dX9_report_84 (by decide) ?_
    exact tX9_report_85 C hA h hP hD hS (lv_sub hl [0] rfl)
  · have h := ifF c11 h
    refine lv_iconst (v := (5 : Int32)) hx hb dX9_report_80 (by decide) ?_
    refine lv_goto (tgt := 85) hx hb dX9_report_81 (by decide) ?_
    exact tX9_report_85 C hA h hP hD hS (lv_sub hl [0] rfl)
set_option maxHeartbeats 4000000 in
set_option maxRecDepth 100000 in
theorem tX9_report {p : Program} {l : Launch} {e : Env} {s : State} {m : MethodId} {args : Array Value} {below : List Frame} {meth : Method} {c : Code} {D : va_G} {a : Nat → Nat} {cc : Nat → ClassId} {A : Nat → Prop} {N : Nat} {r : Int32} {σr : St} (C : M_Cx RX9 p s m args meth c D cc cX9_report (Cond.code yX9_report cX9_report 1 (some .int) :: WM) 1 (some .int)) (hA : ∀ q, s.heap.size ≤ q → A q) {σ : St} {H : Heap} {locs : List Loc} {ls : Array Slot} (h : fX9_report N σ = some (r, σr)) : va_P D vwCl (wM a cc σ) H → va_D A (wM a cc σ) → va_S A s.heap H locs → lv_has ls 1 [(0, .ref (a 0))] → W p l e rmX9_report s m args below meth c H locs 0 0 (M_Mi D a cc A below args s r σr) (F0 m 0 ls []) := by
  obtain ⟨hx, hb, hr, hml, hown, hts, hin, hK, hlocks⟩ := id C
  intro hP hD hS hl
  refine lv_aload_n hx hb dX9_report_0 rfl (lv_at hl 0 rfl) ?_
  refine lv_iconst (v := (0 : Int32)) hx hb dX9_report_1 (by decide) ?_
  obtain ⟨σ1, eσ1, h⟩ := letS_n h
  refine M_pt0 C hP hD hS eσ1 dX9_report_2 (fun H locs hP hD hS => ?_)
  refine lv_aload_n hx hb dX9_report_5 rfl (lv_at hl 0 rfl) ?_
  refine lv_iconst (v := (0 : Int32)) hx hb dX9_report_6 (by decide) ?_
  obtain ⟨σ2, eσ2, h⟩ := letS_n h
  refine M_pt53 C hP hD hS eσ2 dX9_report_7 (fun H locs hP hD hS => ?_)
  refine lv_aload_n hx hb dX9_report_10 rfl (lv_at hl 0 rfl) ?_
  refine M_gt40 C hP dX9_report_11 ?_
  refine lv_if_ge (tgt := 25) hx hb dX9_report_14 (by decide) (fun c3 => ?_) (fun c3 => ?_)
  · have h := ifT c3 h
    refine lv_aload_n hx hb dX9_report_25 rfl (lv_at hl 0 rfl) ?_
    refine M_gt49 C hP dX9_report_26 ?_
    refine lv_if_ge (tgt := 48) hx hb dX9_report_29 (by decide) (fun c4 => ?_) (fun c4 => ?_)
    · have h := ifT c4 h
      refine lv_aload_n hx hb dX9_report_48 rfl (lv_at hl 0 rfl) ?_
      refine lv_aload_n hx hb dX9_report_49 rfl (lv_at hl 0 rfl) ?_
      refine M_gt50 C hP dX9_report_50 ?_
      refine lv_if_ge (tgt := 60) hx hb dX9_report_53 (by decide) (fun c5 => ?_) (fun c5 => ?_)
      · have h := ifT c5 h
        refine lv_iconst (v := (2 : Int32)) hx hb dX9_report_60 (by decide) ?_
        exact tX9_report_61 C hA h hP hD hS (lv_sub hl [0] rfl)
      · have h := ifF c5 h
        refine lv_iconst (v := (3 : Int32)) hx hb dX9_report_56 (by decide) ?_
        refine lv_goto (tgt := 61) hx hb dX9_report_57 (by decide) ?_
        exact tX9_report_61 C hA h hP hD hS (lv_sub hl [0] rfl)
    · have h := ifF c4 h
      refine lv_aload_n hx hb dX9_report_32 rfl (lv_at hl 0 rfl) ?_
      refine lv_iconst (v := (1 : Int32)) hx hb dX9_report_33 (by decide) ?_
      obtain ⟨σ6, hc, h⟩ := bnd1_s h
      refine M_callVv (As := [.int (1 : Int32)]) (rest := []) C hA (fun sz => kX9_tellWord l sz hc) gX9_tellWord hP hD hS ⟨by decide, by decide⟩ ⟨rfl, rfl⟩ rfl hl.1 rfl (lv_room (Nat.le_of_ble_eq_true rfl)) dX9_report_34 (fun H locs hP hD hS => ?_)
      refine lv_aload_n hx hb dX9_report_37 rfl (lv_at hl 0 rfl) ?_
      refine lv_aload_n hx hb dX9_report_38 rfl (lv_at hl 0 rfl) ?_
      refine M_gt40 C hP dX9_report_39 ?_
      obtain ⟨σ7, hc, h⟩ := bnd1_s h
      refine M_callVv (As := [.int (gI σ6 40 0)]) (rest := []) C hA (fun sz => kX9_tellNumber l sz hc) gX9_tellNumber hP hD hS ⟨by decide, by decide⟩ ⟨rfl, rfl⟩ rfl hl.1 rfl (lv_room (Nat.le_of_ble_eq_true rfl)) dX9_report_42 (fun H locs hP hD hS => ?_)
      refine lv_goto (tgt := 110) hx hb dX9_report_45 (by decide) ?_
      exact tX9_report_110 C hA h hP hD hS (lv_sub hl [0] rfl)
  · have h := ifF c3 h
    refine lv_aload_n hx hb dX9_report_17 rfl (lv_at hl 0 rfl) ?_
    refine lv_iconst (v := (0 : Int32)) hx hb dX9_report_18 (by decide) ?_
    obtain ⟨σ8, hc, h⟩ := bnd1_s h
    refine M_callVv (As := [.int (0 : Int32)]) (rest := []) C hA (fun sz => kX9_tellWord l sz hc) gX9_tellWord hP hD hS ⟨by decide, by decide⟩ ⟨rfl, rfl⟩ rfl hl.1 rfl (lv_room (Nat.le_of_ble_eq_true rfl)) dX9_report_19 (fun H locs hP hD hS => ?_)
    refine lv_goto (tgt := 110) hx hb dX9_report_22 (by decide) ?_
    exact tX9_report_110 C hA h hP hD hS (lv_sub hl [0] rfl)
set_option maxRecDepth 100000 in
theorem kX9_report (l : Launch) (sz : Nat) {D : va_G} {a : Nat → Nat} {cc : Nat → ClassId} {N : Nat} {r : Int32} {σr : St} {σ : St} (h : fX9_report N σ = some (r, σr)) : Met l yX9_report ((Cond.code yX9_report cX9_report 1 (some .int) :: WM)) rmX9_report (M_Pc D a cc [.ref (a 0)] σ sz) (M_Qi D a cc σ sz r σr) 0 0 (va_A (wM a cc σ) sz) := by
  refine Met.ofW (cc := cX9_report) (maxL := 1) (ret := (some .int)) (by decide) rfl ?_
  intro p e s m args below meth c s₁ B hml hv
  obtain ⟨rfl, hsz, hP, hK, hD0⟩ := hv
  subst hsz
  have hl := lv_entry ([.ref (a 0)]) (n := 1) (Nat.le_of_ble_eq_true rfl)
  rw [lg_entry_eq]
  generalize (lg_sl ([.ref (a 0)]) ++ List.replicate (1 - (lg_sl ([.ref (a 0)])).length) Slot.unset).toArray = ls at hl ⊢
  exact tX9_report ⟨B.exec, B.bytes, B.returns, hml, findClass_of_methodNamed B.named, atoms_spec (ws := (Cond.code yX9_report cX9_report 1 (some .int) :: WM)) B.pre, (fun w h => List.mem_cons_of_mem _ (inWM w h)), hK, B.notSynchronized⟩ (fun q h => Or.inr h) h hP hD0.self va_S.rf hl
set_option maxHeartbeats 4000000 in
set_option maxRecDepth 100000 in
theorem tX9_said_17 {p : Program} {l : Launch} {e : Env} {s : State} {m : MethodId} {args : Array Value} {below : List Frame} {meth : Method} {c : Code} {D : va_G} {a : Nat → Nat} {cc : Nat → ClassId} {A : Nat → Prop} {N : Nat} {r : Int32} {σr : St} (C : M_Cx RX9 p s m args meth c D cc cX9_said (Cond.code yX9_said cX9_said 2 (some .char) :: WM) 2 (some .char)) (hA : ∀ q, s.heap.size ≤ q → A q) {σ : St} {H : Heap} {locs : List Loc} {ls : Array Slot} (h : fX9_said_17 N σ = some (r, σr)) : va_P D vwCl (wM a cc σ) H → va_D A (wM a cc σ) → va_S A s.heap H locs → lv_has ls 2 [] → W p l e rmX9_said s m args below meth c H locs 0 0 (M_Mi D a cc A below args s r σr) (F0 m 17 ls []) := by
  obtain ⟨hx, hb, hr, hml, hown, hts, hin, hK, hlocks⟩ := id C
  intro hP hD hS hl
  refine lv_iconst (v := (0 : Int32)) hx hb dX9_said_17 (by decide) ?_
  refine lv_goto (tgt := 27) hx hb dX9_said_18 (by decide) ?_
  exact M_zretC C h hP hD hS dX9_said_27
set_option maxHeartbeats 4000000 in
set_option maxRecDepth 100000 in
theorem tX9_said {p : Program} {l : Launch} {e : Env} {s : State} {m : MethodId} {args : Array Value} {below : List Frame} {meth : Method} {c : Code} {D : va_G} {a : Nat → Nat} {cc : Nat → ClassId} {A : Nat → Prop} {N : Nat} {r : Int32} {σr : St} (C : M_Cx RX9 p s m args meth c D cc cX9_said (Cond.code yX9_said cX9_said 2 (some .char) :: WM) 2 (some .char)) (hA : ∀ q, s.heap.size ≤ q → A q) {σ : St} {p0 : Int32} {H : Heap} {locs : List Loc} {ls : Array Slot} (h : fX9_said N σ p0 = some (r, σr)) : va_P D vwCl (wM a cc σ) H → va_D A (wM a cc σ) → va_S A s.heap H locs → lv_has ls 2 [(0, .ref (a 0)), (1, .int p0)] → W p l e rmX9_said s m args below meth c H locs 0 0 (M_Mi D a cc A below args s r σr) (F0 m 0 ls []) := by
  obtain ⟨hx, hb, hr, hml, hown, hts, hin, hK, hlocks⟩ := id C
  intro hP hD hS hl
  refine lv_aload_n hx hb dX9_said_0 rfl (lv_at hl 0 rfl) ?_
  refine lv_iconst (v := (0 : Int32)) hx hb dX9_said_1 (by decide) ?_
  obtain ⟨σ1, eσ1, h⟩ := letS_n h
  refine M_pt0 C hP hD hS eσ1 dX9_said_2 (fun H locs hP hD hS => ?_)
  refine lv_iload_n hx hb dX9_said_5 rfl (lv_at hl 1 rfl) ?_
  refine lv_if_lt (tgt := 17) hx hb dX9_said_6 (by decide) (fun c2 => ?_) (fun c2 => ?_)
  · have h := ifT c2 h
    exact tX9_said_17 C hA h hP hD hS (lv_sub hl [] rfl)
  · have h := ifF c2 h
    refine lv_iload_n hx hb dX9_said_9 rfl (lv_at hl 1 rfl) ?_
    refine lv_aload_n hx hb dX9_said_10 rfl (lv_at hl 0 rfl) ?_
    refine M_gt53 C hP dX9_said_11 ?_
    refine lv_icmp_lt (tgt := 21) hx hb dX9_said_14 (by decide) (fun c3 => ?_) (fun c3 => ?_)
    · have h := ifT c3 h
      refine lv_aload_n hx hb dX9_said_21 rfl (lv_at hl 0 rfl) ?_
      refine M_gt52 C hP dX9_said_22 ?_
      refine lv_iload_n hx hb dX9_said_25 rfl (lv_at hl 1 rfl) ?_
      obtain ⟨g4, h⟩ := grd_s h
      refine M_ld52 C hP g4 dX9_said_26 ?_
      exact M_zretC C h hP hD hS dX9_said_27
    · have h := ifF c3 h
      exact tX9_said_17 C hA h hP hD hS (lv_sub hl [] rfl)
set_option maxRecDepth 100000 in
theorem kX9_said (l : Launch) (sz : Nat) {D : va_G} {a : Nat → Nat} {cc : Nat → ClassId} {N : Nat} {r : Int32} {σr : St} {σ : St} {p0 : Int32} (h : fX9_said N σ p0 = some (r, σr)) : Met l yX9_said ((Cond.code yX9_said cX9_said 2 (some .char) :: WM)) rmX9_said (M_Pc D a cc [.ref (a 0), .int p0] σ sz) (M_Qi D a cc σ sz r σr) 0 0 (va_A (wM a cc σ) sz) := by
  refine Met.ofW (cc := cX9_said) (maxL := 2) (ret := (some .char)) (by decide) rfl ?_
  intro p e s m args below meth c s₁ B hml hv
  obtain ⟨rfl, hsz, hP, hK, hD0⟩ := hv
  subst hsz
  have hl := lv_entry ([.ref (a 0), .int p0]) (n := 2) (Nat.le_of_ble_eq_true rfl)
  rw [lg_entry_eq]
  generalize (lg_sl ([.ref (a 0), .int p0]) ++ List.replicate (2 - (lg_sl ([.ref (a 0), .int p0])).length) Slot.unset).toArray = ls at hl ⊢
  exact tX9_said ⟨B.exec, B.bytes, B.returns, hml, findClass_of_methodNamed B.named, atoms_spec (ws := (Cond.code yX9_said cX9_said 2 (some .char) :: WM)) B.pre, (fun w h => List.mem_cons_of_mem _ (inWM w h)), hK, B.notSynchronized⟩ (fun q h => Or.inr h) h hP hD0.self va_S.rf hl
