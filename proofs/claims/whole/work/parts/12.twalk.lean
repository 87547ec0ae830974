set_option maxHeartbeats 4000000 in
set_option maxRecDepth 100000 in
theorem tJ0_isLatin1_aae02_17 {st : Nat → Nat} {p : Program} {l : Launch} {e : Env} {s : State} {m : MethodId} {args : Array Value} {below : List Frame} {meth : Method} {c : Code} {D : va_G} {a : Nat → Nat} {cc : Nat → ClassId} {A : Nat → Prop} {N : Nat} {r : Int32} {σr : St} (C : T_Cx st l A RJ0 p s m args meth c D cc cJ0_isLatin1_aae02 (Cond.code yJ0_isLatin1_aae02 cJ0_isLatin1_aae02 1 (some .boolean) :: WT) 1 (some .boolean)) (hA : ∀ q, s.heap.size ≤ q → A q) {σ : St} {H : Heap} {locs : List Loc} {ls : Array Slot} (h : fJ0_isLatin1_aae02_17 N σ = some (r, σr)) : va_P D vwCl (wT a cc σ) H → va_D A (wT a cc σ) → va_S A s.heap H locs → lv_has ls 1 [] → W p l e rmJ0_isLatin1_aae02 s m args below meth c H locs 0 0 (T_Mi D a cc A below args s r σr) (F0 m 17 ls []) := by
  obtain ⟨hx, hb, hr, hml, hown, hts, hin, hK, hlocks, hTS, hl0⟩ := id C
  intro hP hD hS hl
  refine lv_iconst (v := (0 : Int32)) hx hb dJ0_isLatin1_aae02_17 (by decide) ?_
  exact T_zretZ C h hP hD hS dJ0_isLatin1_aae02_18
set_option maxHeartbeats 4000000 in
set_option maxRecDepth 100000 in
theorem tJ0_isLatin1_aae02 {st : Nat → Nat} {p : Program} {l : Launch} {e : Env} {s : State} {m : MethodId} {args : Array Value} {below : List Frame} {meth : Method} {c : Code} {D : va_G} {a : Nat → Nat} {cc : Nat → ClassId} {A : Nat → Prop} {N : Nat} {r : Int32} {σr : St} (C : T_Cx st l A RJ0 p s m args meth c D cc cJ0_isLatin1_aae02 (Cond.code yJ0_isLatin1_aae02 cJ0_isLatin1_aae02 1 (some .boolean) :: WT) 1 (some .boolean)) (hA : ∀ q, s.heap.size ≤ q → A q) {σ : St} {k0 : Nat} {H : Heap} {locs : List Loc} {ls : Array Slot} (h : fJ0_isLatin1_aae02 N σ k0 = some (r, σr)) : va_P D vwCl (wT a cc σ) H → va_D A (wT a cc σ) → va_S A s.heap H locs → lv_has ls 1 [(0, .ref (st (10 + k0)))] → W p l e rmJ0_isLatin1_aae02 s m args below meth c H locs 0 0 (T_Mi D a cc A below args s r σr) (F0 m 0 ls []) := by
  obtain ⟨hx, hb, hr, hml, hown, hts, hin, hK, hlocks, hTS, hl0⟩ := id C
  intro hP hD hS hl
  refine T_gs C hS hTS.2.2.2.2.2.2.2.2.2.1 (memWT (i := 132) rfl) dJ0_isLatin1_aae02_0 ?_
  refine lv_if_eq (tgt := 17) hx hb dJ0_isLatin1_aae02_3 (by decide) (fun c1 => ?_) (fun c1 => ?_)
  · have h := ifT c1 h
    exact tJ0_isLatin1_aae02_17 C hA h hP hD hS (lv_sub hl [] rfl)
  · have h := ifF c1 h
    refine lv_aload_n hx hb dJ0_isLatin1_aae02_6 rfl (lv_at hl 0 rfl) ?_
    obtain ⟨g2, h⟩ := grd_s h
    refine T_scod C hS g2 (memWT (i := 131) rfl) dJ0_isLatin1_aae02_7 ?_
    refine lv_if_ne (tgt := 17) hx hb dJ0_isLatin1_aae02_10 (by decide) (fun c3 => ?_) (fun c3 => ?_)
    · have h := ifF c3 h
      exact tJ0_isLatin1_aae02_17 C hA h hP hD hS (lv_sub hl [] rfl)
    · have h := ifT c3 h
      refine lv_iconst (v := (1 : Int32)) hx hb dJ0_isLatin1_aae02_13 (by decide) ?_
      refine lv_goto (tgt := 18) hx hb dJ0_isLatin1_aae02_14 (by decide) ?_
      exact T_zretZ C h hP hD hS dJ0_isLatin1_aae02_18
set_option maxRecDepth 100000 in
theorem kJ0_isLatin1_aae02 {l : Launch} (hl0 : l.stackTraces = false) (sz : Nat) {st : Nat → Nat} {D : va_G} {a : Nat → Nat} {cc : Nat → ClassId} {N : Nat} {r : Int32} {σr : St} {σ : St} {k0 : Nat} (h : fJ0_isLatin1_aae02 N σ k0 = some (r, σr)) : Met l yJ0_isLatin1_aae02 ((Cond.code yJ0_isLatin1_aae02 cJ0_isLatin1_aae02 1 (some .boolean) :: WT)) rmJ0_isLatin1_aae02 (T_Pc st D a cc [.ref (st (10 + k0))] σ sz) (T_Qi D a cc σ sz r σr) 0 0 (va_A (wT a cc σ) sz) := by
  refine Met.ofW (cc := cJ0_isLatin1_aae02) (maxL := 1) (ret := (some .boolean)) (by decide) rfl ?_
  intro p e s m args below meth c s₁ B hml hv
  obtain ⟨rfl, hsz, hP, hK, hD0, hTS⟩ := hv
  subst hsz
  have hl := lv_entry ([.ref (st (10 + k0))]) (n := 1) (Nat.le_of_ble_eq_true rfl)
  rw [lg_entry_eq]
  generalize (lg_sl ([.ref (st (10 + k0))]) ++ List.replicate (1 - (lg_sl ([.ref (st (10 + k0))])).length) Slot.unset).toArray = ls at hl ⊢
  exact tJ0_isLatin1_aae02 ⟨B.exec, B.bytes, B.returns, hml, findClass_of_methodNamed B.named, atoms_spec (ws := (Cond.code yJ0_isLatin1_aae02 cJ0_isLatin1_aae02 1 (some .boolean) :: WT)) B.pre, (fun w h => List.mem_cons_of_mem _ h), hK, B.notSynchronized, hTS, hl0⟩ (fun q h => Or.inr h) h hP hD0.self va_S.rf hl
set_option maxHeartbeats 4000000 in
set_option maxRecDepth 100000 in
theorem tJ0_coder_7d493 {st : Nat → Nat} {p : Program} {l : Launch} {e : Env} {s : State} {m : MethodId} {args : Array Value} {below : List Frame} {meth : Method} {c : Code} {D : va_G} {a : Nat → Nat} {cc : Nat → ClassId} {A : Nat → Prop} {N : Nat} {r : Int32} {σr : St} (C : T_Cx st l A RJ0 p s m args meth c D cc cJ0_coder_7d493 (Cond.code yJ0_coder_7d493 cJ0_coder_7d493 1 (some .byte) :: WT) 1 (some .byte)) (hA : ∀ q, s.heap.size ≤ q → A q) {σ : St} {k0 : Nat} {H : Heap} {locs : List Loc} {ls : Array Slot} (h : fJ0_coder_7d493 N σ k0 = some (r, σr)) : va_P D vwCl (wT a cc σ) H → va_D A (wT a cc σ) → va_S A s.heap H locs → lv_has ls 1 [(0, .ref (st (10 + k0)))] → W p l e rmJ0_coder_7d493 s m args below meth c H locs 0 0 (T_Mi D a cc A below args s r σr) (F0 m 0 ls []) := by
  obtain ⟨hx, hb, hr, hml, hown, hts, hin, hK, hlocks, hTS, hl0⟩ := id C
  intro hP hD hS hl
  refine T_gs C hS hTS.2.2.2.2.2.2.2.2.2.1 (memWT (i := 132) rfl) dJ0_coder_7d493_0 ?_
  refine lv_if_eq (tgt := 13) hx hb dJ0_coder_7d493_3 (by decide) (fun c1 => ?_) (fun c1 => ?_)
  · have h := ifT c1 h
    refine lv_iconst (v := (1 : Int32)) hx hb dJ0_coder_7d493_13 (by decide) ?_
    exact T_zretB C h hP hD hS dJ0_coder_7d493_14
  · have h := ifF c1 h
    refine lv_aload_n hx hb dJ0_coder_7d493_6 rfl (lv_at hl 0 rfl) ?_
    obtain ⟨g2, h⟩ := grd_s h
    refine T_scod C hS g2 (memWT (i := 131) rfl) dJ0_coder_7d493_7 ?_
    refine lv_goto (tgt := 14) hx hb dJ0_coder_7d493_10 (by decide) ?_
    exact T_zretB C h hP hD hS dJ0_coder_7d493_14
set_option maxRecDepth 100000 in
theorem kJ0_coder_7d493 {l : Launch} (hl0 : l.stackTraces = false) (sz : Nat) {st : Nat → Nat} {D : va_G} {a : Nat → Nat} {cc : Nat → ClassId} {N : Nat} {r : Int32} {σr : St} {σ : St} {k0 : Nat} (h : fJ0_coder_7d493 N σ k0 = some (r, σr)) : Met l yJ0_coder_7d493 ((Cond.code yJ0_coder_7d493 cJ0_coder_7d493 1 (some .byte) :: WT)) rmJ0_coder_7d493 (T_Pc st D a cc [.ref (st (10 + k0))] σ sz) (T_Qi D a cc σ sz r σr) 0 0 (va_A (wT a cc σ) sz) := by
  refine Met.ofW (cc := cJ0_coder_7d493) (maxL := 1) (ret := (some .byte)) (by decide) rfl ?_
  intro p e s m args below meth c s₁ B hml hv
  obtain ⟨rfl, hsz, hP, hK, hD0, hTS⟩ := hv
  subst hsz
  have hl := lv_entry ([.ref (st (10 + k0))]) (n := 1) (Nat.le_of_ble_eq_true rfl)
  rw [lg_entry_eq]
  generalize (lg_sl ([.ref (st (10 + k0))]) ++ List.replicate (1 - (lg_sl ([.ref (st (10 + k0))])).length) Slot.unset).toArray = ls at hl ⊢
  exact tJ0_coder_7d493 ⟨B.exec, B.bytes, B.returns, hml, findClass_of_methodNamed B.named, atoms_spec (ws := (Cond.code yJ0_coder_7d493 cJ0_coder_7d493 1 (some .byte) :: WT)) B.pre, (fun w h => List.mem_cons_of_mem _ h), hK, B.notSynchronized, hTS, hl0⟩ (fun q h => Or.inr h) h hP hD0.self va_S.rf hl
set_option maxHeartbeats 4000000 in
set_option maxRecDepth 100000 in
theorem tJ0_length_8abf5 {st : Nat → Nat} {p : Program} {l : Launch} {e : Env} {s : State} {m : MethodId} {args : Array Value} {below : List Frame} {meth : Method} {c : Code} {D : va_G} {a : Nat → Nat} {cc : Nat → ClassId} {A : Nat → Prop} {N : Nat} {r : Int32} {σr : St} (C : T_Cx st l A RJ0 p s m args meth c D cc cJ0_length_8abf5 (Cond.code yJ0_length_8abf5 cJ0_length_8abf5 1 (some .int) :: WT) 1 (some .int)) (hA : ∀ q, s.heap.size ≤ q → A q) {σ : St} {k0 : Nat} {H : Heap} {locs : List Loc} {ls : Array Slot} (h : fJ0_length_8abf5 N σ k0 = some (r, σr)) : va_P D vwCl (wT a cc σ) H → va_D A (wT a cc σ) → va_S A s.heap H locs → lv_has ls 1 [(0, .ref (st (10 + k0)))] → W p l e rmJ0_length_8abf5 s m args below meth c H locs 0 0 (T_Mi D a cc A below args s r σr) (F0 m 0 ls []) := by
  obtain ⟨hx, hb, hr, hml, hown, hts, hin, hK, hlocks, hTS, hl0⟩ := id C
  intro hP hD hS hl
  refine lv_aload_n hx hb dJ0_length_8abf5_0 rfl (lv_at hl 0 rfl) ?_
  obtain ⟨g1, h⟩ := grd_s h
  refine T_sval C hS g1 (memWT (i := 130) rfl) dJ0_length_8abf5_1 ?_
  obtain ⟨g2, h⟩ := grd_s h
  refine T_sln (k7 := k0) C hS g2 dJ0_length_8abf5_4 ?_
  refine lv_aload_n hx hb dJ0_length_8abf5_5 rfl (lv_at hl 0 rfl) ?_
  obtain ⟨g3, h⟩ := grd_s h
  obtain ⟨r5, σ4, hc, h⟩ := bnd_s h
  refine T_callQi (As := []) (rest := [.int (Int32.ofNat (sLen.getD (k0) 0))]) C hA (fun sz => kJ0_coder_7d493 hl0 sz hc) gJ0_335 hP hD hS (of_decide_eq_true g3) rfl ⟨by decide, by decide⟩ ⟨rfl, rfl⟩ rfl hl.1 rfl (lv_room (Nat.le_of_ble_eq_true rfl)) dJ0_length_8abf5_6 (fun H locs hP hD hS => ?_)
  refine lv_ishr hx hb dJ0_length_8abf5_9 ?_
  exact T_iret C h hP hD hS dJ0_length_8abf5_10
set_option maxRecDepth 100000 in
theorem kJ0_length_8abf5 {l : Launch} (hl0 : l.stackTraces = false) (sz : Nat) {st : Nat → Nat} {D : va_G} {a : Nat → Nat} {cc : Nat → ClassId} {N : Nat} {r : Int32} {σr : St} {σ : St} {k0 : Nat} (h : fJ0_length_8abf5 N σ k0 = some (r, σr)) : Met l yJ0_length_8abf5 ((Cond.code yJ0_length_8abf5 cJ0_length_8abf5 1 (some .int) :: WT)) rmJ0_length_8abf5 (T_Pc st D a cc [.ref (st (10 + k0))] σ sz) (T_Qi D a cc σ sz r σr) 0 0 (va_A (wT a cc σ) sz) := by
  refine Met.ofW (cc := cJ0_length_8abf5) (maxL := 1) (ret := (some .int)) (by decide) rfl ?_
  intro p e s m args below meth c s₁ B hml hv
  obtain ⟨rfl, hsz, hP, hK, hD0, hTS⟩ := hv
  subst hsz
  have hl := lv_entry ([.ref (st (10 + k0))]) (n := 1) (Nat.le_of_ble_eq_true rfl)
  rw [lg_entry_eq]
  generalize (lg_sl ([.ref (st (10 + k0))]) ++ List.replicate (1 - (lg_sl ([.ref (st (10 + k0))])).length) Slot.unset).toArray = ls at hl ⊢
  exact tJ0_length_8abf5 ⟨B.exec, B.bytes, B.returns, hml, findClass_of_methodNamed B.named, atoms_spec (ws := (Cond.code yJ0_length_8abf5 cJ0_length_8abf5 1 (some .int) :: WT)) B.pre, (fun w h => List.mem_cons_of_mem _ h), hK, B.notSynchronized, hTS, hl0⟩ (fun q h => Or.inr h) h hP hD0.self va_S.rf hl
set_option maxHeartbeats 4000000 in
set_option maxRecDepth 100000 in
theorem tJ1_canEncode_9a6ad_15 {st : Nat → Nat} {p : Program} {l : Launch} {e : Env} {s : State} {m : MethodId} {args : Array Value} {below : List Frame} {meth : Method} {c : Code} {D : va_G} {a : Nat → Nat} {cc : Nat → ClassId} {A : Nat → Prop} {N : Nat} {r : Int32} {σr : St} (C : T_Cx st l A RJ1 p s m args meth c D cc cJ1_canEncode_9a6ad (Cond.code yJ1_canEncode_9a6ad cJ1_canEncode_9a6ad 1 (some .boolean) :: WT) 1 (some .boolean)) (hA : ∀ q, s.heap.size ≤ q → A q) {σ : St} {H : Heap} {locs : List Loc} {ls : Array Slot} (h : fJ1_canEncode_9a6ad_15 N σ = some (r, σr)) : va_P D vwCl (wT a cc σ) H → va_D A (wT a cc σ) → va_S A s.heap H locs → lv_has ls 1 [] → W p l e rmJ1_canEncode_9a6ad s m args below meth c H locs 0 0 (T_Mi D a cc A below args s r σr) (F0 m 15 ls []) := by
  obtain ⟨hx, hb, hr, hml, hown, hts, hin, hK, hlocks, hTS, hl0⟩ := id C
  intro hP hD hS hl
  refine lv_iconst (v := (0 : Int32)) hx hb dJ1_canEncode_9a6ad_15 (by decide) ?_
  exact T_zretZ C h hP hD hS dJ1_canEncode_9a6ad_16
set_option maxHeartbeats 4000000 in
set_option maxRecDepth 100000 in
theorem tJ1_canEncode_9a6ad {st : Nat → Nat} {p : Program} {l : Launch} {e : Env} {s : State} {m : MethodId} {args : Array Value} {below : List Frame} {meth : Method} {c : Code} {D : va_G} {a : Nat → Nat} {cc : Nat → ClassId} {A : Nat → Prop} {N : Nat} {r : Int32} {σr : St} (C : T_Cx st l A RJ1 p s m args meth c D cc cJ1_canEncode_9a6ad (Cond.code yJ1_canEncode_9a6ad cJ1_canEncode_9a6ad 1 (some .boolean) :: WT) 1 (some .boolean)) (hA : ∀ q, s.heap.size ≤ q → A q) {σ : St} {p0 : Int32} {H : Heap} {locs : List Loc} {ls : Array Slot} (h : fJ1_canEncode_9a6ad N σ p0 = some (r, σr)) : va_P D vwCl (wT a cc σ) H → va_D A (wT a cc σ) → va_S A s.heap H locs → lv_has ls 1 [(0, .int p0)] → W p l e rmJ1_canEncode_9a6ad s m args below meth c H locs 0 0 (T_Mi D a cc A below args s r σr) (F0 m 0 ls []) := by
  obtain ⟨hx, hb, hr, hml, hown, hts, hin, hK, hlocks, hTS, hl0⟩ := id C
  intro hP hD hS hl
  refine lv_iload_n hx hb dJ1_canEncode_9a6ad_0 rfl (lv_at hl 0 rfl) ?_
  refine lv_if_lt (tgt := 15) hx hb dJ1_canEncode_9a6ad_1 (by decide) (fun c1 => ?_) (fun c1 => ?_)
  · have h := ifT c1 h
    exact tJ1_canEncode_9a6ad_15 C hA h hP hD hS (lv_sub hl [] rfl)
  · have h := ifF c1 h
    refine lv_iload_n hx hb dJ1_canEncode_9a6ad_4 rfl (lv_at hl 0 rfl) ?_
    refine lv_sipush (v := (255 : Int32)) hx hb dJ1_canEncode_9a6ad_5 (by decide) ?_
    refine lv_icmp_gt (tgt := 15) hx hb dJ1_canEncode_9a6ad_8 (by decide) (fun c2 => ?_) (fun c2 => ?_)
    · have h := ifT c2 h
      exact tJ1_canEncode_9a6ad_15 C hA h hP hD hS (lv_sub hl [] rfl)
    · have h := ifF c2 h
      refine lv_iconst (v := (1 : Int32)) hx hb dJ1_canEncode_9a6ad_11 (by decide) ?_
      refine lv_goto (tgt := 16) hx hb dJ1_canEncode_9a6ad_12 (by decide) ?_
      exact T_zretZ C h hP hD hS dJ1_canEncode_9a6ad_16
set_option maxRecDepth 100000 in
theorem kJ1_canEncode_9a6ad {l : Launch} (hl0 : l.stackTraces = false) (sz : Nat) {st : Nat → Nat} {D : va_G} {a : Nat → Nat} {cc : Nat → ClassId} {N : Nat} {r : Int32} {σr : St} {σ : St} {p0 : Int32} (h : fJ1_canEncode_9a6ad N σ p0 = some (r, σr)) : Met l yJ1_canEncode_9a6ad ((Cond.code yJ1_canEncode_9a6ad cJ1_canEncode_9a6ad 1 (some .boolean) :: WT)) rmJ1_canEncode_9a6ad (T_Pc st D a cc [.int p0] σ sz) (T_Qi D a cc σ sz r σr) 0 0 (va_A (wT a cc σ) sz) := by
  refine Met.ofW (cc := cJ1_canEncode_9a6ad) (maxL := 1) (ret := (some .boolean)) (by decide) rfl ?_
  intro p e s m args below meth c s₁ B hml hv
  obtain ⟨rfl, hsz, hP, hK, hD0, hTS⟩ := hv
  subst hsz
  have hl := lv_entry ([.int p0]) (n := 1) (Nat.le_of_ble_eq_true rfl)
  rw [lg_entry_eq]
  generalize (lg_sl ([.int p0]) ++ List.replicate (1 - (lg_sl ([.int p0])).length) Slot.unset).toArray = ls at hl ⊢
  exact tJ1_canEncode_9a6ad ⟨B.exec, B.bytes, B.returns, hml, findClass_of_methodNamed B.named, atoms_spec (ws := (Cond.code yJ1_canEncode_9a6ad cJ1_canEncode_9a6ad 1 (some .boolean) :: WT)) B.pre, (fun w h => List.mem_cons_of_mem _ h), hK, B.notSynchronized, hTS, hl0⟩ (fun q h => Or.inr h) h hP hD0.self va_S.rf hl
set_option maxHeartbeats 4000000 in
set_option maxRecDepth 100000 in
theorem tJ1_indexOfChar_4cfef_7 {st : Nat → Nat} {p : Program} {l : Launch} {e : Env} {s : State} {m : MethodId} {args : Array Value} {below : List Frame} {meth : Method} {c : Code} {D : va_G} {a : Nat → Nat} {cc : Nat → ClassId} {A : Nat → Prop} {N : Nat} {r : Int32} {σr : St} (C : T_Cx st l A RJ1 p s m args meth c D cc cJ1_indexOfChar_4cfef (Cond.code yJ1_indexOfChar_4cfef cJ1_indexOfChar_4cfef 6 (some .int) :: WT) 6 (some .int)) (hA : ∀ q, s.heap.size ≤ q → A q) : ∀ (n : Nat) {σ : St} {n0 : Nat} {x3 : Int32} {x4 : Int32} {x5 : Int32} {H : Heap} {locs : List Loc} {ls : Array Slot}, fJ1_indexOfChar_4cfef_7 N n σ n0 x3 x4 x5 = some (r, σr) → va_P D vwCl (wT a cc σ) H → va_D A (wT a cc σ) → va_S A s.heap H locs → lv_has ls 6 [(0, .ref (st (20 + n0))), (3, .int x3), (4, .int x4), (5, .int x5)] → W p l e rmJ1_indexOfChar_4cfef s m args below meth c H locs 0 0 (T_Mi D a cc A below args s r σr) (F0 m 7 ls []) := by
  obtain ⟨hx, hb, hr, hml, hown, hts, hin, hK, hlocks, hTS, hl0⟩ := id C
  intro n
  induction n with
  | zero => intro σ n0 x3 x4 x5 H locs ls h; exact none_s h
  | succ n ih =>
    intro σ n0 x3 x4 x5 H locs ls h hP hD hS hl
    refine lv_iload hx hb dJ1_indexOfChar_4cfef_7 (lv_at hl 3 rfl) ?_
    refine lv_iload_n hx hb dJ1_indexOfChar_4cfef_9 rfl (lv_at hl 1 rfl) ?_
    refine lv_icmp_ge (tgt := 31) hx hb dJ1_indexOfChar_4cfef_10 (by decide) (fun c2 => ?_) (fun c2 => ?_)
    · have h := ifT c2 h
      refine lv_iconst (v := (-1 : Int32)) hx hb dJ1_indexOfChar_4cfef_31 (by decide) ?_
      exact T_iret C h hP hD hS dJ1_indexOfChar_4cfef_32
    · have h := ifF c2 h
      refine lv_aload_n hx hb dJ1_indexOfChar_4cfef_13 rfl (lv_at hl 0 rfl) ?_
      refine lv_iload hx hb dJ1_indexOfChar_4cfef_14 (lv_at hl 3 rfl) ?_
      obtain ⟨g3, h⟩ := grd_s h
      obtain ⟨g4, h⟩ := grd_s h
      refine T_slb (k7 := n0) C hS g3 g4 dJ1_indexOfChar_4cfef_16 ?_
      refine lv_iload hx hb dJ1_indexOfChar_4cfef_17 (lv_at hl 2 rfl) ?_
      refine lv_icmp_ne (tgt := 25) hx hb dJ1_indexOfChar_4cfef_19 (by decide) (fun c5 => ?_) (fun c5 => ?_)
      · have h := ifF c5 h
        obtain ⟨u6, eu6, h⟩ := letS_n h
        refine lv_iinc (v := u6) (lv' := [(5, .int u6), (0, .ref (st (20 + n0))), (3, .int x3), (4, .int x4)]) hx hb dJ1_indexOfChar_4cfef_25 hl (k := 3) rfl (by rw [eu6]; rfl) (by decide) rfl (fun ls hl => ?_)
        refine lv_goto (tgt := 7) hx hb dJ1_indexOfChar_4cfef_28 (by decide) ?_
        exact ih h hP hD hS (lv_sub hl [1, 2, 3, 0] rfl)
      · have h := ifT c5 h
        refine lv_iload hx hb dJ1_indexOfChar_4cfef_22 (lv_at hl 3 rfl) ?_
        exact T_iret C h hP hD hS dJ1_indexOfChar_4cfef_24
set_option maxHeartbeats 4000000 in
set_option maxRecDepth 100000 in
theorem tJ1_indexOfChar_4cfef {st : Nat → Nat} {p : Program} {l : Launch} {e : Env} {s : State} {m : MethodId} {args : Array Value} {below : List Frame} {meth : Method} {c : Code} {D : va_G} {a : Nat → Nat} {cc : Nat → ClassId} {A : Nat → Prop} {N : Nat} {r : Int32} {σr : St} (C : T_Cx st l A RJ1 p s m args meth c D cc cJ1_indexOfChar_4cfef (Cond.code yJ1_indexOfChar_4cfef cJ1_indexOfChar_4cfef 6 (some .int) :: WT) 6 (some .int)) (hA : ∀ q, s.heap.size ≤ q → A q) {σ : St} {p0 : Nat} {p1 : Int32} {p2 : Int32} {p3 : Int32} {H : Heap} {locs : List Loc} {ls : Array Slot} (h : fJ1_indexOfChar_4cfef N σ p0 p1 p2 p3 = some (r, σr)) : va_P D vwCl (wT a cc σ) H → va_D A (wT a cc σ) → va_S A s.heap H locs → lv_has ls 6 [(0, .ref (st (20 + p0))), (1, .int p1), (2, .int p2), (3, .int p3)] → W p l e rmJ1_indexOfChar_4cfef s m args below meth c H locs 0 0 (T_Mi D a cc A below args s r σr) (F0 m 0 ls []) := by
  obtain ⟨hx, hb, hr, hml, hown, hts, hin, hK, hlocks, hTS, hl0⟩ := id C
  intro hP hD hS hl
  refine lv_iload_n hx hb dJ1_indexOfChar_4cfef_0 rfl (lv_at hl 1 rfl) ?_
  refine lv_i2b hx hb dJ1_indexOfChar_4cfef_1 rfl ?_
  obtain ⟨u1, eu1, h⟩ := letS_n h
  refine lv_topE eu1 ?_
  refine lv_istore (lv' := [(4, .int u1), (0, .ref (st (20 + p0))), (1, .int p1), (2, .int p2), (3, .int p3)]) hx hb dJ1_indexOfChar_4cfef_2 hl (by decide) rfl (fun ls hl => ?_)
  refine lv_iload_n hx hb dJ1_indexOfChar_4cfef_4 rfl (lv_at hl 3 rfl) ?_
  refine lv_istore (lv' := [(5, .int p2), (4, .int u1), (0, .ref (st (20 + p0))), (1, .int p1), (2, .int p2), (3, .int p3)]) hx hb dJ1_indexOfChar_4cfef_5 hl (by decide) rfl (fun ls hl => ?_)
  exact tJ1_indexOfChar_4cfef_7 C hA N h hP hD hS (lv_sub hl [2, 5, 1, 0] rfl)
set_option maxRecDepth 100000 in
theorem kJ1_indexOfChar_4cfef {l : Launch} (hl0 : l.stackTraces = false) (sz : Nat) {st : Nat → Nat} {D : va_G} {a : Nat → Nat} {cc : Nat → ClassId} {N : Nat} {r : Int32} {σr : St} {σ : St} {p0 : Nat} {p1 : Int32} {p2 : Int32} {p3 : Int32} (h : fJ1_indexOfChar_4cfef N σ p0 p1 p2 p3 = some (r, σr)) : Met l yJ1_indexOfChar_4cfef ((Cond.code yJ1_indexOfChar_4cfef cJ1_indexOfChar_4cfef 6 (some .int) :: WT)) rmJ1_indexOfChar_4cfef (T_Pc st D a cc [.ref (st (20 + p0)), .int p1, .int p2, .int p3] σ sz) (T_Qi D a cc σ sz r σr) 0 0 (va_A (wT a cc σ) sz) := by
  refine Met.ofW (cc := cJ1_indexOfChar_4cfef) (maxL := 6) (ret := (some .int)) (by decide) rfl ?_
  intro p e s m args below meth c s₁ B hml hv
  obtain ⟨rfl, hsz, hP, hK, hD0, hTS⟩ := hv
  subst hsz
  have hl := lv_entry ([.ref (st (20 + p0)), .int p1, .int p2, .int p3]) (n := 6) (Nat.le_of_ble_eq_true rfl)
  rw [lg_entry_eq]
  generalize (lg_sl ([.ref (st (20 + p0)), .int p1, .int p2, .int p3]) ++ List.replicate (6 - (lg_sl ([.ref (st (20 + p0)), .int p1, .int p2, .int p3])).length) Slot.unset).toArray = ls at hl ⊢
  exact tJ1_indexOfChar_4cfef ⟨B.exec, B.bytes, B.returns, hml, findClass_of_methodNamed B.named, atoms_spec (ws := (Cond.code yJ1_indexOfChar_4cfef cJ1_indexOfChar_4cfef 6 (some .int) :: WT)) B.pre, (fun w h => List.mem_cons_of_mem _ h), hK, B.notSynchronized, hTS, hl0⟩ (fun q h => Or.inr h) h hP hD0.self va_S.rf hl
set_option maxHeartbeats 4000000 in
set_option maxRecDepth 100000 in
theorem tJ1_indexOf_4cfef {st : Nat → Nat} {p : Program} {l : Launch} {e : Env} {s : State} {m : MethodId} {args : Array Value} {below : List Frame} {meth : Method} {c : Code} {D : va_G} {a : Nat → Nat} {cc : Nat → ClassId} {A : Nat → Prop} {N : Nat} {r : Int32} {σr : St} (C : T_Cx st l A RJ1 p s m args meth c D cc cJ1_indexOf_4cfef (Cond.code yJ1_indexOf_4cfef cJ1_indexOf_4cfef 4 (some .int) :: WT) 4 (some .int)) (hA : ∀ q, s.heap.size ≤ q → A q) {σ : St} {p0 : Nat} {p1 : Int32} {p2 : Int32} {p3 : Int32} {H : Heap} {locs : List Loc} {ls : Array Slot} (h : fJ1_indexOf_4cfef N σ p0 p1 p2 p3 = some (r, σr)) : va_P D vwCl (wT a cc σ) H → va_D A (wT a cc σ) → va_S A s.heap H locs → lv_has ls 4 [(0, .ref (st (20 + p0))), (1, .int p1), (2, .int p2), (3, .int p3)] → W p l e rmJ1_indexOf_4cfef s m args below meth c H locs 0 0 (T_Mi D a cc A below args s r σr) (F0 m 0 ls []) := by
  obtain ⟨hx, hb, hr, hml, hown, hts, hin, hK, hlocks, hTS, hl0⟩ := id C
  intro hP hD hS hl
  refine lv_iload_n hx hb dJ1_indexOf_4cfef_0 rfl (lv_at hl 1 rfl) ?_
  obtain ⟨r2, σ1, hc, h⟩ := bnd_s h
  refine T_callSi (As := [.int p1]) (rest := []) C hA (fun sz => kJ1_canEncode_9a6ad hl0 sz hc) gJ1_88 hP hD hS ⟨by decide, by decide⟩ ⟨rfl, rfl⟩ rfl hl.1 rfl (lv_room (Nat.le_of_ble_eq_true rfl)) dJ1_indexOf_4cfef_1 (fun H locs hP hD hS => ?_)
  refine lv_if_ne (tgt := 9) hx hb dJ1_indexOf_4cfef_4 (by decide) (fun c3 => ?_) (fun c3 => ?_)
  · have h := ifF c3 h
    refine lv_iload_n hx hb dJ1_indexOf_4cfef_9 rfl (lv_at hl 2 rfl) ?_
    refine lv_iconst (v := (0 : Int32)) hx hb dJ1_indexOf_4cfef_10 (by decide) ?_
    refine T_max C hl.1 (memWT (i := 145) rfl) (by decide) (Nat.le_of_ble_eq_true rfl) dJ1_indexOf_4cfef_11 ?_
    obtain ⟨u4, eu4, h⟩ := letS_n h
    refine lv_topE eu4 ?_
    refine lv_istore_n (lv' := [(2, .int u4), (0, .ref (st (20 + p0))), (1, .int p1), (3, .int p3)]) hx hb dJ1_indexOf_4cfef_14 rfl hl (by decide) rfl (fun ls hl => ?_)
    refine lv_iload_n hx hb dJ1_indexOf_4cfef_15 rfl (lv_at hl 3 rfl) ?_
    refine lv_aload_n hx hb dJ1_indexOf_4cfef_16 rfl (lv_at hl 1 rfl) ?_
    obtain ⟨g5, h⟩ := grd_s h
    refine T_sln (k7 := p0) C hS g5 dJ1_indexOf_4cfef_17 ?_
    refine T_min C hl.1 (memWT (i := 143) rfl) (by decide) (Nat.le_of_ble_eq_true rfl) dJ1_indexOf_4cfef_18 ?_
    obtain ⟨u6, eu6, h⟩ := letS_n h
    refine lv_topE eu6 ?_
    refine lv_istore_n (lv' := [(3, .int u6), (2, .int u4), (0, .ref (st (20 + p0))), (1, .int p1)]) hx hb dJ1_indexOf_4cfef_21 rfl hl (by decide) rfl (fun ls hl => ?_)
    refine lv_iload_n hx hb dJ1_indexOf_4cfef_22 rfl (lv_at hl 1 rfl) ?_
    refine lv_iload_n hx hb dJ1_indexOf_4cfef_23 rfl (lv_at hl 0 rfl) ?_
    refine lv_icmp_lt (tgt := 29) hx hb dJ1_indexOf_4cfef_24 (by decide) (fun c7 => ?_) (fun c7 => ?_)
    · have h := ifT c7 h
      refine lv_aload_n hx hb dJ1_indexOf_4cfef_29 rfl (lv_at hl 2 rfl) ?_
      refine lv_iload_n hx hb dJ1_indexOf_4cfef_30 rfl (lv_at hl 3 rfl) ?_
      refine lv_iload_n hx hb dJ1_indexOf_4cfef_31 rfl (lv_at hl 1 rfl) ?_
      refine lv_iload_n hx hb dJ1_indexOf_4cfef_32 rfl (lv_at hl 0 rfl) ?_
      obtain ⟨r9, σ8, hc, h⟩ := bnd_s h
      refine T_callSi (As := [.ref (st (20 + p0)), .int p1, .int u4, .int u6]) (rest := []) C hA (fun sz => kJ1_indexOfChar_4cfef hl0 sz hc) gJ1_95 hP hD hS ⟨by decide, by decide⟩ ⟨rfl, rfl⟩ rfl hl.1 rfl (lv_room (Nat.le_of_ble_eq_true rfl)) dJ1_indexOf_4cfef_33 (fun H locs hP hD hS => ?_)
      exact T_iret C h hP hD hS dJ1_indexOf_4cfef_36
    · have h := ifF c7 h
      refine lv_iconst (v := (-1 : Int32)) hx hb dJ1_indexOf_4cfef_27 (by decide) ?_
      exact T_iret C h hP hD hS dJ1_indexOf_4cfef_28
  · have h := ifT c3 h
    refine lv_iconst (v := (-1 : Int32)) hx hb dJ1_indexOf_4cfef_7 (by decide) ?_
    exact T_iret C h hP hD hS dJ1_indexOf_4cfef_8
set_option maxRecDepth 100000 in
theorem kJ1_indexOf_4cfef {l : Launch} (hl0 : l.stackTraces = false) (sz : Nat) {st : Nat → Nat} {D : va_G} {a : Nat → Nat} {cc : Nat → ClassId} {N : Nat} {r : Int32} {σr : St} {σ : St} {p0 : Nat} {p1 : Int32} {p2 : Int32} {p3 : Int32} (h : fJ1_indexOf_4cfef N σ p0 p1 p2 p3 = some (r, σr)) : Met l yJ1_indexOf_4cfef ((Cond.code yJ1_indexOf_4cfef cJ1_indexOf_4cfef 4 (some .int) :: WT)) rmJ1_indexOf_4cfef (T_Pc st D a cc [.ref (st (20 + p0)), .int p1, .int p2, .int p3] σ sz) (T_Qi D a cc σ sz r σr) 0 0 (va_A (wT a cc σ) sz) := by
  refine Met.ofW (cc := cJ1_indexOf_4cfef) (maxL := 4) (ret := (some .int)) (by decide) rfl ?_
  intro p e s m args below meth c s₁ B hml hv
  obtain ⟨rfl, hsz, hP, hK, hD0, hTS⟩ := hv
  subst hsz
  have hl := lv_entry ([.ref (st (20 + p0)), .int p1, .int p2, .int p3]) (n := 4) (Nat.le_of_ble_eq_true rfl)
  rw [lg_entry_eq]
  generalize (lg_sl ([.ref (st (20 + p0)), .int p1, .int p2, .int p3]) ++ List.replicate (4 - (lg_sl ([.ref (st (20 + p0)), .int p1, .int p2, .int p3])).length) Slot.unset).toArray = ls at hl ⊢
  exact tJ1_indexOf_4cfef ⟨B.exec, B.bytes, B.returns, hml, findClass_of_methodNamed B.named, atoms_spec (ws := (Cond.code yJ1_indexOf_4cfef cJ1_indexOf_4cfef 4 (some .int) :: WT)) B.pre, (fun w h => List.mem_cons_of_mem _ h), hK, B.notSynchronized, hTS, hl0⟩ (fun q h => Or.inr h) h hP hD0.self va_S.rf hl
set_option maxHeartbeats 4000000 in
set_option maxRecDepth 100000 in
theorem tJ0_indexOf_7cf53 {st : Nat → Nat} {p : Program} {l : Launch} {e : Env} {s : State} {m : MethodId} {args : Array Value} {below : List Frame} {meth : Method} {c : Code} {D : va_G} {a : Nat → Nat} {cc : Nat → ClassId} {A : Nat → Prop} {N : Nat} {r : Int32} {σr : St} (C : T_Cx st l A RJ0 p s m args meth c D cc cJ0_indexOf_7cf53 (Cond.code yJ0_indexOf_7cf53 cJ0_indexOf_7cf53 3 (some .int) :: WT) 3 (some .int)) (hA : ∀ q, s.heap.size ≤ q → A q) {σ : St} {k0 : Nat} {p0 : Int32} {p1 : Int32} {H : Heap} {locs : List Loc} {ls : Array Slot} (h : fJ0_indexOf_7cf53 N σ k0 p0 p1 = some (r, σr)) : va_P D vwCl (wT a cc σ) H → va_D A (wT a cc σ) → va_S A s.heap H locs → lv_has ls 3 [(0, .ref (st (10 + k0))), (1, .int p0), (2, .int p1)] → W p l e rmJ0_indexOf_7cf53 s m args below meth c H locs 0 0 (T_Mi D a cc A below args s r σr) (F0 m 0 ls []) := by
  obtain ⟨hx, hb, hr, hml, hown, hts, hin, hK, hlocks, hTS, hl0⟩ := id C
  intro hP hD hS hl
  refine lv_aload_n hx hb dJ0_indexOf_7cf53_0 rfl (lv_at hl 0 rfl) ?_
  obtain ⟨g1, h⟩ := grd_s h
  obtain ⟨r3, σ2, hc, h⟩ := bnd_s h
  refine T_callQi (As := []) (rest := []) C hA (fun sz => kJ0_isLatin1_aae02 hl0 sz hc) gJ0_492 hP hD hS (of_decide_eq_true g1) rfl ⟨by decide, by decide⟩ ⟨rfl, rfl⟩ rfl hl.1 rfl (lv_room (Nat.le_of_ble_eq_true rfl)) dJ0_indexOf_7cf53_1 (fun H locs hP hD hS => ?_)
  refine lv_if_eq (tgt := 23) hx hb dJ0_indexOf_7cf53_4 (by decide) (fun c4 => ?_) (fun c4 => ?_)
  · have h := ifT c4 h
    refine lv_aload_n hx hb dJ0_indexOf_7cf53_23 rfl (lv_at hl 0 rfl) ?_
    obtain ⟨g5, h⟩ := grd_s h
    refine T_sval C hS g5 (memWT (i := 130) rfl) dJ0_indexOf_7cf53_24 ?_
    refine lv_iload_n hx hb dJ0_indexOf_7cf53_27 rfl (lv_at hl 1 rfl) ?_
    refine lv_iload_n hx hb dJ0_indexOf_7cf53_28 rfl (lv_at hl 2 rfl) ?_
    refine lv_aload_n hx hb dJ0_indexOf_7cf53_29 rfl (lv_at hl 0 rfl) ?_
    obtain ⟨g6, h⟩ := grd_s h
    obtain ⟨r8, σ7, hc, h⟩ := bnd_s h
    refine T_callQi (As := []) (rest := [.int p1, .int p0, .ref (st (20 + k0))]) C hA (fun sz => kJ0_length_8abf5 hl0 sz hc) gJ0_505 hP hD hS (of_decide_eq_true g6) rfl ⟨by decide, by decide⟩ ⟨rfl, rfl⟩ rfl hl.1 rfl (lv_room (Nat.le_of_ble_eq_true rfl)) dJ0_indexOf_7cf53_30 (fun H locs hP hD hS => ?_)
    exact none_s h
  · have h := ifF c4 h
    refine lv_aload_n hx hb dJ0_indexOf_7cf53_7 rfl (lv_at hl 0 rfl) ?_
    obtain ⟨g9, h⟩ := grd_s h
    refine T_sval C hS g9 (memWT (i := 130) rfl) dJ0_indexOf_7cf53_8 ?_
    refine lv_iload_n hx hb dJ0_indexOf_7cf53_11 rfl (lv_at hl 1 rfl) ?_
    refine lv_iload_n hx hb dJ0_indexOf_7cf53_12 rfl (lv_at hl 2 rfl) ?_
    refine lv_aload_n hx hb dJ0_indexOf_7cf53_13 rfl (lv_at hl 0 rfl) ?_
    obtain ⟨g10, h⟩ := grd_s h
    obtain ⟨r12, σ11, hc, h⟩ := bnd_s h
    refine T_callQi (As := []) (rest := [.int p1, .int p0, .ref (st (20 + k0))]) C hA (fun sz => kJ0_length_8abf5 hl0 sz hc) gJ0_505 hP hD hS (of_decide_eq_true g10) rfl ⟨by decide, by decide⟩ ⟨rfl, rfl⟩ rfl hl.1 rfl (lv_room (Nat.le_of_ble_eq_true rfl)) dJ0_indexOf_7cf53_14 (fun H locs hP hD hS => ?_)
    obtain ⟨r14, σ13, hc, h⟩ := bnd_s h
    refine T_callSi (As := [.ref (st (20 + k0)), .int p0, .int p1, .int r12]) (rest := []) C hA (fun sz => kJ1_indexOf_4cfef hl0 sz hc) gJ0_637 hP hD hS ⟨by decide, by decide⟩ ⟨rfl, rfl⟩ rfl hl.1 rfl (lv_room (Nat.le_of_ble_eq_true rfl)) dJ0_indexOf_7cf53_17 (fun H locs hP hD hS => ?_)
    refine lv_goto (tgt := 36) hx hb dJ0_indexOf_7cf53_20 (by decide) ?_
    exact T_iret C h hP hD hS dJ0_indexOf_7cf53_36
set_option maxRecDepth 100000 in
theorem kJ0_indexOf_7cf53 {l : Launch} (hl0 : l.stackTraces = false) (sz : Nat) {st : Nat → Nat} {D : va_G} {a : Nat → Nat} {cc : Nat → ClassId} {N : Nat} {r : Int32} {σr : St} {σ : St} {k0 : Nat} {p0 : Int32} {p1 : Int32} (h : fJ0_indexOf_7cf53 N σ k0 p0 p1 = some (r, σr)) : Met l yJ0_indexOf_7cf53 ((Cond.code yJ0_indexOf_7cf53 cJ0_indexOf_7cf53 3 (some .int) :: WT)) rmJ0_indexOf_7cf53 (T_Pc st D a cc [.ref (st (10 + k0)), .int p0, .int p1] σ sz) (T_Qi D a cc σ sz r σr) 0 0 (va_A (wT a cc σ) sz) := by
  refine Met.ofW (cc := cJ0_indexOf_7cf53) (maxL := 3) (ret := (some .int)) (by decide) rfl ?_
  intro p e s m args below meth c s₁ B hml hv
  obtain ⟨rfl, hsz, hP, hK, hD0, hTS⟩ := hv
  subst hsz
  have hl := lv_entry ([.ref (st (10 + k0)), .int p0, .int p1]) (n := 3) (Nat.le_of_ble_eq_true rfl)
  rw [lg_entry_eq]
  generalize (lg_sl ([.ref (st (10 + k0)), .int p0, .int p1]) ++ List.replicate (3 - (lg_sl ([.ref (st (10 + k0)), .int p0, .int p1])).length) Slot.unset).toArray = ls at hl ⊢
  exact tJ0_indexOf_7cf53 ⟨B.exec, B.bytes, B.returns, hml, findClass_of_methodNamed B.named, atoms_spec (ws := (Cond.code yJ0_indexOf_7cf53 cJ0_indexOf_7cf53 3 (some .int) :: WT)) B.pre, (fun w h => List.mem_cons_of_mem _ h), hK, B.notSynchronized, hTS, hl0⟩ (fun q h => Or.inr h) h hP hD0.self va_S.rf hl
set_option maxHeartbeats 4000000 in
set_option maxRecDepth 100000 in
theorem tJ0_indexOf_0f7a4 {st : Nat → Nat} {p : Program} {l : Launch} {e : Env} {s : State} {m : MethodId} {args : Array Value} {below : List Frame} {meth : Method} {c : Code} {D : va_G} {a : Nat → Nat} {cc : Nat → ClassId} {A : Nat → Prop} {N : Nat} {r : Int32} {σr : St} (C : T_Cx st l A RJ0 p s m args meth c D cc cJ0_indexOf_0f7a4 (Cond.code yJ0_indexOf_0f7a4 cJ0_indexOf_0f7a4 2 (some .int) :: WT) 2 (some .int)) (hA : ∀ q, s.heap.size ≤ q → A q) {σ : St} {k0 : Nat} {p0 : Int32} {H : Heap} {locs : List Loc} {ls : Array Slot} (h : fJ0_indexOf_0f7a4 N σ k0 p0 = some (r, σr)) : va_P D vwCl (wT a cc σ) H → va_D A (wT a cc σ) → va_S A s.heap H locs → lv_has ls 2 [(0, .ref (st (10 + k0))), (1, .int p0)] → W p l e rmJ0_indexOf_0f7a4 s m args below meth c H locs 0 0 (T_Mi D a cc A below args s r σr) (F0 m 0 ls []) := by
  obtain ⟨hx, hb, hr, hml, hown, hts, hin, hK, hlocks, hTS, hl0⟩ := id C
  intro hP hD hS hl
  refine lv_aload_n hx hb dJ0_indexOf_0f7a4_0 rfl (lv_at hl 0 rfl) ?_
  refine lv_iload_n hx hb dJ0_indexOf_0f7a4_1 rfl (lv_at hl 1 rfl) ?_
  refine lv_iconst (v := (0 : Int32)) hx hb dJ0_indexOf_0f7a4_2 (by decide) ?_
  obtain ⟨g1, h⟩ := grd_s h
  obtain ⟨r3, σ2, hc, h⟩ := bnd_s h
  refine T_callQi (As := [.int p0, .int (0 : Int32)]) (rest := []) C hA (fun sz => kJ0_indexOf_7cf53 hl0 sz hc) gJ0_633 hP hD hS (of_decide_eq_true g1) rfl ⟨by decide, by decide⟩ ⟨rfl, rfl⟩ rfl hl.1 rfl (lv_room (Nat.le_of_ble_eq_true rfl)) dJ0_indexOf_0f7a4_3 (fun H locs hP hD hS => ?_)
  exact T_iret C h hP hD hS dJ0_indexOf_0f7a4_6
set_option maxRecDepth 100000 in
theorem kJ0_indexOf_0f7a4 {l : Launch} (hl0 : l.stackTraces = false) (sz : Nat) {st : Nat → Nat} {D : va_G} {a : Nat → Nat} {cc : Nat → ClassId} {N : Nat} {r : Int32} {σr : St} {σ : St} {k0 : Nat} {p0 : Int32} (h : fJ0_indexOf_0f7a4 N σ k0 p0 = some (r, σr)) : Met l yJ0_indexOf_0f7a4 ((Cond.code yJ0_indexOf_0f7a4 cJ0_indexOf_0f7a4 2 (some .int) :: WT)) rmJ0_indexOf_0f7a4 (T_Pc st D a cc [.ref (st (10 + k0)), .int p0] σ sz) (T_Qi D a cc σ sz r σr) 0 0 (va_A (wT a cc σ) sz) := by
  refine Met.ofW (cc := cJ0_indexOf_0f7a4) (maxL := 2) (ret := (some .int)) (by decide) rfl ?_
  intro p e s m args below meth c s₁ B hml hv
  obtain ⟨rfl, hsz, hP, hK, hD0, hTS⟩ := hv
  subst hsz
  have hl := lv_entry ([.ref (st (10 + k0)), .int p0]) (n := 2) (Nat.le_of_ble_eq_true rfl)
  rw [lg_entry_eq]
  generalize (lg_sl ([.ref (st (10 + k0)), .int p0]) ++ List.replicate (2 - (lg_sl ([.ref (st (10 + k0)), .int p0])).length) Slot.unset).toArray = ls at hl ⊢
  exact tJ0_indexOf_0f7a4 ⟨B.exec, B.bytes, B.returns, hml, findClass_of_methodNamed B.named, atoms_spec (ws := (Cond.code yJ0_indexOf_0f7a4 cJ0_indexOf_0f7a4 2 (some .int) :: WT)) B.pre, (fun w h => List.mem_cons_of_mem _ h), hK, B.notSynchronized, hTS, hl0⟩ (fun q h => Or.inr h) h hP hD0.self va_S.rf hl
set_option maxHeartbeats 4000000 in
set_option maxRecDepth 100000 in
theorem tJ0_getBytes_840e7 {st : Nat → Nat} {p : Program} {l : Launch} {e : Env} {s : State} {m : MethodId} {args : Array Value} {below : List Frame} {meth : Method} {c : Code} {D : va_G} {a : Nat → Nat} {cc : Nat → ClassId} {A : Nat → Prop} {N : Nat} {σr : St} (C : T_Cx st l A RJ0 p s m args meth c D cc cJ0_getBytes_840e7 (Cond.code yJ0_getBytes_840e7 cJ0_getBytes_840e7 4 none :: WT) 4 none) (hA : ∀ q, s.heap.size ≤ q → A q) {σ : St} {k0 : Nat} {p1 : Int32} {p2 : Int32} {H : Heap} {locs : List Loc} {ls : Array Slot} (h : fJ0_getBytes_840e7 N σ k0 p1 p2 = some σr) : va_P D vwCl (wT a cc σ) H → va_D A (wT a cc σ) → va_S A s.heap H locs → lv_has ls 4 [(0, .ref (st (10 + k0))), (1, .ref (a 100)), (2, .int p1), (3, .int p2)] → W p l e rmJ0_getBytes_840e7 s m args below meth c H locs 0 0 (T_Mv D a cc A below args s σr) (F0 m 0 ls []) := by
  obtain ⟨hx, hb, hr, hml, hown, hts, hin, hK, hlocks, hTS, hl0⟩ := id C
  intro hP hD hS hl
  refine lv_aload_n hx hb dJ0_getBytes_840e7_0 rfl (lv_at hl 0 rfl) ?_
  obtain ⟨g1, h⟩ := grd_s h
  obtain ⟨r3, σ2, hc, h⟩ := bnd_s h
  refine T_callQi (As := []) (rest := []) C hA (fun sz => kJ0_coder_7d493 hl0 sz hc) gJ0_335 hP hD hS (of_decide_eq_true g1) rfl ⟨by decide, by decide⟩ ⟨rfl, rfl⟩ rfl hl.1 rfl (lv_room (Nat.le_of_ble_eq_true rfl)) dJ0_getBytes_840e7_1 (fun H locs hP hD hS => ?_)
  refine lv_iload_n hx hb dJ0_getBytes_840e7_4 rfl (lv_at hl 3 rfl) ?_
  refine lv_icmp_ne (tgt := 28) hx hb dJ0_getBytes_840e7_5 (by decide) (fun c4 => ?_) (fun c4 => ?_)
  · have h := ifF c4 h
    refine lv_aload_n hx hb dJ0_getBytes_840e7_28 rfl (lv_at hl 0 rfl) ?_
    obtain ⟨g5, h⟩ := grd_s h
    refine T_sval C hS g5 (memWT (i := 130) rfl) dJ0_getBytes_840e7_29 ?_
    refine lv_iconst (v := (0 : Int32)) hx hb dJ0_getBytes_840e7_32 (by decide) ?_
    refine lv_aload_n hx hb dJ0_getBytes_840e7_33 rfl (lv_at hl 1 rfl) ?_
    refine lv_iload_n hx hb dJ0_getBytes_840e7_34 rfl (lv_at hl 2 rfl) ?_
    refine lv_aload_n hx hb dJ0_getBytes_840e7_35 rfl (lv_at hl 0 rfl) ?_
    obtain ⟨g6, h⟩ := grd_s h
    refine T_sval C hS g6 (memWT (i := 130) rfl) dJ0_getBytes_840e7_36 ?_
    obtain ⟨g7, h⟩ := grd_s h
    refine T_sln (k7 := k0) C hS g7 dJ0_getBytes_840e7_39 ?_
    exact none_s h
  · have h := ifT c4 h
    refine lv_aload_n hx hb dJ0_getBytes_840e7_8 rfl (lv_at hl 0 rfl) ?_
    obtain ⟨g8, h⟩ := grd_s h
    refine T_sval C hS g8 (memWT (i := 130) rfl) dJ0_getBytes_840e7_9 ?_
    refine lv_iconst (v := (0 : Int32)) hx hb dJ0_getBytes_840e7_12 (by decide) ?_
    refine lv_aload_n hx hb dJ0_getBytes_840e7_13 rfl (lv_at hl 1 rfl) ?_
    refine lv_iload_n hx hb dJ0_getBytes_840e7_14 rfl (lv_at hl 2 rfl) ?_
    refine lv_iload_n hx hb dJ0_getBytes_840e7_15 rfl (lv_at hl 3 rfl) ?_
    refine lv_ishl hx hb dJ0_getBytes_840e7_16 ?_
    refine lv_aload_n hx hb dJ0_getBytes_840e7_17 rfl (lv_at hl 0 rfl) ?_
    obtain ⟨g9, h⟩ := grd_s h
    refine T_sval C hS g9 (memWT (i := 130) rfl) dJ0_getBytes_840e7_18 ?_
    obtain ⟨g10, h⟩ := grd_s h
    refine T_sln (k7 := k0) C hS g10 dJ0_getBytes_840e7_21 ?_
    obtain ⟨g12, h⟩ := grd_s h
    obtain ⟨g11, h⟩ := grd_s h
    obtain ⟨σ13, eσ13, h⟩ := letS_n h
    refine T_copyS (k7 := k0) C hP hD hS hl.1 g12 g11 eσ13 (by decide) (Nat.le_of_ble_eq_true rfl) dJ0_getBytes_840e7_22 (fun H locs hP hD hS => ?_)
    refine lv_goto (tgt := 43) hx hb dJ0_getBytes_840e7_25 (by decide) ?_
    exact T_vret C h hP hD hS dJ0_getBytes_840e7_43
set_option maxRecDepth 100000 in
theorem kJ0_getBytes_840e7 {l : Launch} (hl0 : l.stackTraces = false) (sz : Nat) {st : Nat → Nat} {D : va_G} {a : Nat → Nat} {cc : Nat → ClassId} {N : Nat} {σr : St} {σ : St} {k0 : Nat} {p1 : Int32} {p2 : Int32} (h : fJ0_getBytes_840e7 N σ k0 p1 p2 = some σr) : Met l yJ0_getBytes_840e7 ((Cond.code yJ0_getBytes_840e7 cJ0_getBytes_840e7 4 none :: WT)) rmJ0_getBytes_840e7 (T_Pc st D a cc [.ref (st (10 + k0)), .ref (a 100), .int p1, .int p2] σ sz) (T_Qv D a cc σ sz σr) 0 0 (va_A (wT a cc σ) sz) := by
  refine Met.ofW (cc := cJ0_getBytes_840e7) (maxL := 4) (ret := none) (by decide) rfl ?_
  intro p e s m args below meth c s₁ B hml hv
  obtain ⟨rfl, hsz, hP, hK, hD0, hTS⟩ := hv
  subst hsz
  have hl := lv_entry ([.ref (st (10 + k0)), .ref (a 100), .int p1, .int p2]) (n := 4) (Nat.le_of_ble_eq_true rfl)
  rw [lg_entry_eq]
  generalize (lg_sl ([.ref (st (10 + k0)), .ref (a 100), .int p1, .int p2]) ++ List.replicate (4 - (lg_sl ([.ref (st (10 + k0)), .ref (a 100), .int p1, .int p2])).length) Slot.unset).toArray = ls at hl ⊢
  exact tJ0_getBytes_840e7 ⟨B.exec, B.bytes, B.returns, hml, findClass_of_methodNamed B.named, atoms_spec (ws := (Cond.code yJ0_getBytes_840e7 cJ0_getBytes_840e7 4 none :: WT)) B.pre, (fun w h => List.mem_cons_of_mem _ h), hK, B.notSynchronized, hTS, hl0⟩ (fun q h => Or.inr h) h hP hD0.self va_S.rf hl
set_option maxHeartbeats 4000000 in
set_option maxRecDepth 100000 in
theorem tJ3_checkIndex_8e157_9 {st : Nat → Nat} {p : Program} {l : Launch} {e : Env} {s : State} {m : MethodId} {args : Array Value} {below : List Frame} {meth : Method} {c : Code} {D : va_G} {a : Nat → Nat} {cc : Nat → ClassId} {A : Nat → Prop} {N : Nat} {r : Int32} {σr : St} (C : T_Cx st l A RJ3 p s m args meth c D cc cJ3_checkIndex_8e157 (Cond.code yJ3_checkIndex_8e157 cJ3_checkIndex_8e157 3 (some .int) :: WT) 3 (some .int)) (hA : ∀ q, s.heap.size ≤ q → A q) {σ : St} {x0 : Int32} {x1 : Int32} {H : Heap} {locs : List Loc} {ls : Array Slot} (h : fJ3_checkIndex_8e157_9 N σ x0 x1 = some (r, σr)) : va_P D vwCl (wT a cc σ) H → va_D A (wT a cc σ) → va_S A s.heap H locs → lv_has ls 3 [(0, .int x0), (1, .int x1), (2, .null)] → W p l e rmJ3_checkIndex_8e157 s m args below meth c H locs 0 0 (T_Mi D a cc A below args s r σr) (F0 m 9 ls []) := by
  obtain ⟨hx, hb, hr, hml, hown, hts, hin, hK, hlocks, hTS, hl0⟩ := id C
  intro hP hD hS hl
  refine lv_aload_nN hx hb dJ3_checkIndex_8e157_9 rfl (lv_at hl 2 rfl) ?_
  refine lv_iload_n hx hb dJ3_checkIndex_8e157_10 rfl (lv_at hl 0 rfl) ?_
  refine lv_iload_n hx hb dJ3_checkIndex_8e157_11 rfl (lv_at hl 1 rfl) ?_
  exact none_s h
set_option maxHeartbeats 4000000 in
set_option maxRecDepth 100000 in
theorem tJ3_checkIndex_8e157 {st : Nat → Nat} {p : Program} {l : Launch} {e : Env} {s : State} {m : MethodId} {args : Array Value} {below : List Frame} {meth : Method} {c : Code} {D : va_G} {a : Nat → Nat} {cc : Nat → ClassId} {A : Nat → Prop} {N : Nat} {r : Int32} {σr : St} (C : T_Cx st l A RJ3 p s m args meth c D cc cJ3_checkIndex_8e157 (Cond.code yJ3_checkIndex_8e157 cJ3_checkIndex_8e157 3 (some .int) :: WT) 3 (some .int)) (hA : ∀ q, s.heap.size ≤ q → A q) {σ : St} {p0 : Int32} {p1 : Int32} {H : Heap} {locs : List Loc} {ls : Array Slot} (h : fJ3_checkIndex_8e157 N σ p0 p1 = some (r, σr)) : va_P D vwCl (wT a cc σ) H → va_D A (wT a cc σ) → va_S A s.heap H locs → lv_has ls 3 [(0, .int p0), (1, .int p1), (2, .null)] → W p l e rmJ3_checkIndex_8e157 s m args below meth c H locs 0 0 (T_Mi D a cc A below args s r σr) (F0 m 0 ls []) := by
  obtain ⟨hx, hb, hr, hml, hown, hts, hin, hK, hlocks, hTS, hl0⟩ := id C
  intro hP hD hS hl
  refine lv_iload_n hx hb dJ3_checkIndex_8e157_0 rfl (lv_at hl 0 rfl) ?_
  refine lv_if_lt (tgt := 9) hx hb dJ3_checkIndex_8e157_1 (by decide) (fun c1 => ?_) (fun c1 => ?_)
  · have h := ifT c1 h
    exact tJ3_checkIndex_8e157_9 C hA h hP hD hS (lv_sub hl [0, 1, 2] rfl)
  · have h := ifF c1 h
    refine lv_iload_n hx hb dJ3_checkIndex_8e157_4 rfl (lv_at hl 0 rfl) ?_
    refine lv_iload_n hx hb dJ3_checkIndex_8e157_5 rfl (lv_at hl 1 rfl) ?_
    refine lv_icmp_lt (tgt := 16) hx hb dJ3_checkIndex_8e157_6 (by decide) (fun c2 => ?_) (fun c2 => ?_)
    · have h := ifT c2 h
      refine lv_iload_n hx hb dJ3_checkIndex_8e157_16 rfl (lv_at hl 0 rfl) ?_
      exact T_iret C h hP hD hS dJ3_checkIndex_8e157_17
    · have h := ifF c2 h
      exact tJ3_checkIndex_8e157_9 C hA h hP hD hS (lv_sub hl [0, 1, 2] rfl)
set_option maxRecDepth 100000 in
theorem kJ3_checkIndex_8e157 {l : Launch} (hl0 : l.stackTraces = false) (sz : Nat) {st : Nat → Nat} {D : va_G} {a : Nat → Nat} {cc : Nat → ClassId} {N : Nat} {r : Int32} {σr : St} {σ : St} {p0 : Int32} {p1 : Int32} (h : fJ3_checkIndex_8e157 N σ p0 p1 = some (r, σr)) : Met l yJ3_checkIndex_8e157 ((Cond.code yJ3_checkIndex_8e157 cJ3_checkIndex_8e157 3 (some .int) :: WT)) rmJ3_checkIndex_8e157 (T_Pc st D a cc [.int p0, .int p1, .null] σ sz) (T_Qi D a cc σ sz r σr) 0 0 (va_A (wT a cc σ) sz) := by
  refine Met.ofW (cc := cJ3_checkIndex_8e157) (maxL := 3) (ret := (some .int)) (by decide) rfl ?_
  intro p e s m args below meth c s₁ B hml hv
  obtain ⟨rfl, hsz, hP, hK, hD0, hTS⟩ := hv
  subst hsz
  have hl := lv_entry ([.int p0, .int p1, .null]) (n := 3) (Nat.le_of_ble_eq_true rfl)
  rw [lg_entry_eq]
  generalize (lg_sl ([.int p0, .int p1, .null]) ++ List.replicate (3 - (lg_sl ([.int p0, .int p1, .null])).length) Slot.unset).toArray = ls at hl ⊢
  exact tJ3_checkIndex_8e157 ⟨B.exec, B.bytes, B.returns, hml, findClass_of_methodNamed B.named, atoms_spec (ws := (Cond.code yJ3_checkIndex_8e157 cJ3_checkIndex_8e157 3 (some .int) :: WT)) B.pre, (fun w h => List.mem_cons_of_mem _ h), hK, B.notSynchronized, hTS, hl0⟩ (fun q h => Or.inr h) h hP hD0.self va_S.rf hl
set_option maxHeartbeats 4000000 in
set_option maxRecDepth 100000 in
theorem tJ3_checkIndexR_9 {st : Nat → Nat} {p : Program} {l : Launch} {e : Env} {s : State} {m : MethodId} {args : Array Value} {below : List Frame} {meth : Method} {c : Code} {q9 : Nat} {D : va_G} {a : Nat → Nat} {cc : Nat → ClassId} {A : Nat → Prop} {N : Nat} {r : Int32} {σr : St} (C : T_Cx st l A RJ3 p s m args meth c D cc cJ3_checkIndex_8e157 (Cond.code yJ3_checkIndex_8e157 cJ3_checkIndex_8e157 3 (some .int) :: WT) 3 (some .int)) (hA : ∀ q, s.heap.size ≤ q → A q) {σ : St} {x0 : Int32} {x1 : Int32} {H : Heap} {locs : List Loc} {ls : Array Slot} (h : fJ3_checkIndex_8e157_9 N σ x0 x1 = some (r, σr)) : va_P D vwCl (wT a cc σ) H → va_D A (wT a cc σ) → va_S A s.heap H locs → lv_has ls 3 [(0, .int x0), (1, .int x1), (2, .ref q9)] → W p l e rmJ3_checkIndex_8e157 s m args below meth c H locs 0 0 (T_Mi D a cc A below args s r σr) (F0 m 9 ls []) := by
  obtain ⟨hx, hb, hr, hml, hown, hts, hin, hK, hlocks, hTS, hl0⟩ := id C
  intro hP hD hS hl
  refine lv_aload_n hx hb dJ3_checkIndex_8e157_9 rfl (lv_at hl 2 rfl) ?_
  refine lv_iload_n hx hb dJ3_checkIndex_8e157_10 rfl (lv_at hl 0 rfl) ?_
  refine lv_iload_n hx hb dJ3_checkIndex_8e157_11 rfl (lv_at hl 1 rfl) ?_
  exact none_s h
set_option maxHeartbeats 4000000 in
set_option maxRecDepth 100000 in
theorem tJ3_checkIndexR {st : Nat → Nat} {p : Program} {l : Launch} {e : Env} {s : State} {m : MethodId} {args : Array Value} {below : List Frame} {meth : Method} {c : Code} {q9 : Nat} {D : va_G} {a : Nat → Nat} {cc : Nat → ClassId} {A : Nat → Prop} {N : Nat} {r : Int32} {σr : St} (C : T_Cx st l A RJ3 p s m args meth c D cc cJ3_checkIndex_8e157 (Cond.code yJ3_checkIndex_8e157 cJ3_checkIndex_8e157 3 (some .int) :: WT) 3 (some .int)) (hA : ∀ q, s.heap.size ≤ q → A q) {σ : St} {p0 : Int32} {p1 : Int32} {H : Heap} {locs : List Loc} {ls : Array Slot} (h : fJ3_checkIndex_8e157 N σ p0 p1 = some (r, σr)) : va_P D vwCl (wT a cc σ) H → va_D A (wT a cc σ) → va_S A s.heap H locs → lv_has ls 3 [(0, .int p0), (1, .int p1), (2, .ref q9)] → W p l e rmJ3_checkIndex_8e157 s m args below meth c H locs 0 0 (T_Mi D a cc A below args s r σr) (F0 m 0 ls []) := by
  obtain ⟨hx, hb, hr, hml, hown, hts, hin, hK, hlocks, hTS, hl0⟩ := id C
  intro hP hD hS hl
  refine lv_iload_n hx hb dJ3_checkIndex_8e157_0 rfl (lv_at hl 0 rfl) ?_
  refine lv_if_lt (tgt := 9) hx hb dJ3_checkIndex_8e157_1 (by decide) (fun c1 => ?_) (fun c1 => ?_)
  · have h := ifT c1 h
    exact tJ3_checkIndexR_9 C hA h hP hD hS (lv_sub hl [0, 1, 2] rfl)
  · have h := ifF c1 h
    refine lv_iload_n hx hb dJ3_checkIndex_8e157_4 rfl (lv_at hl 0 rfl) ?_
    refine lv_iload_n hx hb dJ3_checkIndex_8e157_5 rfl (lv_at hl 1 rfl) ?_
    refine lv_icmp_lt (tgt := 16) hx hb dJ3_checkIndex_8e157_6 (by decide) (fun c2 => ?_) (fun c2 => ?_)
    · have h := ifT c2 h
      refine lv_iload_n hx hb dJ3_checkIndex_8e157_16 rfl (lv_at hl 0 rfl) ?_
      exact T_iret C h hP hD hS dJ3_checkIndex_8e157_17
    · have h := ifF c2 h
      exact tJ3_checkIndexR_9 C hA h hP hD hS (lv_sub hl [0, 1, 2] rfl)
set_option maxRecDepth 100000 in
theorem kJ3_checkIndexR {l : Launch} (hl0 : l.stackTraces = false) (sz : Nat) {st : Nat → Nat} {q9 : Nat} {D : va_G} {a : Nat → Nat} {cc : Nat → ClassId} {N : Nat} {r : Int32} {σr : St} {σ : St} {p0 : Int32} {p1 : Int32} (h : fJ3_checkIndex_8e157 N σ p0 p1 = some (r, σr)) : Met l yJ3_checkIndex_8e157 ((Cond.code yJ3_checkIndex_8e157 cJ3_checkIndex_8e157 3 (some .int) :: WT)) rmJ3_checkIndex_8e157 (T_Pc st D a cc [.int p0, .int p1, .ref q9] σ sz) (T_Qi D a cc σ sz r σr) 0 0 (va_A (wT a cc σ) sz) := by
  refine Met.ofW (cc := cJ3_checkIndex_8e157) (maxL := 3) (ret := (some .int)) (by decide) rfl ?_
  intro p e s m args below meth c s₁ B hml hv
  obtain ⟨rfl, hsz, hP, hK, hD0, hTS⟩ := hv
  subst hsz
  have hl := lv_entry ([.int p0, .int p1, .ref q9]) (n := 3) (Nat.le_of_ble_eq_true rfl)
  rw [lg_entry_eq]
  generalize (lg_sl ([.int p0, .int p1, .ref q9]) ++ List.replicate (3 - (lg_sl ([.int p0, .int p1, .ref q9])).length) Slot.unset).toArray = ls at hl ⊢
  exact tJ3_checkIndexR ⟨B.exec, B.bytes, B.returns, hml, findClass_of_methodNamed B.named, atoms_spec (ws := (Cond.code yJ3_checkIndex_8e157 cJ3_checkIndex_8e157 3 (some .int) :: WT)) B.pre, (fun w h => List.mem_cons_of_mem _ h), hK, B.notSynchronized, hTS, hl0⟩ (fun q h => Or.inr h) h hP hD0.self va_S.rf hl
theorem tJ0_checkIndex_df160 {st : Nat → Nat} {p : Program} {l : Launch} {e : Env} {s : State} {m : MethodId} {args : Array Value} {below : List Frame} {meth : Method} {c : Code} {D : va_G} {a : Nat → Nat} {cc : Nat → ClassId} {A : Nat → Prop} {N : Nat} {σr : St} (C : T_Cx st l A RJ0 p s m args meth c D cc cJ0_checkIndex_df160 (Cond.code yJ0_checkIndex_df160 cJ0_checkIndex_df160 2 none :: WT) 2 none) (hA : ∀ q, s.heap.size ≤ q → A q) {σ : St} {p0 p1 : Int32} {H : Heap} {locs : List Loc} {ls : Array Slot} (h : fJ0_checkIndex_df160 N σ p0 p1 = some σr) : va_P D vwCl (wT a cc σ) H → va_D A (wT a cc σ) → va_S A s.heap H locs → lv_has ls 2 [(0, .int p0), (1, .int p1)] → W p l e rmJ0_checkIndex_df160 s m args below meth c H locs 0 0 (T_Mv D a cc A below args s σr) (F0 m 0 ls []) := by
  obtain ⟨hx, hb, hr, hml, hown, hts, hin, hK, hlocks, hTS, hl0⟩ := id C
  intro hP hD hS hl
  refine lv_iload_n hx hb dJ0_checkIndex_df160_0 rfl (lv_at hl 0 rfl) ?_
  refine lv_iload_n hx hb dJ0_checkIndex_df160_1 rfl (lv_at hl 1 rfl) ?_
  obtain ⟨r1, σ1, hc, h⟩ := bnd_s h
  rcases hTS.2.2.2.2.2.2.2.2.2.2.1 with hz | ⟨q9, hz⟩
  · refine T_gs C hS hz (memWT (i := 141) rfl) dJ0_checkIndex_df160_2 ?_
    refine T_callSi (As := [.int p0, .int p1, .null]) (rest := []) C hA (fun sz => kJ3_checkIndex_8e157 hl0 sz hc) gJ0_1059 hP hD hS ⟨by decide, by decide⟩ ⟨rfl, rfl⟩ rfl hl.1 rfl (lv_room (Nat.le_of_ble_eq_true rfl)) dJ0_checkIndex_df160_5 (fun H locs hP hD hS => ?_)
    refine lv_pop hx hb dJ0_checkIndex_df160_8 rfl ?_
    exact T_vret C h hP hD hS dJ0_checkIndex_df160_9
  · refine T_gs C hS hz (memWT (i := 141) rfl) dJ0_checkIndex_df160_2 ?_
    refine T_callSi (As := [.int p0, .int p1, .ref q9]) (rest := []) C hA (fun sz => kJ3_checkIndexR hl0 sz hc) gJ0_1059 hP hD hS ⟨by decide, by decide⟩ ⟨rfl, rfl⟩ rfl hl.1 rfl (lv_room (Nat.le_of_ble_eq_true rfl)) dJ0_checkIndex_df160_5 (fun H locs hP hD hS => ?_)
    refine lv_pop hx hb dJ0_checkIndex_df160_8 rfl ?_
    exact T_vret C h hP hD hS dJ0_checkIndex_df160_9
set_option maxRecDepth 100000 in
theorem kJ0_checkIndex_df160 {l : Launch} (hl0 : l.stackTraces = false) (sz : Nat) {st : Nat → Nat} {D : va_G} {a : Nat → Nat} {cc : Nat → ClassId} {N : Nat} {σr : St} {σ : St} {p0 p1 : Int32} (h : fJ0_checkIndex_df160 N σ p0 p1 = some σr) : Met l yJ0_checkIndex_df160 ((Cond.code yJ0_checkIndex_df160 cJ0_checkIndex_df160 2 none :: WT)) rmJ0_checkIndex_df160 (T_Pc st D a cc [.int p0, .int p1] σ sz) (T_Qv D a cc σ sz σr) 0 0 (va_A (wT a cc σ) sz) := by
  refine Met.ofW (cc := cJ0_checkIndex_df160) (maxL := 2) (ret := none) (by decide) rfl ?_
  intro p e s m args below meth c s₁ B hml hv
  obtain ⟨rfl, hsz, hP, hK, hD0, hTS⟩ := hv
  subst hsz
  have hl := lv_entry ([.int p0, .int p1]) (n := 2) (Nat.le_of_ble_eq_true rfl)
  rw [lg_entry_eq]
  generalize (lg_sl ([.int p0, .int p1]) ++ List.replicate (2 - (lg_sl ([.int p0, .int p1])).length) Slot.unset).toArray = ls at hl ⊢
  exact tJ0_checkIndex_df160 ⟨B.exec, B.bytes, B.returns, hml, findClass_of_methodNamed B.named, atoms_spec (ws := (Cond.code yJ0_checkIndex_df160 cJ0_checkIndex_df160 2 none :: WT)) B.pre, (fun w h => List.mem_cons_of_mem _ h), hK, B.notSynchronized, hTS, hl0⟩ (fun q h => Or.inr h) h hP hD0.self va_S.rf hl
set_option maxHeartbeats 4000000 in
set_option maxRecDepth 100000 in
theorem tJ5_ensureCapacityInternal_d00df {st : Nat → Nat} {p : Program} {l : Launch} {e : Env} {s : State} {m : MethodId} {args : Array Value} {below : List Frame} {meth : Method} {c : Code} {D : va_G} {a : Nat → Nat} {cc : Nat → ClassId} {A : Nat → Prop} {N : Nat} {σr : St} (C : T_Cx st l A RJ5 p s m args meth c D cc cJ5_ensureCapacityInternal_d00df (Cond.code yJ5_ensureCapacityInternal_d00df cJ5_ensureCapacityInternal_d00df 3 none :: WT) 3 none) (hA : ∀ q, s.heap.size ≤ q → A q) {σ : St} {p0 : Int32} {H : Heap} {locs : List Loc} {ls : Array Slot} (h : fJ5_ensureCapacityInternal_d00df N σ p0 = some σr) : va_P D vwCl (wT a cc σ) H → va_D A (wT a cc σ) → va_S A s.heap H locs → lv_has ls 3 [(0, .ref (a 109)), (1, .int p0)] → W p l e rmJ5_ensureCapacityInternal_d00df s m args below meth c H locs 0 0 (T_Mv D a cc A below args s σr) (F0 m 0 ls []) := by
  obtain ⟨hx, hb, hr, hml, hown, hts, hin, hK, hlocks, hTS, hl0⟩ := id C
  intro hP hD hS hl
  refine lv_aload_n hx hb dJ5_ensureCapacityInternal_d00df_0 rfl (lv_at hl 0 rfl) ?_
  refine T_gfJ5_15 C hP dJ5_ensureCapacityInternal_d00df_1 ?_
  refine T_aln100 C hP dJ5_ensureCapacityInternal_d00df_4 ?_
  refine lv_aload_n hx hb dJ5_ensureCapacityInternal_d00df_5 rfl (lv_at hl 0 rfl) ?_
  refine T_gfJ5_22 C hP dJ5_ensureCapacityInternal_d00df_6 ?_
  refine lv_ishr hx hb dJ5_ensureCapacityInternal_d00df_9 ?_
  obtain ⟨u1, eu1, h⟩ := letS_n h
  refine lv_topE eu1 ?_
  refine lv_istore_n (lv' := [(2, .int u1), (0, .ref (a 109)), (1, .int p0)]) hx hb dJ5_ensureCapacityInternal_d00df_10 rfl hl (by decide) rfl (fun ls hl => ?_)
  refine lv_iload_n hx hb dJ5_ensureCapacityInternal_d00df_11 rfl (lv_at hl 2 rfl) ?_
  refine lv_iload_n hx hb dJ5_ensureCapacityInternal_d00df_12 rfl (lv_at hl 0 rfl) ?_
  refine lv_isub hx hb dJ5_ensureCapacityInternal_d00df_13 ?_
  refine lv_if_le (tgt := 38) hx hb dJ5_ensureCapacityInternal_d00df_14 (by decide) (fun c2 => ?_) (fun c2 => ?_)
  · have h := ifT c2 h
    exact T_vret C h hP hD hS dJ5_ensureCapacityInternal_d00df_38
  · have h := ifF c2 h
    refine lv_aload_n hx hb dJ5_ensureCapacityInternal_d00df_17 rfl (lv_at hl 1 rfl) ?_
    refine lv_aload_n hx hb dJ5_ensureCapacityInternal_d00df_18 rfl (lv_at hl 1 rfl) ?_
    refine T_gfJ5_15 C hP dJ5_ensureCapacityInternal_d00df_19 ?_
    refine lv_aload_n hx hb dJ5_ensureCapacityInternal_d00df_22 rfl (lv_at hl 1 rfl) ?_
    refine lv_iload_n hx hb dJ5_ensureCapacityInternal_d00df_23 rfl (lv_at hl 2 rfl) ?_
    exact none_s h
set_option maxRecDepth 100000 in
theorem kJ5_ensureCapacityInternal_d00df {l : Launch} (hl0 : l.stackTraces = false) (sz : Nat) {st : Nat → Nat} {D : va_G} {a : Nat → Nat} {cc : Nat → ClassId} {N : Nat} {σr : St} {σ : St} {p0 : Int32} (h : fJ5_ensureCapacityInternal_d00df N σ p0 = some σr) : Met l yJ5_ensureCapacityInternal_d00df ((Cond.code yJ5_ensureCapacityInternal_d00df cJ5_ensureCapacityInternal_d00df 3 none :: WT)) rmJ5_ensureCapacityInternal_d00df (T_Pc st D a cc [.ref (a 109), .int p0] σ sz) (T_Qv D a cc σ sz σr) 0 0 (va_A (wT a cc σ) sz) := by
  refine Met.ofW (cc := cJ5_ensureCapacityInternal_d00df) (maxL := 3) (ret := none) (by decide) rfl ?_
  intro p e s m args below meth c s₁ B hml hv
  obtain ⟨rfl, hsz, hP, hK, hD0, hTS⟩ := hv
  subst hsz
  have hl := lv_entry ([.ref (a 109), .int p0]) (n := 3) (Nat.le_of_ble_eq_true rfl)
  rw [lg_entry_eq]
  generalize (lg_sl ([.ref (a 109), .int p0]) ++ List.replicate (3 - (lg_sl ([.ref (a 109), .int p0])).length) Slot.unset).toArray = ls at hl ⊢
  exact tJ5_ensureCapacityInternal_d00df ⟨B.exec, B.bytes, B.returns, hml, findClass_of_methodNamed B.named, atoms_spec (ws := (Cond.code yJ5_ensureCapacityInternal_d00df cJ5_ensureCapacityInternal_d00df 3 none :: WT)) B.pre, (fun w h => List.mem_cons_of_mem _ h), hK, B.notSynchronized, hTS, hl0⟩ (fun q h => Or.inr h) h hP hD0.self va_S.rf hl
set_option maxHeartbeats 4000000 in
set_option maxRecDepth 100000 in
theorem tJ5_isLatin1_aae02_17 {st : Nat → Nat} {p : Program} {l : Launch} {e : Env} {s : State} {m : MethodId} {args : Array Value} {below : List Frame} {meth : Method} {c : Code} {D : va_G} {a : Nat → Nat} {cc : Nat → ClassId} {A : Nat → Prop} {N : Nat} {r : Int32} {σr : St} (C : T_Cx st l A RJ5 p s m args meth c D cc cJ5_isLatin1_aae02 (Cond.code yJ5_isLatin1_aae02 cJ5_isLatin1_aae02 1 (some .boolean) :: WT) 1 (some .boolean)) (hA : ∀ q, s.heap.size ≤ q → A q) {σ : St} {H : Heap} {locs : List Loc} {ls : Array Slot} (h : fJ5_isLatin1_aae02_17 N σ = some (r, σr)) : va_P D vwCl (wT a cc σ) H → va_D A (wT a cc σ) → va_S A s.heap H locs → lv_has ls 1 [] → W p l e rmJ5_isLatin1_aae02 s m args below meth c H locs 0 0 (T_Mi D a cc A below args s r σr) (F0 m 17 ls []) := by
  obtain ⟨hx, hb, hr, hml, hown, hts, hin, hK, hlocks, hTS, hl0⟩ := id C
  intro hP hD hS hl
  refine lv_iconst (v := (0 : Int32)) hx hb dJ5_isLatin1_aae02_17 (by decide) ?_
  exact T_zretZ C h hP hD hS dJ5_isLatin1_aae02_18
set_option maxHeartbeats 4000000 in
set_option maxRecDepth 100000 in
theorem tJ5_isLatin1_aae02 {st : Nat → Nat} {p : Program} {l : Launch} {e : Env} {s : State} {m : MethodId} {args : Array Value} {below : List Frame} {meth : Method} {c : Code} {D : va_G} {a : Nat → Nat} {cc : Nat → ClassId} {A : Nat → Prop} {N : Nat} {r : Int32} {σr : St} (C : T_Cx st l A RJ5 p s m args meth c D cc cJ5_isLatin1_aae02 (Cond.code yJ5_isLatin1_aae02 cJ5_isLatin1_aae02 1 (some .boolean) :: WT) 1 (some .boolean)) (hA : ∀ q, s.heap.size ≤ q → A q) {σ : St} {H : Heap} {locs : List Loc} {ls : Array Slot} (h : fJ5_isLatin1_aae02 N σ = some (r, σr)) : va_P D vwCl (wT a cc σ) H → va_D A (wT a cc σ) → va_S A s.heap H locs → lv_has ls 1 [(0, .ref (a 109))] → W p l e rmJ5_isLatin1_aae02 s m args below meth c H locs 0 0 (T_Mi D a cc A below args s r σr) (F0 m 0 ls []) := by
  obtain ⟨hx, hb, hr, hml, hown, hts, hin, hK, hlocks, hTS, hl0⟩ := id C
  intro hP hD hS hl
  refine T_gs C hS hTS.2.2.2.2.2.2.2.2.2.1 (memWT (i := 153) rfl) dJ5_isLatin1_aae02_0 ?_
  refine lv_if_eq (tgt := 17) hx hb dJ5_isLatin1_aae02_3 (by decide) (fun c1 => ?_) (fun c1 => ?_)
  · have h := ifT c1 h
    exact tJ5_isLatin1_aae02_17 C hA h hP hD hS (lv_sub hl [] rfl)
  · have h := ifF c1 h
    refine lv_aload_n hx hb dJ5_isLatin1_aae02_6 rfl (lv_at hl 0 rfl) ?_
    refine T_gfJ5_22 C hP dJ5_isLatin1_aae02_7 ?_
    refine lv_if_ne (tgt := 17) hx hb dJ5_isLatin1_aae02_10 (by decide) (fun c2 => ?_) (fun c2 => ?_)
    · have h := ifF c2 h
      exact tJ5_isLatin1_aae02_17 C hA h hP hD hS (lv_sub hl [] rfl)
    · have h := ifT c2 h
      refine lv_iconst (v := (1 : Int32)) hx hb dJ5_isLatin1_aae02_13 (by decide) ?_
      refine lv_goto (tgt := 18) hx hb dJ5_isLatin1_aae02_14 (by decide) ?_
      exact T_zretZ C h hP hD hS dJ5_isLatin1_aae02_18
set_option maxRecDepth 100000 in
theorem kJ5_isLatin1_aae02 {l : Launch} (hl0 : l.stackTraces = false) (sz : Nat) {st : Nat → Nat} {D : va_G} {a : Nat → Nat} {cc : Nat → ClassId} {N : Nat} {r : Int32} {σr : St} {σ : St} (h : fJ5_isLatin1_aae02 N σ = some (r, σr)) : Met l yJ5_isLatin1_aae02 ((Cond.code yJ5_isLatin1_aae02 cJ5_isLatin1_aae02 1 (some .boolean) :: WT)) rmJ5_isLatin1_aae02 (T_Pc st D a cc [.ref (a 109)] σ sz) (T_Qi D a cc σ sz r σr) 0 0 (va_A (wT a cc σ) sz) := by
  refine Met.ofW (cc := cJ5_isLatin1_aae02) (maxL := 1) (ret := (some .boolean)) (by decide) rfl ?_
  intro p e s m args below meth c s₁ B hml hv
  obtain ⟨rfl, hsz, hP, hK, hD0, hTS⟩ := hv
  subst hsz
  have hl := lv_entry ([.ref (a 109)]) (n := 1) (Nat.le_of_ble_eq_true rfl)
  rw [lg_entry_eq]
  generalize (lg_sl ([.ref (a 109)]) ++ List.replicate (1 - (lg_sl ([.ref (a 109)])).length) Slot.unset).toArray = ls at hl ⊢
  exact tJ5_isLatin1_aae02 ⟨B.exec, B.bytes, B.returns, hml, findClass_of_methodNamed B.named, atoms_spec (ws := (Cond.code yJ5_isLatin1_aae02 cJ5_isLatin1_aae02 1 (some .boolean) :: WT)) B.pre, (fun w h => List.mem_cons_of_mem _ h), hK, B.notSynchronized, hTS, hl0⟩ (fun q h => Or.inr h) h hP hD0.self va_S.rf hl
set_option maxHeartbeats 4000000 in
set_option maxRecDepth 100000 in
theorem tJ5_setLength_d00df_76 {st : Nat → Nat} {p : Program} {l : Launch} {e : Env} {s : State} {m : MethodId} {args : Array Value} {below : List Frame} {meth : Method} {c : Code} {D : va_G} {a : Nat → Nat} {cc : Nat → ClassId} {A : Nat → Prop} {N : Nat} {σr : St} (C : T_Cx st l A RJ5 p s m args meth c D cc cJ5_setLength_d00df (Cond.code yJ5_setLength_d00df cJ5_setLength_d00df 2 none :: WT) 2 none) (hA : ∀ q, s.heap.size ≤ q → A q) {σ : St} {x1 : Int32} {H : Heap} {locs : List Loc} {ls : Array Slot} (h : fJ5_setLength_d00df_76 N σ x1 = some σr) : va_P D vwCl (wT a cc σ) H → va_D A (wT a cc σ) → va_S A s.heap H locs → lv_has ls 2 [(0, .ref (a 109)), (1, .int x1)] → W p l e rmJ5_setLength_d00df s m args below meth c H locs 0 0 (T_Mv D a cc A below args s σr) (F0 m 76 ls []) := by
  obtain ⟨hx, hb, hr, hml, hown, hts, hin, hK, hlocks, hTS, hl0⟩ := id C
  intro hP hD hS hl
  refine lv_aload_n hx hb dJ5_setLength_d00df_76 rfl (lv_at hl 0 rfl) ?_
  refine lv_iload_n hx hb dJ5_setLength_d00df_77 rfl (lv_at hl 1 rfl) ?_
  obtain ⟨σ10, eσ10, h⟩ := letS_n h
  refine T_pfJ5_79 C hP hD hS eσ10 dJ5_setLength_d00df_78 (fun H locs hP hD hS => ?_)
  exact T_vret C h hP hD hS dJ5_setLength_d00df_81
set_option maxHeartbeats 4000000 in
set_option maxRecDepth 100000 in
theorem tJ5_setLength_d00df {st : Nat → Nat} {p : Program} {l : Launch} {e : Env} {s : State} {m : MethodId} {args : Array Value} {below : List Frame} {meth : Method} {c : Code} {D : va_G} {a : Nat → Nat} {cc : Nat → ClassId} {A : Nat → Prop} {N : Nat} {σr : St} (C : T_Cx st l A RJ5 p s m args meth c D cc cJ5_setLength_d00df (Cond.code yJ5_setLength_d00df cJ5_setLength_d00df 2 none :: WT) 2 none) (hA : ∀ q, s.heap.size ≤ q → A q) {σ : St} {p0 : Int32} {H : Heap} {locs : List Loc} {ls : Array Slot} (h : fJ5_setLength_d00df N σ p0 = some σr) : va_P D vwCl (wT a cc σ) H → va_D A (wT a cc σ) → va_S A s.heap H locs → lv_has ls 2 [(0, .ref (a 109)), (1, .int p0)] → W p l e rmJ5_setLength_d00df s m args below meth c H locs 0 0 (T_Mv D a cc A below args s σr) (F0 m 0 ls []) := by
  obtain ⟨hx, hb, hr, hml, hown, hts, hin, hK, hlocks, hTS, hl0⟩ := id C
  intro hP hD hS hl
  refine lv_iload_n hx hb dJ5_setLength_d00df_0 rfl (lv_at hl 1 rfl) ?_
  refine lv_if_ge (tgt := 13) hx hb dJ5_setLength_d00df_1 (by decide) (fun c1 => ?_) (fun c1 => ?_)
  · have h := ifT c1 h
    refine lv_aload_n hx hb dJ5_setLength_d00df_13 rfl (lv_at hl 0 rfl) ?_
    refine lv_iload_n hx hb dJ5_setLength_d00df_14 rfl (lv_at hl 1 rfl) ?_
    obtain ⟨σ2, hc, h⟩ := bnd1_s h
    refine T_callUv (q0 := 26) (ci := 1) (As := [.int p0]) (rest := []) C hA (fun sz => kJ5_ensureCapacityInternal_d00df hl0 sz hc) gJ5_100 hP hD hS rfl rfl ⟨by decide, by decide⟩ ⟨rfl, rfl⟩ rfl hl.1 rfl (lv_room (Nat.le_of_ble_eq_true rfl)) dJ5_setLength_d00df_15 (fun H locs hP hD hS => ?_)
    refine lv_aload_n hx hb dJ5_setLength_d00df_18 rfl (lv_at hl 0 rfl) ?_
    refine T_gfJ5_79 C hP dJ5_setLength_d00df_19 ?_
    refine lv_iload_n hx hb dJ5_setLength_d00df_22 rfl (lv_at hl 1 rfl) ?_
    refine lv_icmp_ge (tgt := 63) hx hb dJ5_setLength_d00df_23 (by decide) (fun c3 => ?_) (fun c3 => ?_)
    · have h := ifT c3 h
      refine lv_aload_n hx hb dJ5_setLength_d00df_63 rfl (lv_at hl 0 rfl) ?_
      refine T_gfJ5_79 C hP dJ5_setLength_d00df_64 ?_
      refine lv_iload_n hx hb dJ5_setLength_d00df_67 rfl (lv_at hl 1 rfl) ?_
      refine lv_icmp_le (tgt := 76) hx hb dJ5_setLength_d00df_68 (by decide) (fun c4 => ?_) (fun c4 => ?_)
      · have h := ifT c4 h
        exact tJ5_setLength_d00df_76 C hA h hP hD hS (lv_sub hl [0, 1] rfl)
      · have h := ifF c4 h
        refine lv_aload_n hx hb dJ5_setLength_d00df_71 rfl (lv_at hl 0 rfl) ?_
        refine lv_iconst (v := (1 : Int32)) hx hb dJ5_setLength_d00df_72 (by decide) ?_
        obtain ⟨g6, h⟩ := grd_s h
        obtain ⟨σ5, eσ5, h⟩ := letS_n h
        refine T_pfJ5_73 C hP hD hS g6 eσ5 dJ5_setLength_d00df_73 (fun H locs hP hD hS => ?_)
        exact tJ5_setLength_d00df_76 C hA h hP hD hS (lv_sub hl [0, 1] rfl)
    · have h := ifF c3 h
      refine lv_aload_n hx hb dJ5_setLength_d00df_26 rfl (lv_at hl 0 rfl) ?_
      obtain ⟨r8, σ7, hc, h⟩ := bnd_s h
      refine T_callUi (q0 := 26) (ci := 1) (As := []) (rest := []) C hA (fun sz => kJ5_isLatin1_aae02 hl0 sz hc) gJ5_83 hP hD hS rfl rfl ⟨by decide, by decide⟩ ⟨rfl, rfl⟩ rfl hl.1 rfl (lv_room (Nat.le_of_ble_eq_true rfl)) dJ5_setLength_d00df_27 (fun H locs hP hD hS => ?_)
      refine lv_if_eq (tgt := 48) hx hb dJ5_setLength_d00df_30 (by decide) (fun c9 => ?_) (fun c9 => ?_)
      · have h := ifT c9 h
        refine lv_aload_n hx hb dJ5_setLength_d00df_48 rfl (lv_at hl 0 rfl) ?_
        refine T_gfJ5_15 C hP dJ5_setLength_d00df_49 ?_
        refine lv_aload_n hx hb dJ5_setLength_d00df_52 rfl (lv_at hl 0 rfl) ?_
        refine T_gfJ5_79 C hP dJ5_setLength_d00df_53 ?_
        refine lv_iload_n hx hb dJ5_setLength_d00df_56 rfl (lv_at hl 1 rfl) ?_
        exact none_s h
      · have h := ifF c9 h
        refine lv_aload_n hx hb dJ5_setLength_d00df_33 rfl (lv_at hl 0 rfl) ?_
        refine T_gfJ5_15 C hP dJ5_setLength_d00df_34 ?_
        refine lv_aload_n hx hb dJ5_setLength_d00df_37 rfl (lv_at hl 0 rfl) ?_
        refine T_gfJ5_79 C hP dJ5_setLength_d00df_38 ?_
        refine lv_iload_n hx hb dJ5_setLength_d00df_41 rfl (lv_at hl 1 rfl) ?_
        exact none_s h
  · have h := ifF c1 h
    exact none_s h
set_option maxRecDepth 100000 in
theorem kJ5_setLength_d00df {l : Launch} (hl0 : l.stackTraces = false) (sz : Nat) {st : Nat → Nat} {D : va_G} {a : Nat → Nat} {cc : Nat → ClassId} {N : Nat} {σr : St} {σ : St} {p0 : Int32} (h : fJ5_setLength_d00df N σ p0 = some σr) : Met l yJ5_setLength_d00df ((Cond.code yJ5_setLength_d00df cJ5_setLength_d00df 2 none :: WT)) rmJ5_setLength_d00df (T_Pc st D a cc [.ref (a 109), .int p0] σ sz) (T_Qv D a cc σ sz σr) 0 0 (va_A (wT a cc σ) sz) := by
  refine Met.ofW (cc := cJ5_setLength_d00df) (maxL := 2) (ret := none) (by decide) rfl ?_
  intro p e s m args below meth c s₁ B hml hv
  obtain ⟨rfl, hsz, hP, hK, hD0, hTS⟩ := hv
  subst hsz
  have hl := lv_entry ([.ref (a 109), .int p0]) (n := 2) (Nat.le_of_ble_eq_true rfl)
  rw [lg_entry_eq]
  generalize (lg_sl ([.ref (a 109), .int p0]) ++ List.replicate (2 - (lg_sl ([.ref (a 109), .int p0])).length) Slot.unset).toArray = ls at hl ⊢
  exact tJ5_setLength_d00df ⟨B.exec, B.bytes, B.returns, hml, findClass_of_methodNamed B.named, atoms_spec (ws := (Cond.code yJ5_setLength_d00df cJ5_setLength_d00df 2 none :: WT)) B.pre, (fun w h => List.mem_cons_of_mem _ h), hK, B.notSynchronized, hTS, hl0⟩ (fun q h => Or.inr h) h hP hD0.self va_S.rf hl
set_option maxHeartbeats 4000000 in
set_option maxRecDepth 100000 in
theorem tJ4_setLength_d00df {st : Nat → Nat} {p : Program} {l : Launch} {e : Env} {s : State} {m : MethodId} {args : Array Value} {below : List Frame} {meth : Method} {c : Code} {D : va_G} {a : Nat → Nat} {cc : Nat → ClassId} {A : Nat → Prop} {N : Nat} {σr : St} (C : T_Cx st l A RJ4 p s m args meth c D cc cJ4_setLength_d00df (Cond.code yJ4_setLength_d00df cJ4_setLength_d00df 2 none :: WT) 2 none) (hA : ∀ q, s.heap.size ≤ q → A q) {σ : St} {p0 : Int32} {H : Heap} {locs : List Loc} {ls : Array Slot} (h : fJ4_setLength_d00df N σ p0 = some σr) : va_P D vwCl (wT a cc σ) H → va_D A (wT a cc σ) → va_S A s.heap H locs → lv_has ls 2 [(0, .ref (a 109)), (1, .int p0)] → W p l e rmJ4_setLength_d00df s m args below meth c H locs 0 0 (T_Mv D a cc A below args s σr) (F0 m 0 ls []) := by
  obtain ⟨hx, hb, hr, hml, hown, hts, hin, hK, hlocks, hTS, hl0⟩ := id C
  intro hP hD hS hl
  refine lv_aload_n hx hb dJ4_setLength_d00df_0 rfl (lv_at hl 0 rfl) ?_
  refine lv_iload_n hx hb dJ4_setLength_d00df_1 rfl (lv_at hl 1 rfl) ?_
  obtain ⟨σ1, hc, h⟩ := bnd1_s h
  refine T_callPv (q0 := 26) (ci := 1) (As := [.int p0]) (rest := []) C hA (fun sz => kJ5_setLength_d00df hl0 sz hc) gJ4_333 hP hD hS rfl rfl ⟨by decide, by decide⟩ ⟨rfl, rfl⟩ rfl hl.1 rfl (lv_room (Nat.le_of_ble_eq_true rfl)) dJ4_setLength_d00df_2 (fun H locs hP hD hS => ?_)
  exact T_vret C h hP hD hS dJ4_setLength_d00df_5
set_option maxRecDepth 100000 in
theorem kJ4_setLength_d00df {l : Launch} (hl0 : l.stackTraces = false) (sz : Nat) {st : Nat → Nat} {D : va_G} {a : Nat → Nat} {cc : Nat → ClassId} {N : Nat} {σr : St} {σ : St} {p0 : Int32} (h : fJ4_setLength_d00df N σ p0 = some σr) : Met l yJ4_setLength_d00df ((Cond.code yJ4_setLength_d00df cJ4_setLength_d00df 2 none :: WT)) rmJ4_setLength_d00df (T_Pc st D a cc [.ref (a 109), .int p0] σ sz) (T_Qv D a cc σ sz σr) 0 0 (va_A (wT a cc σ) sz) := by
  refine Met.ofW (cc := cJ4_setLength_d00df) (maxL := 2) (ret := none) (by decide) rfl ?_
  intro p e s m args below meth c s₁ B hml hv
  obtain ⟨rfl, hsz, hP, hK, hD0, hTS⟩ := hv
  subst hsz
  have hl := lv_entry ([.ref (a 109), .int p0]) (n := 2) (Nat.le_of_ble_eq_true rfl)
  rw [lg_entry_eq]
  generalize (lg_sl ([.ref (a 109), .int p0]) ++ List.replicate (2 - (lg_sl ([.ref (a 109), .int p0])).length) Slot.unset).toArray = ls at hl ⊢
  exact tJ4_setLength_d00df ⟨B.exec, B.bytes, B.returns, hml, findClass_of_methodNamed B.named, atoms_spec (ws := (Cond.code yJ4_setLength_d00df cJ4_setLength_d00df 2 none :: WT)) B.pre, (fun w h => List.mem_cons_of_mem _ h), hK, B.notSynchronized, hTS, hl0⟩ (fun q h => Or.inr h) h hP hD0.self va_S.rf hl
set_option maxHeartbeats 4000000 in
set_option maxRecDepth 100000 in
theorem tJ5_inflateIfNeededFor_a7421 {st : Nat → Nat} {p : Program} {l : Launch} {e : Env} {s : State} {m : MethodId} {args : Array Value} {below : List Frame} {meth : Method} {c : Code} {D : va_G} {a : Nat → Nat} {cc : Nat → ClassId} {A : Nat → Prop} {N : Nat} {σr : St} (C : T_Cx st l A RJ5 p s m args meth c D cc cJ5_inflateIfNeededFor_a7421 (Cond.code yJ5_inflateIfNeededFor_a7421 cJ5_inflateIfNeededFor_a7421 2 none :: WT) 2 none) (hA : ∀ q, s.heap.size ≤ q → A q) {σ : St} {p0 : Nat} {H : Heap} {locs : List Loc} {ls : Array Slot} (h : fJ5_inflateIfNeededFor_a7421 N σ p0 = some σr) : va_P D vwCl (wT a cc σ) H → va_D A (wT a cc σ) → va_S A s.heap H locs → lv_has ls 2 [(0, .ref (a 109)), (1, .ref (st (10 + p0)))] → W p l e rmJ5_inflateIfNeededFor_a7421 s m args below meth c H locs 0 0 (T_Mv D a cc A below args s σr) (F0 m 0 ls []) := by
  obtain ⟨hx, hb, hr, hml, hown, hts, hin, hK, hlocks, hTS, hl0⟩ := id C
  intro hP hD hS hl
  refine T_gs C hS hTS.2.2.2.2.2.2.2.2.2.1 (memWT (i := 153) rfl) dJ5_inflateIfNeededFor_a7421_0 ?_
  refine lv_if_eq (tgt := 21) hx hb dJ5_inflateIfNeededFor_a7421_3 (by decide) (fun c1 => ?_) (fun c1 => ?_)
  · have h := ifT c1 h
    exact T_vret C h hP hD hS dJ5_inflateIfNeededFor_a7421_21
  · have h := ifF c1 h
    refine lv_aload_n hx hb dJ5_inflateIfNeededFor_a7421_6 rfl (lv_at hl 0 rfl) ?_
    refine T_gfJ5_22 C hP dJ5_inflateIfNeededFor_a7421_7 ?_
    refine lv_aload_n hx hb dJ5_inflateIfNeededFor_a7421_10 rfl (lv_at hl 1 rfl) ?_
    obtain ⟨g2, h⟩ := grd_s h
    obtain ⟨r4, σ3, hc, h⟩ := bnd_s h
    refine T_callQi (As := []) (rest := [.int (gI σ 101 0)]) C hA (fun sz => kJ0_coder_7d493 hl0 sz hc) gJ5_40 hP hD hS (of_decide_eq_true g2) rfl ⟨by decide, by decide⟩ ⟨rfl, rfl⟩ rfl hl.1 rfl (lv_room (Nat.le_of_ble_eq_true rfl)) dJ5_inflateIfNeededFor_a7421_11 (fun H locs hP hD hS => ?_)
    refine lv_icmp_eq (tgt := 21) hx hb dJ5_inflateIfNeededFor_a7421_14 (by decide) (fun c5 => ?_) (fun c5 => ?_)
    · have h := ifT c5 h
      exact T_vret C h hP hD hS dJ5_inflateIfNeededFor_a7421_21
    · have h := ifF c5 h
      refine lv_aload_n hx hb dJ5_inflateIfNeededFor_a7421_17 rfl (lv_at hl 0 rfl) ?_
      exact none_s h
set_option maxRecDepth 100000 in
theorem kJ5_inflateIfNeededFor_a7421 {l : Launch} (hl0 : l.stackTraces = false) (sz : Nat) {st : Nat → Nat} {D : va_G} {a : Nat → Nat} {cc : Nat → ClassId} {N : Nat} {σr : St} {σ : St} {p0 : Nat} (h : fJ5_inflateIfNeededFor_a7421 N σ p0 = some σr) : Met l yJ5_inflateIfNeededFor_a7421 ((Cond.code yJ5_inflateIfNeededFor_a7421 cJ5_inflateIfNeededFor_a7421 2 none :: WT)) rmJ5_inflateIfNeededFor_a7421 (T_Pc st D a cc [.ref (a 109), .ref (st (10 + p0))] σ sz) (T_Qv D a cc σ sz σr) 0 0 (va_A (wT a cc σ) sz) := by
  refine Met.ofW (cc := cJ5_inflateIfNeededFor_a7421) (maxL := 2) (ret := none) (by decide) rfl ?_
  intro p e s m args below meth c s₁ B hml hv
  obtain ⟨rfl, hsz, hP, hK, hD0, hTS⟩ := hv
  subst hsz
  have hl := lv_entry ([.ref (a 109), .ref (st (10 + p0))]) (n := 2) (Nat.le_of_ble_eq_true rfl)
  rw [lg_entry_eq]
  generalize (lg_sl ([.ref (a 109), .ref (st (10 + p0))]) ++ List.replicate (2 - (lg_sl ([.ref (a 109), .ref (st (10 + p0))])).length) Slot.unset).toArray = ls at hl ⊢
  exact tJ5_inflateIfNeededFor_a7421 ⟨B.exec, B.bytes, B.returns, hml, findClass_of_methodNamed B.named, atoms_spec (ws := (Cond.code yJ5_inflateIfNeededFor_a7421 cJ5_inflateIfNeededFor_a7421 2 none :: WT)) B.pre, (fun w h => List.mem_cons_of_mem _ h), hK, B.notSynchronized, hTS, hl0⟩ (fun q h => Or.inr h) h hP hD0.self va_S.rf hl
set_option maxHeartbeats 4000000 in
set_option maxRecDepth 100000 in
theorem tJ5_putStringAt_47b60 {st : Nat → Nat} {p : Program} {l : Launch} {e : Env} {s : State} {m : MethodId} {args : Array Value} {below : List Frame} {meth : Method} {c : Code} {D : va_G} {a : Nat → Nat} {cc : Nat → ClassId} {A : Nat → Prop} {N : Nat} {σr : St} (C : T_Cx st l A RJ5 p s m args meth c D cc cJ5_putStringAt_47b60 (Cond.code yJ5_putStringAt_47b60 cJ5_putStringAt_47b60 3 none :: WT) 3 none) (hA : ∀ q, s.heap.size ≤ q → A q) {σ : St} {p0 : Int32} {p1 : Nat} {H : Heap} {locs : List Loc} {ls : Array Slot} (h : fJ5_putStringAt_47b60 N σ p0 p1 = some σr) : va_P D vwCl (wT a cc σ) H → va_D A (wT a cc σ) → va_S A s.heap H locs → lv_has ls 3 [(0, .ref (a 109)), (1, .int p0), (2, .ref (st (10 + p1)))] → W p l e rmJ5_putStringAt_47b60 s m args below meth c H locs 0 0 (T_Mv D a cc A below args s σr) (F0 m 0 ls []) := by
  obtain ⟨hx, hb, hr, hml, hown, hts, hin, hK, hlocks, hTS, hl0⟩ := id C
  intro hP hD hS hl
  refine lv_aload_n hx hb dJ5_putStringAt_47b60_0 rfl (lv_at hl 0 rfl) ?_
  refine lv_aload_n hx hb dJ5_putStringAt_47b60_1 rfl (lv_at hl 2 rfl) ?_
  obtain ⟨σ1, hc, h⟩ := bnd1_s h
  refine T_callUv (q0 := 26) (ci := 1) (As := [.ref (st (10 + p1))]) (rest := []) C hA (fun sz => kJ5_inflateIfNeededFor_a7421 hl0 sz hc) gJ5_397 hP hD hS rfl rfl ⟨by decide, by decide⟩ ⟨rfl, rfl⟩ rfl hl.1 rfl (lv_room (Nat.le_of_ble_eq_true rfl)) dJ5_putStringAt_47b60_2 (fun H locs hP hD hS => ?_)
  refine lv_aload_n hx hb dJ5_putStringAt_47b60_5 rfl (lv_at hl 2 rfl) ?_
  refine lv_aload_n hx hb dJ5_putStringAt_47b60_6 rfl (lv_at hl 0 rfl) ?_
  refine T_gfJ5_15 C hP dJ5_putStringAt_47b60_7 ?_
  refine lv_iload_n hx hb dJ5_putStringAt_47b60_10 rfl (lv_at hl 1 rfl) ?_
  refine lv_aload_n hx hb dJ5_putStringAt_47b60_11 rfl (lv_at hl 0 rfl) ?_
  refine T_gfJ5_22 C hP dJ5_putStringAt_47b60_12 ?_
  obtain ⟨g2, h⟩ := grd_s h
  obtain ⟨σ3, hc, h⟩ := bnd1_s h
  refine T_callQv (As := [.ref (a 100), .int p0, .int (gI σ1 101 0)]) (rest := []) C hA (fun sz => kJ0_getBytes_840e7 hl0 sz hc) gJ5_399 hP hD hS (of_decide_eq_true g2) rfl ⟨by decide, by decide⟩ ⟨rfl, rfl⟩ rfl hl.1 rfl (lv_room (Nat.le_of_ble_eq_true rfl)) dJ5_putStringAt_47b60_15 (fun H locs hP hD hS => ?_)
  exact T_vret C h hP hD hS dJ5_putStringAt_47b60_18
set_option maxRecDepth 100000 in
theorem kJ5_putStringAt_47b60 {l : Launch} (hl0 : l.stackTraces = false) (sz : Nat) {st : Nat → Nat} {D : va_G} {a : Nat → Nat} {cc : Nat → ClassId} {N : Nat} {σr : St} {σ : St} {p0 : Int32} {p1 : Nat} (h : fJ5_putStringAt_47b60 N σ p0 p1 = some σr) : Met l yJ5_putStringAt_47b60 ((Cond.code yJ5_putStringAt_47b60 cJ5_putStringAt_47b60 3 none :: WT)) rmJ5_putStringAt_47b60 (T_Pc st D a cc [.ref (a 109), .int p0, .ref (st (10 + p1))] σ sz) (T_Qv D a cc σ sz σr) 0 0 (va_A (wT a cc σ) sz) := by
  refine Met.ofW (cc := cJ5_putStringAt_47b60) (maxL := 3) (ret := none) (by decide) rfl ?_
  intro p e s m args below meth c s₁ B hml hv
  obtain ⟨rfl, hsz, hP, hK, hD0, hTS⟩ := hv
  subst hsz
  have hl := lv_entry ([.ref (a 109), .int p0, .ref (st (10 + p1))]) (n := 3) (Nat.le_of_ble_eq_true rfl)
  rw [lg_entry_eq]
  generalize (lg_sl ([.ref (a 109), .int p0, .ref (st (10 + p1))]) ++ List.replicate (3 - (lg_sl ([.ref (a 109), .int p0, .ref (st (10 + p1))])).length) Slot.unset).toArray = ls at hl ⊢
  exact tJ5_putStringAt_47b60 ⟨B.exec, B.bytes, B.returns, hml, findClass_of_methodNamed B.named, atoms_spec (ws := (Cond.code yJ5_putStringAt_47b60 cJ5_putStringAt_47b60 3 none :: WT)) B.pre, (fun w h => List.mem_cons_of_mem _ h), hK, B.notSynchronized, hTS, hl0⟩ (fun q h => Or.inr h) h hP hD0.self va_S.rf hl
set_option maxHeartbeats 4000000 in
set_option maxRecDepth 100000 in
theorem tJ5_append_cf1ce {st : Nat → Nat} {p : Program} {l : Launch} {e : Env} {s : State} {m : MethodId} {args : Array Value} {below : List Frame} {meth : Method} {c : Code} {D : va_G} {a : Nat → Nat} {cc : Nat → ClassId} {A : Nat → Prop} {N : Nat} {σr : St} (C : T_Cx st l A RJ5 p s m args meth c D cc cJ5_append_cf1ce (Cond.code yJ5_append_cf1ce cJ5_append_cf1ce 3 (some (.object "java/lang/AbstractStringBuilder")) :: WT) 3 (some (.object "java/lang/AbstractStringBuilder"))) (hA : ∀ q, s.heap.size ≤ q → A q) {σ : St} {p0 : Nat} {H : Heap} {locs : List Loc} {ls : Array Slot} (h : fJ5_append_cf1ce N σ p0 = some σr) : va_P D vwCl (wT a cc σ) H → va_D A (wT a cc σ) → va_S A s.heap H locs → lv_has ls 3 [(0, .ref (a 109)), (1, .ref (st (10 + p0)))] → W p l e rmJ5_append_cf1ce s m args below meth c H locs 0 0 (T_Mr D a cc A below args s σr) (F0 m 0 ls []) := by
  obtain ⟨hx, hb, hr, hml, hown, hts, hin, hK, hlocks, hTS, hl0⟩ := id C
  intro hP hD hS hl
  refine lv_aload_n hx hb dJ5_append_cf1ce_0 rfl (lv_at hl 1 rfl) ?_
  refine lv_ifnonnull (tgt := 9) hx hb dJ5_append_cf1ce_1 (by decide) ?_
  refine lv_aload_n hx hb dJ5_append_cf1ce_9 rfl (lv_at hl 1 rfl) ?_
  obtain ⟨g1, h⟩ := grd_s h
  obtain ⟨r3, σ2, hc, h⟩ := bnd_s h
  refine T_callQi (As := []) (rest := []) C hA (fun sz => kJ0_length_8abf5 hl0 sz hc) gJ5_32 hP hD hS (of_decide_eq_true g1) rfl ⟨by decide, by decide⟩ ⟨rfl, rfl⟩ rfl hl.1 rfl (lv_room (Nat.le_of_ble_eq_true rfl)) dJ5_append_cf1ce_10 (fun H locs hP hD hS => ?_)
  refine lv_istore_n (lv' := [(2, .int r3), (0, .ref (a 109)), (1, .ref (st (10 + p0)))]) hx hb dJ5_append_cf1ce_13 rfl hl (by decide) rfl (fun ls hl => ?_)
  refine lv_aload_n hx hb dJ5_append_cf1ce_14 rfl (lv_at hl 1 rfl) ?_
  refine lv_aload_n hx hb dJ5_append_cf1ce_15 rfl (lv_at hl 1 rfl) ?_
  refine T_gfJ5_79 C hP dJ5_append_cf1ce_16 ?_
  refine lv_iload_n hx hb dJ5_append_cf1ce_19 rfl (lv_at hl 0 rfl) ?_
  refine lv_iadd hx hb dJ5_append_cf1ce_20 ?_
  obtain ⟨σ4, hc, h⟩ := bnd1_s h
  refine T_callUv (q0 := 26) (ci := 1) (As := [.int ((gI σ2 103 0) + r3)]) (rest := []) C hA (fun sz => kJ5_ensureCapacityInternal_d00df hl0 sz hc) gJ5_100 hP hD hS rfl rfl ⟨by decide, by decide⟩ ⟨rfl, rfl⟩ rfl hl.1 rfl (lv_room (Nat.le_of_ble_eq_true rfl)) dJ5_append_cf1ce_21 (fun H locs hP hD hS => ?_)
  refine lv_aload_n hx hb dJ5_append_cf1ce_24 rfl (lv_at hl 1 rfl) ?_
  refine lv_aload_n hx hb dJ5_append_cf1ce_25 rfl (lv_at hl 1 rfl) ?_
  refine T_gfJ5_79 C hP dJ5_append_cf1ce_26 ?_
  refine lv_aload_n hx hb dJ5_append_cf1ce_29 rfl (lv_at hl 2 rfl) ?_
  obtain ⟨σ5, hc, h⟩ := bnd1_s h
  refine T_callUv (q0 := 26) (ci := 1) (As := [.int (gI σ4 103 0), .ref (st (10 + p0))]) (rest := []) C hA (fun sz => kJ5_putStringAt_47b60 hl0 sz hc) gJ5_208 hP hD hS rfl rfl ⟨by decide, by decide⟩ ⟨rfl, rfl⟩ rfl hl.1 rfl (lv_room (Nat.le_of_ble_eq_true rfl)) dJ5_append_cf1ce_30 (fun H locs hP hD hS => ?_)
  refine lv_aload_n hx hb dJ5_append_cf1ce_33 rfl (lv_at hl 1 rfl) ?_
  refine lv_dup hx hb dJ5_append_cf1ce_34 rfl ?_
  refine T_gfJ5_79 C hP dJ5_append_cf1ce_35 ?_
  refine lv_iload_n hx hb dJ5_append_cf1ce_38 rfl (lv_at hl 0 rfl) ?_
  refine lv_iadd hx hb dJ5_append_cf1ce_39 ?_
  obtain ⟨σ6, eσ6, h⟩ := letS_n h
  refine T_pfJ5_79 C hP hD hS eσ6 dJ5_append_cf1ce_40 (fun H locs hP hD hS => ?_)
  refine lv_aload_n hx hb dJ5_append_cf1ce_43 rfl (lv_at hl 1 rfl) ?_
  exact T_aret C h hP hD hS dJ5_append_cf1ce_44
set_option maxRecDepth 100000 in
theorem kJ5_append_cf1ce {l : Launch} (hl0 : l.stackTraces = false) (sz : Nat) {st : Nat → Nat} {D : va_G} {a : Nat → Nat} {cc : Nat → ClassId} {N : Nat} {σr : St} {σ : St} {p0 : Nat} (h : fJ5_append_cf1ce N σ p0 = some σr) : Met l yJ5_append_cf1ce ((Cond.code yJ5_append_cf1ce cJ5_append_cf1ce 3 (some (.object "java/lang/AbstractStringBuilder")) :: WT)) rmJ5_append_cf1ce (T_Pc st D a cc [.ref (a 109), .ref (st (10 + p0))] σ sz) (T_Qr D a cc σ sz σr) 0 0 (va_A (wT a cc σ) sz) := by
  refine Met.ofW (cc := cJ5_append_cf1ce) (maxL := 3) (ret := (some (.object "java/lang/AbstractStringBuilder"))) (by decide) rfl ?_
  intro p e s m args below meth c s₁ B hml hv
  obtain ⟨rfl, hsz, hP, hK, hD0, hTS⟩ := hv
  subst hsz
  have hl := lv_entry ([.ref (a 109), .ref (st (10 + p0))]) (n := 3) (Nat.le_of_ble_eq_true rfl)
  rw [lg_entry_eq]
  generalize (lg_sl ([.ref (a 109), .ref (st (10 + p0))]) ++ List.replicate (3 - (lg_sl ([.ref (a 109), .ref (st (10 + p0))])).length) Slot.unset).toArray = ls at hl ⊢
  exact tJ5_append_cf1ce ⟨B.exec, B.bytes, B.returns, hml, findClass_of_methodNamed B.named, atoms_spec (ws := (Cond.code yJ5_append_cf1ce cJ5_append_cf1ce 3 (some (.object "java/lang/AbstractStringBuilder")) :: WT)) B.pre, (fun w h => List.mem_cons_of_mem _ h), hK, B.notSynchronized, hTS, hl0⟩ (fun q h => Or.inr h) h hP hD0.self va_S.rf hl
set_option maxHeartbeats 4000000 in
set_option maxRecDepth 100000 in
theorem tJ4_append_15ec4 {st : Nat → Nat} {p : Program} {l : Launch} {e : Env} {s : State} {m : MethodId} {args : Array Value} {below : List Frame} {meth : Method} {c : Code} {D : va_G} {a : Nat → Nat} {cc : Nat → ClassId} {A : Nat → Prop} {N : Nat} {σr : St} (C : T_Cx st l A RJ4 p s m args meth c D cc cJ4_append_15ec4 (Cond.code yJ4_append_15ec4 cJ4_append_15ec4 2 (some (.object "java/lang/StringBuilder")) :: WT) 2 (some (.object "java/lang/StringBuilder"))) (hA : ∀ q, s.heap.size ≤ q → A q) {σ : St} {p0 : Nat} {H : Heap} {locs : List Loc} {ls : Array Slot} (h : fJ4_append_15ec4 N σ p0 = some σr) : va_P D vwCl (wT a cc σ) H → va_D A (wT a cc σ) → va_S A s.heap H locs → lv_has ls 2 [(0, .ref (a 109)), (1, .ref (st (10 + p0)))] → W p l e rmJ4_append_15ec4 s m args below meth c H locs 0 0 (T_Mr D a cc A below args s σr) (F0 m 0 ls []) := by
  obtain ⟨hx, hb, hr, hml, hown, hts, hin, hK, hlocks, hTS, hl0⟩ := id C
  intro hP hD hS hl
  refine lv_aload_n hx hb dJ4_append_15ec4_0 rfl (lv_at hl 0 rfl) ?_
  refine lv_aload_n hx hb dJ4_append_15ec4_1 rfl (lv_at hl 1 rfl) ?_
  obtain ⟨σ1, hc, h⟩ := bnd1_s h
  refine T_callPr (q0 := 26) (ci := 1) (As := [.ref (st (10 + p0))]) (rest := []) C hA (fun sz => kJ5_append_cf1ce hl0 sz hc) gJ4_29 hP hD hS rfl rfl ⟨by decide, by decide⟩ ⟨rfl, rfl⟩ rfl hl.1 rfl (lv_room (Nat.le_of_ble_eq_true rfl)) dJ4_append_15ec4_2 (fun H locs hP hD hS => ?_)
  refine lv_pop hx hb dJ4_append_15ec4_5 rfl ?_
  refine lv_aload_n hx hb dJ4_append_15ec4_6 rfl (lv_at hl 0 rfl) ?_
  exact T_aret C h hP hD hS dJ4_append_15ec4_7
set_option maxRecDepth 100000 in
theorem kJ4_append_15ec4 {l : Launch} (hl0 : l.stackTraces = false) (sz : Nat) {st : Nat → Nat} {D : va_G} {a : Nat → Nat} {cc : Nat → ClassId} {N : Nat} {σr : St} {σ : St} {p0 : Nat} (h : fJ4_append_15ec4 N σ p0 = some σr) : Met l yJ4_append_15ec4 ((Cond.code yJ4_append_15ec4 cJ4_append_15ec4 2 (some (.object "java/lang/StringBuilder")) :: WT)) rmJ4_append_15ec4 (T_Pc st D a cc [.ref (a 109), .ref (st (10 + p0))] σ sz) (T_Qr D a cc σ sz σr) 0 0 (va_A (wT a cc σ) sz) := by
  refine Met.ofW (cc := cJ4_append_15ec4) (maxL := 2) (ret := (some (.object "java/lang/StringBuilder"))) (by decide) rfl ?_
  intro p e s m args below meth c s₁ B hml hv
  obtain ⟨rfl, hsz, hP, hK, hD0, hTS⟩ := hv
  subst hsz
  have hl := lv_entry ([.ref (a 109), .ref (st (10 + p0))]) (n := 2) (Nat.le_of_ble_eq_true rfl)
  rw [lg_entry_eq]
  generalize (lg_sl ([.ref (a 109), .ref (st (10 + p0))]) ++ List.replicate (2 - (lg_sl ([.ref (a 109), .ref (st (10 + p0))])).length) Slot.unset).toArray = ls at hl ⊢
  exact tJ4_append_15ec4 ⟨B.exec, B.bytes, B.returns, hml, findClass_of_methodNamed B.named, atoms_spec (ws := (Cond.code yJ4_append_15ec4 cJ4_append_15ec4 2 (some (.object "java/lang/StringBuilder")) :: WT)) B.pre, (fun w h => List.mem_cons_of_mem _ h), hK, B.notSynchronized, hTS, hl0⟩ (fun q h => Or.inr h) h hP hD0.self va_S.rf hl
set_option maxHeartbeats 4000000 in
set_option maxRecDepth 100000 in
theorem tJ6_stringSize_0f7a4_16 {st : Nat → Nat} {p : Program} {l : Launch} {e : Env} {s : State} {m : MethodId} {args : Array Value} {below : List Frame} {meth : Method} {c : Code} {D : va_G} {a : Nat → Nat} {cc : Nat → ClassId} {A : Nat → Prop} {N : Nat} {r : Int32} {σr : St} (C : T_Cx st l A RJ6 p s m args meth c D cc cJ6_stringSize_0f7a4 (Cond.code yJ6_stringSize_0f7a4 cJ6_stringSize_0f7a4 4 (some .int) :: WT) 4 (some .int)) (hA : ∀ q, s.heap.size ≤ q → A q) : ∀ (n : Nat) {σ : St} {x0 : Int32} {x1 : Int32} {x2 : Int32} {x3 : Int32} {H : Heap} {locs : List Loc} {ls : Array Slot}, fJ6_stringSize_0f7a4_16 N n σ x0 x1 x2 x3 = some (r, σr) → va_P D vwCl (wT a cc σ) H → va_D A (wT a cc σ) → va_S A s.heap H locs → lv_has ls 4 [(0, .int x0), (1, .int x1), (2, .int x2), (3, .int x3)] → W p l e rmJ6_stringSize_0f7a4 s m args below meth c H locs 0 0 (T_Mi D a cc A below args s r σr) (F0 m 16 ls []) := by
  obtain ⟨hx, hb, hr, hml, hown, hts, hin, hK, hlocks, hTS, hl0⟩ := id C
  intro n
  induction n with
  | zero => intro σ x0 x1 x2 x3 H locs ls h; exact none_s h
  | succ n ih =>
    intro σ x0 x1 x2 x3 H locs ls h hP hD hS hl
    refine lv_iload_n hx hb dJ6_stringSize_0f7a4_16 rfl (lv_at hl 3 rfl) ?_
    refine lv_bipush (v := (10 : Int32)) hx hb dJ6_stringSize_0f7a4_17 (by decide) ?_
    refine lv_icmp_ge (tgt := 42) hx hb dJ6_stringSize_0f7a4_19 (by decide) (fun c3 => ?_) (fun c3 => ?_)
    · have h := ifT c3 h
      refine lv_bipush (v := (10 : Int32)) hx hb dJ6_stringSize_0f7a4_42 (by decide) ?_
      refine lv_iload_n hx hb dJ6_stringSize_0f7a4_44 rfl (lv_at hl 1 rfl) ?_
      refine lv_iadd hx hb dJ6_stringSize_0f7a4_45 ?_
      exact T_iret C h hP hD hS dJ6_stringSize_0f7a4_46
    · have h := ifF c3 h
      refine lv_iload_n hx hb dJ6_stringSize_0f7a4_22 rfl (lv_at hl 0 rfl) ?_
      refine lv_iload_n hx hb dJ6_stringSize_0f7a4_23 rfl (lv_at hl 2 rfl) ?_
      refine lv_icmp_le (tgt := 31) hx hb dJ6_stringSize_0f7a4_24 (by decide) (fun c4 => ?_) (fun c4 => ?_)
      · have h := ifT c4 h
        refine lv_bipush (v := (10 : Int32)) hx hb dJ6_stringSize_0f7a4_31 (by decide) ?_
        refine lv_iload_n hx hb dJ6_stringSize_0f7a4_33 rfl (lv_at hl 2 rfl) ?_
        refine lv_imul hx hb dJ6_stringSize_0f7a4_34 ?_
        obtain ⟨u5, eu5, h⟩ := letS_n h
        refine lv_topE eu5 ?_
        refine lv_istore_n (lv' := [(2, .int u5), (0, .int x0), (1, .int x1), (3, .int x3)]) hx hb dJ6_stringSize_0f7a4_35 rfl hl (by decide) rfl (fun ls hl => ?_)
        obtain ⟨u6, eu6, h⟩ := letS_n h
        refine lv_iinc (v := u6) (lv' := [(3, .int u6), (2, .int u5), (0, .int x0), (1, .int x1)]) hx hb dJ6_stringSize_0f7a4_36 hl (k := 3) rfl (by rw [eu6]; rfl) (by decide) rfl (fun ls hl => ?_)
        refine lv_goto (tgt := 16) hx hb dJ6_stringSize_0f7a4_39 (by decide) ?_
        exact ih h hP hD hS (lv_sub hl [2, 3, 1, 0] rfl)
      · have h := ifF c4 h
        refine lv_iload_n hx hb dJ6_stringSize_0f7a4_27 rfl (lv_at hl 3 rfl) ?_
        refine lv_iload_n hx hb dJ6_stringSize_0f7a4_28 rfl (lv_at hl 1 rfl) ?_
        refine lv_iadd hx hb dJ6_stringSize_0f7a4_29 ?_
        exact T_iret C h hP hD hS dJ6_stringSize_0f7a4_30
set_option maxHeartbeats 4000000 in
set_option maxRecDepth 100000 in
theorem tJ6_stringSize_0f7a4_11 {st : Nat → Nat} {p : Program} {l : Launch} {e : Env} {s : State} {m : MethodId} {args : Array Value} {below : List Frame} {meth : Method} {c : Code} {D : va_G} {a : Nat → Nat} {cc : Nat → ClassId} {A : Nat → Prop} {N : Nat} {r : Int32} {σr : St} (C : T_Cx st l A RJ6 p s m args meth c D cc cJ6_stringSize_0f7a4 (Cond.code yJ6_stringSize_0f7a4 cJ6_stringSize_0f7a4 4 (some .int) :: WT) 4 (some .int)) (hA : ∀ q, s.heap.size ≤ q → A q) {σ : St} {x0 : Int32} {x1 : Int32} {H : Heap} {locs : List Loc} {ls : Array Slot} (h : fJ6_stringSize_0f7a4_11 N σ x0 x1 = some (r, σr)) : va_P D vwCl (wT a cc σ) H → va_D A (wT a cc σ) → va_S A s.heap H locs → lv_has ls 4 [(0, .int x0), (1, .int x1)] → W p l e rmJ6_stringSize_0f7a4 s m args below meth c H locs 0 0 (T_Mi D a cc A below args s r σr) (F0 m 11 ls []) := by
  obtain ⟨hx, hb, hr, hml, hown, hts, hin, hK, hlocks, hTS, hl0⟩ := id C
  intro hP hD hS hl
  refine lv_bipush (v := (-10 : Int32)) hx hb dJ6_stringSize_0f7a4_11 (by decide) ?_
  refine lv_istore_n (lv' := [(2, .int (-10 : Int32)), (0, .int x0), (1, .int x1)]) hx hb dJ6_stringSize_0f7a4_13 rfl hl (by decide) rfl (fun ls hl => ?_)
  refine lv_iconst (v := (1 : Int32)) hx hb dJ6_stringSize_0f7a4_14 (by decide) ?_
  refine lv_istore_n (lv' := [(3, .int (1 : Int32)), (2, .int (-10 : Int32)), (0, .int x0), (1, .int x1)]) hx hb dJ6_stringSize_0f7a4_15 rfl hl (by decide) rfl (fun ls hl => ?_)
  exact tJ6_stringSize_0f7a4_16 C hA N h hP hD hS (lv_sub hl [2, 3, 1, 0] rfl)
set_option maxHeartbeats 4000000 in
set_option maxRecDepth 100000 in
theorem tJ6_stringSize_0f7a4 {st : Nat → Nat} {p : Program} {l : Launch} {e : Env} {s : State} {m : MethodId} {args : Array Value} {below : List Frame} {meth : Method} {c : Code} {D : va_G} {a : Nat → Nat} {cc : Nat → ClassId} {A : Nat → Prop} {N : Nat} {r : Int32} {σr : St} (C : T_Cx st l A RJ6 p s m args meth c D cc cJ6_stringSize_0f7a4 (Cond.code yJ6_stringSize_0f7a4 cJ6_stringSize_0f7a4 4 (some .int) :: WT) 4 (some .int)) (hA : ∀ q, s.heap.size ≤ q → A q) {σ : St} {p0 : Int32} {H : Heap} {locs : List Loc} {ls : Array Slot} (h : fJ6_stringSize_0f7a4 N σ p0 = some (r, σr)) : va_P D vwCl (wT a cc σ) H → va_D A (wT a cc σ) → va_S A s.heap H locs → lv_has ls 4 [(0, .int p0)] → W p l e rmJ6_stringSize_0f7a4 s m args below meth c H locs 0 0 (T_Mi D a cc A below args s r σr) (F0 m 0 ls []) := by
  obtain ⟨hx, hb, hr, hml, hown, hts, hin, hK, hlocks, hTS, hl0⟩ := id C
  intro hP hD hS hl
  refine lv_iconst (v := (1 : Int32)) hx hb dJ6_stringSize_0f7a4_0 (by decide) ?_
  refine lv_istore_n (lv' := [(1, .int (1 : Int32)), (0, .int p0)]) hx hb dJ6_stringSize_0f7a4_1 rfl hl (by decide) rfl (fun ls hl => ?_)
  refine lv_iload_n hx hb dJ6_stringSize_0f7a4_2 rfl (lv_at hl 1 rfl) ?_
  refine lv_if_lt (tgt := 11) hx hb dJ6_stringSize_0f7a4_3 (by decide) (fun c1 => ?_) (fun c1 => ?_)
  · have h := ifT c1 h
    exact tJ6_stringSize_0f7a4_11 C hA h hP hD hS (lv_sub hl [1, 0] rfl)
  · have h := ifF c1 h
    refine lv_iconst (v := (0 : Int32)) hx hb dJ6_stringSize_0f7a4_6 (by decide) ?_
    refine lv_istore_n (lv' := [(1, .int (0 : Int32)), (0, .int p0)]) hx hb dJ6_stringSize_0f7a4_7 rfl hl (by decide) rfl (fun ls hl => ?_)
    refine lv_iload_n hx hb dJ6_stringSize_0f7a4_8 rfl (lv_at hl 1 rfl) ?_
    refine lv_ineg hx hb dJ6_stringSize_0f7a4_9 ?_
    obtain ⟨u2, eu2, h⟩ := letS_n h
    refine lv_topE eu2 ?_
    refine lv_istore_n (lv' := [(0, .int u2), (1, .int (0 : Int32))]) hx hb dJ6_stringSize_0f7a4_10 rfl hl (by decide) rfl (fun ls hl => ?_)
    exact tJ6_stringSize_0f7a4_11 C hA h hP hD hS (lv_sub hl [0, 1] rfl)
set_option maxRecDepth 100000 in
theorem kJ6_stringSize_0f7a4 {l : Launch} (hl0 : l.stackTraces = false) (sz : Nat) {st : Nat → Nat} {D : va_G} {a : Nat → Nat} {cc : Nat → ClassId} {N : Nat} {r : Int32} {σr : St} {σ : St} {p0 : Int32} (h : fJ6_stringSize_0f7a4 N σ p0 = some (r, σr)) : Met l yJ6_stringSize_0f7a4 ((Cond.code yJ6_stringSize_0f7a4 cJ6_stringSize_0f7a4 4 (some .int) :: WT)) rmJ6_stringSize_0f7a4 (T_Pc st D a cc [.int p0] σ sz) (T_Qi D a cc σ sz r σr) 0 0 (va_A (wT a cc σ) sz) := by
  refine Met.ofW (cc := cJ6_stringSize_0f7a4) (maxL := 4) (ret := (some .int)) (by decide) rfl ?_
  intro p e s m args below meth c s₁ B hml hv
  obtain ⟨rfl, hsz, hP, hK, hD0, hTS⟩ := hv
  subst hsz
  have hl := lv_entry ([.int p0]) (n := 4) (Nat.le_of_ble_eq_true rfl)
  rw [lg_entry_eq]
  generalize (lg_sl ([.int p0]) ++ List.replicate (4 - (lg_sl ([.int p0])).length) Slot.unset).toArray = ls at hl ⊢
  exact tJ6_stringSize_0f7a4 ⟨B.exec, B.bytes, B.returns, hml, findClass_of_methodNamed B.named, atoms_spec (ws := (Cond.code yJ6_stringSize_0f7a4 cJ6_stringSize_0f7a4 4 (some .int) :: WT)) B.pre, (fun w h => List.mem_cons_of_mem _ h), hK, B.notSynchronized, hTS, hl0⟩ (fun q h => Or.inr h) h hP hD0.self va_S.rf hl
set_option maxHeartbeats 4000000 in
set_option maxRecDepth 100000 in
theorem tJ6_getChars_ba4f3_118 {st : Nat → Nat} {p : Program} {l : Launch} {e : Env} {s : State} {m : MethodId} {args : Array Value} {below : List Frame} {meth : Method} {c : Code} {D : va_G} {a : Nat → Nat} {cc : Nat → ClassId} {A : Nat → Prop} {N : Nat} {r : Int32} {σr : St} (C : T_Cx st l A RJ6 p s m args meth c D cc cJ6_getChars_ba4f3 (Cond.code yJ6_getChars_ba4f3 cJ6_getChars_ba4f3 7 (some .int) :: WT) 7 (some .int)) (hA : ∀ q, s.heap.size ≤ q → A q) {σ : St} {x5 : Int32} {H : Heap} {locs : List Loc} {ls : Array Slot} (h : fJ6_getChars_ba4f3_118 N σ x5 = some (r, σr)) : va_P D vwCl (wT a cc σ) H → va_D A (wT a cc σ) → va_S A s.heap H locs → lv_has ls 7 [(5, .int x5)] → W p l e rmJ6_getChars_ba4f3 s m args below meth c H locs 0 0 (T_Mi D a cc A below args s r σr) (F0 m 118 ls []) := by
  obtain ⟨hx, hb, hr, hml, hown, hts, hin, hK, hlocks, hTS, hl0⟩ := id C
  intro hP hD hS hl
  refine lv_iload hx hb dJ6_getChars_ba4f3_118 (lv_at hl 0 rfl) ?_
  exact T_iret C h hP hD hS dJ6_getChars_ba4f3_120
set_option maxHeartbeats 4000000 in
set_option maxRecDepth 100000 in
theorem tJ6_getChars_ba4f3_104 {st : Nat → Nat} {p : Program} {l : Launch} {e : Env} {s : State} {m : MethodId} {args : Array Value} {below : List Frame} {meth : Method} {c : Code} {D : va_G} {a : Nat → Nat} {cc : Nat → ClassId} {A : Nat → Prop} {N : Nat} {r : Int32} {σr : St} (C : T_Cx st l A RJ6 p s m args meth c D cc cJ6_getChars_ba4f3 (Cond.code yJ6_getChars_ba4f3 cJ6_getChars_ba4f3 7 (some .int) :: WT) 7 (some .int)) (hA : ∀ q, s.heap.size ≤ q → A q) {σ : St} {x5 : Int32} {x6 : Int32} {H : Heap} {locs : List Loc} {ls : Array Slot} (h : fJ6_getChars_ba4f3_104 N σ x5 x6 = some (r, σr)) : va_P D vwCl (wT a cc σ) H → va_D A (wT a cc σ) → va_S A s.heap H locs → lv_has ls 7 [(2, .ref (a 100)), (5, .int x5), (6, .int x6)] → W p l e rmJ6_getChars_ba4f3 s m args below meth c H locs 0 0 (T_Mi D a cc A below args s r σr) (F0 m 104 ls []) := by
  obtain ⟨hx, hb, hr, hml, hown, hts, hin, hK, hlocks, hTS, hl0⟩ := id C
  intro hP hD hS hl
  refine lv_iload hx hb dJ6_getChars_ba4f3_104 (lv_at hl 2 rfl) ?_
  refine lv_if_eq (tgt := 118) hx hb dJ6_getChars_ba4f3_106 (by decide) (fun c25 => ?_) (fun c25 => ?_)
  · have h := ifT c25 h
    exact tJ6_getChars_ba4f3_118 C hA h hP hD hS (lv_sub hl [1] rfl)
  · have h := ifF c25 h
    refine lv_aload_n hx hb dJ6_getChars_ba4f3_109 rfl (lv_at hl 0 rfl) ?_
    obtain ⟨u26, eu26, h⟩ := letS_n h
    refine lv_iinc (v := u26) (lv' := [(5, .int u26), (2, .ref (a 100)), (6, .int x6)]) hx hb dJ6_getChars_ba4f3_110 hl (k := 1) rfl (by rw [eu26]; rfl) (by decide) rfl (fun ls hl => ?_)
    refine lv_iload hx hb dJ6_getChars_ba4f3_113 (lv_at hl 0 rfl) ?_
    refine lv_bipush (v := (45 : Int32)) hx hb dJ6_getChars_ba4f3_115 (by decide) ?_
    obtain ⟨g27, h⟩ := grd_s h
    obtain ⟨σ28, eσ28, h⟩ := letS_n h
    refine T_st100 C hP hD hS g27 eσ28 dJ6_getChars_ba4f3_117 (fun H locs hP hD hS => ?_)
    exact tJ6_getChars_ba4f3_118 C hA h hP hD hS (lv_sub hl [0] rfl)
set_option maxHeartbeats 4000000 in
set_option maxRecDepth 100000 in
theorem tJ6_getChars_ba4f3_22 {st : Nat → Nat} {p : Program} {l : Launch} {e : Env} {s : State} {m : MethodId} {args : Array Value} {below : List Frame} {meth : Method} {c : Code} {D : va_G} {a : Nat → Nat} {cc : Nat → ClassId} {A : Nat → Prop} {N : Nat} {r : Int32} {σr : St} (C : T_Cx st l A RJ6 p s m args meth c D cc cJ6_getChars_ba4f3 (Cond.code yJ6_getChars_ba4f3 cJ6_getChars_ba4f3 7 (some .int) :: WT) 7 (some .int)) (hA : ∀ q, s.heap.size ≤ q → A q) : ∀ (n : Nat) {σ : St} {x0 : Int32} {x5 : Int32} {x6 : Int32} {H : Heap} {locs : List Loc} {ls : Array Slot}, fJ6_getChars_ba4f3_22 N n σ x0 x5 x6 = some (r, σr) → va_P D vwCl (wT a cc σ) H → va_D A (wT a cc σ) → va_S A s.heap H locs → lv_has ls 7 [(0, .int x0), (2, .ref (a 100)), (5, .int x5), (6, .int x6)] → W p l e rmJ6_getChars_ba4f3 s m args below meth c H locs 0 0 (T_Mi D a cc A below args s r σr) (F0 m 22 ls []) := by
  obtain ⟨hx, hb, hr, hml, hown, hts, hin, hK, hlocks, hTS, hl0⟩ := id C
  intro n
  induction n with
  | zero => intro σ x0 x5 x6 H locs ls h; exact none_s h
  | succ n ih =>
    intro σ x0 x5 x6 H locs ls h hP hD hS hl
    refine lv_iload_n hx hb dJ6_getChars_ba4f3_22 rfl (lv_at hl 0 rfl) ?_
    refine lv_bipush (v := (-100 : Int32)) hx hb dJ6_getChars_ba4f3_23 (by decide) ?_
    refine lv_icmp_gt (tgt := 72) hx hb dJ6_getChars_ba4f3_25 (by decide) (fun c4 => ?_) (fun c4 => ?_)
    · have h := ifT c4 h
      refine lv_aload_n hx hb dJ6_getChars_ba4f3_72 rfl (lv_at hl 1 rfl) ?_
      obtain ⟨u5, eu5, h⟩ := letS_n h
      refine lv_iinc (v := u5) (lv' := [(5, .int u5), (0, .int x0), (2, .ref (a 100)), (6, .int x6)]) hx hb dJ6_getChars_ba4f3_73 hl (k := 2) rfl (by rw [eu5]; rfl) (by decide) rfl (fun ls hl => ?_)
      refine lv_iload hx hb dJ6_getChars_ba4f3_76 (lv_at hl 0 rfl) ?_
      refine T_gs C hS hTS.2.2.2.2.2.2.2.2.2.2.2.1.1 (memWT (i := 169) rfl) dJ6_getChars_ba4f3_78 ?_
      refine lv_iload_n hx hb dJ6_getChars_ba4f3_81 rfl (lv_at hl 1 rfl) ?_
      refine lv_ineg hx hb dJ6_getChars_ba4f3_82 ?_
      obtain ⟨g6, h⟩ := grd_s h
      refine T_sl2 C hS g6 dJ6_getChars_ba4f3_83 ?_
      obtain ⟨g7, h⟩ := grd_s h
      obtain ⟨σ8, eσ8, h⟩ := letS_n h
      refine T_st100 C hP hD hS g7 eσ8 dJ6_getChars_ba4f3_84 (fun H locs hP hD hS => ?_)
      refine lv_iload_n hx hb dJ6_getChars_ba4f3_85 rfl (lv_at hl 1 rfl) ?_
      refine lv_bipush (v := (-9 : Int32)) hx hb dJ6_getChars_ba4f3_86 (by decide) ?_
      refine lv_icmp_ge (tgt := 104) hx hb dJ6_getChars_ba4f3_88 (by decide) (fun c9 => ?_) (fun c9 => ?_)
      · have h := ifT c9 h
        exact tJ6_getChars_ba4f3_104 C hA h hP hD hS (lv_sub hl [2, 0, 3] rfl)
      · have h := ifF c9 h
        refine lv_aload_n hx hb dJ6_getChars_ba4f3_91 rfl (lv_at hl 2 rfl) ?_
        obtain ⟨u10, eu10, h⟩ := letS_n h
        refine lv_iinc (v := u10) (lv' := [(5, .int u10), (0, .int x0), (2, .ref (a 100)), (6, .int x6)]) hx hb dJ6_getChars_ba4f3_92 hl (k := 0) rfl (by rw [eu10]; rfl) (by decide) rfl (fun ls hl => ?_)
        refine lv_iload hx hb dJ6_getChars_ba4f3_95 (lv_at hl 0 rfl) ?_
        refine T_gs C hS hTS.2.2.2.2.2.2.2.2.2.2.2.2.1 (memWT (i := 170) rfl) dJ6_getChars_ba4f3_97 ?_
        refine lv_iload_n hx hb dJ6_getChars_ba4f3_100 rfl (lv_at hl 1 rfl) ?_
        refine lv_ineg hx hb dJ6_getChars_ba4f3_101 ?_
        obtain ⟨g11, h⟩ := grd_s h
        refine T_sl3 C hS g11 dJ6_getChars_ba4f3_102 ?_
        obtain ⟨g12, h⟩ := grd_s h
        obtain ⟨σ13, eσ13, h⟩ := letS_n h
        refine T_st100 C hP hD hS g12 eσ13 dJ6_getChars_ba4f3_103 (fun H locs hP hD hS => ?_)
        exact tJ6_getChars_ba4f3_104 C hA h hP hD hS (lv_sub hl [2, 0, 3] rfl)
    · have h := ifF c4 h
      refine lv_iload_n hx hb dJ6_getChars_ba4f3_28 rfl (lv_at hl 0 rfl) ?_
      refine lv_bipush (v := (100 : Int32)) hx hb dJ6_getChars_ba4f3_29 (by decide) ?_
      obtain ⟨g14, h⟩ := grd_s h
      refine lv_idiv hx hb dJ6_getChars_ba4f3_31 (nz_ne g14) ?_
      obtain ⟨u15, eu15, h⟩ := letS_n h
      refine lv_topE eu15 ?_
      refine lv_istore_n (lv' := [(3, .int u15), (0, .int x0), (2, .ref (a 100)), (5, .int x5), (6, .int x6)]) hx hb dJ6_getChars_ba4f3_32 rfl hl (by decide) rfl (fun ls hl => ?_)
      refine lv_iload_n hx hb dJ6_getChars_ba4f3_33 rfl (lv_at hl 0 rfl) ?_
      refine lv_bipush (v := (100 : Int32)) hx hb dJ6_getChars_ba4f3_34 (by decide) ?_
      refine lv_imul hx hb dJ6_getChars_ba4f3_36 ?_
      refine lv_iload_n hx hb dJ6_getChars_ba4f3_37 rfl (lv_at hl 1 rfl) ?_
      refine lv_isub hx hb dJ6_getChars_ba4f3_38 ?_
      obtain ⟨u16, eu16, h⟩ := letS_n h
      refine lv_topE eu16 ?_
      refine lv_istore (lv' := [(4, .int u16), (3, .int u15), (0, .int x0), (2, .ref (a 100)), (5, .int x5), (6, .int x6)]) hx hb dJ6_getChars_ba4f3_39 hl (by decide) rfl (fun ls hl => ?_)
      refine lv_iload_n hx hb dJ6_getChars_ba4f3_41 rfl (lv_at hl 1 rfl) ?_
      refine lv_istore_n (lv' := [(0, .int u15), (4, .int u16), (3, .int u15), (2, .ref (a 100)), (5, .int x5), (6, .int x6)]) hx hb dJ6_getChars_ba4f3_42 rfl hl (by decide) rfl (fun ls hl => ?_)
      refine lv_aload_n hx hb dJ6_getChars_ba4f3_43 rfl (lv_at hl 3 rfl) ?_
      obtain ⟨u17, eu17, h⟩ := letS_n h
      refine lv_iinc (v := u17) (lv' := [(5, .int u17), (0, .int u15), (4, .int u16), (3, .int u15), (2, .ref (a 100)), (6, .int x6)]) hx hb dJ6_getChars_ba4f3_44 hl (k := 4) rfl (by rw [eu17]; rfl) (by decide) rfl (fun ls hl => ?_)
      refine lv_iload hx hb dJ6_getChars_ba4f3_47 (lv_at hl 0 rfl) ?_
      refine T_gs C hS hTS.2.2.2.2.2.2.2.2.2.2.2.1.1 (memWT (i := 169) rfl) dJ6_getChars_ba4f3_49 ?_
      refine lv_iload hx hb dJ6_getChars_ba4f3_52 (lv_at hl 2 rfl) ?_
      obtain ⟨g18, h⟩ := grd_s h
      refine T_sl2 C hS g18 dJ6_getChars_ba4f3_54 ?_
      obtain ⟨g19, h⟩ := grd_s h
      obtain ⟨σ20, eσ20, h⟩ := letS_n h
      refine T_st100 C hP hD hS g19 eσ20 dJ6_getChars_ba4f3_55 (fun H locs hP hD hS => ?_)
      refine lv_aload_n hx hb dJ6_getChars_ba4f3_56 rfl (lv_at hl 4 rfl) ?_
      obtain ⟨u21, eu21, h⟩ := letS_n h
      refine lv_iinc (v := u21) (lv' := [(5, .int u21), (0, .int u15), (4, .int u16), (3, .int u15), (2, .ref (a 100)), (6, .int x6)]) hx hb dJ6_getChars_ba4f3_57 hl (k := 0) rfl (by rw [eu21]; rfl) (by decide) rfl (fun ls hl => ?_)
      refine lv_iload hx hb dJ6_getChars_ba4f3_60 (lv_at hl 0 rfl) ?_
      refine T_gs C hS hTS.2.2.2.2.2.2.2.2.2.2.2.2.1 (memWT (i := 170) rfl) dJ6_getChars_ba4f3_62 ?_
      refine lv_iload hx hb dJ6_getChars_ba4f3_65 (lv_at hl 2 rfl) ?_
      obtain ⟨g22, h⟩ := grd_s h
      refine T_sl3 C hS g22 dJ6_getChars_ba4f3_67 ?_
      obtain ⟨g23, h⟩ := grd_s h
      obtain ⟨σ24, eσ24, h⟩ := letS_n h
      refine T_st100 C hP hD hS g23 eσ24 dJ6_getChars_ba4f3_68 (fun H locs hP hD hS => ?_)
      refine lv_goto (tgt := 22) hx hb dJ6_getChars_ba4f3_69 (by decide) ?_
      exact ih h hP hD hS (lv_sub hl [1, 4, 0, 5] rfl)
set_option maxHeartbeats 4000000 in
set_option maxRecDepth 100000 in
theorem tJ6_getChars_ba4f3_12 {st : Nat → Nat} {p : Program} {l : Launch} {e : Env} {s : State} {m : MethodId} {args : Array Value} {below : List Frame} {meth : Method} {c : Code} {D : va_G} {a : Nat → Nat} {cc : Nat → ClassId} {A : Nat → Prop} {N : Nat} {r : Int32} {σr : St} (C : T_Cx st l A RJ6 p s m args meth c D cc cJ6_getChars_ba4f3 (Cond.code yJ6_getChars_ba4f3 cJ6_getChars_ba4f3 7 (some .int) :: WT) 7 (some .int)) (hA : ∀ q, s.heap.size ≤ q → A q) {σ : St} {x0 : Int32} {x5 : Int32} {y0 : Int32} {H : Heap} {locs : List Loc} {ls : Array Slot} (h : fJ6_getChars_ba4f3_12 N σ x0 x5 y0 = some (r, σr)) : va_P D vwCl (wT a cc σ) H → va_D A (wT a cc σ) → va_S A s.heap H locs → lv_has ls 7 [(0, .int x0), (2, .ref (a 100)), (5, .int x5)] → W p l e rmJ6_getChars_ba4f3 s m args below meth c H locs 0 0 (T_Mi D a cc A below args s r σr) (F0 m 12 ls [.int y0]) := by
  obtain ⟨hx, hb, hr, hml, hown, hts, hin, hK, hlocks, hTS, hl0⟩ := id C
  intro hP hD hS hl
  refine lv_istore (lv' := [(6, .int y0), (0, .int x0), (2, .ref (a 100)), (5, .int x5)]) hx hb dJ6_getChars_ba4f3_12 hl (by decide) rfl (fun ls hl => ?_)
  refine lv_iload hx hb dJ6_getChars_ba4f3_14 (lv_at hl 0 rfl) ?_
  refine lv_if_ne (tgt := 22) hx hb dJ6_getChars_ba4f3_16 (by decide) (fun c2 => ?_) (fun c2 => ?_)
  · have h := ifF c2 h
    exact tJ6_getChars_ba4f3_22 C hA N h hP hD hS (lv_sub hl [1, 2, 3, 0] rfl)
  · have h := ifT c2 h
    refine lv_iload_n hx hb dJ6_getChars_ba4f3_19 rfl (lv_at hl 1 rfl) ?_
    refine lv_ineg hx hb dJ6_getChars_ba4f3_20 ?_
    obtain ⟨u3, eu3, h⟩ := letS_n h
    refine lv_topE eu3 ?_
    refine lv_istore_n (lv' := [(0, .int u3), (6, .int y0), (2, .ref (a 100)), (5, .int x5)]) hx hb dJ6_getChars_ba4f3_21 rfl hl (by decide) rfl (fun ls hl => ?_)
    exact tJ6_getChars_ba4f3_22 C hA N h hP hD hS (lv_sub hl [0, 2, 3, 1] rfl)
set_option maxHeartbeats 4000000 in
set_option maxRecDepth 100000 in
theorem tJ6_getChars_ba4f3 {st : Nat → Nat} {p : Program} {l : Launch} {e : Env} {s : State} {m : MethodId} {args : Array Value} {below : List Frame} {meth : Method} {c : Code} {D : va_G} {a : Nat → Nat} {cc : Nat → ClassId} {A : Nat → Prop} {N : Nat} {r : Int32} {σr : St} (C : T_Cx st l A RJ6 p s m args meth c D cc cJ6_getChars_ba4f3 (Cond.code yJ6_getChars_ba4f3 cJ6_getChars_ba4f3 7 (some .int) :: WT) 7 (some .int)) (hA : ∀ q, s.heap.size ≤ q → A q) {σ : St} {p0 : Int32} {p1 : Int32} {H : Heap} {locs : List Loc} {ls : Array Slot} (h : fJ6_getChars_ba4f3 N σ p0 p1 = some (r, σr)) : va_P D vwCl (wT a cc σ) H → va_D A (wT a cc σ) → va_S A s.heap H locs → lv_has ls 7 [(0, .int p0), (1, .int p1), (2, .ref (a 100))] → W p l e rmJ6_getChars_ba4f3 s m args below meth c H locs 0 0 (T_Mi D a cc A below args s r σr) (F0 m 0 ls []) := by
  obtain ⟨hx, hb, hr, hml, hown, hts, hin, hK, hlocks, hTS, hl0⟩ := id C
  intro hP hD hS hl
  refine lv_iload_n hx hb dJ6_getChars_ba4f3_0 rfl (lv_at hl 1 rfl) ?_
  refine lv_istore (lv' := [(5, .int p1), (0, .int p0), (1, .int p1), (2, .ref (a 100))]) hx hb dJ6_getChars_ba4f3_1 hl (by decide) rfl (fun ls hl => ?_)
  refine lv_iload_n hx hb dJ6_getChars_ba4f3_3 rfl (lv_at hl 1 rfl) ?_
  refine lv_if_ge (tgt := 11) hx hb dJ6_getChars_ba4f3_4 (by decide) (fun c1 => ?_) (fun c1 => ?_)
  · have h := ifT c1 h
    refine lv_iconst (v := (0 : Int32)) hx hb dJ6_getChars_ba4f3_11 (by decide) ?_
    exact tJ6_getChars_ba4f3_12 C hA h hP hD hS (lv_sub hl [1, 3, 0] rfl)
  · have h := ifF c1 h
    refine lv_iconst (v := (1 : Int32)) hx hb dJ6_getChars_ba4f3_7 (by decide) ?_
    refine lv_goto (tgt := 12) hx hb dJ6_getChars_ba4f3_8 (by decide) ?_
    exact tJ6_getChars_ba4f3_12 C hA h hP hD hS (lv_sub hl [1, 3, 0] rfl)
set_option maxRecDepth 100000 in
theorem kJ6_getChars_ba4f3 {l : Launch} (hl0 : l.stackTraces = false) (sz : Nat) {st : Nat → Nat} {D : va_G} {a : Nat → Nat} {cc : Nat → ClassId} {N : Nat} {r : Int32} {σr : St} {σ : St} {p0 : Int32} {p1 : Int32} (h : fJ6_getChars_ba4f3 N σ p0 p1 = some (r, σr)) : Met l yJ6_getChars_ba4f3 ((Cond.code yJ6_getChars_ba4f3 cJ6_getChars_ba4f3 7 (some .int) :: WT)) rmJ6_getChars_ba4f3 (T_Pc st D a cc [.int p0, .int p1, .ref (a 100)] σ sz) (T_Qi D a cc σ sz r σr) 0 0 (va_A (wT a cc σ) sz) := by
  refine Met.ofW (cc := cJ6_getChars_ba4f3) (maxL := 7) (ret := (some .int)) (by decide) rfl ?_
  intro p e s m args below meth c s₁ B hml hv
  obtain ⟨rfl, hsz, hP, hK, hD0, hTS⟩ := hv
  subst hsz
  have hl := lv_entry ([.int p0, .int p1, .ref (a 100)]) (n := 7) (Nat.le_of_ble_eq_true rfl)
  rw [lg_entry_eq]
  generalize (lg_sl ([.int p0, .int p1, .ref (a 100)]) ++ List.replicate (7 - (lg_sl ([.int p0, .int p1, .ref (a 100)])).length) Slot.unset).toArray = ls at hl ⊢
  exact tJ6_getChars_ba4f3 ⟨B.exec, B.bytes, B.returns, hml, findClass_of_methodNamed B.named, atoms_spec (ws := (Cond.code yJ6_getChars_ba4f3 cJ6_getChars_ba4f3 7 (some .int) :: WT)) B.pre, (fun w h => List.mem_cons_of_mem _ h), hK, B.notSynchronized, hTS, hl0⟩ (fun q h => Or.inr h) h hP hD0.self va_S.rf hl
set_option maxHeartbeats 4000000 in
set_option maxRecDepth 100000 in
theorem tJ5_append_c97b9_48 {st : Nat → Nat} {p : Program} {l : Launch} {e : Env} {s : State} {m : MethodId} {args : Array Value} {below : List Frame} {meth : Method} {c : Code} {D : va_G} {a : Nat → Nat} {cc : Nat → ClassId} {A : Nat → Prop} {N : Nat} {σr : St} (C : T_Cx st l A RJ5 p s m args meth c D cc cJ5_append_c97b9 (Cond.code yJ5_append_c97b9 cJ5_append_c97b9 4 (some (.object "java/lang/AbstractStringBuilder")) :: WT) 4 (some (.object "java/lang/AbstractStringBuilder"))) (hA : ∀ q, s.heap.size ≤ q → A q) {σ : St} {x3 : Int32} {H : Heap} {locs : List Loc} {ls : Array Slot} (h : fJ5_append_c97b9_48 N σ x3 = some σr) : va_P D vwCl (wT a cc σ) H → va_D A (wT a cc σ) → va_S A s.heap H locs → lv_has ls 4 [(0, .ref (a 109)), (3, .int x3)] → W p l e rmJ5_append_c97b9 s m args below meth c H locs 0 0 (T_Mr D a cc A below args s σr) (F0 m 48 ls []) := by
  obtain ⟨hx, hb, hr, hml, hown, hts, hin, hK, hlocks, hTS, hl0⟩ := id C
  intro hP hD hS hl
  refine lv_aload_n hx hb dJ5_append_c97b9_48 rfl (lv_at hl 0 rfl) ?_
  refine lv_iload_n hx hb dJ5_append_c97b9_49 rfl (lv_at hl 1 rfl) ?_
  obtain ⟨σ11, eσ11, h⟩ := letS_n h
  refine T_pfJ5_79 C hP hD hS eσ11 dJ5_append_c97b9_50 (fun H locs hP hD hS => ?_)
  refine lv_aload_n hx hb dJ5_append_c97b9_53 rfl (lv_at hl 0 rfl) ?_
  exact T_aret C h hP hD hS dJ5_append_c97b9_54
set_option maxHeartbeats 4000000 in
set_option maxRecDepth 100000 in
theorem tJ5_append_c97b9 {st : Nat → Nat} {p : Program} {l : Launch} {e : Env} {s : State} {m : MethodId} {args : Array Value} {below : List Frame} {meth : Method} {c : Code} {D : va_G} {a : Nat → Nat} {cc : Nat → ClassId} {A : Nat → Prop} {N : Nat} {σr : St} (C : T_Cx st l A RJ5 p s m args meth c D cc cJ5_append_c97b9 (Cond.code yJ5_append_c97b9 cJ5_append_c97b9 4 (some (.object "java/lang/AbstractStringBuilder")) :: WT) 4 (some (.object "java/lang/AbstractStringBuilder"))) (hA : ∀ q, s.heap.size ≤ q → A q) {σ : St} {p0 : Int32} {H : Heap} {locs : List Loc} {ls : Array Slot} (h : fJ5_append_c97b9 N σ p0 = some σr) : va_P D vwCl (wT a cc σ) H → va_D A (wT a cc σ) → va_S A s.heap H locs → lv_has ls 4 [(0, .ref (a 109)), (1, .int p0)] → W p l e rmJ5_append_c97b9 s m args below meth c H locs 0 0 (T_Mr D a cc A below args s σr) (F0 m 0 ls []) := by
  obtain ⟨hx, hb, hr, hml, hown, hts, hin, hK, hlocks, hTS, hl0⟩ := id C
  intro hP hD hS hl
  refine lv_aload_n hx hb dJ5_append_c97b9_0 rfl (lv_at hl 0 rfl) ?_
  refine T_gfJ5_79 C hP dJ5_append_c97b9_1 ?_
  obtain ⟨u1, eu1, h⟩ := letS_n h
  refine lv_topE eu1 ?_
  refine lv_istore_n (lv' := [(2, .int u1), (0, .ref (a 109)), (1, .int p0)]) hx hb dJ5_append_c97b9_4 rfl hl (by decide) rfl (fun ls hl => ?_)
  refine lv_iload_n hx hb dJ5_append_c97b9_5 rfl (lv_at hl 0 rfl) ?_
  refine lv_iload_n hx hb dJ5_append_c97b9_6 rfl (lv_at hl 2 rfl) ?_
  obtain ⟨r3, σ2, hc, h⟩ := bnd_s h
  refine T_callSi (As := [.int p0]) (rest := [.int u1]) C hA (fun sz => kJ6_stringSize_0f7a4 hl0 sz hc) gJ5_245 hP hD hS ⟨by decide, by decide⟩ ⟨rfl, rfl⟩ rfl hl.1 rfl (lv_room (Nat.le_of_ble_eq_true rfl)) dJ5_append_c97b9_7 (fun H locs hP hD hS => ?_)
  refine lv_iadd hx hb dJ5_append_c97b9_10 ?_
  obtain ⟨u4, eu4, h⟩ := letS_n h
  refine lv_topE eu4 ?_
  refine lv_istore_n (lv' := [(3, .int u4), (2, .int u1), (0, .ref (a 109)), (1, .int p0)]) hx hb dJ5_append_c97b9_11 rfl hl (by decide) rfl (fun ls hl => ?_)
  refine lv_aload_n hx hb dJ5_append_c97b9_12 rfl (lv_at hl 2 rfl) ?_
  refine lv_iload_n hx hb dJ5_append_c97b9_13 rfl (lv_at hl 0 rfl) ?_
  obtain ⟨σ5, hc, h⟩ := bnd1_s h
  refine T_callUv (q0 := 26) (ci := 1) (As := [.int u4]) (rest := []) C hA (fun sz => kJ5_ensureCapacityInternal_d00df hl0 sz hc) gJ5_100 hP hD hS rfl rfl ⟨by decide, by decide⟩ ⟨rfl, rfl⟩ rfl hl.1 rfl (lv_room (Nat.le_of_ble_eq_true rfl)) dJ5_append_c97b9_14 (fun H locs hP hD hS => ?_)
  refine lv_aload_n hx hb dJ5_append_c97b9_17 rfl (lv_at hl 2 rfl) ?_
  obtain ⟨r7, σ6, hc, h⟩ := bnd_s h
  refine T_callUi (q0 := 26) (ci := 1) (As := []) (rest := []) C hA (fun sz => kJ5_isLatin1_aae02 hl0 sz hc) gJ5_83 hP hD hS rfl rfl ⟨by decide, by decide⟩ ⟨rfl, rfl⟩ rfl hl.1 rfl (lv_room (Nat.le_of_ble_eq_true rfl)) dJ5_append_c97b9_18 (fun H locs hP hD hS => ?_)
  refine lv_if_eq (tgt := 37) hx hb dJ5_append_c97b9_21 (by decide) (fun c8 => ?_) (fun c8 => ?_)
  · have h := ifT c8 h
    refine lv_iload_n hx hb dJ5_append_c97b9_37 rfl (lv_at hl 3 rfl) ?_
    refine lv_iload_n hx hb dJ5_append_c97b9_38 rfl (lv_at hl 1 rfl) ?_
    refine lv_iload_n hx hb dJ5_append_c97b9_39 rfl (lv_at hl 0 rfl) ?_
    refine lv_aload_n hx hb dJ5_append_c97b9_40 rfl (lv_at hl 2 rfl) ?_
    refine T_gfJ5_15 C hP dJ5_append_c97b9_41 ?_
    exact none_s h
  · have h := ifF c8 h
    refine lv_iload_n hx hb dJ5_append_c97b9_24 rfl (lv_at hl 3 rfl) ?_
    refine lv_iload_n hx hb dJ5_append_c97b9_25 rfl (lv_at hl 0 rfl) ?_
    refine lv_aload_n hx hb dJ5_append_c97b9_26 rfl (lv_at hl 2 rfl) ?_
    refine T_gfJ5_15 C hP dJ5_append_c97b9_27 ?_
    obtain ⟨r10, σ9, hc, h⟩ := bnd_s h
    refine T_callSi (As := [.int p0, .int u4, .ref (a 100)]) (rest := []) C hA (fun sz => kJ6_getChars_ba4f3 hl0 sz hc) gJ5_248 hP hD hS ⟨by decide, by decide⟩ ⟨rfl, rfl⟩ rfl hl.1 rfl (lv_room (Nat.le_of_ble_eq_true rfl)) dJ5_append_c97b9_30 (fun H locs hP hD hS => ?_)
    refine lv_pop hx hb dJ5_append_c97b9_33 rfl ?_
    refine lv_goto (tgt := 48) hx hb dJ5_append_c97b9_34 (by decide) ?_
    exact tJ5_append_c97b9_48 C hA h hP hD hS (lv_sub hl [2, 0] rfl)
set_option maxRecDepth 100000 in
theorem kJ5_append_c97b9 {l : Launch} (hl0 : l.stackTraces = false) (sz : Nat) {st : Nat → Nat} {D : va_G} {a : Nat → Nat} {cc : Nat → ClassId} {N : Nat} {σr : St} {σ : St} {p0 : Int32} (h : fJ5_append_c97b9 N σ p0 = some σr) : Met l yJ5_append_c97b9 ((Cond.code yJ5_append_c97b9 cJ5_append_c97b9 4 (some (.object "java/lang/AbstractStringBuilder")) :: WT)) rmJ5_append_c97b9 (T_Pc st D a cc [.ref (a 109), .int p0] σ sz) (T_Qr D a cc σ sz σr) 0 0 (va_A (wT a cc σ) sz) := by
  refine Met.ofW (cc := cJ5_append_c97b9) (maxL := 4) (ret := (some (.object "java/lang/AbstractStringBuilder"))) (by decide) rfl ?_
  intro p e s m args below meth c s₁ B hml hv
  obtain ⟨rfl, hsz, hP, hK, hD0, hTS⟩ := hv
  subst hsz
  have hl := lv_entry ([.ref (a 109), .int p0]) (n := 4) (Nat.le_of_ble_eq_true rfl)
  rw [lg_entry_eq]
  generalize (lg_sl ([.ref (a 109), .int p0]) ++ List.replicate (4 - (lg_sl ([.ref (a 109), .int p0])).length) Slot.unset).toArray = ls at hl ⊢
  exact tJ5_append_c97b9 ⟨B.exec, B.bytes, B.returns, hml, findClass_of_methodNamed B.named, atoms_spec (ws := (Cond.code yJ5_append_c97b9 cJ5_append_c97b9 4 (some (.object "java/lang/AbstractStringBuilder")) :: WT)) B.pre, (fun w h => List.mem_cons_of_mem _ h), hK, B.notSynchronized, hTS, hl0⟩ (fun q h => Or.inr h) h hP hD0.self va_S.rf hl
set_option maxHeartbeats 4000000 in
set_option maxRecDepth 100000 in
theorem tJ4_append_bf812 {st : Nat → Nat} {p : Program} {l : Launch} {e : Env} {s : State} {m : MethodId} {args : Array Value} {below : List Frame} {meth : Method} {c : Code} {D : va_G} {a : Nat → Nat} {cc : Nat → ClassId} {A : Nat → Prop} {N : Nat} {σr : St} (C : T_Cx st l A RJ4 p s m args meth c D cc cJ4_append_bf812 (Cond.code yJ4_append_bf812 cJ4_append_bf812 2 (some (.object "java/lang/StringBuilder")) :: WT) 2 (some (.object "java/lang/StringBuilder"))) (hA : ∀ q, s.heap.size ≤ q → A q) {σ : St} {p0 : Int32} {H : Heap} {locs : List Loc} {ls : Array Slot} (h : fJ4_append_bf812 N σ p0 = some σr) : va_P D vwCl (wT a cc σ) H → va_D A (wT a cc σ) → va_S A s.heap H locs → lv_has ls 2 [(0, .ref (a 109)), (1, .int p0)] → W p l e rmJ4_append_bf812 s m args below meth c H locs 0 0 (T_Mr D a cc A below args s σr) (F0 m 0 ls []) := by
  obtain ⟨hx, hb, hr, hml, hown, hts, hin, hK, hlocks, hTS, hl0⟩ := id C
  intro hP hD hS hl
  refine lv_aload_n hx hb dJ4_append_bf812_0 rfl (lv_at hl 0 rfl) ?_
  refine lv_iload_n hx hb dJ4_append_bf812_1 rfl (lv_at hl 1 rfl) ?_
  obtain ⟨σ1, hc, h⟩ := bnd1_s h
  refine T_callPr (q0 := 26) (ci := 1) (As := [.int p0]) (rest := []) C hA (fun sz => kJ5_append_c97b9 hl0 sz hc) gJ4_53 hP hD hS rfl rfl ⟨by decide, by decide⟩ ⟨rfl, rfl⟩ rfl hl.1 rfl (lv_room (Nat.le_of_ble_eq_true rfl)) dJ4_append_bf812_2 (fun H locs hP hD hS => ?_)
  refine lv_pop hx hb dJ4_append_bf812_5 rfl ?_
  refine lv_aload_n hx hb dJ4_append_bf812_6 rfl (lv_at hl 0 rfl) ?_
  exact T_aret C h hP hD hS dJ4_append_bf812_7
set_option maxRecDepth 100000 in
theorem kJ4_append_bf812 {l : Launch} (hl0 : l.stackTraces = false) (sz : Nat) {st : Nat → Nat} {D : va_G} {a : Nat → Nat} {cc : Nat → ClassId} {N : Nat} {σr : St} {σ : St} {p0 : Int32} (h : fJ4_append_bf812 N σ p0 = some σr) : Met l yJ4_append_bf812 ((Cond.code yJ4_append_bf812 cJ4_append_bf812 2 (some (.object "java/lang/StringBuilder")) :: WT)) rmJ4_append_bf812 (T_Pc st D a cc [.ref (a 109), .int p0] σ sz) (T_Qr D a cc σ sz σr) 0 0 (va_A (wT a cc σ) sz) := by
  refine Met.ofW (cc := cJ4_append_bf812) (maxL := 2) (ret := (some (.object "java/lang/StringBuilder"))) (by decide) rfl ?_
  intro p e s m args below meth c s₁ B hml hv
  obtain ⟨rfl, hsz, hP, hK, hD0, hTS⟩ := hv
  subst hsz
  have hl := lv_entry ([.ref (a 109), .int p0]) (n := 2) (Nat.le_of_ble_eq_true rfl)
  rw [lg_entry_eq]
  generalize (lg_sl ([.ref (a 109), .int p0]) ++ List.replicate (2 - (lg_sl ([.ref (a 109), .int p0])).length) Slot.unset).toArray = ls at hl ⊢
  exact tJ4_append_bf812 ⟨B.exec, B.bytes, B.returns, hml, findClass_of_methodNamed B.named, atoms_spec (ws := (Cond.code yJ4_append_bf812 cJ4_append_bf812 2 (some (.object "java/lang/StringBuilder")) :: WT)) B.pre, (fun w h => List.mem_cons_of_mem _ h), hK, B.notSynchronized, hTS, hl0⟩ (fun q h => Or.inr h) h hP hD0.self va_S.rf hl
set_option maxHeartbeats 4000000 in
set_option maxRecDepth 100000 in
theorem tJ5_length_8abf5 {st : Nat → Nat} {p : Program} {l : Launch} {e : Env} {s : State} {m : MethodId} {args : Array Value} {below : List Frame} {meth : Method} {c : Code} {D : va_G} {a : Nat → Nat} {cc : Nat → ClassId} {A : Nat → Prop} {N : Nat} {r : Int32} {σr : St} (C : T_Cx st l A RJ5 p s m args meth c D cc cJ5_length_8abf5 (Cond.code yJ5_length_8abf5 cJ5_length_8abf5 1 (some .int) :: WT) 1 (some .int)) (hA : ∀ q, s.heap.size ≤ q → A q) {σ : St} {H : Heap} {locs : List Loc} {ls : Array Slot} (h : fJ5_length_8abf5 N σ = some (r, σr)) : va_P D vwCl (wT a cc σ) H → va_D A (wT a cc σ) → va_S A s.heap H locs → lv_has ls 1 [(0, .ref (a 109))] → W p l e rmJ5_length_8abf5 s m args below meth c H locs 0 0 (T_Mi D a cc A below args s r σr) (F0 m 0 ls []) := by
  obtain ⟨hx, hb, hr, hml, hown, hts, hin, hK, hlocks, hTS, hl0⟩ := id C
  intro hP hD hS hl
  refine lv_aload_n hx hb dJ5_length_8abf5_0 rfl (lv_at hl 0 rfl) ?_
  refine T_gfJ5_79 C hP dJ5_length_8abf5_1 ?_
  exact T_iret C h hP hD hS dJ5_length_8abf5_4
set_option maxRecDepth 100000 in
theorem kJ5_length_8abf5 {l : Launch} (hl0 : l.stackTraces = false) (sz : Nat) {st : Nat → Nat} {D : va_G} {a : Nat → Nat} {cc : Nat → ClassId} {N : Nat} {r : Int32} {σr : St} {σ : St} (h : fJ5_length_8abf5 N σ = some (r, σr)) : Met l yJ5_length_8abf5 ((Cond.code yJ5_length_8abf5 cJ5_length_8abf5 1 (some .int) :: WT)) rmJ5_length_8abf5 (T_Pc st D a cc [.ref (a 109)] σ sz) (T_Qi D a cc σ sz r σr) 0 0 (va_A (wT a cc σ) sz) := by
  refine Met.ofW (cc := cJ5_length_8abf5) (maxL := 1) (ret := (some .int)) (by decide) rfl ?_
  intro p e s m args below meth c s₁ B hml hv
  obtain ⟨rfl, hsz, hP, hK, hD0, hTS⟩ := hv
  subst hsz
  have hl := lv_entry ([.ref (a 109)]) (n := 1) (Nat.le_of_ble_eq_true rfl)
  rw [lg_entry_eq]
  generalize (lg_sl ([.ref (a 109)]) ++ List.replicate (1 - (lg_sl ([.ref (a 109)])).length) Slot.unset).toArray = ls at hl ⊢
  exact tJ5_length_8abf5 ⟨B.exec, B.bytes, B.returns, hml, findClass_of_methodNamed B.named, atoms_spec (ws := (Cond.code yJ5_length_8abf5 cJ5_length_8abf5 1 (some .int) :: WT)) B.pre, (fun w h => List.mem_cons_of_mem _ h), hK, B.notSynchronized, hTS, hl0⟩ (fun q h => Or.inr h) h hP hD0.self va_S.rf hl
set_option maxHeartbeats 4000000 in
set_option maxRecDepth 100000 in
theorem tJ4_length_8abf5 {st : Nat → Nat} {p : Program} {l : Launch} {e : Env} {s : State} {m : MethodId} {args : Array Value} {below : List Frame} {meth : Method} {c : Code} {D : va_G} {a : Nat → Nat} {cc : Nat → ClassId} {A : Nat → Prop} {N : Nat} {r : Int32} {σr : St} (C : T_Cx st l A RJ4 p s m args meth c D cc cJ4_length_8abf5 (Cond.code yJ4_length_8abf5 cJ4_length_8abf5 1 (some .int) :: WT) 1 (some .int)) (hA : ∀ q, s.heap.size ≤ q → A q) {σ : St} {H : Heap} {locs : List Loc} {ls : Array Slot} (h : fJ4_length_8abf5 N σ = some (r, σr)) : va_P D vwCl (wT a cc σ) H → va_D A (wT a cc σ) → va_S A s.heap H locs → lv_has ls 1 [(0, .ref (a 109))] → W p l e rmJ4_length_8abf5 s m args below meth c H locs 0 0 (T_Mi D a cc A below args s r σr) (F0 m 0 ls []) := by
  obtain ⟨hx, hb, hr, hml, hown, hts, hin, hK, hlocks, hTS, hl0⟩ := id C
  intro hP hD hS hl
  refine lv_aload_n hx hb dJ4_length_8abf5_0 rfl (lv_at hl 0 rfl) ?_
  obtain ⟨r2, σ1, hc, h⟩ := bnd_s h
  refine T_callPi (q0 := 26) (ci := 1) (As := []) (rest := []) C hA (fun sz => kJ5_length_8abf5 hl0 sz hc) gJ4_343 hP hD hS rfl rfl ⟨by decide, by decide⟩ ⟨rfl, rfl⟩ rfl hl.1 rfl (lv_room (Nat.le_of_ble_eq_true rfl)) dJ4_length_8abf5_1 (fun H locs hP hD hS => ?_)
  exact T_iret C h hP hD hS dJ4_length_8abf5_4
set_option maxRecDepth 100000 in
theorem kJ4_length_8abf5 {l : Launch} (hl0 : l.stackTraces = false) (sz : Nat) {st : Nat → Nat} {D : va_G} {a : Nat → Nat} {cc : Nat → ClassId} {N : Nat} {r : Int32} {σr : St} {σ : St} (h : fJ4_length_8abf5 N σ = some (r, σr)) : Met l yJ4_length_8abf5 ((Cond.code yJ4_length_8abf5 cJ4_length_8abf5 1 (some .int) :: WT)) rmJ4_length_8abf5 (T_Pc st D a cc [.ref (a 109)] σ sz) (T_Qi D a cc σ sz r σr) 0 0 (va_A (wT a cc σ) sz) := by
  refine Met.ofW (cc := cJ4_length_8abf5) (maxL := 1) (ret := (some .int)) (by decide) rfl ?_
  intro p e s m args below meth c s₁ B hml hv
  obtain ⟨rfl, hsz, hP, hK, hD0, hTS⟩ := hv
  subst hsz
  have hl := lv_entry ([.ref (a 109)]) (n := 1) (Nat.le_of_ble_eq_true rfl)
  rw [lg_entry_eq]
  generalize (lg_sl ([.ref (a 109)]) ++ List.replicate (1 - (lg_sl ([.ref (a 109)])).length) Slot.unset).toArray = ls at hl ⊢
  exact tJ4_length_8abf5 ⟨B.exec, B.bytes, B.returns, hml, findClass_of_methodNamed B.named, atoms_spec (ws := (Cond.code yJ4_length_8abf5 cJ4_length_8abf5 1 (some .int) :: WT)) B.pre, (fun w h => List.mem_cons_of_mem _ h), hK, B.notSynchronized, hTS, hl0⟩ (fun q h => Or.inr h) h hP hD0.self va_S.rf hl
set_option maxHeartbeats 4000000 in
set_option maxRecDepth 100000 in
theorem tJ5_charAt_5068e {st : Nat → Nat} {p : Program} {l : Launch} {e : Env} {s : State} {m : MethodId} {args : Array Value} {below : List Frame} {meth : Method} {c : Code} {D : va_G} {a : Nat → Nat} {cc : Nat → ClassId} {A : Nat → Prop} {N : Nat} {r : Int32} {σr : St} (C : T_Cx st l A RJ5 p s m args meth c D cc cJ5_charAt_5068e (Cond.code yJ5_charAt_5068e cJ5_charAt_5068e 5 (some .char) :: WT) 5 (some .char)) (hA : ∀ q, s.heap.size ≤ q → A q) {σ : St} {p0 : Int32} {H : Heap} {locs : List Loc} {ls : Array Slot} (h : fJ5_charAt_5068e N σ p0 = some (r, σr)) : va_P D vwCl (wT a cc σ) H → va_D A (wT a cc σ) → va_S A s.heap H locs → lv_has ls 5 [(0, .ref (a 109)), (1, .int p0)] → W p l e rmJ5_charAt_5068e s m args below meth c H locs 0 0 (T_Mi D a cc A below args s r σr) (F0 m 0 ls []) := by
  obtain ⟨hx, hb, hr, hml, hown, hts, hin, hK, hlocks, hTS, hl0⟩ := id C
  intro hP hD hS hl
  refine lv_aload_n hx hb dJ5_charAt_5068e_0 rfl (lv_at hl 0 rfl) ?_
  refine T_gfJ5_22 C hP dJ5_charAt_5068e_1 ?_
  obtain ⟨u1, eu1, h⟩ := letS_n h
  refine lv_topE eu1 ?_
  refine lv_istore_n (lv' := [(2, .int u1), (0, .ref (a 109)), (1, .int p0)]) hx hb dJ5_charAt_5068e_4 rfl hl (by decide) rfl (fun ls hl => ?_)
  refine lv_aload_n hx hb dJ5_charAt_5068e_5 rfl (lv_at hl 1 rfl) ?_
  refine T_gfJ5_15 C hP dJ5_charAt_5068e_6 ?_
  refine lv_astore_n (lv' := [(3, .ref (a 100)), (2, .int u1), (0, .ref (a 109)), (1, .int p0)]) hx hb dJ5_charAt_5068e_9 rfl hl (by decide) rfl (fun ls hl => ?_)
  refine lv_aload_n hx hb dJ5_charAt_5068e_10 rfl (lv_at hl 2 rfl) ?_
  refine T_gfJ5_79 C hP dJ5_charAt_5068e_11 ?_
  refine lv_aload_n hx hb dJ5_charAt_5068e_14 rfl (lv_at hl 0 rfl) ?_
  refine T_aln100 C hP dJ5_charAt_5068e_15 ?_
  refine lv_iload_n hx hb dJ5_charAt_5068e_16 rfl (lv_at hl 1 rfl) ?_
  refine lv_ishr hx hb dJ5_charAt_5068e_17 ?_
  refine T_min C hl.1 (memWT (i := 162) rfl) (by decide) (Nat.le_of_ble_eq_true rfl) dJ5_charAt_5068e_18 ?_
  obtain ⟨u2, eu2, h⟩ := letS_n h
  refine lv_topE eu2 ?_
  refine lv_istore (lv' := [(4, .int u2), (3, .ref (a 100)), (2, .int u1), (0, .ref (a 109)), (1, .int p0)]) hx hb dJ5_charAt_5068e_21 hl (by decide) rfl (fun ls hl => ?_)
  refine lv_iload_n hx hb dJ5_charAt_5068e_23 rfl (lv_at hl 4 rfl) ?_
  refine lv_iload hx hb dJ5_charAt_5068e_24 (lv_at hl 0 rfl) ?_
  obtain ⟨σ3, hc, h⟩ := bnd1_s h
  refine T_callSv (As := [.int p0, .int u2]) (rest := []) C hA (fun sz => kJ0_checkIndex_df160 hl0 sz hc) gJ5_144 hP hD hS ⟨by decide, by decide⟩ ⟨rfl, rfl⟩ rfl hl.1 rfl (lv_room (Nat.le_of_ble_eq_true rfl)) dJ5_charAt_5068e_26 (fun H locs hP hD hS => ?_)
  refine lv_iload_n hx hb dJ5_charAt_5068e_29 rfl (lv_at hl 2 rfl) ?_
  refine lv_if_ne (tgt := 42) hx hb dJ5_charAt_5068e_30 (by decide) (fun c4 => ?_) (fun c4 => ?_)
  · have h := ifF c4 h
    refine lv_aload_n hx hb dJ5_charAt_5068e_42 rfl (lv_at hl 1 rfl) ?_
    refine lv_iload_n hx hb dJ5_charAt_5068e_43 rfl (lv_at hl 4 rfl) ?_
    exact none_s h
  · have h := ifT c4 h
    refine lv_aload_n hx hb dJ5_charAt_5068e_33 rfl (lv_at hl 1 rfl) ?_
    refine lv_iload_n hx hb dJ5_charAt_5068e_34 rfl (lv_at hl 4 rfl) ?_
    obtain ⟨g5, h⟩ := grd_s h
    refine T_ld100 C hP g5 dJ5_charAt_5068e_35 ?_
    refine lv_sipush (v := (255 : Int32)) hx hb dJ5_charAt_5068e_36 (by decide) ?_
    refine lv_iand hx hb dJ5_charAt_5068e_39 ?_
    refine lv_i2c hx hb dJ5_charAt_5068e_40 rfl ?_
    exact T_zretC C h hP hD hS dJ5_charAt_5068e_41
set_option maxRecDepth 100000 in
theorem kJ5_charAt_5068e {l : Launch} (hl0 : l.stackTraces = false) (sz : Nat) {st : Nat → Nat} {D : va_G} {a : Nat → Nat} {cc : Nat → ClassId} {N : Nat} {r : Int32} {σr : St} {σ : St} {p0 : Int32} (h : fJ5_charAt_5068e N σ p0 = some (r, σr)) : Met l yJ5_charAt_5068e ((Cond.code yJ5_charAt_5068e cJ5_charAt_5068e 5 (some .char) :: WT)) rmJ5_charAt_5068e (T_Pc st D a cc [.ref (a 109), .int p0] σ sz) (T_Qi D a cc σ sz r σr) 0 0 (va_A (wT a cc σ) sz) := by
  refine Met.ofW (cc := cJ5_charAt_5068e) (maxL := 5) (ret := (some .char)) (by decide) rfl ?_
  intro p e s m args below meth c s₁ B hml hv
  obtain ⟨rfl, hsz, hP, hK, hD0, hTS⟩ := hv
  subst hsz
  have hl := lv_entry ([.ref (a 109), .int p0]) (n := 5) (Nat.le_of_ble_eq_true rfl)
  rw [lg_entry_eq]
  generalize (lg_sl ([.ref (a 109), .int p0]) ++ List.replicate (5 - (lg_sl ([.ref (a 109), .int p0])).length) Slot.unset).toArray = ls at hl ⊢
  exact tJ5_charAt_5068e ⟨B.exec, B.bytes, B.returns, hml, findClass_of_methodNamed B.named, atoms_spec (ws := (Cond.code yJ5_charAt_5068e cJ5_charAt_5068e 5 (some .char) :: WT)) B.pre, (fun w h => List.mem_cons_of_mem _ h), hK, B.notSynchronized, hTS, hl0⟩ (fun q h => Or.inr h) h hP hD0.self va_S.rf hl
set_option maxHeartbeats 4000000 in
set_option maxRecDepth 100000 in
theorem tJ4_charAt_5068e {st : Nat → Nat} {p : Program} {l : Launch} {e : Env} {s : State} {m : MethodId} {args : Array Value} {below : List Frame} {meth : Method} {c : Code} {D : va_G} {a : Nat → Nat} {cc : Nat → ClassId} {A : Nat → Prop} {N : Nat} {r : Int32} {σr : St} (C : T_Cx st l A RJ4 p s m args meth c D cc cJ4_charAt_5068e (Cond.code yJ4_charAt_5068e cJ4_charAt_5068e 2 (some .char) :: WT) 2 (some .char)) (hA : ∀ q, s.heap.size ≤ q → A q) {σ : St} {p0 : Int32} {H : Heap} {locs : List Loc} {ls : Array Slot} (h : fJ4_charAt_5068e N σ p0 = some (r, σr)) : va_P D vwCl (wT a cc σ) H → va_D A (wT a cc σ) → va_S A s.heap H locs → lv_has ls 2 [(0, .ref (a 109)), (1, .int p0)] → W p l e rmJ4_charAt_5068e s m args below meth c H locs 0 0 (T_Mi D a cc A below args s r σr) (F0 m 0 ls []) := by
  obtain ⟨hx, hb, hr, hml, hown, hts, hin, hK, hlocks, hTS, hl0⟩ := id C
  intro hP hD hS hl
  refine lv_aload_n hx hb dJ4_charAt_5068e_0 rfl (lv_at hl 0 rfl) ?_
  refine lv_iload_n hx hb dJ4_charAt_5068e_1 rfl (lv_at hl 1 rfl) ?_
  obtain ⟨r2, σ1, hc, h⟩ := bnd_s h
  refine T_callPi (q0 := 26) (ci := 1) (As := [.int p0]) (rest := []) C hA (fun sz => kJ5_charAt_5068e hl0 sz hc) gJ4_329 hP hD hS rfl rfl ⟨by decide, by decide⟩ ⟨rfl, rfl⟩ rfl hl.1 rfl (lv_room (Nat.le_of_ble_eq_true rfl)) dJ4_charAt_5068e_2 (fun H locs hP hD hS => ?_)
  exact T_zretC C h hP hD hS dJ4_charAt_5068e_5
set_option maxRecDepth 100000 in
theorem kJ4_charAt_5068e {l : Launch} (hl0 : l.stackTraces = false) (sz : Nat) {st : Nat → Nat} {D : va_G} {a : Nat → Nat} {cc : Nat → ClassId} {N : Nat} {r : Int32} {σr : St} {σ : St} {p0 : Int32} (h : fJ4_charAt_5068e N σ p0 = some (r, σr)) : Met l yJ4_charAt_5068e ((Cond.code yJ4_charAt_5068e cJ4_charAt_5068e 2 (some .char) :: WT)) rmJ4_charAt_5068e (T_Pc st D a cc [.ref (a 109), .int p0] σ sz) (T_Qi D a cc σ sz r σr) 0 0 (va_A (wT a cc σ) sz) := by
  refine Met.ofW (cc := cJ4_charAt_5068e) (maxL := 2) (ret := (some .char)) (by decide) rfl ?_
  intro p e s m args below meth c s₁ B hml hv
  obtain ⟨rfl, hsz, hP, hK, hD0, hTS⟩ := hv
  subst hsz
  have hl := lv_entry ([.ref (a 109), .int p0]) (n := 2) (Nat.le_of_ble_eq_true rfl)
  rw [lg_entry_eq]
  generalize (lg_sl ([.ref (a 109), .int p0]) ++ List.replicate (2 - (lg_sl ([.ref (a 109), .int p0])).length) Slot.unset).toArray = ls at hl ⊢
  exact tJ4_charAt_5068e ⟨B.exec, B.bytes, B.returns, hml, findClass_of_methodNamed B.named, atoms_spec (ws := (Cond.code yJ4_charAt_5068e cJ4_charAt_5068e 2 (some .char) :: WT)) B.pre, (fun w h => List.mem_cons_of_mem _ h), hK, B.notSynchronized, hTS, hl0⟩ (fun q h => Or.inr h) h hP hD0.self va_S.rf hl
set_option maxHeartbeats 4000000 in
set_option maxRecDepth 100000 in
theorem tX0_with {st : Nat → Nat} {p : Program} {l : Launch} {e : Env} {s : State} {m : MethodId} {args : Array Value} {below : List Frame} {meth : Method} {c : Code} {D : va_G} {a : Nat → Nat} {cc : Nat → ClassId} {A : Nat → Prop} {N : Nat} {r : Int64} {σr : St} (C : T_Cx st l A RX0 p s m args meth c D cc cX0_with (Cond.code yX0_with cX0_with 2 (some .long) :: WT) 2 (some .long)) (hA : ∀ q, s.heap.size ≤ q → A q) {σ : St} {p0 : Int32} {p1 : Int32} {H : Heap} {locs : List Loc} {ls : Array Slot} (h : fX0_with N σ p0 p1 = some (r, σr)) : va_P D vwCl (wT a cc σ) H → va_D A (wT a cc σ) → va_S A s.heap H locs → lv_has ls 2 [(0, .int p0), (1, .int p1)] → W p l e rmX0_with s m args below meth c H locs 0 0 (T_Ml D a cc A below args s r σr) (F0 m 0 ls []) := by
  obtain ⟨hx, hb, hr, hml, hown, hts, hin, hK, hlocks, hTS, hl0⟩ := id C
  intro hP hD hS hl
  refine lv_iload_n hx hb dX0_with_0 rfl (lv_at hl 0 rfl) ?_
  refine lv_if_ge (tgt := 6) hx hb dX0_with_1 (by decide) (fun c1 => ?_) (fun c1 => ?_)
  · have h := ifT c1 h
    refine lv_iload_n hx hb dX0_with_6 rfl (lv_at hl 0 rfl) ?_
    refine lv_bipush (v := (6 : Int32)) hx hb dX0_with_7 (by decide) ?_
    refine lv_icmp_ge (tgt := 18) hx hb dX0_with_9 (by decide) (fun c2 => ?_) (fun c2 => ?_)
    · have h := ifT c2 h
      refine lv_iload_n hx hb dX0_with_18 rfl (lv_at hl 1 rfl) ?_
      refine lv_iload_n hx hb dX0_with_19 rfl (lv_at hl 0 rfl) ?_
      refine lv_bipush (v := (6 : Int32)) hx hb dX0_with_20 (by decide) ?_
      refine lv_isub hx hb dX0_with_22 ?_
      refine lv_ishr hx hb dX0_with_23 ?_
      refine lv_iconst (v := (1 : Int32)) hx hb dX0_with_24 (by decide) ?_
      refine lv_iand hx hb dX0_with_25 ?_
      refine lv_if_eq (tgt := 35) hx hb dX0_with_26 (by decide) (fun c3 => ?_) (fun c3 => ?_)
      · have h := ifT c3 h
        refine lv_lconst (v := (0 : Int64)) hx hb dX0_with_35 (by decide) ?_
        exact T_lret C h hP hD hS dX0_with_36
      · have h := ifF c3 h
        refine lv_ldc2 (v := (-1 : Int64)) hx hb hown (hts (.constantLong RX0 59 (-1)) (by decide +kernel)) dX0_with_29 ?_
        refine lv_goto (tgt := 36) hx hb dX0_with_32 (by decide) ?_
        exact T_lret C h hP hD hS dX0_with_36
    · have h := ifF c2 h
      refine T_gsX0_56 C hS dX0_with_12 ?_
      refine lv_iload_n hx hb dX0_with_15 rfl (lv_at hl 0 rfl) ?_
      obtain ⟨g4, h⟩ := grd_s h
      refine T_sl0 C hS g4 dX0_with_16 ?_
      exact T_lret C h hP hD hS dX0_with_17
  · have h := ifF c1 h
    refine lv_lconst (v := (0 : Int64)) hx hb dX0_with_4 (by decide) ?_
    exact T_lret C h hP hD hS dX0_with_5
set_option maxRecDepth 100000 in
theorem kX0_with {l : Launch} (hl0 : l.stackTraces = false) (sz : Nat) {st : Nat → Nat} {D : va_G} {a : Nat → Nat} {cc : Nat → ClassId} {N : Nat} {r : Int64} {σr : St} {σ : St} {p0 : Int32} {p1 : Int32} (h : fX0_with N σ p0 p1 = some (r, σr)) : Met l yX0_with ((Cond.code yX0_with cX0_with 2 (some .long) :: WT)) rmX0_with (T_Pc st D a cc [.int p0, .int p1] σ sz) (T_Ql D a cc σ sz r σr) 0 0 (va_A (wT a cc σ) sz) := by
  refine Met.ofW (cc := cX0_with) (maxL := 2) (ret := (some .long)) (by decide) rfl ?_
  intro p e s m args below meth c s₁ B hml hv
  obtain ⟨rfl, hsz, hP, hK, hD0, hTS⟩ := hv
  subst hsz
  have hl := lv_entry ([.int p0, .int p1]) (n := 2) (Nat.le_of_ble_eq_true rfl)
  rw [lg_entry_eq]
  generalize (lg_sl ([.int p0, .int p1]) ++ List.replicate (2 - (lg_sl ([.int p0, .int p1])).length) Slot.unset).toArray = ls at hl ⊢
  exact tX0_with ⟨B.exec, B.bytes, B.returns, hml, findClass_of_methodNamed B.named, atoms_spec (ws := (Cond.code yX0_with cX0_with 2 (some .long) :: WT)) B.pre, (fun w h => List.mem_cons_of_mem _ h), hK, B.notSynchronized, hTS, hl0⟩ (fun q h => Or.inr h) h hP hD0.self va_S.rf hl
set_option maxHeartbeats 4000000 in
set_option maxRecDepth 100000 in
theorem tX8_has {st : Nat → Nat} {p : Program} {l : Launch} {e : Env} {s : State} {m : MethodId} {args : Array Value} {below : List Frame} {meth : Method} {c : Code} {D : va_G} {a : Nat → Nat} {cc : Nat → ClassId} {A : Nat → Prop} {N : Nat} {r : Int32} {σr : St} (C : T_Cx st l A RX8 p s m args meth c D cc cX8_has (Cond.code yX8_has cX8_has 2 (some .boolean) :: WT) 2 (some .boolean)) (hA : ∀ q, s.heap.size ≤ q → A q) {σ : St} {p0 : Int32} {p1 : Int32} {H : Heap} {locs : List Loc} {ls : Array Slot} (h : fX8_has N σ p0 p1 = some (r, σr)) : va_P D vwCl (wT a cc σ) H → va_D A (wT a cc σ) → va_S A s.heap H locs → lv_has ls 2 [(0, .int p0), (1, .int p1)] → W p l e rmX8_has s m args below meth c H locs 0 0 (T_Mi D a cc A below args s r σr) (F0 m 0 ls []) := by
  obtain ⟨hx, hb, hr, hml, hown, hts, hin, hK, hlocks, hTS, hl0⟩ := id C
  intro hP hD hS hl
  refine lv_iload_n hx hb dX8_has_0 rfl (lv_at hl 0 rfl) ?_
  refine lv_iload_n hx hb dX8_has_1 rfl (lv_at hl 1 rfl) ?_
  refine lv_ishr hx hb dX8_has_2 ?_
  refine lv_iconst (v := (1 : Int32)) hx hb dX8_has_3 (by decide) ?_
  refine lv_iand hx hb dX8_has_4 ?_
  refine lv_if_eq (tgt := 12) hx hb dX8_has_5 (by decide) (fun c1 => ?_) (fun c1 => ?_)
  · have h := ifT c1 h
    refine lv_iconst (v := (0 : Int32)) hx hb dX8_has_12 (by decide) ?_
    exact T_zretZ C h hP hD hS dX8_has_13
  · have h := ifF c1 h
    refine lv_iconst (v := (1 : Int32)) hx hb dX8_has_8 (by decide) ?_
    refine lv_goto (tgt := 13) hx hb dX8_has_9 (by decide) ?_
    exact T_zretZ C h hP hD hS dX8_has_13
set_option maxRecDepth 100000 in
theorem kX8_has {l : Launch} (hl0 : l.stackTraces = false) (sz : Nat) {st : Nat → Nat} {D : va_G} {a : Nat → Nat} {cc : Nat → ClassId} {N : Nat} {r : Int32} {σr : St} {σ : St} {p0 : Int32} {p1 : Int32} (h : fX8_has N σ p0 p1 = some (r, σr)) : Met l yX8_has ((Cond.code yX8_has cX8_has 2 (some .boolean) :: WT)) rmX8_has (T_Pc st D a cc [.int p0, .int p1] σ sz) (T_Qi D a cc σ sz r σr) 0 0 (va_A (wT a cc σ) sz) := by
  refine Met.ofW (cc := cX8_has) (maxL := 2) (ret := (some .boolean)) (by decide) rfl ?_
  intro p e s m args below meth c s₁ B hml hv
  obtain ⟨rfl, hsz, hP, hK, hD0, hTS⟩ := hv
  subst hsz
  have hl := lv_entry ([.int p0, .int p1]) (n := 2) (Nat.le_of_ble_eq_true rfl)
  rw [lg_entry_eq]
  generalize (lg_sl ([.int p0, .int p1]) ++ List.replicate (2 - (lg_sl ([.int p0, .int p1])).length) Slot.unset).toArray = ls at hl ⊢
  exact tX8_has ⟨B.exec, B.bytes, B.returns, hml, findClass_of_methodNamed B.named, atoms_spec (ws := (Cond.code yX8_has cX8_has 2 (some .boolean) :: WT)) B.pre, (fun w h => List.mem_cons_of_mem _ h), hK, B.notSynchronized, hTS, hl0⟩ (fun q h => Or.inr h) h hP hD0.self va_S.rf hl
set_option maxHeartbeats 4000000 in
set_option maxRecDepth 100000 in
theorem tX0_withAll_34 {st : Nat → Nat} {p : Program} {l : Launch} {e : Env} {s : State} {m : MethodId} {args : Array Value} {below : List Frame} {meth : Method} {c : Code} {D : va_G} {a : Nat → Nat} {cc : Nat → ClassId} {A : Nat → Prop} {N : Nat} {r : Int64} {σr : St} {k7 : St → Int32 → Int32 → Int64 → Int32 → Option (Int64 × St)} (C : T_Cx st l A RX0 p s m args meth c D cc cX0_withAll (Cond.code yX0_withAll cX0_withAll 6 (some .long) :: WT) 6 (some .long)) (hA : ∀ q, s.heap.size ≤ q → A q) (hk7 : ∀ {σ : St} {x1 : Int32} {x2 : Int32} {x3 : Int64} {x5 : Int32} {H : Heap} {locs : List Loc} {ls : Array Slot}, k7 σ x1 x2 x3 x5 = some (r, σr) → va_P D vwCl (wT a cc σ) H → va_D A (wT a cc σ) → va_S A s.heap H locs → lv_has ls 6 [(0, .ref (a 59)), (1, .int x1), (2, .int x2), (3, .long x3), (5, .int x5)] → W p l e rmX0_withAll s m args below meth c H locs 0 0 (T_Ml D a cc A below args s r σr) (F0 m 7 ls [])) {σ : St} {x1 : Int32} {x2 : Int32} {x3 : Int64} {x5 : Int32} {H : Heap} {locs : List Loc} {ls : Array Slot} (h : fX0_withAll_34 N k7 σ x1 x2 x3 x5 = some (r, σr)) : va_P D vwCl (wT a cc σ) H → va_D A (wT a cc σ) → va_S A s.heap H locs → lv_has ls 6 [(0, .ref (a 59)), (1, .int x1), (2, .int x2), (3, .long x3), (5, .int x5)] → W p l e rmX0_withAll s m args below meth c H locs 0 0 (T_Ml D a cc A below args s r σr) (F0 m 34 ls []) := by
  obtain ⟨hx, hb, hr, hml, hown, hts, hin, hK, hlocks, hTS, hl0⟩ := id C
  intro hP hD hS hl
  obtain ⟨u8, eu8, h⟩ := letS_n h
  refine lv_iinc (v := u8) (lv' := [(5, .int u8), (0, .ref (a 59)), (1, .int x1), (2, .int x2), (3, .long x3)]) hx hb dX0_withAll_34 hl (k := 4) rfl (by rw [eu8]; rfl) (by decide) rfl (fun ls hl => ?_)
  refine lv_goto (tgt := 7) hx hb dX0_withAll_37 (by decide) ?_
  exact hk7 h hP hD hS (lv_sub hl [1, 2, 3, 4, 0] rfl)
set_option maxHeartbeats 4000000 in
set_option maxRecDepth 100000 in
theorem tX0_withAll_7 {st : Nat → Nat} {p : Program} {l : Launch} {e : Env} {s : State} {m : MethodId} {args : Array Value} {below : List Frame} {meth : Method} {c : Code} {D : va_G} {a : Nat → Nat} {cc : Nat → ClassId} {A : Nat → Prop} {N : Nat} {r : Int64} {σr : St} (C : T_Cx st l A RX0 p s m args meth c D cc cX0_withAll (Cond.code yX0_withAll cX0_withAll 6 (some .long) :: WT) 6 (some .long)) (hA : ∀ q, s.heap.size ≤ q → A q) : ∀ (n : Nat) {σ : St} {x1 : Int32} {x2 : Int32} {x3 : Int64} {x5 : Int32} {H : Heap} {locs : List Loc} {ls : Array Slot}, fX0_withAll_7 N n σ x1 x2 x3 x5 = some (r, σr) → va_P D vwCl (wT a cc σ) H → va_D A (wT a cc σ) → va_S A s.heap H locs → lv_has ls 6 [(0, .ref (a 59)), (1, .int x1), (2, .int x2), (3, .long x3), (5, .int x5)] → W p l e rmX0_withAll s m args below meth c H locs 0 0 (T_Ml D a cc A below args s r σr) (F0 m 7 ls []) := by
  obtain ⟨hx, hb, hr, hml, hown, hts, hin, hK, hlocks, hTS, hl0⟩ := id C
  intro n
  induction n with
  | zero => intro σ x1 x2 x3 x5 H locs ls h; exact none_s h
  | succ n ih =>
    intro σ x1 x2 x3 x5 H locs ls h hP hD hS hl
    refine lv_iload hx hb dX0_withAll_7 (lv_at hl 4 rfl) ?_
    refine lv_aload_n hx hb dX0_withAll_9 rfl (lv_at hl 0 rfl) ?_
    refine T_gfX0_22 C hP dX0_withAll_10 ?_
    refine lv_icmp_ge (tgt := 40) hx hb dX0_withAll_13 (by decide) (fun c1 => ?_) (fun c1 => ?_)
    · have h := ifT c1 h
      refine lv_lload_n hx hb dX0_withAll_40 rfl (lv_at hl 3 rfl) ?_
      exact T_lret C h hP hD hS dX0_withAll_41
    · have h := ifF c1 h
      refine lv_iload_n hx hb dX0_withAll_16 rfl (lv_at hl 1 rfl) ?_
      refine lv_iload hx hb dX0_withAll_17 (lv_at hl 4 rfl) ?_
      obtain ⟨r3, σ2, hc, h⟩ := bnd_s h
      refine T_callTi (As := [.int x1, .int x5]) (rest := []) C hA (fun sz => kX8_has hl0 sz hc) gX0_82 hP hD hS ⟨by decide, by decide⟩ ⟨rfl, rfl⟩ rfl hl.1 rfl (lv_room (Nat.le_of_ble_eq_true rfl)) dX0_withAll_19 (fun H locs hP hD hS => ?_)
      refine lv_if_eq (tgt := 34) hx hb dX0_withAll_22 (by decide) (fun c4 => ?_) (fun c4 => ?_)
      · have h := ifT c4 h
        exact tX0_withAll_34 C hA ih h hP hD hS (lv_sub hl [0, 1, 2, 3, 4] rfl)
      · have h := ifF c4 h
        refine lv_lload_n hx hb dX0_withAll_25 rfl (lv_at hl 3 rfl) ?_
        refine lv_iload hx hb dX0_withAll_26 (lv_at hl 4 rfl) ?_
        refine lv_iload_n hx hb dX0_withAll_28 rfl (lv_at hl 2 rfl) ?_
        obtain ⟨r6, σ5, hc, h⟩ := bnd_s h
        refine T_callSl (As := [.int x5, .int x2]) (rest := [.long x3]) C hA (fun sz => kX0_with hl0 sz hc) gX0_68 hP hD hS ⟨by decide, by decide⟩ ⟨rfl, rfl⟩ rfl hl.1 rfl (lv_room (Nat.le_of_ble_eq_true rfl)) dX0_withAll_29 (fun H locs hP hD hS => ?_)
        refine lv_land hx hb dX0_withAll_32 ?_
        obtain ⟨u7, eu7, h⟩ := letS_n h
        refine lv_topF eu7 ?_
        refine lv_lstore_n (lv' := [(3, .long u7), (0, .ref (a 59)), (1, .int x1), (2, .int x2), (5, .int x5)]) hx hb dX0_withAll_33 rfl hl (by decide) rfl (fun ls hl => ?_)
        exact tX0_withAll_34 C hA ih h hP hD hS (lv_sub hl [1, 2, 3, 0, 4] rfl)
set_option maxHeartbeats 4000000 in
set_option maxRecDepth 100000 in
theorem tX0_withAll {st : Nat → Nat} {p : Program} {l : Launch} {e : Env} {s : State} {m : MethodId} {args : Array Value} {below : List Frame} {meth : Method} {c : Code} {D : va_G} {a : Nat → Nat} {cc : Nat → ClassId} {A : Nat → Prop} {N : Nat} {r : Int64} {σr : St} (C : T_Cx st l A RX0 p s m args meth c D cc cX0_withAll (Cond.code yX0_withAll cX0_withAll 6 (some .long) :: WT) 6 (some .long)) (hA : ∀ q, s.heap.size ≤ q → A q) {σ : St} {p0 : Int32} {p1 : Int32} {H : Heap} {locs : List Loc} {ls : Array Slot} (h : fX0_withAll N σ p0 p1 = some (r, σr)) : va_P D vwCl (wT a cc σ) H → va_D A (wT a cc σ) → va_S A s.heap H locs → lv_has ls 6 [(0, .ref (a 59)), (1, .int p0), (2, .int p1)] → W p l e rmX0_withAll s m args below meth c H locs 0 0 (T_Ml D a cc A below args s r σr) (F0 m 0 ls []) := by
  obtain ⟨hx, hb, hr, hml, hown, hts, hin, hK, hlocks, hTS, hl0⟩ := id C
  intro hP hD hS hl
  refine lv_ldc2 (v := (-1 : Int64)) hx hb hown (hts (.constantLong RX0 59 (-1)) (by decide +kernel)) dX0_withAll_0 ?_
  refine lv_lstore_n (lv' := [(3, .long (-1 : Int64)), (0, .ref (a 59)), (1, .int p0), (2, .int p1)]) hx hb dX0_withAll_3 rfl hl (by decide) rfl (fun ls hl => ?_)
  refine lv_iconst (v := (0 : Int32)) hx hb dX0_withAll_4 (by decide) ?_
  refine lv_istore (lv' := [(5, .int (0 : Int32)), (3, .long (-1 : Int64)), (0, .ref (a 59)), (1, .int p0), (2, .int p1)]) hx hb dX0_withAll_5 hl (by decide) rfl (fun ls hl => ?_)
  exact tX0_withAll_7 C hA N h hP hD hS (lv_sub hl [2, 3, 4, 1, 0] rfl)
set_option maxRecDepth 100000 in
theorem kX0_withAll {l : Launch} (hl0 : l.stackTraces = false) (sz : Nat) {st : Nat → Nat} {D : va_G} {a : Nat → Nat} {cc : Nat → ClassId} {N : Nat} {r : Int64} {σr : St} {σ : St} {p0 : Int32} {p1 : Int32} (h : fX0_withAll N σ p0 p1 = some (r, σr)) : Met l yX0_withAll ((Cond.code yX0_withAll cX0_withAll 6 (some .long) :: WT)) rmX0_withAll (T_Pc st D a cc [.ref (a 59), .int p0, .int p1] σ sz) (T_Ql D a cc σ sz r σr) 0 0 (va_A (wT a cc σ) sz) := by
  refine Met.ofW (cc := cX0_withAll) (maxL := 6) (ret := (some .long)) (by decide) rfl ?_
  intro p e s m args below meth c s₁ B hml hv
  obtain ⟨rfl, hsz, hP, hK, hD0, hTS⟩ := hv
  subst hsz
  have hl := lv_entry ([.ref (a 59), .int p0, .int p1]) (n := 6) (Nat.le_of_ble_eq_true rfl)
  rw [lg_entry_eq]
  generalize (lg_sl ([.ref (a 59), .int p0, .int p1]) ++ List.replicate (6 - (lg_sl ([.ref (a 59), .int p0, .int p1])).length) Slot.unset).toArray = ls at hl ⊢
  exact tX0_withAll ⟨B.exec, B.bytes, B.returns, hml, findClass_of_methodNamed B.named, atoms_spec (ws := (Cond.code yX0_withAll cX0_withAll 6 (some .long) :: WT)) B.pre, (fun w h => List.mem_cons_of_mem _ h), hK, B.notSynchronized, hTS, hl0⟩ (fun q h => Or.inr h) h hP hD0.self va_S.rf hl
set_option maxHeartbeats 4000000 in
set_option maxRecDepth 100000 in
theorem tX0_row {st : Nat → Nat} {p : Program} {l : Launch} {e : Env} {s : State} {m : MethodId} {args : Array Value} {below : List Frame} {meth : Method} {c : Code} {D : va_G} {a : Nat → Nat} {cc : Nat → ClassId} {A : Nat → Prop} {N : Nat} {r : Int32} {σr : St} (C : T_Cx st l A RX0 p s m args meth c D cc cX0_row (Cond.code yX0_row cX0_row 2 (some .int) :: WT) 2 (some .int)) (hA : ∀ q, s.heap.size ≤ q → A q) {σ : St} {p0 : Int32} {p1 : Int32} {H : Heap} {locs : List Loc} {ls : Array Slot} (h : fX0_row N σ p0 p1 = some (r, σr)) : va_P D vwCl (wT a cc σ) H → va_D A (wT a cc σ) → va_S A s.heap H locs → lv_has ls 2 [(0, .int p0), (1, .int p1)] → W p l e rmX0_row s m args below meth c H locs 0 0 (T_Mi D a cc A below args s r σr) (F0 m 0 ls []) := by
  obtain ⟨hx, hb, hr, hml, hown, hts, hin, hK, hlocks, hTS, hl0⟩ := id C
  intro hP hD hS hl
  refine lv_iload_n hx hb dX0_row_0 rfl (lv_at hl 0 rfl) ?_
  refine lv_bipush (v := (9 : Int32)) hx hb dX0_row_1 (by decide) ?_
  refine lv_imul hx hb dX0_row_3 ?_
  refine lv_iload_n hx hb dX0_row_4 rfl (lv_at hl 1 rfl) ?_
  refine lv_iadd hx hb dX0_row_5 ?_
  refine lv_bipush (v := (8 : Int32)) hx hb dX0_row_6 (by decide) ?_
  refine lv_imul hx hb dX0_row_8 ?_
  exact T_iret C h hP hD hS dX0_row_9
set_option maxRecDepth 100000 in
theorem kX0_row {l : Launch} (hl0 : l.stackTraces = false) (sz : Nat) {st : Nat → Nat} {D : va_G} {a : Nat → Nat} {cc : Nat → ClassId} {N : Nat} {r : Int32} {σr : St} {σ : St} {p0 : Int32} {p1 : Int32} (h : fX0_row N σ p0 p1 = some (r, σr)) : Met l yX0_row ((Cond.code yX0_row cX0_row 2 (some .int) :: WT)) rmX0_row (T_Pc st D a cc [.int p0, .int p1] σ sz) (T_Qi D a cc σ sz r σr) 0 0 (va_A (wT a cc σ) sz) := by
  refine Met.ofW (cc := cX0_row) (maxL := 2) (ret := (some .int)) (by decide) rfl ?_
  intro p e s m args below meth c s₁ B hml hv
  obtain ⟨rfl, hsz, hP, hK, hD0, hTS⟩ := hv
  subst hsz
  have hl := lv_entry ([.int p0, .int p1]) (n := 2) (Nat.le_of_ble_eq_true rfl)
  rw [lg_entry_eq]
  generalize (lg_sl ([.int p0, .int p1]) ++ List.replicate (2 - (lg_sl ([.int p0, .int p1])).length) Slot.unset).toArray = ls at hl ⊢
  exact tX0_row ⟨B.exec, B.bytes, B.returns, hml, findClass_of_methodNamed B.named, atoms_spec (ws := (Cond.code yX0_row cX0_row 2 (some .int) :: WT)) B.pre, (fun w h => List.mem_cons_of_mem _ h), hK, B.notSynchronized, hTS, hl0⟩ (fun q h => Or.inr h) h hP hD0.self va_S.rf hl
set_option maxHeartbeats 4000000 in
set_option maxRecDepth 100000 in
theorem tX0_askedByRule_124 {st : Nat → Nat} {p : Program} {l : Launch} {e : Env} {s : State} {m : MethodId} {args : Array Value} {below : List Frame} {meth : Method} {c : Code} {D : va_G} {a : Nat → Nat} {cc : Nat → ClassId} {A : Nat → Prop} {N : Nat} {r : Int64} {σr : St} {k11 : St → Nat → Int64 → Int32 → Int32 → Int64 → Int32 → Option (Int64 × St)} (C : T_Cx st l A RX0 p s m args meth c D cc cX0_askedByRule (Cond.code yX0_askedByRule cX0_askedByRule 11 (some .long) :: WT) 11 (some .long)) (hA : ∀ q, s.heap.size ≤ q → A q) (hk11 : ∀ {σ : St} {n1 : Nat} {x2 : Int64} {x4 : Int32} {x5 : Int32} {x6 : Int64} {x8 : Int32} {H : Heap} {locs : List Loc} {ls : Array Slot}, k11 σ n1 x2 x4 x5 x6 x8 = some (r, σr) → va_P D vwCl (wT a cc σ) H → va_D A (wT a cc σ) → va_S A s.heap H locs → lv_has ls 11 [(0, .ref (a 59)), (1, .ref (a (200 + n1))), (2, .long x2), (4, .int x4), (5, .int x5), (6, .long x6), (8, .int x8)] → W p l e rmX0_askedByRule s m args below meth c H locs 0 0 (T_Ml D a cc A below args s r σr) (F0 m 11 ls [])) {σ : St} {n1 : Nat} {x2 : Int64} {x4 : Int32} {x5 : Int32} {x8 : Int32} {y0 : Int64} {y1 : Int64} {H : Heap} {locs : List Loc} {ls : Array Slot} (h : fX0_askedByRule_124 N k11 σ n1 x2 x4 x5 x8 y0 y1 = some (r, σr)) : va_P D vwCl (wT a cc σ) H → va_D A (wT a cc σ) → va_S A s.heap H locs → lv_has ls 11 [(0, .ref (a 59)), (1, .ref (a (200 + n1))), (2, .long x2), (4, .int x4), (5, .int x5), (8, .int x8)] → W p l e rmX0_askedByRule s m args below meth c H locs 0 0 (T_Ml D a cc A below args s r σr) (F0 m 124 ls [.long y0, .long y1]) := by
  obtain ⟨hx, hb, hr, hml, hown, hts, hin, hK, hlocks, hTS, hl0⟩ := id C
  intro hP hD hS hl
  refine lv_land hx hb dX0_askedByRule_124 ?_
  obtain ⟨u25, eu25, h⟩ := letS_n h
  refine lv_topF eu25 ?_
  refine lv_lstore (lv' := [(6, .long u25), (0, .ref (a 59)), (1, .ref (a (200 + n1))), (2, .long x2), (4, .int x4), (5, .int x5), (8, .int x8)]) hx hb dX0_askedByRule_125 hl (by decide) rfl (fun ls hl => ?_)
  obtain ⟨u26, eu26, h⟩ := letS_n h
  refine lv_iinc (v := u26) (lv' := [(8, .int u26), (6, .long u25), (0, .ref (a 59)), (1, .ref (a (200 + n1))), (2, .long x2), (4, .int x4), (5, .int x5)]) hx hb dX0_askedByRule_127 hl (k := 6) rfl (by rw [eu26]; rfl) (by decide) rfl (fun ls hl => ?_)
  refine lv_goto (tgt := 11) hx hb dX0_askedByRule_130 (by decide) ?_
  exact hk11 h hP hD hS (lv_sub hl [2, 3, 4, 5, 6, 1, 0] rfl)
set_option maxHeartbeats 4000000 in
set_option maxRecDepth 100000 in
theorem tX0_askedByRule_85 {st : Nat → Nat} {p : Program} {l : Launch} {e : Env} {s : State} {m : MethodId} {args : Array Value} {below : List Frame} {meth : Method} {c : Code} {D : va_G} {a : Nat → Nat} {cc : Nat → ClassId} {A : Nat → Prop} {N : Nat} {r : Int64} {σr : St} {k11 : St → Nat → Int64 → Int32 → Int32 → Int64 → Int32 → Option (Int64 × St)} (C : T_Cx st l A RX0 p s m args meth c D cc cX0_askedByRule (Cond.code yX0_askedByRule cX0_askedByRule 11 (some .long) :: WT) 11 (some .long)) (hA : ∀ q, s.heap.size ≤ q → A q) (hk11 : ∀ {σ : St} {n1 : Nat} {x2 : Int64} {x4 : Int32} {x5 : Int32} {x6 : Int64} {x8 : Int32} {H : Heap} {locs : List Loc} {ls : Array Slot}, k11 σ n1 x2 x4 x5 x6 x8 = some (r, σr) → va_P D vwCl (wT a cc σ) H → va_D A (wT a cc σ) → va_S A s.heap H locs → lv_has ls 11 [(0, .ref (a 59)), (1, .ref (a (200 + n1))), (2, .long x2), (4, .int x4), (5, .int x5), (6, .long x6), (8, .int x8)] → W p l e rmX0_askedByRule s m args below meth c H locs 0 0 (T_Ml D a cc A below args s r σr) (F0 m 11 ls [])) {σ : St} {n1 : Nat} {x2 : Int64} {x4 : Int32} {x5 : Int32} {x6 : Int64} {x8 : Int32} {x9 : Int64} {H : Heap} {locs : List Loc} {ls : Array Slot} (h : fX0_askedByRule_85 N k11 σ n1 x2 x4 x5 x6 x8 x9 = some (r, σr)) : va_P D vwCl (wT a cc σ) H → va_D A (wT a cc σ) → va_S A s.heap H locs → lv_has ls 11 [(0, .ref (a 59)), (1, .ref (a (200 + n1))), (2, .long x2), (4, .int x4), (5, .int x5), (6, .long x6), (8, .int x8), (9, .long x9)] → W p l e rmX0_askedByRule s m args below meth c H locs 0 0 (T_Ml D a cc A below args s r σr) (F0 m 85 ls []) := by
  obtain ⟨hx, hb, hr, hml, hown, hts, hin, hK, hlocks, hTS, hl0⟩ := id C
  intro hP hD hS hl
  refine lv_aload_n hx hb dX0_askedByRule_85 rfl (lv_at hl 0 rfl) ?_
  refine T_gfX0_15 C hP dX0_askedByRule_86 ?_
  refine lv_iload hx hb dX0_askedByRule_89 (lv_at hl 3 rfl) ?_
  refine lv_iload hx hb dX0_askedByRule_91 (lv_at hl 6 rfl) ?_
  obtain ⟨r18, σ17, hc, h⟩ := bnd_s h
  refine T_callSi (As := [.int x4, .int x8]) (rest := [.ref (a 51)]) C hA (fun sz => kX0_row hl0 sz hc) gX0_52 hP hD hS ⟨by decide, by decide⟩ ⟨rfl, rfl⟩ rfl hl.1 rfl (lv_room (Nat.le_of_ble_eq_true rfl)) dX0_askedByRule_93 (fun H locs hP hD hS => ?_)
  refine lv_iload hx hb dX0_askedByRule_96 (lv_at hl 4 rfl) ?_
  refine lv_iadd hx hb dX0_askedByRule_98 ?_
  refine lv_lload hx hb dX0_askedByRule_99 (lv_at hl 7 rfl) ?_
  obtain ⟨g19, h⟩ := grd_s h
  obtain ⟨σ20, eσ20, h⟩ := letS_n h
  refine T_st51 C hP hD hS g19 eσ20 dX0_askedByRule_101 (fun H locs hP hD hS => ?_)
  refine lv_lload hx hb dX0_askedByRule_102 (lv_at hl 5 rfl) ?_
  refine lv_aload_n hx hb dX0_askedByRule_104 rfl (lv_at hl 1 rfl) ?_
  obtain ⟨g21, h⟩ := grd_s h
  refine T_gfX0_105 C hP g21 dX0_askedByRule_105 ?_
  refine lv_iload hx hb dX0_askedByRule_108 (lv_at hl 6 rfl) ?_
  obtain ⟨r23, σ22, hc, h⟩ := bnd_s h
  refine T_callTi (As := [.int (gI σ20 37 (n1)), .int x8]) (rest := [.long x6]) C hA (fun sz => kX8_has hl0 sz hc) gX0_82 hP hD hS ⟨by decide, by decide⟩ ⟨rfl, rfl⟩ rfl hl.1 rfl (lv_room (Nat.le_of_ble_eq_true rfl)) dX0_askedByRule_110 (fun H locs hP hD hS => ?_)
  refine lv_if_eq (tgt := 121) hx hb dX0_askedByRule_113 (by decide) (fun c24 => ?_) (fun c24 => ?_)
  · have h := ifT c24 h
    refine lv_ldc2 (v := (-1 : Int64)) hx hb hown (hts (.constantLong RX0 59 (-1)) (by decide +kernel)) dX0_askedByRule_121 ?_
    exact tX0_askedByRule_124 C hA hk11 h hP hD hS (lv_sub hl [0, 1, 2, 3, 4, 6] rfl)
  · have h := ifF c24 h
    refine lv_lload hx hb dX0_askedByRule_116 (lv_at hl 7 rfl) ?_
    refine lv_goto (tgt := 124) hx hb dX0_askedByRule_118 (by decide) ?_
    exact tX0_askedByRule_124 C hA hk11 h hP hD hS (lv_sub hl [0, 1, 2, 3, 4, 6] rfl)
set_option maxHeartbeats 4000000 in
set_option maxRecDepth 100000 in
theorem tX0_askedByRule_82 {st : Nat → Nat} {p : Program} {l : Launch} {e : Env} {s : State} {m : MethodId} {args : Array Value} {below : List Frame} {meth : Method} {c : Code} {D : va_G} {a : Nat → Nat} {cc : Nat → ClassId} {A : Nat → Prop} {N : Nat} {r : Int64} {σr : St} {k11 : St → Nat → Int64 → Int32 → Int32 → Int64 → Int32 → Option (Int64 × St)} (C : T_Cx st l A RX0 p s m args meth c D cc cX0_askedByRule (Cond.code yX0_askedByRule cX0_askedByRule 11 (some .long) :: WT) 11 (some .long)) (hA : ∀ q, s.heap.size ≤ q → A q) (hk11 : ∀ {σ : St} {n1 : Nat} {x2 : Int64} {x4 : Int32} {x5 : Int32} {x6 : Int64} {x8 : Int32} {H : Heap} {locs : List Loc} {ls : Array Slot}, k11 σ n1 x2 x4 x5 x6 x8 = some (r, σr) → va_P D vwCl (wT a cc σ) H → va_D A (wT a cc σ) → va_S A s.heap H locs → lv_has ls 11 [(0, .ref (a 59)), (1, .ref (a (200 + n1))), (2, .long x2), (4, .int x4), (5, .int x5), (6, .long x6), (8, .int x8)] → W p l e rmX0_askedByRule s m args below meth c H locs 0 0 (T_Ml D a cc A below args s r σr) (F0 m 11 ls [])) {σ : St} {n1 : Nat} {x2 : Int64} {x4 : Int32} {x5 : Int32} {x6 : Int64} {x8 : Int32} {y0 : Int64} {y1 : Int64} {H : Heap} {locs : List Loc} {ls : Array Slot} (h : fX0_askedByRule_82 N k11 σ n1 x2 x4 x5 x6 x8 y0 y1 = some (r, σr)) : va_P D vwCl (wT a cc σ) H → va_D A (wT a cc σ) → va_S A s.heap H locs → lv_has ls 11 [(0, .ref (a 59)), (1, .ref (a (200 + n1))), (2, .long x2), (4, .int x4), (5, .int x5), (6, .long x6), (8, .int x8)] → W p l e rmX0_askedByRule s m args below meth c H locs 0 0 (T_Ml D a cc A below args s r σr) (F0 m 82 ls [.long y0, .long y1]) := by
  obtain ⟨hx, hb, hr, hml, hown, hts, hin, hK, hlocks, hTS, hl0⟩ := id C
  intro hP hD hS hl
  refine lv_land hx hb dX0_askedByRule_82 ?_
  obtain ⟨u16, eu16, h⟩ := letS_n h
  refine lv_topF eu16 ?_
  refine lv_lstore (lv' := [(9, .long u16), (0, .ref (a 59)), (1, .ref (a (200 + n1))), (2, .long x2), (4, .int x4), (5, .int x5), (6, .long x6), (8, .int x8)]) hx hb dX0_askedByRule_83 hl (by decide) rfl (fun ls hl => ?_)
  exact tX0_askedByRule_85 C hA hk11 h hP hD hS (lv_sub hl [1, 2, 3, 4, 5, 6, 7, 0] rfl)
set_option maxHeartbeats 4000000 in
set_option maxRecDepth 100000 in
theorem tX0_askedByRule_11 {st : Nat → Nat} {p : Program} {l : Launch} {e : Env} {s : State} {m : MethodId} {args : Array Value} {below : List Frame} {meth : Method} {c : Code} {D : va_G} {a : Nat → Nat} {cc : Nat → ClassId} {A : Nat → Prop} {N : Nat} {r : Int64} {σr : St} (C : T_Cx st l A RX0 p s m args meth c D cc cX0_askedByRule (Cond.code yX0_askedByRule cX0_askedByRule 11 (some .long) :: WT) 11 (some .long)) (hA : ∀ q, s.heap.size ≤ q → A q) : ∀ (n : Nat) {σ : St} {n1 : Nat} {x2 : Int64} {x4 : Int32} {x5 : Int32} {x6 : Int64} {x8 : Int32} {H : Heap} {locs : List Loc} {ls : Array Slot}, fX0_askedByRule_11 N n σ n1 x2 x4 x5 x6 x8 = some (r, σr) → va_P D vwCl (wT a cc σ) H → va_D A (wT a cc σ) → va_S A s.heap H locs → lv_has ls 11 [(0, .ref (a 59)), (1, .ref (a (200 + n1))), (2, .long x2), (4, .int x4), (5, .int x5), (6, .long x6), (8, .int x8)] → W p l e rmX0_askedByRule s m args below meth c H locs 0 0 (T_Ml D a cc A below args s r σr) (F0 m 11 ls []) := by
  obtain ⟨hx, hb, hr, hml, hown, hts, hin, hK, hlocks, hTS, hl0⟩ := id C
  intro n
  induction n with
  | zero => intro σ n1 x2 x4 x5 x6 x8 H locs ls h; exact none_s h
  | succ n ih =>
    intro σ n1 x2 x4 x5 x6 x8 H locs ls h hP hD hS hl
    refine lv_iload hx hb dX0_askedByRule_11 (lv_at hl 6 rfl) ?_
    refine lv_aload_n hx hb dX0_askedByRule_13 rfl (lv_at hl 1 rfl) ?_
    obtain ⟨g3, h⟩ := grd_s h
    refine T_gfX0_89 C hP g3 dX0_askedByRule_14 ?_
    refine lv_icmp_ge (tgt := 133) hx hb dX0_askedByRule_17 (by decide) (fun c4 => ?_) (fun c4 => ?_)
    · have h := ifT c4 h
      refine lv_lload hx hb dX0_askedByRule_133 (lv_at hl 5 rfl) ?_
      exact T_lret C h hP hD hS dX0_askedByRule_135
    · have h := ifF c4 h
      refine lv_ldc2 (v := (-1 : Int64)) hx hb hown (hts (.constantLong RX0 59 (-1)) (by decide +kernel)) dX0_askedByRule_20 ?_
      refine lv_lstore (lv' := [(9, .long (-1 : Int64)), (0, .ref (a 59)), (1, .ref (a (200 + n1))), (2, .long x2), (4, .int x4), (5, .int x5), (6, .long x6), (8, .int x8)]) hx hb dX0_askedByRule_23 hl (by decide) rfl (fun ls hl => ?_)
      refine lv_aload_n hx hb dX0_askedByRule_25 rfl (lv_at hl 1 rfl) ?_
      refine T_gfX0_9 C hP dX0_askedByRule_26 ?_
      refine T_gfX0_92 C hP dX0_askedByRule_29 ?_
      refine lv_iload hx hb dX0_askedByRule_32 (lv_at hl 7 rfl) ?_
      obtain ⟨g5, h⟩ := grd_s h
      refine T_ld24 C hP g5 dX0_askedByRule_34 ?_
      refine lv_iload hx hb dX0_askedByRule_35 (lv_at hl 4 rfl) ?_
      obtain ⟨r7, σ6, hc, h⟩ := bnd_s h
      refine T_callTi (As := [.int (gI σ 24 x8.toNatClampNeg), .int x4]) (rest := []) C hA (fun sz => kX8_has hl0 sz hc) gX0_82 hP hD hS ⟨by decide, by decide⟩ ⟨rfl, rfl⟩ rfl hl.1 rfl (lv_room (Nat.le_of_ble_eq_true rfl)) dX0_askedByRule_37 (fun H locs hP hD hS => ?_)
      refine lv_if_eq (tgt := 85) hx hb dX0_askedByRule_40 (by decide) (fun c8 => ?_) (fun c8 => ?_)
      · have h := ifT c8 h
        exact tX0_askedByRule_85 C hA ih h hP hD hS (lv_sub hl [1, 2, 3, 4, 5, 6, 7, 0] rfl)
      · have h := ifF c8 h
        refine lv_aload_n hx hb dX0_askedByRule_43 rfl (lv_at hl 1 rfl) ?_
        refine lv_aload_n hx hb dX0_askedByRule_44 rfl (lv_at hl 1 rfl) ?_
        refine T_gfX0_9 C hP dX0_askedByRule_45 ?_
        refine T_gfX0_96 C hP dX0_askedByRule_48 ?_
        refine lv_iload hx hb dX0_askedByRule_51 (lv_at hl 7 rfl) ?_
        obtain ⟨g9, h⟩ := grd_s h
        refine T_ld25 C hP g9 dX0_askedByRule_53 ?_
        refine lv_iload hx hb dX0_askedByRule_54 (lv_at hl 5 rfl) ?_
        obtain ⟨r11, σ10, hc, h⟩ := bnd_s h
        refine T_callVl (q0 := 7) (ci := 4) (As := [.int (gI σ6 25 x8.toNatClampNeg), .int x5]) (rest := []) C hA (fun sz => kX0_withAll hl0 sz hc) gX0_99 hP hD hS rfl rfl ⟨by decide, by decide⟩ ⟨rfl, rfl⟩ rfl hl.1 rfl (lv_room (Nat.le_of_ble_eq_true rfl)) dX0_askedByRule_56 (fun H locs hP hD hS => ?_)
        refine lv_lstore (lv' := [(9, .long r11), (0, .ref (a 59)), (1, .ref (a (200 + n1))), (2, .long x2), (4, .int x4), (5, .int x5), (6, .long x6), (8, .int x8)]) hx hb dX0_askedByRule_59 hl (by decide) rfl (fun ls hl => ?_)
        refine lv_lload hx hb dX0_askedByRule_61 (lv_at hl 0 rfl) ?_
        refine lv_aload_n hx hb dX0_askedByRule_63 rfl (lv_at hl 2 rfl) ?_
        obtain ⟨g12, h⟩ := grd_s h
        refine T_gfX0_102 C hP g12 dX0_askedByRule_64 ?_
        refine lv_iload hx hb dX0_askedByRule_67 (lv_at hl 7 rfl) ?_
        obtain ⟨r14, σ13, hc, h⟩ := bnd_s h
        refine T_callTi (As := [.int (gI σ10 38 (n1)), .int x8]) (rest := [.long r11]) C hA (fun sz => kX8_has hl0 sz hc) gX0_82 hP hD hS ⟨by decide, by decide⟩ ⟨rfl, rfl⟩ rfl hl.1 rfl (lv_room (Nat.le_of_ble_eq_true rfl)) dX0_askedByRule_69 (fun H locs hP hD hS => ?_)
        refine lv_if_eq (tgt := 79) hx hb dX0_askedByRule_72 (by decide) (fun c15 => ?_) (fun c15 => ?_)
        · have h := ifT c15 h
          refine lv_ldc2 (v := (-1 : Int64)) hx hb hown (hts (.constantLong RX0 59 (-1)) (by decide +kernel)) dX0_askedByRule_79 ?_
          exact tX0_askedByRule_82 C hA ih h hP hD hS (lv_sub hl [1, 2, 3, 4, 5, 6, 7] rfl)
        · have h := ifF c15 h
          refine lv_lload_n hx hb dX0_askedByRule_75 rfl (lv_at hl 3 rfl) ?_
          refine lv_goto (tgt := 82) hx hb dX0_askedByRule_76 (by decide) ?_
          exact tX0_askedByRule_82 C hA ih h hP hD hS (lv_sub hl [1, 2, 3, 4, 5, 6, 7] rfl)
set_option maxHeartbeats 4000000 in
set_option maxRecDepth 100000 in
theorem tX0_askedByRule {st : Nat → Nat} {p : Program} {l : Launch} {e : Env} {s : State} {m : MethodId} {args : Array Value} {below : List Frame} {meth : Method} {c : Code} {D : va_G} {a : Nat → Nat} {cc : Nat → ClassId} {A : Nat → Prop} {N : Nat} {r : Int64} {σr : St} (C : T_Cx st l A RX0 p s m args meth c D cc cX0_askedByRule (Cond.code yX0_askedByRule cX0_askedByRule 11 (some .long) :: WT) 11 (some .long)) (hA : ∀ q, s.heap.size ≤ q → A q) {σ : St} {p0 : Nat} {p1 : Int64} {p2 : Int32} {p3 : Int32} {H : Heap} {locs : List Loc} {ls : Array Slot} (h : fX0_askedByRule N σ p0 p1 p2 p3 = some (r, σr)) : va_P D vwCl (wT a cc σ) H → va_D A (wT a cc σ) → va_S A s.heap H locs → lv_has ls 11 [(0, .ref (a 59)), (1, .ref (a (200 + p0))), (2, .long p1), (4, .int p2), (5, .int p3)] → W p l e rmX0_askedByRule s m args below meth c H locs 0 0 (T_Ml D a cc A below args s r σr) (F0 m 0 ls []) := by
  obtain ⟨hx, hb, hr, hml, hown, hts, hin, hK, hlocks, hTS, hl0⟩ := id C
  intro hP hD hS hl
  refine lv_ldc2 (v := (-1 : Int64)) hx hb hown (hts (.constantLong RX0 59 (-1)) (by decide +kernel)) dX0_askedByRule_0 ?_
  refine lv_lstore (lv' := [(6, .long (-1 : Int64)), (0, .ref (a 59)), (1, .ref (a (200 + p0))), (2, .long p1), (4, .int p2), (5, .int p3)]) hx hb dX0_askedByRule_3 hl (by decide) rfl (fun ls hl => ?_)
  refine lv_aload_n hx hb dX0_askedByRule_5 rfl (lv_at hl 2 rfl) ?_
  obtain ⟨g1, h⟩ := grd_s h
  refine T_gfX0_86 C hP g1 dX0_askedByRule_6 ?_
  obtain ⟨u2, eu2, h⟩ := letS_n h
  refine lv_topE eu2 ?_
  refine lv_istore (lv' := [(8, .int u2), (6, .long (-1 : Int64)), (0, .ref (a 59)), (1, .ref (a (200 + p0))), (2, .long p1), (4, .int p2), (5, .int p3)]) hx hb dX0_askedByRule_9 hl (by decide) rfl (fun ls hl => ?_)
  exact tX0_askedByRule_11 C hA N h hP hD hS (lv_sub hl [2, 3, 4, 5, 6, 1, 0] rfl)
set_option maxRecDepth 100000 in
theorem kX0_askedByRule {l : Launch} (hl0 : l.stackTraces = false) (sz : Nat) {st : Nat → Nat} {D : va_G} {a : Nat → Nat} {cc : Nat → ClassId} {N : Nat} {r : Int64} {σr : St} {σ : St} {p0 : Nat} {p1 : Int64} {p2 : Int32} {p3 : Int32} (h : fX0_askedByRule N σ p0 p1 p2 p3 = some (r, σr)) : Met l yX0_askedByRule ((Cond.code yX0_askedByRule cX0_askedByRule 11 (some .long) :: WT)) rmX0_askedByRule (T_Pc st D a cc [.ref (a 59), .ref (a (200 + p0)), .long p1, .int p2, .int p3] σ sz) (T_Ql D a cc σ sz r σr) 0 0 (va_A (wT a cc σ) sz) := by
  refine Met.ofW (cc := cX0_askedByRule) (maxL := 11) (ret := (some .long)) (by decide) rfl ?_
  intro p e s m args below meth c s₁ B hml hv
  obtain ⟨rfl, hsz, hP, hK, hD0, hTS⟩ := hv
  subst hsz
  have hl := lv_entry ([.ref (a 59), .ref (a (200 + p0)), .long p1, .int p2, .int p3]) (n := 11) (Nat.le_of_ble_eq_true rfl)
  rw [lg_entry_eq]
  generalize (lg_sl ([.ref (a 59), .ref (a (200 + p0)), .long p1, .int p2, .int p3]) ++ List.replicate (11 - (lg_sl ([.ref (a 59), .ref (a (200 + p0)), .long p1, .int p2, .int p3])).length) Slot.unset).toArray = ls at hl ⊢
  exact tX0_askedByRule ⟨B.exec, B.bytes, B.returns, hml, findClass_of_methodNamed B.named, atoms_spec (ws := (Cond.code yX0_askedByRule cX0_askedByRule 11 (some .long) :: WT)) B.pre, (fun w h => List.mem_cons_of_mem _ h), hK, B.notSynchronized, hTS, hl0⟩ (fun q h => Or.inr h) h hP hD0.self va_S.rf hl
set_option maxHeartbeats 4000000 in
set_option maxRecDepth 100000 in
theorem tX0_askedByNode {st : Nat → Nat} {p : Program} {l : Launch} {e : Env} {s : State} {m : MethodId} {args : Array Value} {below : List Frame} {meth : Method} {c : Code} {D : va_G} {a : Nat → Nat} {cc : Nat → ClassId} {A : Nat → Prop} {N : Nat} {r : Int64} {σr : St} (C : T_Cx st l A RX0 p s m args meth c D cc cX0_askedByNode (Cond.code yX0_askedByNode cX0_askedByNode 4 (some .long) :: WT) 4 (some .long)) (hA : ∀ q, s.heap.size ≤ q → A q) {σ : St} {p0 : Nat} {p1 : Int32} {p2 : Int32} {H : Heap} {locs : List Loc} {ls : Array Slot} (h : fX0_askedByNode N σ p0 p1 p2 = some (r, σr)) : va_P D vwCl (wT a cc σ) H → va_D A (wT a cc σ) → va_S A s.heap H locs → lv_has ls 4 [(0, .ref (a 59)), (1, .ref (a (200 + p0))), (2, .int p1), (3, .int p2)] → W p l e rmX0_askedByNode s m args below meth c H locs 0 0 (T_Ml D a cc A below args s r σr) (F0 m 0 ls []) := by
  obtain ⟨hx, hb, hr, hml, hown, hts, hin, hK, hlocks, hTS, hl0⟩ := id C
  intro hP hD hS hl
  refine lv_aload_n hx hb dX0_askedByNode_0 rfl (lv_at hl 1 rfl) ?_
  obtain ⟨g1, h⟩ := grd_s h
  refine T_gfX0_61 C hP g1 dX0_askedByNode_1 ?_
  by_cases c2 : (gI σ 30 (p0)) = (38 : Int32)
  · have h := ifT c2 h
    refine lv_lookup (tgt := 111) hx hb dX0_askedByNode_4 (by decide) (by rw [c2] <;> rfl) (by decide) ?_
    refine lv_aload_n hx hb dX0_askedByNode_111 rfl (lv_at hl 0 rfl) ?_
    refine T_gfX0_19 C hP dX0_askedByNode_112 ?_
    refine lv_aload_n hx hb dX0_askedByNode_115 rfl (lv_at hl 1 rfl) ?_
    obtain ⟨g3, h⟩ := grd_s h
    refine T_gfX0_65 C hP g3 dX0_askedByNode_116 ?_
    obtain ⟨g4, h⟩ := grd_s h
    refine T_ld52 C hP g4 dX0_askedByNode_119 ?_
    refine lv_aload_n hx hb dX0_askedByNode_120 rfl (lv_at hl 0 rfl) ?_
    refine T_gfX0_19 C hP dX0_askedByNode_121 ?_
    refine lv_aload_n hx hb dX0_askedByNode_124 rfl (lv_at hl 1 rfl) ?_
    obtain ⟨g5, h⟩ := grd_s h
    refine T_gfX0_72 C hP g5 dX0_askedByNode_125 ?_
    obtain ⟨g6, h⟩ := grd_s h
    refine T_ld52 C hP g6 dX0_askedByNode_128 ?_
    refine lv_land hx hb dX0_askedByNode_129 ?_
    exact T_lret C h hP hD hS dX0_askedByNode_130
  · have h := ifF c2 h
    by_cases c7 : (gI σ 30 (p0)) = (58 : Int32)
    · have h := ifT c7 h
      refine lv_lookup (tgt := 197) hx hb dX0_askedByNode_4 (by decide) (by rw [c7] <;> rfl) (by decide) ?_
      refine lv_aload_n hx hb dX0_askedByNode_197 rfl (lv_at hl 0 rfl) ?_
      refine lv_aload_n hx hb dX0_askedByNode_198 rfl (lv_at hl 1 rfl) ?_
      refine lv_aload_n hx hb dX0_askedByNode_199 rfl (lv_at hl 0 rfl) ?_
      refine T_gfX0_9 C hP dX0_askedByNode_200 ?_
      refine T_gfX0_39 C hP dX0_askedByNode_203 ?_
      refine lv_aload_n hx hb dX0_askedByNode_206 rfl (lv_at hl 1 rfl) ?_
      obtain ⟨g8, h⟩ := grd_s h
      refine T_gfX0_65 C hP g8 dX0_askedByNode_207 ?_
      obtain ⟨g9, h⟩ := grd_s h
      refine T_ldN C hP g9 dX0_askedByNode_210 ?_
      obtain ⟨g10, h⟩ := grd_s h
      refine T_gfX0_47 C hP g10 dX0_askedByNode_211 ?_
      refine lv_iload_n hx hb dX0_askedByNode_214 rfl (lv_at hl 3 rfl) ?_
      obtain ⟨r12, σ11, hc, h⟩ := bnd_s h
      refine T_callSl (As := [.int (gI σ 33 ((gI σ 31 (p0)).toNatClampNeg)), .int p2]) (rest := [.ref (a (200 + p0)), .ref (a 59)]) C hA (fun sz => kX0_with hl0 sz hc) gX0_68 hP hD hS ⟨by decide, by decide⟩ ⟨rfl, rfl⟩ rfl hl.1 rfl (lv_room (Nat.le_of_ble_eq_true rfl)) dX0_askedByNode_215 (fun H locs hP hD hS => ?_)
      refine lv_iload_n hx hb dX0_askedByNode_218 rfl (lv_at hl 2 rfl) ?_
      refine lv_iload_n hx hb dX0_askedByNode_219 rfl (lv_at hl 3 rfl) ?_
      obtain ⟨r14, σ13, hc, h⟩ := bnd_s h
      refine T_callVl (q0 := 7) (ci := 4) (As := [.ref (a (200 + p0)), .long r12, .int p1, .int p2]) (rest := []) C hA (fun sz => kX0_askedByRule hl0 sz hc) gX0_75 hP hD hS rfl rfl ⟨by decide, by decide⟩ ⟨rfl, rfl⟩ rfl hl.1 rfl (lv_room (Nat.le_of_ble_eq_true rfl)) dX0_askedByNode_220 (fun H locs hP hD hS => ?_)
      exact T_lret C h hP hD hS dX0_askedByNode_223
    · have h := ifF c7 h
      by_cases c15 : (gI σ 30 (p0)) = (62 : Int32)
      · have h := ifT c15 h
        refine lv_lookup (tgt := 180) hx hb dX0_askedByNode_4 (by decide) (by rw [c15] <;> rfl) (by decide) ?_
        refine lv_aload_n hx hb dX0_askedByNode_180 rfl (lv_at hl 0 rfl) ?_
        refine lv_aload_n hx hb dX0_askedByNode_181 rfl (lv_at hl 1 rfl) ?_
        refine lv_aload_n hx hb dX0_askedByNode_182 rfl (lv_at hl 0 rfl) ?_
        refine T_gfX0_19 C hP dX0_askedByNode_183 ?_
        refine lv_aload_n hx hb dX0_askedByNode_186 rfl (lv_at hl 1 rfl) ?_
        obtain ⟨g16, h⟩ := grd_s h
        refine T_gfX0_65 C hP g16 dX0_askedByNode_187 ?_
        obtain ⟨g17, h⟩ := grd_s h
        refine T_ld52 C hP g17 dX0_askedByNode_190 ?_
        refine lv_iload_n hx hb dX0_askedByNode_191 rfl (lv_at hl 2 rfl) ?_
        refine lv_iload_n hx hb dX0_askedByNode_192 rfl (lv_at hl 3 rfl) ?_
        obtain ⟨r19, σ18, hc, h⟩ := bnd_s h
        refine T_callVl (q0 := 7) (ci := 4) (As := [.ref (a (200 + p0)), .long (gL σ 52 (gI σ 31 (p0)).toNatClampNeg), .int p1, .int p2]) (rest := []) C hA (fun sz => kX0_askedByRule hl0 sz hc) gX0_75 hP hD hS rfl rfl ⟨by decide, by decide⟩ ⟨rfl, rfl⟩ rfl hl.1 rfl (lv_room (Nat.le_of_ble_eq_true rfl)) dX0_askedByNode_193 (fun H locs hP hD hS => ?_)
        exact T_lret C h hP hD hS dX0_askedByNode_196
      · have h := ifF c15 h
        by_cases c20 : (gI σ 30 (p0)) = (71 : Int32)
        · have h := ifT c20 h
          refine lv_lookup (tgt := 92) hx hb dX0_askedByNode_4 (by decide) (by rw [c20] <;> rfl) (by decide) ?_
          refine lv_aload_n hx hb dX0_askedByNode_92 rfl (lv_at hl 0 rfl) ?_
          refine T_gfX0_19 C hP dX0_askedByNode_93 ?_
          refine lv_aload_n hx hb dX0_askedByNode_96 rfl (lv_at hl 1 rfl) ?_
          obtain ⟨g21, h⟩ := grd_s h
          refine T_gfX0_65 C hP g21 dX0_askedByNode_97 ?_
          obtain ⟨g22, h⟩ := grd_s h
          refine T_ld52 C hP g22 dX0_askedByNode_100 ?_
          refine lv_aload_n hx hb dX0_askedByNode_101 rfl (lv_at hl 1 rfl) ?_
          obtain ⟨g23, h⟩ := grd_s h
          refine T_gfX0_47 C hP g23 dX0_askedByNode_102 ?_
          refine lv_iload_n hx hb dX0_askedByNode_105 rfl (lv_at hl 3 rfl) ?_
          obtain ⟨r25, σ24, hc, h⟩ := bnd_s h
          refine T_callSl (As := [.int (gI σ 33 (p0)), .int p2]) (rest := [.long (gL σ 52 (gI σ 31 (p0)).toNatClampNeg)]) C hA (fun sz => kX0_with hl0 sz hc) gX0_68 hP hD hS ⟨by decide, by decide⟩ ⟨rfl, rfl⟩ rfl hl.1 rfl (lv_room (Nat.le_of_ble_eq_true rfl)) dX0_askedByNode_106 (fun H locs hP hD hS => ?_)
          refine lv_land hx hb dX0_askedByNode_109 ?_
          exact T_lret C h hP hD hS dX0_askedByNode_110
        · have h := ifF c20 h
          by_cases c26 : (gI σ 30 (p0)) = (87 : Int32)
          · have h := ifT c26 h
            refine lv_lookup (tgt := 151) hx hb dX0_askedByNode_4 (by decide) (by rw [c26] <;> rfl) (by decide) ?_
            refine lv_aload_n hx hb dX0_askedByNode_151 rfl (lv_at hl 0 rfl) ?_
            refine T_gfX0_19 C hP dX0_askedByNode_152 ?_
            refine lv_aload_n hx hb dX0_askedByNode_155 rfl (lv_at hl 1 rfl) ?_
            obtain ⟨g27, h⟩ := grd_s h
            refine T_gfX0_72 C hP g27 dX0_askedByNode_156 ?_
            obtain ⟨g28, h⟩ := grd_s h
            refine T_ld52 C hP g28 dX0_askedByNode_159 ?_
            refine lv_aload_n hx hb dX0_askedByNode_160 rfl (lv_at hl 0 rfl) ?_
            refine T_gfX0_19 C hP dX0_askedByNode_161 ?_
            refine lv_aload_n hx hb dX0_askedByNode_164 rfl (lv_at hl 1 rfl) ?_
            obtain ⟨g29, h⟩ := grd_s h
            refine T_gfX0_65 C hP g29 dX0_askedByNode_165 ?_
            obtain ⟨g30, h⟩ := grd_s h
            refine T_ld52 C hP g30 dX0_askedByNode_168 ?_
            refine lv_aload_n hx hb dX0_askedByNode_169 rfl (lv_at hl 1 rfl) ?_
            obtain ⟨g31, h⟩ := grd_s h
            refine T_gfX0_47 C hP g31 dX0_askedByNode_170 ?_
            refine lv_iload_n hx hb dX0_askedByNode_173 rfl (lv_at hl 3 rfl) ?_
            obtain ⟨r33, σ32, hc, h⟩ := bnd_s h
            refine T_callSl (As := [.int (gI σ 33 (p0)), .int p2]) (rest := [.long (gL σ 52 (gI σ 31 (p0)).toNatClampNeg), .long (gL σ 52 (gI σ 32 (p0)).toNatClampNeg)]) C hA (fun sz => kX0_with hl0 sz hc) gX0_68 hP hD hS ⟨by decide, by decide⟩ ⟨rfl, rfl⟩ rfl hl.1 rfl (lv_room (Nat.le_of_ble_eq_true rfl)) dX0_askedByNode_174 (fun H locs hP hD hS => ?_)
            refine lv_land hx hb dX0_askedByNode_177 ?_
            refine lv_lor hx hb dX0_askedByNode_178 ?_
            exact T_lret C h hP hD hS dX0_askedByNode_179
          · have h := ifF c26 h
            by_cases c34 : (gI σ 30 (p0)) = (88 : Int32)
            · have h := ifT c34 h
              refine lv_lookup (tgt := 72) hx hb dX0_askedByNode_4 (by decide) (by rw [c34] <;> rfl) (by decide) ?_
              refine lv_aload_n hx hb dX0_askedByNode_72 rfl (lv_at hl 0 rfl) ?_
              refine T_gfX0_9 C hP dX0_askedByNode_73 ?_
              refine T_gfX0_39 C hP dX0_askedByNode_76 ?_
              refine lv_aload_n hx hb dX0_askedByNode_79 rfl (lv_at hl 1 rfl) ?_
              obtain ⟨g35, h⟩ := grd_s h
              refine T_gfX0_65 C hP g35 dX0_askedByNode_80 ?_
              obtain ⟨g36, h⟩ := grd_s h
              refine T_ldN C hP g36 dX0_askedByNode_83 ?_
              obtain ⟨g37, h⟩ := grd_s h
              refine T_gfX0_47 C hP g37 dX0_askedByNode_84 ?_
              refine lv_iload_n hx hb dX0_askedByNode_87 rfl (lv_at hl 3 rfl) ?_
              obtain ⟨r39, σ38, hc, h⟩ := bnd_s h
              refine T_callSl (As := [.int (gI σ 33 ((gI σ 31 (p0)).toNatClampNeg)), .int p2]) (rest := []) C hA (fun sz => kX0_with hl0 sz hc) gX0_68 hP hD hS ⟨by decide, by decide⟩ ⟨rfl, rfl⟩ rfl hl.1 rfl (lv_room (Nat.le_of_ble_eq_true rfl)) dX0_askedByNode_88 (fun H locs hP hD hS => ?_)
              exact T_lret C h hP hD hS dX0_askedByNode_91
            · have h := ifF c34 h
              by_cases c40 : (gI σ 30 (p0)) = (124 : Int32)
              · have h := ifT c40 h
                refine lv_lookup (tgt := 131) hx hb dX0_askedByNode_4 (by decide) (by rw [c40] <;> rfl) (by decide) ?_
                refine lv_aload_n hx hb dX0_askedByNode_131 rfl (lv_at hl 0 rfl) ?_
                refine T_gfX0_19 C hP dX0_askedByNode_132 ?_
                refine lv_aload_n hx hb dX0_askedByNode_135 rfl (lv_at hl 1 rfl) ?_
                obtain ⟨g41, h⟩ := grd_s h
                refine T_gfX0_65 C hP g41 dX0_askedByNode_136 ?_
                obtain ⟨g42, h⟩ := grd_s h
                refine T_ld52 C hP g42 dX0_askedByNode_139 ?_
                refine lv_aload_n hx hb dX0_askedByNode_140 rfl (lv_at hl 0 rfl) ?_
                refine T_gfX0_19 C hP dX0_askedByNode_141 ?_
                refine lv_aload_n hx hb dX0_askedByNode_144 rfl (lv_at hl 1 rfl) ?_
                obtain ⟨g43, h⟩ := grd_s h
                refine T_gfX0_72 C hP g43 dX0_askedByNode_145 ?_
                obtain ⟨g44, h⟩ := grd_s h
                refine T_ld52 C hP g44 dX0_askedByNode_148 ?_
                refine lv_lor hx hb dX0_askedByNode_149 ?_
                exact T_lret C h hP hD hS dX0_askedByNode_150
              · have h := ifF c40 h
                have qc2 := i32_ne (v := 38) c2 (by decide)
                have qc7 := i32_ne (v := 58) c7 (by decide)
                have qc15 := i32_ne (v := 62) c15 (by decide)
                have qc20 := i32_ne (v := 71) c20 (by decide)
                have qc26 := i32_ne (v := 87) c26 (by decide)
                have qc34 := i32_ne (v := 88) c34 (by decide)
                have qc40 := i32_ne (v := 124) c40 (by decide)
                refine lv_lookup (tgt := 224) (off := 220) hx hb dX0_askedByNode_4 (by decide) (by simp [Op.lookupswitch.offset, qc2, (qc2).symm, qc7, (qc7).symm, qc15, (qc15).symm, qc20, (qc20).symm, qc26, (qc26).symm, qc34, (qc34).symm, qc40, (qc40).symm]) (by decide) ?_
                refine lv_aload_n hx hb dX0_askedByNode_224 rfl (lv_at hl 1 rfl) ?_
                obtain ⟨g45, h⟩ := grd_s h
                refine T_gfX0_79 C hP g45 dX0_askedByNode_225 ?_
                refine lv_iload_n hx hb dX0_askedByNode_228 rfl (lv_at hl 2 rfl) ?_
                obtain ⟨r47, σ46, hc, h⟩ := bnd_s h
                refine T_callTi (As := [.int (gI σ 34 (p0)), .int p1]) (rest := []) C hA (fun sz => kX8_has hl0 sz hc) gX0_82 hP hD hS ⟨by decide, by decide⟩ ⟨rfl, rfl⟩ rfl hl.1 rfl (lv_room (Nat.le_of_ble_eq_true rfl)) dX0_askedByNode_229 (fun H locs hP hD hS => ?_)
                refine lv_if_eq (tgt := 241) hx hb dX0_askedByNode_232 (by decide) (fun c48 => ?_) (fun c48 => ?_)
                · have h := ifT c48 h
                  refine lv_lconst (v := (0 : Int64)) hx hb dX0_askedByNode_241 (by decide) ?_
                  exact T_lret C h hP hD hS dX0_askedByNode_242
                · have h := ifF c48 h
                  refine lv_ldc2 (v := (-1 : Int64)) hx hb hown (hts (.constantLong RX0 59 (-1)) (by decide +kernel)) dX0_askedByNode_235 ?_
                  refine lv_goto (tgt := 242) hx hb dX0_askedByNode_238 (by decide) ?_
                  exact T_lret C h hP hD hS dX0_askedByNode_242
set_option maxRecDepth 100000 in
theorem kX0_askedByNode {l : Launch} (hl0 : l.stackTraces = false) (sz : Nat) {st : Nat → Nat} {D : va_G} {a : Nat → Nat} {cc : Nat → ClassId} {N : Nat} {r : Int64} {σr : St} {σ : St} {p0 : Nat} {p1 : Int32} {p2 : Int32} (h : fX0_askedByNode N σ p0 p1 p2 = some (r, σr)) : Met l yX0_askedByNode ((Cond.code yX0_askedByNode cX0_askedByNode 4 (some .long) :: WT)) rmX0_askedByNode (T_Pc st D a cc [.ref (a 59), .ref (a (200 + p0)), .int p1, .int p2] σ sz) (T_Ql D a cc σ sz r σr) 0 0 (va_A (wT a cc σ) sz) := by
  refine Met.ofW (cc := cX0_askedByNode) (maxL := 4) (ret := (some .long)) (by decide) rfl ?_
  intro p e s m args below meth c s₁ B hml hv
  obtain ⟨rfl, hsz, hP, hK, hD0, hTS⟩ := hv
  subst hsz
  have hl := lv_entry ([.ref (a 59), .ref (a (200 + p0)), .int p1, .int p2]) (n := 4) (Nat.le_of_ble_eq_true rfl)
  rw [lg_entry_eq]
  generalize (lg_sl ([.ref (a 59), .ref (a (200 + p0)), .int p1, .int p2]) ++ List.replicate (4 - (lg_sl ([.ref (a 59), .ref (a (200 + p0)), .int p1, .int p2])).length) Slot.unset).toArray = ls at hl ⊢
  exact tX0_askedByNode ⟨B.exec, B.bytes, B.returns, hml, findClass_of_methodNamed B.named, atoms_spec (ws := (Cond.code yX0_askedByNode cX0_askedByNode 4 (some .long) :: WT)) B.pre, (fun w h => List.mem_cons_of_mem _ h), hK, B.notSynchronized, hTS, hl0⟩ (fun q h => Or.inr h) h hP hD0.self va_S.rf hl
set_option maxHeartbeats 4000000 in
set_option maxRecDepth 100000 in
theorem tX0_fillWord_69 {st : Nat → Nat} {p : Program} {l : Launch} {e : Env} {s : State} {m : MethodId} {args : Array Value} {below : List Frame} {meth : Method} {c : Code} {D : va_G} {a : Nat → Nat} {cc : Nat → ClassId} {A : Nat → Prop} {N : Nat} {σr : St} {k2 : St → Int32 → Int32 → Int32 → Option St} (C : T_Cx st l A RX0 p s m args meth c D cc cX0_fillWord (Cond.code yX0_fillWord cX0_fillWord 5 none :: WT) 5 none) (hA : ∀ q, s.heap.size ≤ q → A q) (hk2 : ∀ {σ : St} {x1 : Int32} {x2 : Int32} {x3 : Int32} {H : Heap} {locs : List Loc} {ls : Array Slot}, k2 σ x1 x2 x3 = some σr → va_P D vwCl (wT a cc σ) H → va_D A (wT a cc σ) → va_S A s.heap H locs → lv_has ls 5 [(0, .ref (a 59)), (1, .int x1), (2, .int x2), (3, .int x3)] → W p l e rmX0_fillWord s m args below meth c H locs 0 0 (T_Mv D a cc A below args s σr) (F0 m 2 ls [])) {σ : St} {x1 : Int32} {x2 : Int32} {x3 : Int32} {H : Heap} {locs : List Loc} {ls : Array Slot} (h : fX0_fillWord_69 N k2 σ x1 x2 x3 = some σr) : va_P D vwCl (wT a cc σ) H → va_D A (wT a cc σ) → va_S A s.heap H locs → lv_has ls 5 [(0, .ref (a 59)), (1, .int x1), (2, .int x2), (3, .int x3)] → W p l e rmX0_fillWord s m args below meth c H locs 0 0 (T_Mv D a cc A below args s σr) (F0 m 69 ls []) := by
  obtain ⟨hx, hb, hr, hml, hown, hts, hin, hK, hlocks, hTS, hl0⟩ := id C
  intro hP hD hS hl
  obtain ⟨u16, eu16, h⟩ := letS_n h
  refine lv_iinc (v := u16) (lv' := [(3, .int u16), (0, .ref (a 59)), (1, .int x1), (2, .int x2)]) hx hb dX0_fillWord_69 hl (k := 3) rfl (by rw [eu16]; rfl) (by decide) rfl (fun ls hl => ?_)
  refine lv_goto (tgt := 2) hx hb dX0_fillWord_72 (by decide) ?_
  exact hk2 h hP hD hS (lv_sub hl [1, 2, 3, 0] rfl)
set_option maxHeartbeats 4000000 in
set_option maxRecDepth 100000 in
theorem tX0_fillWord_2 {st : Nat → Nat} {p : Program} {l : Launch} {e : Env} {s : State} {m : MethodId} {args : Array Value} {below : List Frame} {meth : Method} {c : Code} {D : va_G} {a : Nat → Nat} {cc : Nat → ClassId} {A : Nat → Prop} {N : Nat} {σr : St} (C : T_Cx st l A RX0 p s m args meth c D cc cX0_fillWord (Cond.code yX0_fillWord cX0_fillWord 5 none :: WT) 5 none) (hA : ∀ q, s.heap.size ≤ q → A q) : ∀ (n : Nat) {σ : St} {x1 : Int32} {x2 : Int32} {x3 : Int32} {H : Heap} {locs : List Loc} {ls : Array Slot}, fX0_fillWord_2 N n σ x1 x2 x3 = some σr → va_P D vwCl (wT a cc σ) H → va_D A (wT a cc σ) → va_S A s.heap H locs → lv_has ls 5 [(0, .ref (a 59)), (1, .int x1), (2, .int x2), (3, .int x3)] → W p l e rmX0_fillWord s m args below meth c H locs 0 0 (T_Mv D a cc A below args s σr) (F0 m 2 ls []) := by
  obtain ⟨hx, hb, hr, hml, hown, hts, hin, hK, hlocks, hTS, hl0⟩ := id C
  intro n
  induction n with
  | zero => intro σ x1 x2 x3 H locs ls h; exact none_s h
  | succ n ih =>
    intro σ x1 x2 x3 H locs ls h hP hD hS hl
    refine lv_iload_n hx hb dX0_fillWord_2 rfl (lv_at hl 3 rfl) ?_
    refine lv_aload_n hx hb dX0_fillWord_3 rfl (lv_at hl 0 rfl) ?_
    refine T_gfX0_9 C hP dX0_fillWord_4 ?_
    refine T_gfX0_36 C hP dX0_fillWord_7 ?_
    refine lv_icmp_ge (tgt := 75) hx hb dX0_fillWord_10 (by decide) (fun c1 => ?_) (fun c1 => ?_)
    · have h := ifT c1 h
      exact T_vret C h hP hD hS dX0_fillWord_75
    · have h := ifF c1 h
      refine lv_aload_n hx hb dX0_fillWord_13 rfl (lv_at hl 0 rfl) ?_
      refine T_gfX0_9 C hP dX0_fillWord_14 ?_
      refine T_gfX0_39 C hP dX0_fillWord_17 ?_
      refine lv_iload_n hx hb dX0_fillWord_20 rfl (lv_at hl 3 rfl) ?_
      obtain ⟨g2, h⟩ := grd_s h
      refine T_ldN C hP g2 dX0_fillWord_21 ?_
      obtain ⟨w3, ew3, h⟩ := letS_n h
      refine lv_topR ew3 ?_
      refine lv_astore (lv' := [(4, .ref (a (200 + w3))), (0, .ref (a 59)), (1, .int x1), (2, .int x2), (3, .int x3)]) hx hb dX0_fillWord_22 hl (by decide) rfl (fun ls hl => ?_)
      refine lv_aload_n hx hb dX0_fillWord_24 rfl (lv_at hl 1 rfl) ?_
      refine T_gfX0_19 C hP dX0_fillWord_25 ?_
      refine lv_iload_n hx hb dX0_fillWord_28 rfl (lv_at hl 4 rfl) ?_
      refine lv_aload_n hx hb dX0_fillWord_29 rfl (lv_at hl 1 rfl) ?_
      refine lv_aload hx hb dX0_fillWord_30 (lv_at hl 0 rfl) ?_
      refine lv_iload_n hx hb dX0_fillWord_32 rfl (lv_at hl 2 rfl) ?_
      refine lv_iload_n hx hb dX0_fillWord_33 rfl (lv_at hl 3 rfl) ?_
      obtain ⟨r5, σ4, hc, h⟩ := bnd_s h
      refine T_callVl (q0 := 7) (ci := 4) (As := [.ref (a (200 + w3)), .int x1, .int x2]) (rest := [.int x3, .ref (a 52)]) C hA (fun sz => kX0_askedByNode hl0 sz hc) gX0_43 hP hD hS rfl rfl ⟨by decide, by decide⟩ ⟨rfl, rfl⟩ rfl hl.1 rfl (lv_room (Nat.le_of_ble_eq_true rfl)) dX0_fillWord_34 (fun H locs hP hD hS => ?_)
      obtain ⟨g6, h⟩ := grd_s h
      obtain ⟨σ7, eσ7, h⟩ := letS_n h
      refine T_st52 C hP hD hS g6 eσ7 dX0_fillWord_37 (fun H locs hP hD hS => ?_)
      refine lv_aload hx hb dX0_fillWord_38 (lv_at hl 0 rfl) ?_
      obtain ⟨g8, h⟩ := grd_s h
      refine T_gfX0_47 C hP g8 dX0_fillWord_40 ?_
      refine lv_iconst (v := (-1 : Int32)) hx hb dX0_fillWord_43 (by decide) ?_
      refine lv_icmp_eq (tgt := 69) hx hb dX0_fillWord_44 (by decide) (fun c9 => ?_) (fun c9 => ?_)
      · have h := ifT c9 h
        exact tX0_fillWord_69 C hA ih h hP hD hS (lv_sub hl [1, 2, 3, 4] rfl)
      · have h := ifF c9 h
        refine lv_aload_n hx hb dX0_fillWord_47 rfl (lv_at hl 1 rfl) ?_
        refine T_gfX0_15 C hP dX0_fillWord_48 ?_
        refine lv_iload_n hx hb dX0_fillWord_51 rfl (lv_at hl 2 rfl) ?_
        refine lv_aload hx hb dX0_fillWord_52 (lv_at hl 0 rfl) ?_
        obtain ⟨g10, h⟩ := grd_s h
        refine T_gfX0_47 C hP g10 dX0_fillWord_54 ?_
        obtain ⟨r12, σ11, hc, h⟩ := bnd_s h
        refine T_callSi (As := [.int x1, .int (gI σ7 33 (w3))]) (rest := [.ref (a 51)]) C hA (fun sz => kX0_row hl0 sz hc) gX0_52 hP hD hS ⟨by decide, by decide⟩ ⟨rfl, rfl⟩ rfl hl.1 rfl (lv_room (Nat.le_of_ble_eq_true rfl)) dX0_fillWord_57 (fun H locs hP hD hS => ?_)
        refine lv_iload_n hx hb dX0_fillWord_60 rfl (lv_at hl 3 rfl) ?_
        refine lv_iadd hx hb dX0_fillWord_61 ?_
        refine lv_aload_n hx hb dX0_fillWord_62 rfl (lv_at hl 1 rfl) ?_
        refine T_gfX0_19 C hP dX0_fillWord_63 ?_
        refine lv_iload_n hx hb dX0_fillWord_66 rfl (lv_at hl 4 rfl) ?_
        obtain ⟨g13, h⟩ := grd_s h
        refine T_ld52 C hP g13 dX0_fillWord_67 ?_
        obtain ⟨g14, h⟩ := grd_s h
        obtain ⟨σ15, eσ15, h⟩ := letS_n h
        refine T_st51 C hP hD hS g14 eσ15 dX0_fillWord_68 (fun H locs hP hD hS => ?_)
        exact tX0_fillWord_69 C hA ih h hP hD hS (lv_sub hl [1, 2, 3, 4] rfl)
set_option maxHeartbeats 4000000 in
set_option maxRecDepth 100000 in
theorem tX0_fillWord {st : Nat → Nat} {p : Program} {l : Launch} {e : Env} {s : State} {m : MethodId} {args : Array Value} {below : List Frame} {meth : Method} {c : Code} {D : va_G} {a : Nat → Nat} {cc : Nat → ClassId} {A : Nat → Prop} {N : Nat} {σr : St} (C : T_Cx st l A RX0 p s m args meth c D cc cX0_fillWord (Cond.code yX0_fillWord cX0_fillWord 5 none :: WT) 5 none) (hA : ∀ q, s.heap.size ≤ q → A q) {σ : St} {p0 : Int32} {p1 : Int32} {H : Heap} {locs : List Loc} {ls : Array Slot} (h : fX0_fillWord N σ p0 p1 = some σr) : va_P D vwCl (wT a cc σ) H → va_D A (wT a cc σ) → va_S A s.heap H locs → lv_has ls 5 [(0, .ref (a 59)), (1, .int p0), (2, .int p1)] → W p l e rmX0_fillWord s m args below meth c H locs 0 0 (T_Mv D a cc A below args s σr) (F0 m 0 ls []) := by
  obtain ⟨hx, hb, hr, hml, hown, hts, hin, hK, hlocks, hTS, hl0⟩ := id C
  intro hP hD hS hl
  refine lv_iconst (v := (0 : Int32)) hx hb dX0_fillWord_0 (by decide) ?_
  refine lv_istore_n (lv' := [(3, .int (0 : Int32)), (0, .ref (a 59)), (1, .int p0), (2, .int p1)]) hx hb dX0_fillWord_1 rfl hl (by decide) rfl (fun ls hl => ?_)
  exact tX0_fillWord_2 C hA N h hP hD hS (lv_sub hl [1, 2, 3, 0] rfl)
set_option maxRecDepth 100000 in
theorem kX0_fillWord {l : Launch} (hl0 : l.stackTraces = false) (sz : Nat) {st : Nat → Nat} {D : va_G} {a : Nat → Nat} {cc : Nat → ClassId} {N : Nat} {σr : St} {σ : St} {p0 : Int32} {p1 : Int32} (h : fX0_fillWord N σ p0 p1 = some σr) : Met l yX0_fillWord ((Cond.code yX0_fillWord cX0_fillWord 5 none :: WT)) rmX0_fillWord (T_Pc st D a cc [.ref (a 59), .int p0, .int p1] σ sz) (T_Qv D a cc σ sz σr) 0 0 (va_A (wT a cc σ) sz) := by
  refine Met.ofW (cc := cX0_fillWord) (maxL := 5) (ret := none) (by decide) rfl ?_
  intro p e s m args below meth c s₁ B hml hv
  obtain ⟨rfl, hsz, hP, hK, hD0, hTS⟩ := hv
  subst hsz
  have hl := lv_entry ([.ref (a 59), .int p0, .int p1]) (n := 5) (Nat.le_of_ble_eq_true rfl)
  rw [lg_entry_eq]
  generalize (lg_sl ([.ref (a 59), .int p0, .int p1]) ++ List.replicate (5 - (lg_sl ([.ref (a 59), .int p0, .int p1])).length) Slot.unset).toArray = ls at hl ⊢
  exact tX0_fillWord ⟨B.exec, B.bytes, B.returns, hml, findClass_of_methodNamed B.named, atoms_spec (ws := (Cond.code yX0_fillWord cX0_fillWord 5 none :: WT)) B.pre, (fun w h => List.mem_cons_of_mem _ h), hK, B.notSynchronized, hTS, hl0⟩ (fun q h => Or.inr h) h hP hD0.self va_S.rf hl
set_option maxHeartbeats 4000000 in
set_option maxRecDepth 100000 in
theorem tX0_fill_47 {st : Nat → Nat} {p : Program} {l : Launch} {e : Env} {s : State} {m : MethodId} {args : Array Value} {below : List Frame} {meth : Method} {c : Code} {D : va_G} {a : Nat → Nat} {cc : Nat → ClassId} {A : Nat → Prop} {N : Nat} {σr : St} {k39 : St → Int32 → Option St} (C : T_Cx st l A RX0 p s m args meth c D cc cX0_fill (Cond.code yX0_fill cX0_fill 3 none :: WT) 3 none) (hA : ∀ q, s.heap.size ≤ q → A q) (hk39 : ∀ {σ : St} {x1 : Int32} {H : Heap} {locs : List Loc} {ls : Array Slot}, k39 σ x1 = some σr → va_P D vwCl (wT a cc σ) H → va_D A (wT a cc σ) → va_S A s.heap H locs → lv_has ls 3 [(0, .ref (a 59)), (1, .int x1)] → W p l e rmX0_fill s m args below meth c H locs 0 0 (T_Mv D a cc A below args s σr) (F0 m 39 ls [])) : ∀ (n : Nat) {σ : St} {x1 : Int32} {x2 : Int32} {H : Heap} {locs : List Loc} {ls : Array Slot}, fX0_fill_47 N k39 n σ x1 x2 = some σr → va_P D vwCl (wT a cc σ) H → va_D A (wT a cc σ) → va_S A s.heap H locs → lv_has ls 3 [(0, .ref (a 59)), (1, .int x1), (2, .int x2)] → W p l e rmX0_fill s m args below meth c H locs 0 0 (T_Mv D a cc A below args s σr) (F0 m 47 ls []) := by
  obtain ⟨hx, hb, hr, hml, hown, hts, hin, hK, hlocks, hTS, hl0⟩ := id C
  intro n
  induction n with
  | zero => intro σ x1 x2 H locs ls h; exact none_s h
  | succ n ih =>
    intro σ x1 x2 H locs ls h hP hD hS hl
    refine lv_iload_n hx hb dX0_fill_47 rfl (lv_at hl 2 rfl) ?_
    refine lv_aload_n hx hb dX0_fill_48 rfl (lv_at hl 0 rfl) ?_
    refine T_gfX0_26 C hP dX0_fill_49 ?_
    refine lv_icmp_ge (tgt := 67) hx hb dX0_fill_52 (by decide) (fun c5 => ?_) (fun c5 => ?_)
    · have h := ifT c5 h
      obtain ⟨u6, eu6, h⟩ := letS_n h
      refine lv_iinc (v := u6) (lv' := [(1, .int u6), (0, .ref (a 59)), (2, .int x2)]) hx hb dX0_fill_67 hl (k := 1) rfl (by rw [eu6]; rfl) (by decide) rfl (fun ls hl => ?_)
      refine lv_goto (tgt := 39) hx hb dX0_fill_70 (by decide) ?_
      exact hk39 h hP hD hS (lv_sub hl [1, 0] rfl)
    · have h := ifF c5 h
      refine lv_aload_n hx hb dX0_fill_55 rfl (lv_at hl 0 rfl) ?_
      refine lv_iload_n hx hb dX0_fill_56 rfl (lv_at hl 1 rfl) ?_
      refine lv_iload_n hx hb dX0_fill_57 rfl (lv_at hl 2 rfl) ?_
      obtain ⟨σ7, hc, h⟩ := bnd1_s h
      refine T_callVv (q0 := 7) (ci := 4) (As := [.int x1, .int x2]) (rest := []) C hA (fun sz => kX0_fillWord hl0 sz hc) gX0_32 hP hD hS rfl rfl ⟨by decide, by decide⟩ ⟨rfl, rfl⟩ rfl hl.1 rfl (lv_room (Nat.le_of_ble_eq_true rfl)) dX0_fill_58 (fun H locs hP hD hS => ?_)
      obtain ⟨u8, eu8, h⟩ := letS_n h
      refine lv_iinc (v := u8) (lv' := [(2, .int u8), (0, .ref (a 59)), (1, .int x1)]) hx hb dX0_fill_61 hl (k := 2) rfl (by rw [eu8]; rfl) (by decide) rfl (fun ls hl => ?_)
      refine lv_goto (tgt := 47) hx hb dX0_fill_64 (by decide) ?_
      exact ih h hP hD hS (lv_sub hl [1, 2, 0] rfl)
set_option maxHeartbeats 4000000 in
set_option maxRecDepth 100000 in
theorem tX0_fill_39 {st : Nat → Nat} {p : Program} {l : Launch} {e : Env} {s : State} {m : MethodId} {args : Array Value} {below : List Frame} {meth : Method} {c : Code} {D : va_G} {a : Nat → Nat} {cc : Nat → ClassId} {A : Nat → Prop} {N : Nat} {σr : St} (C : T_Cx st l A RX0 p s m args meth c D cc cX0_fill (Cond.code yX0_fill cX0_fill 3 none :: WT) 3 none) (hA : ∀ q, s.heap.size ≤ q → A q) : ∀ (n : Nat) {σ : St} {x1 : Int32} {H : Heap} {locs : List Loc} {ls : Array Slot}, fX0_fill_39 N n σ x1 = some σr → va_P D vwCl (wT a cc σ) H → va_D A (wT a cc σ) → va_S A s.heap H locs → lv_has ls 3 [(0, .ref (a 59)), (1, .int x1)] → W p l e rmX0_fill s m args below meth c H locs 0 0 (T_Mv D a cc A below args s σr) (F0 m 39 ls []) := by
  obtain ⟨hx, hb, hr, hml, hown, hts, hin, hK, hlocks, hTS, hl0⟩ := id C
  intro n
  induction n with
  | zero => intro σ x1 H locs ls h; exact none_s h
  | succ n ih =>
    intro σ x1 H locs ls h hP hD hS hl
    refine lv_iload_n hx hb dX0_fill_39 rfl (lv_at hl 1 rfl) ?_
    refine lv_bipush (v := (8 : Int32)) hx hb dX0_fill_40 (by decide) ?_
    refine lv_icmp_ge (tgt := 73) hx hb dX0_fill_42 (by decide) (fun c4 => ?_) (fun c4 => ?_)
    · have h := ifT c4 h
      exact T_vret C h hP hD hS dX0_fill_73
    · have h := ifF c4 h
      refine lv_iconst (v := (0 : Int32)) hx hb dX0_fill_45 (by decide) ?_
      refine lv_istore_n (lv' := [(2, .int (0 : Int32)), (0, .ref (a 59)), (1, .int x1)]) hx hb dX0_fill_46 rfl hl (by decide) rfl (fun ls hl => ?_)
      exact tX0_fill_47 C hA ih N h hP hD hS (lv_sub hl [1, 2, 0] rfl)
set_option maxHeartbeats 4000000 in
set_option maxRecDepth 100000 in
theorem tX0_fill_34 {st : Nat → Nat} {p : Program} {l : Launch} {e : Env} {s : State} {m : MethodId} {args : Array Value} {below : List Frame} {meth : Method} {c : Code} {D : va_G} {a : Nat → Nat} {cc : Nat → ClassId} {A : Nat → Prop} {N : Nat} {σr : St} (C : T_Cx st l A RX0 p s m args meth c D cc cX0_fill (Cond.code yX0_fill cX0_fill 3 none :: WT) 3 none) (hA : ∀ q, s.heap.size ≤ q → A q) {σ : St} {y0 : Int32} {H : Heap} {locs : List Loc} {ls : Array Slot} (h : fX0_fill_34 N σ y0 = some σr) : va_P D vwCl (wT a cc σ) H → va_D A (wT a cc σ) → va_S A s.heap H locs → lv_has ls 3 [(0, .ref (a 59))] → W p l e rmX0_fill s m args below meth c H locs 0 0 (T_Mv D a cc A below args s σr) (F0 m 34 ls [.int y0, .ref (a 59)]) := by
  obtain ⟨hx, hb, hr, hml, hown, hts, hin, hK, hlocks, hTS, hl0⟩ := id C
  intro hP hD hS hl
  obtain ⟨σ3, eσ3, h⟩ := letS_n h
  refine T_pfX0_26 C hP hD hS eσ3 dX0_fill_34 (fun H locs hP hD hS => ?_)
  refine lv_iconst (v := (0 : Int32)) hx hb dX0_fill_37 (by decide) ?_
  refine lv_istore_n (lv' := [(1, .int (0 : Int32)), (0, .ref (a 59))]) hx hb dX0_fill_38 rfl hl (by decide) rfl (fun ls hl => ?_)
  exact tX0_fill_39 C hA N h hP hD hS (lv_sub hl [1, 0] rfl)
set_option maxHeartbeats 4000000 in
set_option maxRecDepth 100000 in
theorem tX0_fill {st : Nat → Nat} {p : Program} {l : Launch} {e : Env} {s : State} {m : MethodId} {args : Array Value} {below : List Frame} {meth : Method} {c : Code} {D : va_G} {a : Nat → Nat} {cc : Nat → ClassId} {A : Nat → Prop} {N : Nat} {σr : St} (C : T_Cx st l A RX0 p s m args meth c D cc cX0_fill (Cond.code yX0_fill cX0_fill 3 none :: WT) 3 none) (hA : ∀ q, s.heap.size ≤ q → A q) {σ : St} {H : Heap} {locs : List Loc} {ls : Array Slot} (h : fX0_fill N σ = some σr) : va_P D vwCl (wT a cc σ) H → va_D A (wT a cc σ) → va_S A s.heap H locs → lv_has ls 3 [(0, .ref (a 59))] → W p l e rmX0_fill s m args below meth c H locs 0 0 (T_Mv D a cc A below args s σr) (F0 m 0 ls []) := by
  obtain ⟨hx, hb, hr, hml, hown, hts, hin, hK, hlocks, hTS, hl0⟩ := id C
  intro hP hD hS hl
  refine lv_aload_n hx hb dX0_fill_0 rfl (lv_at hl 0 rfl) ?_
  refine lv_aload_n hx hb dX0_fill_1 rfl (lv_at hl 0 rfl) ?_
  refine T_gfX0_9 C hP dX0_fill_2 ?_
  refine T_gfX0_29 C hP dX0_fill_5 ?_
  obtain ⟨σ1, eσ1, h⟩ := letS_n h
  refine T_pfX0_22 C hP hD hS eσ1 dX0_fill_8 (fun H locs hP hD hS => ?_)
  refine lv_aload_n hx hb dX0_fill_11 rfl (lv_at hl 0 rfl) ?_
  refine lv_aload_n hx hb dX0_fill_12 rfl (lv_at hl 0 rfl) ?_
  refine T_gfX0_22 C hP dX0_fill_13 ?_
  refine lv_bipush (v := (6 : Int32)) hx hb dX0_fill_16 (by decide) ?_
  refine lv_icmp_gt (tgt := 25) hx hb dX0_fill_18 (by decide) (fun c2 => ?_) (fun c2 => ?_)
  · have h := ifT c2 h
    refine lv_iconst (v := (1 : Int32)) hx hb dX0_fill_25 (by decide) ?_
    refine lv_aload_n hx hb dX0_fill_26 rfl (lv_at hl 0 rfl) ?_
    refine T_gfX0_22 C hP dX0_fill_27 ?_
    refine lv_bipush (v := (6 : Int32)) hx hb dX0_fill_30 (by decide) ?_
    refine lv_isub hx hb dX0_fill_32 ?_
    refine lv_ishl hx hb dX0_fill_33 ?_
    exact tX0_fill_34 C hA h hP hD hS (lv_sub hl [0] rfl)
  · have h := ifF c2 h
    refine lv_iconst (v := (1 : Int32)) hx hb dX0_fill_21 (by decide) ?_
    refine lv_goto (tgt := 34) hx hb dX0_fill_22 (by decide) ?_
    exact tX0_fill_34 C hA h hP hD hS (lv_sub hl [0] rfl)
set_option maxRecDepth 100000 in
theorem kX0_fill {l : Launch} (hl0 : l.stackTraces = false) (sz : Nat) {st : Nat → Nat} {D : va_G} {a : Nat → Nat} {cc : Nat → ClassId} {N : Nat} {σr : St} {σ : St} (h : fX0_fill N σ = some σr) : Met l yX0_fill ((Cond.code yX0_fill cX0_fill 3 none :: WT)) rmX0_fill (T_Pc st D a cc [.ref (a 59)] σ sz) (T_Qv D a cc σ sz σr) 0 0 (va_A (wT a cc σ) sz) := by
  refine Met.ofW (cc := cX0_fill) (maxL := 3) (ret := none) (by decide) rfl ?_
  intro p e s m args below meth c s₁ B hml hv
  obtain ⟨rfl, hsz, hP, hK, hD0, hTS⟩ := hv
  subst hsz
  have hl := lv_entry ([.ref (a 59)]) (n := 3) (Nat.le_of_ble_eq_true rfl)
  rw [lg_entry_eq]
  generalize (lg_sl ([.ref (a 59)]) ++ List.replicate (3 - (lg_sl ([.ref (a 59)])).length) Slot.unset).toArray = ls at hl ⊢
  exact tX0_fill ⟨B.exec, B.bytes, B.returns, hml, findClass_of_methodNamed B.named, atoms_spec (ws := (Cond.code yX0_fill cX0_fill 3 none :: WT)) B.pre, (fun w h => List.mem_cons_of_mem _ h), hK, B.notSynchronized, hTS, hl0⟩ (fun q h => Or.inr h) h hP hD0.self va_S.rf hl
set_option maxHeartbeats 4000000 in
set_option maxRecDepth 100000 in
theorem tX0_askedByAll_51 {st : Nat → Nat} {p : Program} {l : Launch} {e : Env} {s : State} {m : MethodId} {args : Array Value} {below : List Frame} {meth : Method} {c : Code} {D : va_G} {a : Nat → Nat} {cc : Nat → ClassId} {A : Nat → Prop} {N : Nat} {r : Int64} {σr : St} {k8 : St → Int32 → Int32 → Int32 → Int64 → Int32 → Option (Int64 × St)} (C : T_Cx st l A RX0 p s m args meth c D cc cX0_askedByAll (Cond.code yX0_askedByAll cX0_askedByAll 7 (some .long) :: WT) 7 (some .long)) (hA : ∀ q, s.heap.size ≤ q → A q) (hk8 : ∀ {σ : St} {x1 : Int32} {x2 : Int32} {x3 : Int32} {x4 : Int64} {x6 : Int32} {H : Heap} {locs : List Loc} {ls : Array Slot}, k8 σ x1 x2 x3 x4 x6 = some (r, σr) → va_P D vwCl (wT a cc σ) H → va_D A (wT a cc σ) → va_S A s.heap H locs → lv_has ls 7 [(0, .ref (a 59)), (1, .int x1), (2, .int x2), (3, .int x3), (4, .long x4), (6, .int x6)] → W p l e rmX0_askedByAll s m args below meth c H locs 0 0 (T_Ml D a cc A below args s r σr) (F0 m 8 ls [])) {σ : St} {x1 : Int32} {x2 : Int32} {x3 : Int32} {x4 : Int64} {x6 : Int32} {H : Heap} {locs : List Loc} {ls : Array Slot} (h : fX0_askedByAll_51 N k8 σ x1 x2 x3 x4 x6 = some (r, σr)) : va_P D vwCl (wT a cc σ) H → va_D A (wT a cc σ) → va_S A s.heap H locs → lv_has ls 7 [(0, .ref (a 59)), (1, .int x1), (2, .int x2), (3, .int x3), (4, .long x4), (6, .int x6)] → W p l e rmX0_askedByAll s m args below meth c H locs 0 0 (T_Ml D a cc A below args s r σr) (F0 m 51 ls []) := by
  obtain ⟨hx, hb, hr, hml, hown, hts, hin, hK, hlocks, hTS, hl0⟩ := id C
  intro hP hD hS hl
  obtain ⟨u10, eu10, h⟩ := letS_n h
  refine lv_iinc (v := u10) (lv' := [(6, .int u10), (0, .ref (a 59)), (1, .int x1), (2, .int x2), (3, .int x3), (4, .long x4)]) hx hb dX0_askedByAll_51 hl (k := 5) rfl (by rw [eu10]; rfl) (by decide) rfl (fun ls hl => ?_)
  refine lv_goto (tgt := 8) hx hb dX0_askedByAll_54 (by decide) ?_
  exact hk8 h hP hD hS (lv_sub hl [1, 2, 3, 4, 5, 0] rfl)
set_option maxHeartbeats 4000000 in
set_option maxRecDepth 100000 in
theorem tX0_askedByAll_57 {st : Nat → Nat} {p : Program} {l : Launch} {e : Env} {s : State} {m : MethodId} {args : Array Value} {below : List Frame} {meth : Method} {c : Code} {D : va_G} {a : Nat → Nat} {cc : Nat → ClassId} {A : Nat → Prop} {N : Nat} {r : Int64} {σr : St} (C : T_Cx st l A RX0 p s m args meth c D cc cX0_askedByAll (Cond.code yX0_askedByAll cX0_askedByAll 7 (some .long) :: WT) 7 (some .long)) (hA : ∀ q, s.heap.size ≤ q → A q) {σ : St} {x4 : Int64} {H : Heap} {locs : List Loc} {ls : Array Slot} (h : fX0_askedByAll_57 N σ x4 = some (r, σr)) : va_P D vwCl (wT a cc σ) H → va_D A (wT a cc σ) → va_S A s.heap H locs → lv_has ls 7 [(4, .long x4)] → W p l e rmX0_askedByAll s m args below meth c H locs 0 0 (T_Ml D a cc A below args s r σr) (F0 m 57 ls []) := by
  obtain ⟨hx, hb, hr, hml, hown, hts, hin, hK, hlocks, hTS, hl0⟩ := id C
  intro hP hD hS hl
  refine lv_lload hx hb dX0_askedByAll_57 (lv_at hl 0 rfl) ?_
  exact T_lret C h hP hD hS dX0_askedByAll_59
set_option maxHeartbeats 4000000 in
set_option maxRecDepth 100000 in
theorem tX0_askedByAll_8 {st : Nat → Nat} {p : Program} {l : Launch} {e : Env} {s : State} {m : MethodId} {args : Array Value} {below : List Frame} {meth : Method} {c : Code} {D : va_G} {a : Nat → Nat} {cc : Nat → ClassId} {A : Nat → Prop} {N : Nat} {r : Int64} {σr : St} (C : T_Cx st l A RX0 p s m args meth c D cc cX0_askedByAll (Cond.code yX0_askedByAll cX0_askedByAll 7 (some .long) :: WT) 7 (some .long)) (hA : ∀ q, s.heap.size ≤ q → A q) : ∀ (n : Nat) {σ : St} {x1 : Int32} {x2 : Int32} {x3 : Int32} {x4 : Int64} {x6 : Int32} {H : Heap} {locs : List Loc} {ls : Array Slot}, fX0_askedByAll_8 N n σ x1 x2 x3 x4 x6 = some (r, σr) → va_P D vwCl (wT a cc σ) H → va_D A (wT a cc σ) → va_S A s.heap H locs → lv_has ls 7 [(0, .ref (a 59)), (1, .int x1), (2, .int x2), (3, .int x3), (4, .long x4), (6, .int x6)] → W p l e rmX0_askedByAll s m args below meth c H locs 0 0 (T_Ml D a cc A below args s r σr) (F0 m 8 ls []) := by
  obtain ⟨hx, hb, hr, hml, hown, hts, hin, hK, hlocks, hTS, hl0⟩ := id C
  intro n
  induction n with
  | zero => intro σ x1 x2 x3 x4 x6 H locs ls h; exact none_s h
  | succ n ih =>
    intro σ x1 x2 x3 x4 x6 H locs ls h hP hD hS hl
    refine lv_iload hx hb dX0_askedByAll_8 (lv_at hl 5 rfl) ?_
    refine lv_aload_n hx hb dX0_askedByAll_10 rfl (lv_at hl 0 rfl) ?_
    refine T_gfX0_22 C hP dX0_askedByAll_11 ?_
    refine lv_icmp_ge (tgt := 57) hx hb dX0_askedByAll_14 (by decide) (fun c1 => ?_) (fun c1 => ?_)
    · have h := ifT c1 h
      exact tX0_askedByAll_57 C hA h hP hD hS (lv_sub hl [4] rfl)
    · have h := ifF c1 h
      refine lv_lload hx hb dX0_askedByAll_17 (lv_at hl 4 rfl) ?_
      refine lv_lconst (v := (0 : Int64)) hx hb dX0_askedByAll_19 (by decide) ?_
      refine W.lcmp hx hb dX0_askedByAll_20 ?_
      refine lv_if_eq (tgt := 57) hx hb dX0_askedByAll_21 (by decide) (fun c2 => ?_) (fun c2 => ?_)
      · have h := ifT c2 h
        exact tX0_askedByAll_57 C hA h hP hD hS (lv_sub hl [4] rfl)
      · have h := ifF c2 h
        refine lv_iload_n hx hb dX0_askedByAll_24 rfl (lv_at hl 1 rfl) ?_
        refine lv_iload hx hb dX0_askedByAll_25 (lv_at hl 5 rfl) ?_
        obtain ⟨r4, σ3, hc, h⟩ := bnd_s h
        refine T_callTi (As := [.int x1, .int x6]) (rest := []) C hA (fun sz => kX8_has hl0 sz hc) gX0_82 hP hD hS ⟨by decide, by decide⟩ ⟨rfl, rfl⟩ rfl hl.1 rfl (lv_room (Nat.le_of_ble_eq_true rfl)) dX0_askedByAll_27 (fun H locs hP hD hS => ?_)
        refine lv_if_eq (tgt := 51) hx hb dX0_askedByAll_30 (by decide) (fun c5 => ?_) (fun c5 => ?_)
        · have h := ifT c5 h
          exact tX0_askedByAll_51 C hA ih h hP hD hS (lv_sub hl [0, 1, 2, 3, 4, 5] rfl)
        · have h := ifF c5 h
          refine lv_lload hx hb dX0_askedByAll_33 (lv_at hl 4 rfl) ?_
          refine lv_aload_n hx hb dX0_askedByAll_35 rfl (lv_at hl 0 rfl) ?_
          refine T_gfX0_15 C hP dX0_askedByAll_36 ?_
          refine lv_iload_n hx hb dX0_askedByAll_39 rfl (lv_at hl 2 rfl) ?_
          refine lv_iload hx hb dX0_askedByAll_40 (lv_at hl 5 rfl) ?_
          obtain ⟨r7, σ6, hc, h⟩ := bnd_s h
          refine T_callSi (As := [.int x2, .int x6]) (rest := [.ref (a 51), .long x4]) C hA (fun sz => kX0_row hl0 sz hc) gX0_52 hP hD hS ⟨by decide, by decide⟩ ⟨rfl, rfl⟩ rfl hl.1 rfl (lv_room (Nat.le_of_ble_eq_true rfl)) dX0_askedByAll_42 (fun H locs hP hD hS => ?_)
          refine lv_iload_n hx hb dX0_askedByAll_45 rfl (lv_at hl 3 rfl) ?_
          refine lv_iadd hx hb dX0_askedByAll_46 ?_
          obtain ⟨g8, h⟩ := grd_s h
          refine T_ld51 C hP g8 dX0_askedByAll_47 ?_
          refine lv_land hx hb dX0_askedByAll_48 ?_
          obtain ⟨u9, eu9, h⟩ := letS_n h
          refine lv_topF eu9 ?_
          refine lv_lstore (lv' := [(4, .long u9), (0, .ref (a 59)), (1, .int x1), (2, .int x2), (3, .int x3), (6, .int x6)]) hx hb dX0_askedByAll_49 hl (by decide) rfl (fun ls hl => ?_)
          exact tX0_askedByAll_51 C hA ih h hP hD hS (lv_sub hl [1, 2, 3, 4, 0, 5] rfl)
set_option maxHeartbeats 4000000 in
set_option maxRecDepth 100000 in
theorem tX0_askedByAll {st : Nat → Nat} {p : Program} {l : Launch} {e : Env} {s : State} {m : MethodId} {args : Array Value} {below : List Frame} {meth : Method} {c : Code} {D : va_G} {a : Nat → Nat} {cc : Nat → ClassId} {A : Nat → Prop} {N : Nat} {r : Int64} {σr : St} (C : T_Cx st l A RX0 p s m args meth c D cc cX0_askedByAll (Cond.code yX0_askedByAll cX0_askedByAll 7 (some .long) :: WT) 7 (some .long)) (hA : ∀ q, s.heap.size ≤ q → A q) {σ : St} {p0 : Int32} {p1 : Int32} {p2 : Int32} {H : Heap} {locs : List Loc} {ls : Array Slot} (h : fX0_askedByAll N σ p0 p1 p2 = some (r, σr)) : va_P D vwCl (wT a cc σ) H → va_D A (wT a cc σ) → va_S A s.heap H locs → lv_has ls 7 [(0, .ref (a 59)), (1, .int p0), (2, .int p1), (3, .int p2)] → W p l e rmX0_askedByAll s m args below meth c H locs 0 0 (T_Ml D a cc A below args s r σr) (F0 m 0 ls []) := by
  obtain ⟨hx, hb, hr, hml, hown, hts, hin, hK, hlocks, hTS, hl0⟩ := id C
  intro hP hD hS hl
  refine lv_ldc2 (v := (-1 : Int64)) hx hb hown (hts (.constantLong RX0 59 (-1)) (by decide +kernel)) dX0_askedByAll_0 ?_
  refine lv_lstore (lv' := [(4, .long (-1 : Int64)), (0, .ref (a 59)), (1, .int p0), (2, .int p1), (3, .int p2)]) hx hb dX0_askedByAll_3 hl (by decide) rfl (fun ls hl => ?_)
  refine lv_iconst (v := (0 : Int32)) hx hb dX0_askedByAll_5 (by decide) ?_
  refine lv_istore (lv' := [(6, .int (0 : Int32)), (4, .long (-1 : Int64)), (0, .ref (a 59)), (1, .int p0), (2, .int p1), (3, .int p2)]) hx hb dX0_askedByAll_6 hl (by decide) rfl (fun ls hl => ?_)
  exact tX0_askedByAll_8 C hA N h hP hD hS (lv_sub hl [2, 3, 4, 5, 1, 0] rfl)
set_option maxRecDepth 100000 in
theorem kX0_askedByAll {l : Launch} (hl0 : l.stackTraces = false) (sz : Nat) {st : Nat → Nat} {D : va_G} {a : Nat → Nat} {cc : Nat → ClassId} {N : Nat} {r : Int64} {σr : St} {σ : St} {p0 : Int32} {p1 : Int32} {p2 : Int32} (h : fX0_askedByAll N σ p0 p1 p2 = some (r, σr)) : Met l yX0_askedByAll ((Cond.code yX0_askedByAll cX0_askedByAll 7 (some .long) :: WT)) rmX0_askedByAll (T_Pc st D a cc [.ref (a 59), .int p0, .int p1, .int p2] σ sz) (T_Ql D a cc σ sz r σr) 0 0 (va_A (wT a cc σ) sz) := by
  refine Met.ofW (cc := cX0_askedByAll) (maxL := 7) (ret := (some .long)) (by decide) rfl ?_
  intro p e s m args below meth c s₁ B hml hv
  obtain ⟨rfl, hsz, hP, hK, hD0, hTS⟩ := hv
  subst hsz
  have hl := lv_entry ([.ref (a 59), .int p0, .int p1, .int p2]) (n := 7) (Nat.le_of_ble_eq_true rfl)
  rw [lg_entry_eq]
  generalize (lg_sl ([.ref (a 59), .int p0, .int p1, .int p2]) ++ List.replicate (7 - (lg_sl ([.ref (a 59), .int p0, .int p1, .int p2])).length) Slot.unset).toArray = ls at hl ⊢
  exact tX0_askedByAll ⟨B.exec, B.bytes, B.returns, hml, findClass_of_methodNamed B.named, atoms_spec (ws := (Cond.code yX0_askedByAll cX0_askedByAll 7 (some .long) :: WT)) B.pre, (fun w h => List.mem_cons_of_mem _ h), hK, B.notSynchronized, hTS, hl0⟩ (fun q h => Or.inr h) h hP hD0.self va_S.rf hl
set_option maxHeartbeats 4000000 in
set_option maxRecDepth 100000 in
theorem tX1_clear {st : Nat → Nat} {p : Program} {l : Launch} {e : Env} {s : State} {m : MethodId} {args : Array Value} {below : List Frame} {meth : Method} {c : Code} {D : va_G} {a : Nat → Nat} {cc : Nat → ClassId} {A : Nat → Prop} {N : Nat} {σr : St} (C : T_Cx st l A RX1 p s m args meth c D cc cX1_clear (Cond.code yX1_clear cX1_clear 1 none :: WT) 1 none) (hA : ∀ q, s.heap.size ≤ q → A q) {σ : St} {H : Heap} {locs : List Loc} {ls : Array Slot} (h : fX1_clear N σ = some σr) : va_P D vwCl (wT a cc σ) H → va_D A (wT a cc σ) → va_S A s.heap H locs → lv_has ls 1 [(0, .ref (a 29))] → W p l e rmX1_clear s m args below meth c H locs 0 0 (T_Mv D a cc A below args s σr) (F0 m 0 ls []) := by
  obtain ⟨hx, hb, hr, hml, hown, hts, hin, hK, hlocks, hTS, hl0⟩ := id C
  intro hP hD hS hl
  refine lv_aload_n hx hb dX1_clear_0 rfl (lv_at hl 0 rfl) ?_
  refine lv_iconst (v := (0 : Int32)) hx hb dX1_clear_1 (by decide) ?_
  obtain ⟨σ1, eσ1, h⟩ := letS_n h
  refine T_pfX1_25 C hP hD hS eσ1 dX1_clear_2 (fun H locs hP hD hS => ?_)
  refine lv_aload_n hx hb dX1_clear_5 rfl (lv_at hl 0 rfl) ?_
  refine lv_iconst (v := (0 : Int32)) hx hb dX1_clear_6 (by decide) ?_
  obtain ⟨σ2, eσ2, h⟩ := letS_n h
  refine T_pfX1_29 C hP hD hS eσ2 dX1_clear_7 (fun H locs hP hD hS => ?_)
  refine lv_aload_n hx hb dX1_clear_10 rfl (lv_at hl 0 rfl) ?_
  refine lv_iconst (v := (1 : Int32)) hx hb dX1_clear_11 (by decide) ?_
  obtain ⟨g4, h⟩ := grd_s h
  obtain ⟨σ3, eσ3, h⟩ := letS_n h
  refine T_pfX1_32 C hP hD hS g4 eσ3 dX1_clear_12 (fun H locs hP hD hS => ?_)
  exact T_vret C h hP hD hS dX1_clear_15
set_option maxRecDepth 100000 in
theorem kX1_clear {l : Launch} (hl0 : l.stackTraces = false) (sz : Nat) {st : Nat → Nat} {D : va_G} {a : Nat → Nat} {cc : Nat → ClassId} {N : Nat} {σr : St} {σ : St} (h : fX1_clear N σ = some σr) : Met l yX1_clear ((Cond.code yX1_clear cX1_clear 1 none :: WT)) rmX1_clear (T_Pc st D a cc [.ref (a 29)] σ sz) (T_Qv D a cc σ sz σr) 0 0 (va_A (wT a cc σ) sz) := by
  refine Met.ofW (cc := cX1_clear) (maxL := 1) (ret := none) (by decide) rfl ?_
  intro p e s m args below meth c s₁ B hml hv
  obtain ⟨rfl, hsz, hP, hK, hD0, hTS⟩ := hv
  subst hsz
  have hl := lv_entry ([.ref (a 29)]) (n := 1) (Nat.le_of_ble_eq_true rfl)
  rw [lg_entry_eq]
  generalize (lg_sl ([.ref (a 29)]) ++ List.replicate (1 - (lg_sl ([.ref (a 29)])).length) Slot.unset).toArray = ls at hl ⊢
  exact tX1_clear ⟨B.exec, B.bytes, B.returns, hml, findClass_of_methodNamed B.named, atoms_spec (ws := (Cond.code yX1_clear cX1_clear 1 none :: WT)) B.pre, (fun w h => List.mem_cons_of_mem _ h), hK, B.notSynchronized, hTS, hl0⟩ (fun q h => Or.inr h) h hP hD0.self va_S.rf hl
set_option maxHeartbeats 4000000 in
set_option maxRecDepth 100000 in
theorem tX1_add {st : Nat → Nat} {p : Program} {l : Launch} {e : Env} {s : State} {m : MethodId} {args : Array Value} {below : List Frame} {meth : Method} {c : Code} {D : va_G} {a : Nat → Nat} {cc : Nat → ClassId} {A : Nat → Prop} {N : Nat} {r : Int32} {σr : St} (C : T_Cx st l A RX1 p s m args meth c D cc cX1_add (Cond.code yX1_add cX1_add 5 (some .int) :: WT) 5 (some .int)) (hA : ∀ q, s.heap.size ≤ q → A q) {σ : St} {p0 : Int32} {p1 : Int32} {p2 : Int32} {H : Heap} {locs : List Loc} {ls : Array Slot} (h : fX1_add N σ p0 p1 p2 = some (r, σr)) : va_P D vwCl (wT a cc σ) H → va_D A (wT a cc σ) → va_S A s.heap H locs → lv_has ls 5 [(0, .ref (a 29)), (1, .int p0), (2, .int p1), (3, .int p2)] → W p l e rmX1_add s m args below meth c H locs 0 0 (T_Mi D a cc A below args s r σr) (F0 m 0 ls []) := by
  obtain ⟨hx, hb, hr, hml, hown, hts, hin, hK, hlocks, hTS, hl0⟩ := id C
  intro hP hD hS hl
  refine lv_aload_n hx hb dX1_add_0 rfl (lv_at hl 0 rfl) ?_
  refine T_gfX1_25 C hP dX1_add_1 ?_
  refine lv_bipush (v := (40 : Int32)) hx hb dX1_add_4 (by decide) ?_
  refine lv_icmp_lt (tgt := 16) hx hb dX1_add_6 (by decide) (fun c1 => ?_) (fun c1 => ?_)
  · have h := ifT c1 h
    refine lv_aload_n hx hb dX1_add_16 rfl (lv_at hl 0 rfl) ?_
    refine T_gfX1_11 C hP dX1_add_17 ?_
    refine lv_aload_n hx hb dX1_add_20 rfl (lv_at hl 0 rfl) ?_
    refine T_gfX1_25 C hP dX1_add_21 ?_
    obtain ⟨g2, h⟩ := grd_s h
    refine T_ldN C hP g2 dX1_add_24 ?_
    obtain ⟨w3, ew3, h⟩ := letS_n h
    refine lv_topR ew3 ?_
    refine lv_astore (lv' := [(4, .ref (a (200 + w3))), (0, .ref (a 29)), (1, .int p0), (2, .int p1), (3, .int p2)]) hx hb dX1_add_25 hl (by decide) rfl (fun ls hl => ?_)
    refine lv_aload hx hb dX1_add_27 (lv_at hl 0 rfl) ?_
    refine lv_iload_n hx hb dX1_add_29 rfl (lv_at hl 2 rfl) ?_
    obtain ⟨g5, h⟩ := grd_s h
    obtain ⟨g6, h⟩ := grd_s h
    obtain ⟨σ4, eσ4, h⟩ := letS_n h
    refine T_pfX1_36 C hP hD hS g5 g6 eσ4 dX1_add_30 (fun H locs hP hD hS => ?_)
    refine lv_aload hx hb dX1_add_33 (lv_at hl 0 rfl) ?_
    refine lv_iload_n hx hb dX1_add_35 rfl (lv_at hl 3 rfl) ?_
    obtain ⟨g8, h⟩ := grd_s h
    obtain ⟨σ7, eσ7, h⟩ := letS_n h
    refine T_pfX1_40 C hP hD hS g8 eσ7 dX1_add_36 (fun H locs hP hD hS => ?_)
    refine lv_aload hx hb dX1_add_39 (lv_at hl 0 rfl) ?_
    refine lv_iload_n hx hb dX1_add_41 rfl (lv_at hl 4 rfl) ?_
    obtain ⟨g10, h⟩ := grd_s h
    obtain ⟨σ9, eσ9, h⟩ := letS_n h
    refine T_pfX1_43 C hP hD hS g10 eσ9 dX1_add_42 (fun H locs hP hD hS => ?_)
    refine lv_aload hx hb dX1_add_45 (lv_at hl 0 rfl) ?_
    refine lv_iconst (v := (-1 : Int32)) hx hb dX1_add_47 (by decide) ?_
    obtain ⟨g12, h⟩ := grd_s h
    obtain ⟨σ11, eσ11, h⟩ := letS_n h
    refine T_pfX1_46 C hP hD hS g12 eσ11 dX1_add_48 (fun H locs hP hD hS => ?_)
    refine lv_aload_n hx hb dX1_add_51 rfl (lv_at hl 1 rfl) ?_
    refine lv_dup hx hb dX1_add_52 rfl ?_
    refine T_gfX1_25 C hP dX1_add_53 ?_
    refine lv_iconst (v := (1 : Int32)) hx hb dX1_add_56 (by decide) ?_
    refine lv_iadd hx hb dX1_add_57 ?_
    obtain ⟨σ13, eσ13, h⟩ := letS_n h
    refine T_pfX1_25 C hP hD hS eσ13 dX1_add_58 (fun H locs hP hD hS => ?_)
    refine lv_aload_n hx hb dX1_add_61 rfl (lv_at hl 1 rfl) ?_
    refine T_gfX1_25 C hP dX1_add_62 ?_
    refine lv_iconst (v := (1 : Int32)) hx hb dX1_add_65 (by decide) ?_
    refine lv_isub hx hb dX1_add_66 ?_
    exact T_iret C h hP hD hS dX1_add_67
  · have h := ifF c1 h
    refine lv_aload_n hx hb dX1_add_9 rfl (lv_at hl 0 rfl) ?_
    refine lv_iconst (v := (0 : Int32)) hx hb dX1_add_10 (by decide) ?_
    obtain ⟨g15, h⟩ := grd_s h
    obtain ⟨σ14, eσ14, h⟩ := letS_n h
    refine T_pfX1_32 C hP hD hS g15 eσ14 dX1_add_11 (fun H locs hP hD hS => ?_)
    refine lv_iconst (v := (0 : Int32)) hx hb dX1_add_14 (by decide) ?_
    exact T_iret C h hP hD hS dX1_add_15
set_option maxRecDepth 100000 in
theorem kX1_add {l : Launch} (hl0 : l.stackTraces = false) (sz : Nat) {st : Nat → Nat} {D : va_G} {a : Nat → Nat} {cc : Nat → ClassId} {N : Nat} {r : Int32} {σr : St} {σ : St} {p0 : Int32} {p1 : Int32} {p2 : Int32} (h : fX1_add N σ p0 p1 p2 = some (r, σr)) : Met l yX1_add ((Cond.code yX1_add cX1_add 5 (some .int) :: WT)) rmX1_add (T_Pc st D a cc [.ref (a 29), .int p0, .int p1, .int p2] σ sz) (T_Qi D a cc σ sz r σr) 0 0 (va_A (wT a cc σ) sz) := by
  refine Met.ofW (cc := cX1_add) (maxL := 5) (ret := (some .int)) (by decide) rfl ?_
  intro p e s m args below meth c s₁ B hml hv
  obtain ⟨rfl, hsz, hP, hK, hD0, hTS⟩ := hv
  subst hsz
  have hl := lv_entry ([.ref (a 29), .int p0, .int p1, .int p2]) (n := 5) (Nat.le_of_ble_eq_true rfl)
  rw [lg_entry_eq]
  generalize (lg_sl ([.ref (a 29), .int p0, .int p1, .int p2]) ++ List.replicate (5 - (lg_sl ([.ref (a 29), .int p0, .int p1, .int p2])).length) Slot.unset).toArray = ls at hl ⊢
  exact tX1_add ⟨B.exec, B.bytes, B.returns, hml, findClass_of_methodNamed B.named, atoms_spec (ws := (Cond.code yX1_add cX1_add 5 (some .int) :: WT)) B.pre, (fun w h => List.mem_cons_of_mem _ h), hK, B.notSynchronized, hTS, hl0⟩ (fun q h => Or.inr h) h hP hD0.self va_S.rf hl
set_option maxHeartbeats 4000000 in
set_option maxRecDepth 100000 in
theorem tX1_addBoolean {st : Nat → Nat} {p : Program} {l : Launch} {e : Env} {s : State} {m : MethodId} {args : Array Value} {below : List Frame} {meth : Method} {c : Code} {D : va_G} {a : Nat → Nat} {cc : Nat → ClassId} {A : Nat → Prop} {N : Nat} {r : Int32} {σr : St} (C : T_Cx st l A RX1 p s m args meth c D cc cX1_addBoolean (Cond.code yX1_addBoolean cX1_addBoolean 3 (some .int) :: WT) 3 (some .int)) (hA : ∀ q, s.heap.size ≤ q → A q) {σ : St} {p0 : Int32} {H : Heap} {locs : List Loc} {ls : Array Slot} (h : fX1_addBoolean N σ p0 = some (r, σr)) : va_P D vwCl (wT a cc σ) H → va_D A (wT a cc σ) → va_S A s.heap H locs → lv_has ls 3 [(0, .ref (a 29)), (1, .int p0)] → W p l e rmX1_addBoolean s m args below meth c H locs 0 0 (T_Mi D a cc A below args s r σr) (F0 m 0 ls []) := by
  obtain ⟨hx, hb, hr, hml, hown, hts, hin, hK, hlocks, hTS, hl0⟩ := id C
  intro hP hD hS hl
  refine lv_aload_n hx hb dX1_addBoolean_0 rfl (lv_at hl 0 rfl) ?_
  refine lv_bipush (v := (33 : Int32)) hx hb dX1_addBoolean_1 (by decide) ?_
  refine lv_iconst (v := (-1 : Int32)) hx hb dX1_addBoolean_3 (by decide) ?_
  refine lv_iconst (v := (-1 : Int32)) hx hb dX1_addBoolean_4 (by decide) ?_
  obtain ⟨r2, σ1, hc, h⟩ := bnd_s h
  refine T_callVi (q0 := 2) (ci := 5) (As := [.int (33 : Int32), .int (-1 : Int32), .int (-1 : Int32)]) (rest := []) C hA (fun sz => kX1_add hl0 sz hc) gX1_49 hP hD hS rfl rfl ⟨by decide, by decide⟩ ⟨rfl, rfl⟩ rfl hl.1 rfl (lv_room (Nat.le_of_ble_eq_true rfl)) dX1_addBoolean_5 (fun H locs hP hD hS => ?_)
  refine lv_istore_n (lv' := [(2, .int r2), (0, .ref (a 29)), (1, .int p0)]) hx hb dX1_addBoolean_8 rfl hl (by decide) rfl (fun ls hl => ?_)
  refine lv_aload_n hx hb dX1_addBoolean_9 rfl (lv_at hl 1 rfl) ?_
  refine T_gfX1_11 C hP dX1_addBoolean_10 ?_
  refine lv_iload_n hx hb dX1_addBoolean_13 rfl (lv_at hl 0 rfl) ?_
  obtain ⟨g3, h⟩ := grd_s h
  refine T_ldN C hP g3 dX1_addBoolean_14 ?_
  refine lv_iload_n hx hb dX1_addBoolean_15 rfl (lv_at hl 2 rfl) ?_
  obtain ⟨g5, h⟩ := grd_s h
  obtain ⟨σ4, eσ4, h⟩ := letS_n h
  refine T_pfX1_53 C hP hD hS g5 eσ4 dX1_addBoolean_16 (fun H locs hP hD hS => ?_)
  refine lv_iload_n hx hb dX1_addBoolean_19 rfl (lv_at hl 0 rfl) ?_
  exact T_iret C h hP hD hS dX1_addBoolean_20
set_option maxRecDepth 100000 in
theorem kX1_addBoolean {l : Launch} (hl0 : l.stackTraces = false) (sz : Nat) {st : Nat → Nat} {D : va_G} {a : Nat → Nat} {cc : Nat → ClassId} {N : Nat} {r : Int32} {σr : St} {σ : St} {p0 : Int32} (h : fX1_addBoolean N σ p0 = some (r, σr)) : Met l yX1_addBoolean ((Cond.code yX1_addBoolean cX1_addBoolean 3 (some .int) :: WT)) rmX1_addBoolean (T_Pc st D a cc [.ref (a 29), .int p0] σ sz) (T_Qi D a cc σ sz r σr) 0 0 (va_A (wT a cc σ) sz) := by
  refine Met.ofW (cc := cX1_addBoolean) (maxL := 3) (ret := (some .int)) (by decide) rfl ?_
  intro p e s m args below meth c s₁ B hml hv
  obtain ⟨rfl, hsz, hP, hK, hD0, hTS⟩ := hv
  subst hsz
  have hl := lv_entry ([.ref (a 29), .int p0]) (n := 3) (Nat.le_of_ble_eq_true rfl)
  rw [lg_entry_eq]
  generalize (lg_sl ([.ref (a 29), .int p0]) ++ List.replicate (3 - (lg_sl ([.ref (a 29), .int p0])).length) Slot.unset).toArray = ls at hl ⊢
  exact tX1_addBoolean ⟨B.exec, B.bytes, B.returns, hml, findClass_of_methodNamed B.named, atoms_spec (ws := (Cond.code yX1_addBoolean cX1_addBoolean 3 (some .int) :: WT)) B.pre, (fun w h => List.mem_cons_of_mem _ h), hK, B.notSynchronized, hTS, hl0⟩ (fun q h => Or.inr h) h hP hD0.self va_S.rf hl
set_option maxHeartbeats 4000000 in
set_option maxRecDepth 100000 in
theorem tX1_newObligation {st : Nat → Nat} {p : Program} {l : Launch} {e : Env} {s : State} {m : MethodId} {args : Array Value} {below : List Frame} {meth : Method} {c : Code} {D : va_G} {a : Nat → Nat} {cc : Nat → ClassId} {A : Nat → Prop} {N : Nat} {r : Int32} {σr : St} (C : T_Cx st l A RX1 p s m args meth c D cc cX1_newObligation (Cond.code yX1_newObligation cX1_newObligation 1 (some .int) :: WT) 1 (some .int)) (hA : ∀ q, s.heap.size ≤ q → A q) {σ : St} {H : Heap} {locs : List Loc} {ls : Array Slot} (h : fX1_newObligation N σ = some (r, σr)) : va_P D vwCl (wT a cc σ) H → va_D A (wT a cc σ) → va_S A s.heap H locs → lv_has ls 1 [(0, .ref (a 29))] → W p l e rmX1_newObligation s m args below meth c H locs 0 0 (T_Mi D a cc A below args s r σr) (F0 m 0 ls []) := by
  obtain ⟨hx, hb, hr, hml, hown, hts, hin, hK, hlocks, hTS, hl0⟩ := id C
  intro hP hD hS hl
  refine lv_aload_n hx hb dX1_newObligation_0 rfl (lv_at hl 0 rfl) ?_
  refine T_gfX1_29 C hP dX1_newObligation_1 ?_
  refine lv_bipush (v := (9 : Int32)) hx hb dX1_newObligation_4 (by decide) ?_
  refine lv_icmp_lt (tgt := 16) hx hb dX1_newObligation_6 (by decide) (fun c1 => ?_) (fun c1 => ?_)
  · have h := ifT c1 h
    refine lv_aload_n hx hb dX1_newObligation_16 rfl (lv_at hl 0 rfl) ?_
    refine lv_dup hx hb dX1_newObligation_17 rfl ?_
    refine T_gfX1_29 C hP dX1_newObligation_18 ?_
    refine lv_iconst (v := (1 : Int32)) hx hb dX1_newObligation_21 (by decide) ?_
    refine lv_iadd hx hb dX1_newObligation_22 ?_
    obtain ⟨σ2, eσ2, h⟩ := letS_n h
    refine T_pfX1_29 C hP hD hS eσ2 dX1_newObligation_23 (fun H locs hP hD hS => ?_)
    refine lv_aload_n hx hb dX1_newObligation_26 rfl (lv_at hl 0 rfl) ?_
    refine T_gfX1_29 C hP dX1_newObligation_27 ?_
    refine lv_iconst (v := (1 : Int32)) hx hb dX1_newObligation_30 (by decide) ?_
    refine lv_isub hx hb dX1_newObligation_31 ?_
    exact T_iret C h hP hD hS dX1_newObligation_32
  · have h := ifF c1 h
    refine lv_aload_n hx hb dX1_newObligation_9 rfl (lv_at hl 0 rfl) ?_
    refine lv_iconst (v := (0 : Int32)) hx hb dX1_newObligation_10 (by decide) ?_
    obtain ⟨g4, h⟩ := grd_s h
    obtain ⟨σ3, eσ3, h⟩ := letS_n h
    refine T_pfX1_32 C hP hD hS g4 eσ3 dX1_newObligation_11 (fun H locs hP hD hS => ?_)
    refine lv_iconst (v := (-1 : Int32)) hx hb dX1_newObligation_14 (by decide) ?_
    exact T_iret C h hP hD hS dX1_newObligation_15
set_option maxRecDepth 100000 in
theorem kX1_newObligation {l : Launch} (hl0 : l.stackTraces = false) (sz : Nat) {st : Nat → Nat} {D : va_G} {a : Nat → Nat} {cc : Nat → ClassId} {N : Nat} {r : Int32} {σr : St} {σ : St} (h : fX1_newObligation N σ = some (r, σr)) : Met l yX1_newObligation ((Cond.code yX1_newObligation cX1_newObligation 1 (some .int) :: WT)) rmX1_newObligation (T_Pc st D a cc [.ref (a 29)] σ sz) (T_Qi D a cc σ sz r σr) 0 0 (va_A (wT a cc σ) sz) := by
  refine Met.ofW (cc := cX1_newObligation) (maxL := 1) (ret := (some .int)) (by decide) rfl ?_
  intro p e s m args below meth c s₁ B hml hv
  obtain ⟨rfl, hsz, hP, hK, hD0, hTS⟩ := hv
  subst hsz
  have hl := lv_entry ([.ref (a 29)]) (n := 1) (Nat.le_of_ble_eq_true rfl)
  rw [lg_entry_eq]
  generalize (lg_sl ([.ref (a 29)]) ++ List.replicate (1 - (lg_sl ([.ref (a 29)])).length) Slot.unset).toArray = ls at hl ⊢
  exact tX1_newObligation ⟨B.exec, B.bytes, B.returns, hml, findClass_of_methodNamed B.named, atoms_spec (ws := (Cond.code yX1_newObligation cX1_newObligation 1 (some .int) :: WT)) B.pre, (fun w h => List.mem_cons_of_mem _ h), hK, B.notSynchronized, hTS, hl0⟩ (fun q h => Or.inr h) h hP hD0.self va_S.rf hl
set_option maxHeartbeats 4000000 in
set_option maxRecDepth 100000 in
theorem tX1_oblige {st : Nat → Nat} {p : Program} {l : Launch} {e : Env} {s : State} {m : MethodId} {args : Array Value} {below : List Frame} {meth : Method} {c : Code} {D : va_G} {a : Nat → Nat} {cc : Nat → ClassId} {A : Nat → Prop} {N : Nat} {σr : St} (C : T_Cx st l A RX1 p s m args meth c D cc cX1_oblige (Cond.code yX1_oblige cX1_oblige 2 none :: WT) 2 none) (hA : ∀ q, s.heap.size ≤ q → A q) {σ : St} {p0 : Int32} {H : Heap} {locs : List Loc} {ls : Array Slot} (h : fX1_oblige N σ p0 = some σr) : va_P D vwCl (wT a cc σ) H → va_D A (wT a cc σ) → va_S A s.heap H locs → lv_has ls 2 [(0, .ref (a 29)), (1, .int p0)] → W p l e rmX1_oblige s m args below meth c H locs 0 0 (T_Mv D a cc A below args s σr) (F0 m 0 ls []) := by
  obtain ⟨hx, hb, hr, hml, hown, hts, hin, hK, hlocks, hTS, hl0⟩ := id C
  intro hP hD hS hl
  refine lv_aload_n hx hb dX1_oblige_0 rfl (lv_at hl 0 rfl) ?_
  refine T_gfX1_11 C hP dX1_oblige_1 ?_
  refine lv_iload_n hx hb dX1_oblige_4 rfl (lv_at hl 1 rfl) ?_
  obtain ⟨g1, h⟩ := grd_s h
  refine T_ldN C hP g1 dX1_oblige_5 ?_
  obtain ⟨g2, h⟩ := grd_s h
  refine T_gfX1_46 C hP g2 dX1_oblige_6 ?_
  refine lv_iconst (v := (-1 : Int32)) hx hb dX1_oblige_9 (by decide) ?_
  refine lv_icmp_ne (tgt := 26) hx hb dX1_oblige_10 (by decide) (fun c3 => ?_) (fun c3 => ?_)
  · have h := ifF c3 h
    exact T_vret C h hP hD hS dX1_oblige_26
  · have h := ifT c3 h
    refine lv_aload_n hx hb dX1_oblige_13 rfl (lv_at hl 0 rfl) ?_
    refine T_gfX1_11 C hP dX1_oblige_14 ?_
    refine lv_iload_n hx hb dX1_oblige_17 rfl (lv_at hl 1 rfl) ?_
    obtain ⟨g4, h⟩ := grd_s h
    refine T_ldN C hP g4 dX1_oblige_18 ?_
    refine lv_aload_n hx hb dX1_oblige_19 rfl (lv_at hl 0 rfl) ?_
    obtain ⟨r6, σ5, hc, h⟩ := bnd_s h
    refine T_callVi (q0 := 2) (ci := 5) (As := []) (rest := [.ref (a (200 + p0.toNatClampNeg))]) C hA (fun sz => kX1_newObligation hl0 sz hc) gX1_56 hP hD hS rfl rfl ⟨by decide, by decide⟩ ⟨rfl, rfl⟩ rfl hl.1 rfl (lv_room (Nat.le_of_ble_eq_true rfl)) dX1_oblige_20 (fun H locs hP hD hS => ?_)
    obtain ⟨g8, h⟩ := grd_s h
    obtain ⟨σ7, eσ7, h⟩ := letS_n h
    refine T_pfX1_46 C hP hD hS g8 eσ7 dX1_oblige_23 (fun H locs hP hD hS => ?_)
    exact T_vret C h hP hD hS dX1_oblige_26
set_option maxRecDepth 100000 in
theorem kX1_oblige {l : Launch} (hl0 : l.stackTraces = false) (sz : Nat) {st : Nat → Nat} {D : va_G} {a : Nat → Nat} {cc : Nat → ClassId} {N : Nat} {σr : St} {σ : St} {p0 : Int32} (h : fX1_oblige N σ p0 = some σr) : Met l yX1_oblige ((Cond.code yX1_oblige cX1_oblige 2 none :: WT)) rmX1_oblige (T_Pc st D a cc [.ref (a 29), .int p0] σ sz) (T_Qv D a cc σ sz σr) 0 0 (va_A (wT a cc σ) sz) := by
  refine Met.ofW (cc := cX1_oblige) (maxL := 2) (ret := none) (by decide) rfl ?_
  intro p e s m args below meth c s₁ B hml hv
  obtain ⟨rfl, hsz, hP, hK, hD0, hTS⟩ := hv
  subst hsz
  have hl := lv_entry ([.ref (a 29), .int p0]) (n := 2) (Nat.le_of_ble_eq_true rfl)
  rw [lg_entry_eq]
  generalize (lg_sl ([.ref (a 29), .int p0]) ++ List.replicate (2 - (lg_sl ([.ref (a 29), .int p0])).length) Slot.unset).toArray = ls at hl ⊢
  exact tX1_oblige ⟨B.exec, B.bytes, B.returns, hml, findClass_of_methodNamed B.named, atoms_spec (ws := (Cond.code yX1_oblige cX1_oblige 2 none :: WT)) B.pre, (fun w h => List.mem_cons_of_mem _ h), hK, B.notSynchronized, hTS, hl0⟩ (fun q h => Or.inr h) h hP hD0.self va_S.rf hl
set_option maxHeartbeats 4000000 in
set_option maxRecDepth 100000 in
theorem tX1_addPlace {st : Nat → Nat} {p : Program} {l : Launch} {e : Env} {s : State} {m : MethodId} {args : Array Value} {below : List Frame} {meth : Method} {c : Code} {D : va_G} {a : Nat → Nat} {cc : Nat → ClassId} {A : Nat → Prop} {N : Nat} {r : Int32} {σr : St} (C : T_Cx st l A RX1 p s m args meth c D cc cX1_addPlace (Cond.code yX1_addPlace cX1_addPlace 3 (some .int) :: WT) 3 (some .int)) (hA : ∀ q, s.heap.size ≤ q → A q) {σ : St} {p0 : Int32} {H : Heap} {locs : List Loc} {ls : Array Slot} (h : fX1_addPlace N σ p0 = some (r, σr)) : va_P D vwCl (wT a cc σ) H → va_D A (wT a cc σ) → va_S A s.heap H locs → lv_has ls 3 [(0, .ref (a 29)), (1, .int p0)] → W p l e rmX1_addPlace s m args below meth c H locs 0 0 (T_Mi D a cc A below args s r σr) (F0 m 0 ls []) := by
  obtain ⟨hx, hb, hr, hml, hown, hts, hin, hK, hlocks, hTS, hl0⟩ := id C
  intro hP hD hS hl
  refine lv_aload_n hx hb dX1_addPlace_0 rfl (lv_at hl 0 rfl) ?_
  obtain ⟨r2, σ1, hc, h⟩ := bnd_s h
  refine T_callVi (q0 := 2) (ci := 5) (As := []) (rest := []) C hA (fun sz => kX1_newObligation hl0 sz hc) gX1_56 hP hD hS rfl rfl ⟨by decide, by decide⟩ ⟨rfl, rfl⟩ rfl hl.1 rfl (lv_room (Nat.le_of_ble_eq_true rfl)) dX1_addPlace_1 (fun H locs hP hD hS => ?_)
  refine lv_istore_n (lv' := [(2, .int r2), (0, .ref (a 29)), (1, .int p0)]) hx hb dX1_addPlace_4 rfl hl (by decide) rfl (fun ls hl => ?_)
  refine lv_iload_n hx hb dX1_addPlace_5 rfl (lv_at hl 0 rfl) ?_
  refine lv_iconst (v := (-1 : Int32)) hx hb dX1_addPlace_6 (by decide) ?_
  refine lv_icmp_ne (tgt := 12) hx hb dX1_addPlace_7 (by decide) (fun c3 => ?_) (fun c3 => ?_)
  · have h := ifF c3 h
    refine lv_aload_n hx hb dX1_addPlace_12 rfl (lv_at hl 1 rfl) ?_
    refine T_gfX1_18 C hP dX1_addPlace_13 ?_
    refine lv_iload_n hx hb dX1_addPlace_16 rfl (lv_at hl 0 rfl) ?_
    refine lv_iload_n hx hb dX1_addPlace_17 rfl (lv_at hl 2 rfl) ?_
    obtain ⟨g4, h⟩ := grd_s h
    obtain ⟨σ5, eσ5, h⟩ := letS_n h
    refine T_st24 C hP hD hS g4 eσ5 dX1_addPlace_18 (fun H locs hP hD hS => ?_)
    refine lv_aload_n hx hb dX1_addPlace_19 rfl (lv_at hl 1 rfl) ?_
    refine T_gfX1_22 C hP dX1_addPlace_20 ?_
    refine lv_iload_n hx hb dX1_addPlace_23 rfl (lv_at hl 0 rfl) ?_
    refine lv_iconst (v := (0 : Int32)) hx hb dX1_addPlace_24 (by decide) ?_
    obtain ⟨g6, h⟩ := grd_s h
    obtain ⟨σ7, eσ7, h⟩ := letS_n h
    refine T_st25 C hP hD hS g6 eσ7 dX1_addPlace_25 (fun H locs hP hD hS => ?_)
    refine lv_iconst (v := (1 : Int32)) hx hb dX1_addPlace_26 (by decide) ?_
    refine lv_iload_n hx hb dX1_addPlace_27 rfl (lv_at hl 0 rfl) ?_
    refine lv_ishl hx hb dX1_addPlace_28 ?_
    exact T_iret C h hP hD hS dX1_addPlace_29
  · have h := ifT c3 h
    refine lv_iconst (v := (0 : Int32)) hx hb dX1_addPlace_10 (by decide) ?_
    exact T_iret C h hP hD hS dX1_addPlace_11
set_option maxRecDepth 100000 in
theorem kX1_addPlace {l : Launch} (hl0 : l.stackTraces = false) (sz : Nat) {st : Nat → Nat} {D : va_G} {a : Nat → Nat} {cc : Nat → ClassId} {N : Nat} {r : Int32} {σr : St} {σ : St} {p0 : Int32} (h : fX1_addPlace N σ p0 = some (r, σr)) : Met l yX1_addPlace ((Cond.code yX1_addPlace cX1_addPlace 3 (some .int) :: WT)) rmX1_addPlace (T_Pc st D a cc [.ref (a 29), .int p0] σ sz) (T_Qi D a cc σ sz r σr) 0 0 (va_A (wT a cc σ) sz) := by
  refine Met.ofW (cc := cX1_addPlace) (maxL := 3) (ret := (some .int)) (by decide) rfl ?_
  intro p e s m args below meth c s₁ B hml hv
  obtain ⟨rfl, hsz, hP, hK, hD0, hTS⟩ := hv
  subst hsz
  have hl := lv_entry ([.ref (a 29), .int p0]) (n := 3) (Nat.le_of_ble_eq_true rfl)
  rw [lg_entry_eq]
  generalize (lg_sl ([.ref (a 29), .int p0]) ++ List.replicate (3 - (lg_sl ([.ref (a 29), .int p0])).length) Slot.unset).toArray = ls at hl ⊢
  exact tX1_addPlace ⟨B.exec, B.bytes, B.returns, hml, findClass_of_methodNamed B.named, atoms_spec (ws := (Cond.code yX1_addPlace cX1_addPlace 3 (some .int) :: WT)) B.pre, (fun w h => List.mem_cons_of_mem _ h), hK, B.notSynchronized, hTS, hl0⟩ (fun q h => Or.inr h) h hP hD0.self va_S.rf hl
set_option maxHeartbeats 4000000 in
set_option maxRecDepth 100000 in
theorem tX1_link_28 {st : Nat → Nat} {p : Program} {l : Launch} {e : Env} {s : State} {m : MethodId} {args : Array Value} {below : List Frame} {meth : Method} {c : Code} {D : va_G} {a : Nat → Nat} {cc : Nat → ClassId} {A : Nat → Prop} {N : Nat} {σr : St} {k2 : St → Int32 → Int32 → Int32 → Option St} (C : T_Cx st l A RX1 p s m args meth c D cc cX1_link (Cond.code yX1_link cX1_link 4 none :: WT) 4 none) (hA : ∀ q, s.heap.size ≤ q → A q) (hk2 : ∀ {σ : St} {x1 : Int32} {x2 : Int32} {x3 : Int32} {H : Heap} {locs : List Loc} {ls : Array Slot}, k2 σ x1 x2 x3 = some σr → va_P D vwCl (wT a cc σ) H → va_D A (wT a cc σ) → va_S A s.heap H locs → lv_has ls 4 [(0, .ref (a 29)), (1, .int x1), (2, .int x2), (3, .int x3)] → W p l e rmX1_link s m args below meth c H locs 0 0 (T_Mv D a cc A below args s σr) (F0 m 2 ls [])) {σ : St} {x1 : Int32} {x2 : Int32} {x3 : Int32} {H : Heap} {locs : List Loc} {ls : Array Slot} (h : fX1_link_28 N k2 σ x1 x2 x3 = some σr) : va_P D vwCl (wT a cc σ) H → va_D A (wT a cc σ) → va_S A s.heap H locs → lv_has ls 4 [(0, .ref (a 29)), (1, .int x1), (2, .int x2), (3, .int x3)] → W p l e rmX1_link s m args below meth c H locs 0 0 (T_Mv D a cc A below args s σr) (F0 m 28 ls []) := by
  obtain ⟨hx, hb, hr, hml, hown, hts, hin, hK, hlocks, hTS, hl0⟩ := id C
  intro hP hD hS hl
  obtain ⟨u8, eu8, h⟩ := letS_n h
  refine lv_iinc (v := u8) (lv' := [(3, .int u8), (0, .ref (a 29)), (1, .int x1), (2, .int x2)]) hx hb dX1_link_28 hl (k := 3) rfl (by rw [eu8]; rfl) (by decide) rfl (fun ls hl => ?_)
  refine lv_goto (tgt := 2) hx hb dX1_link_31 (by decide) ?_
  exact hk2 h hP hD hS (lv_sub hl [1, 2, 3, 0] rfl)
set_option maxHeartbeats 4000000 in
set_option maxRecDepth 100000 in
theorem tX1_link_2 {st : Nat → Nat} {p : Program} {l : Launch} {e : Env} {s : State} {m : MethodId} {args : Array Value} {below : List Frame} {meth : Method} {c : Code} {D : va_G} {a : Nat → Nat} {cc : Nat → ClassId} {A : Nat → Prop} {N : Nat} {σr : St} (C : T_Cx st l A RX1 p s m args meth c D cc cX1_link (Cond.code yX1_link cX1_link 4 none :: WT) 4 none) (hA : ∀ q, s.heap.size ≤ q → A q) : ∀ (n : Nat) {σ : St} {x1 : Int32} {x2 : Int32} {x3 : Int32} {H : Heap} {locs : List Loc} {ls : Array Slot}, fX1_link_2 N n σ x1 x2 x3 = some σr → va_P D vwCl (wT a cc σ) H → va_D A (wT a cc σ) → va_S A s.heap H locs → lv_has ls 4 [(0, .ref (a 29)), (1, .int x1), (2, .int x2), (3, .int x3)] → W p l e rmX1_link s m args below meth c H locs 0 0 (T_Mv D a cc A below args s σr) (F0 m 2 ls []) := by
  obtain ⟨hx, hb, hr, hml, hown, hts, hin, hK, hlocks, hTS, hl0⟩ := id C
  intro n
  induction n with
  | zero => intro σ x1 x2 x3 H locs ls h; exact none_s h
  | succ n ih =>
    intro σ x1 x2 x3 H locs ls h hP hD hS hl
    refine lv_iload_n hx hb dX1_link_2 rfl (lv_at hl 3 rfl) ?_
    refine lv_aload_n hx hb dX1_link_3 rfl (lv_at hl 0 rfl) ?_
    refine T_gfX1_29 C hP dX1_link_4 ?_
    refine lv_icmp_ge (tgt := 34) hx hb dX1_link_7 (by decide) (fun c1 => ?_) (fun c1 => ?_)
    · have h := ifT c1 h
      exact T_vret C h hP hD hS dX1_link_34
    · have h := ifF c1 h
      refine lv_iload_n hx hb dX1_link_10 rfl (lv_at hl 1 rfl) ?_
      refine lv_iload_n hx hb dX1_link_11 rfl (lv_at hl 3 rfl) ?_
      obtain ⟨r3, σ2, hc, h⟩ := bnd_s h
      refine T_callTi (As := [.int x1, .int x3]) (rest := []) C hA (fun sz => kX8_has hl0 sz hc) gX1_60 hP hD hS ⟨by decide, by decide⟩ ⟨rfl, rfl⟩ rfl hl.1 rfl (lv_room (Nat.le_of_ble_eq_true rfl)) dX1_link_12 (fun H locs hP hD hS => ?_)
      refine lv_if_eq (tgt := 28) hx hb dX1_link_15 (by decide) (fun c4 => ?_) (fun c4 => ?_)
      · have h := ifT c4 h
        exact tX1_link_28 C hA ih h hP hD hS (lv_sub hl [0, 1, 2, 3] rfl)
      · have h := ifF c4 h
        refine lv_aload_n hx hb dX1_link_18 rfl (lv_at hl 0 rfl) ?_
        refine T_gfX1_22 C hP dX1_link_19 ?_
        refine lv_iload_n hx hb dX1_link_22 rfl (lv_at hl 3 rfl) ?_
        refine lv_dup2_11 hx hb dX1_link_23 rfl rfl ?_
        obtain ⟨g5, h⟩ := grd_s h
        refine T_ld25 C hP g5 dX1_link_24 ?_
        refine lv_iload_n hx hb dX1_link_25 rfl (lv_at hl 2 rfl) ?_
        refine lv_ior hx hb dX1_link_26 ?_
        obtain ⟨g6, h⟩ := grd_s h
        obtain ⟨σ7, eσ7, h⟩ := letS_n h
        refine T_st25 C hP hD hS g6 eσ7 dX1_link_27 (fun H locs hP hD hS => ?_)
        exact tX1_link_28 C hA ih h hP hD hS (lv_sub hl [0, 1, 2, 3] rfl)
set_option maxHeartbeats 4000000 in
set_option maxRecDepth 100000 in
theorem tX1_link {st : Nat → Nat} {p : Program} {l : Launch} {e : Env} {s : State} {m : MethodId} {args : Array Value} {below : List Frame} {meth : Method} {c : Code} {D : va_G} {a : Nat → Nat} {cc : Nat → ClassId} {A : Nat → Prop} {N : Nat} {σr : St} (C : T_Cx st l A RX1 p s m args meth c D cc cX1_link (Cond.code yX1_link cX1_link 4 none :: WT) 4 none) (hA : ∀ q, s.heap.size ≤ q → A q) {σ : St} {p0 : Int32} {p1 : Int32} {H : Heap} {locs : List Loc} {ls : Array Slot} (h : fX1_link N σ p0 p1 = some σr) : va_P D vwCl (wT a cc σ) H → va_D A (wT a cc σ) → va_S A s.heap H locs → lv_has ls 4 [(0, .ref (a 29)), (1, .int p0), (2, .int p1)] → W p l e rmX1_link s m args below meth c H locs 0 0 (T_Mv D a cc A below args s σr) (F0 m 0 ls []) := by
  obtain ⟨hx, hb, hr, hml, hown, hts, hin, hK, hlocks, hTS, hl0⟩ := id C
  intro hP hD hS hl
  refine lv_iconst (v := (0 : Int32)) hx hb dX1_link_0 (by decide) ?_
  refine lv_istore_n (lv' := [(3, .int (0 : Int32)), (0, .ref (a 29)), (1, .int p0), (2, .int p1)]) hx hb dX1_link_1 rfl hl (by decide) rfl (fun ls hl => ?_)
  exact tX1_link_2 C hA N h hP hD hS (lv_sub hl [1, 2, 3, 0] rfl)
set_option maxRecDepth 100000 in
theorem kX1_link {l : Launch} (hl0 : l.stackTraces = false) (sz : Nat) {st : Nat → Nat} {D : va_G} {a : Nat → Nat} {cc : Nat → ClassId} {N : Nat} {σr : St} {σ : St} {p0 : Int32} {p1 : Int32} (h : fX1_link N σ p0 p1 = some σr) : Met l yX1_link ((Cond.code yX1_link cX1_link 4 none :: WT)) rmX1_link (T_Pc st D a cc [.ref (a 29), .int p0, .int p1] σ sz) (T_Qv D a cc σ sz σr) 0 0 (va_A (wT a cc σ) sz) := by
  refine Met.ofW (cc := cX1_link) (maxL := 4) (ret := none) (by decide) rfl ?_
  intro p e s m args below meth c s₁ B hml hv
  obtain ⟨rfl, hsz, hP, hK, hD0, hTS⟩ := hv
  subst hsz
  have hl := lv_entry ([.ref (a 29), .int p0, .int p1]) (n := 4) (Nat.le_of_ble_eq_true rfl)
  rw [lg_entry_eq]
  generalize (lg_sl ([.ref (a 29), .int p0, .int p1]) ++ List.replicate (4 - (lg_sl ([.ref (a 29), .int p0, .int p1])).length) Slot.unset).toArray = ls at hl ⊢
  exact tX1_link ⟨B.exec, B.bytes, B.returns, hml, findClass_of_methodNamed B.named, atoms_spec (ws := (Cond.code yX1_link cX1_link 4 none :: WT)) B.pre, (fun w h => List.mem_cons_of_mem _ h), hK, B.notSynchronized, hTS, hl0⟩ (fun q h => Or.inr h) h hP hD0.self va_S.rf hl
set_option maxHeartbeats 4000000 in
set_option maxRecDepth 100000 in
theorem tX1_copyPlaces_48 {st : Nat → Nat} {p : Program} {l : Launch} {e : Env} {s : State} {m : MethodId} {args : Array Value} {below : List Frame} {meth : Method} {c : Code} {D : va_G} {a : Nat → Nat} {cc : Nat → ClassId} {A : Nat → Prop} {N : Nat} {σr : St} {k33 : St → Int32 → Int32 → Int32 → Int32 → Option St} (C : T_Cx st l A RX1 p s m args meth c D cc cX1_copyPlaces (Cond.code yX1_copyPlaces cX1_copyPlaces 7 none :: WT) 7 none) (hA : ∀ q, s.heap.size ≤ q → A q) (hk33 : ∀ {σ : St} {x1 : Int32} {x2 : Int32} {x3 : Int32} {x4 : Int32} {H : Heap} {locs : List Loc} {ls : Array Slot}, k33 σ x1 x2 x3 x4 = some σr → va_P D vwCl (wT a cc σ) H → va_D A (wT a cc σ) → va_S A s.heap H locs → lv_has ls 7 [(0, .ref (a 29)), (1, .int x1), (2, .int x2), (3, .int x3), (4, .int x4)] → W p l e rmX1_copyPlaces s m args below meth c H locs 0 0 (T_Mv D a cc A below args s σr) (F0 m 33 ls [])) : ∀ (n : Nat) {σ : St} {x1 : Int32} {x2 : Int32} {x3 : Int32} {x4 : Int32} {x5 : Int32} {x6 : Int32} {H : Heap} {locs : List Loc} {ls : Array Slot}, fX1_copyPlaces_48 N k33 n σ x1 x2 x3 x4 x5 x6 = some σr → va_P D vwCl (wT a cc σ) H → va_D A (wT a cc σ) → va_S A s.heap H locs → lv_has ls 7 [(0, .ref (a 29)), (1, .int x1), (2, .int x2), (3, .int x3), (4, .int x4), (5, .int x5), (6, .int x6)] → W p l e rmX1_copyPlaces s m args below meth c H locs 0 0 (T_Mv D a cc A below args s σr) (F0 m 48 ls []) := by
  obtain ⟨hx, hb, hr, hml, hown, hts, hin, hK, hlocks, hTS, hl0⟩ := id C
  intro n
  induction n with
  | zero => intro σ x1 x2 x3 x4 x5 x6 H locs ls h; exact none_s h
  | succ n ih =>
    intro σ x1 x2 x3 x4 x5 x6 H locs ls h hP hD hS hl
    refine lv_iload hx hb dX1_copyPlaces_48 (lv_at hl 6 rfl) ?_
    refine lv_iload_n hx hb dX1_copyPlaces_50 rfl (lv_at hl 1 rfl) ?_
    refine lv_iload_n hx hb dX1_copyPlaces_51 rfl (lv_at hl 3 rfl) ?_
    refine lv_iadd hx hb dX1_copyPlaces_52 ?_
    refine lv_icmp_ge (tgt := 99) hx hb dX1_copyPlaces_53 (by decide) (fun c9 => ?_) (fun c9 => ?_)
    · have h := ifT c9 h
      obtain ⟨u10, eu10, h⟩ := letS_n h
      refine lv_iinc (v := u10) (lv' := [(4, .int u10), (0, .ref (a 29)), (1, .int x1), (2, .int x2), (3, .int x3), (5, .int x5), (6, .int x6)]) hx hb dX1_copyPlaces_99 hl (k := 4) rfl (by rw [eu10]; rfl) (by decide) rfl (fun ls hl => ?_)
      refine lv_goto (tgt := 33) hx hb dX1_copyPlaces_102 (by decide) ?_
      exact hk33 h hP hD hS (lv_sub hl [1, 2, 3, 4, 0] rfl)
    · have h := ifF c9 h
      refine lv_aload_n hx hb dX1_copyPlaces_56 rfl (lv_at hl 0 rfl) ?_
      refine T_gfX1_18 C hP dX1_copyPlaces_57 ?_
      refine lv_iload hx hb dX1_copyPlaces_60 (lv_at hl 6 rfl) ?_
      refine lv_iload hx hb dX1_copyPlaces_62 (lv_at hl 5 rfl) ?_
      refine lv_iadd hx hb dX1_copyPlaces_64 ?_
      refine lv_aload_n hx hb dX1_copyPlaces_65 rfl (lv_at hl 0 rfl) ?_
      refine T_gfX1_18 C hP dX1_copyPlaces_66 ?_
      refine lv_iload hx hb dX1_copyPlaces_69 (lv_at hl 6 rfl) ?_
      obtain ⟨g11, h⟩ := grd_s h
      refine T_ld24 C hP g11 dX1_copyPlaces_71 ?_
      obtain ⟨g12, h⟩ := grd_s h
      obtain ⟨σ13, eσ13, h⟩ := letS_n h
      refine T_st24 C hP hD hS g12 eσ13 dX1_copyPlaces_72 (fun H locs hP hD hS => ?_)
      refine lv_aload_n hx hb dX1_copyPlaces_73 rfl (lv_at hl 0 rfl) ?_
      refine T_gfX1_22 C hP dX1_copyPlaces_74 ?_
      refine lv_iload hx hb dX1_copyPlaces_77 (lv_at hl 6 rfl) ?_
      refine lv_iload hx hb dX1_copyPlaces_79 (lv_at hl 5 rfl) ?_
      refine lv_iadd hx hb dX1_copyPlaces_81 ?_
      refine lv_aload_n hx hb dX1_copyPlaces_82 rfl (lv_at hl 0 rfl) ?_
      refine T_gfX1_22 C hP dX1_copyPlaces_83 ?_
      refine lv_iload hx hb dX1_copyPlaces_86 (lv_at hl 6 rfl) ?_
      obtain ⟨g14, h⟩ := grd_s h
      refine T_ld25 C hP g14 dX1_copyPlaces_88 ?_
      refine lv_iload hx hb dX1_copyPlaces_89 (lv_at hl 5 rfl) ?_
      refine lv_ishl hx hb dX1_copyPlaces_91 ?_
      obtain ⟨g15, h⟩ := grd_s h
      obtain ⟨σ16, eσ16, h⟩ := letS_n h
      refine T_st25 C hP hD hS g15 eσ16 dX1_copyPlaces_92 (fun H locs hP hD hS => ?_)
      obtain ⟨u17, eu17, h⟩ := letS_n h
      refine lv_iinc (v := u17) (lv' := [(6, .int u17), (0, .ref (a 29)), (1, .int x1), (2, .int x2), (3, .int x3), (4, .int x4), (5, .int x5)]) hx hb dX1_copyPlaces_93 hl (k := 6) rfl (by rw [eu17]; rfl) (by decide) rfl (fun ls hl => ?_)
      refine lv_goto (tgt := 48) hx hb dX1_copyPlaces_96 (by decide) ?_
      exact ih h hP hD hS (lv_sub hl [1, 2, 3, 4, 5, 6, 0] rfl)
set_option maxHeartbeats 4000000 in
set_option maxRecDepth 100000 in
theorem tX1_copyPlaces_33 {st : Nat → Nat} {p : Program} {l : Launch} {e : Env} {s : State} {m : MethodId} {args : Array Value} {below : List Frame} {meth : Method} {c : Code} {D : va_G} {a : Nat → Nat} {cc : Nat → ClassId} {A : Nat → Prop} {N : Nat} {σr : St} (C : T_Cx st l A RX1 p s m args meth c D cc cX1_copyPlaces (Cond.code yX1_copyPlaces cX1_copyPlaces 7 none :: WT) 7 none) (hA : ∀ q, s.heap.size ≤ q → A q) : ∀ (n : Nat) {σ : St} {x1 : Int32} {x2 : Int32} {x3 : Int32} {x4 : Int32} {H : Heap} {locs : List Loc} {ls : Array Slot}, fX1_copyPlaces_33 N n σ x1 x2 x3 x4 = some σr → va_P D vwCl (wT a cc σ) H → va_D A (wT a cc σ) → va_S A s.heap H locs → lv_has ls 7 [(0, .ref (a 29)), (1, .int x1), (2, .int x2), (3, .int x3), (4, .int x4)] → W p l e rmX1_copyPlaces s m args below meth c H locs 0 0 (T_Mv D a cc A below args s σr) (F0 m 33 ls []) := by
  obtain ⟨hx, hb, hr, hml, hown, hts, hin, hK, hlocks, hTS, hl0⟩ := id C
  intro n
  induction n with
  | zero => intro σ x1 x2 x3 x4 H locs ls h; exact none_s h
  | succ n ih =>
    intro σ x1 x2 x3 x4 H locs ls h hP hD hS hl
    refine lv_iload hx hb dX1_copyPlaces_33 (lv_at hl 4 rfl) ?_
    refine lv_iload_n hx hb dX1_copyPlaces_35 rfl (lv_at hl 2 rfl) ?_
    refine lv_icmp_ge (tgt := 105) hx hb dX1_copyPlaces_36 (by decide) (fun c6 => ?_) (fun c6 => ?_)
    · have h := ifT c6 h
      refine lv_aload_n hx hb dX1_copyPlaces_105 rfl (lv_at hl 0 rfl) ?_
      refine lv_iload_n hx hb dX1_copyPlaces_106 rfl (lv_at hl 1 rfl) ?_
      refine lv_iload_n hx hb dX1_copyPlaces_107 rfl (lv_at hl 3 rfl) ?_
      refine lv_iload_n hx hb dX1_copyPlaces_108 rfl (lv_at hl 2 rfl) ?_
      refine lv_imul hx hb dX1_copyPlaces_109 ?_
      refine lv_iadd hx hb dX1_copyPlaces_110 ?_
      obtain ⟨σ7, eσ7, h⟩ := letS_n h
      refine T_pfX1_29 C hP hD hS eσ7 dX1_copyPlaces_111 (fun H locs hP hD hS => ?_)
      exact T_vret C h hP hD hS dX1_copyPlaces_114
    · have h := ifF c6 h
      refine lv_iload hx hb dX1_copyPlaces_39 (lv_at hl 4 rfl) ?_
      refine lv_iload_n hx hb dX1_copyPlaces_41 rfl (lv_at hl 3 rfl) ?_
      refine lv_imul hx hb dX1_copyPlaces_42 ?_
      obtain ⟨u8, eu8, h⟩ := letS_n h
      refine lv_topE eu8 ?_
      refine lv_istore (lv' := [(5, .int u8), (0, .ref (a 29)), (1, .int x1), (2, .int x2), (3, .int x3), (4, .int x4)]) hx hb dX1_copyPlaces_43 hl (by decide) rfl (fun ls hl => ?_)
      refine lv_iload_n hx hb dX1_copyPlaces_45 rfl (lv_at hl 2 rfl) ?_
      refine lv_istore (lv' := [(6, .int x1), (5, .int u8), (0, .ref (a 29)), (1, .int x1), (2, .int x2), (3, .int x3), (4, .int x4)]) hx hb dX1_copyPlaces_46 hl (by decide) rfl (fun ls hl => ?_)
      exact tX1_copyPlaces_48 C hA ih N h hP hD hS (lv_sub hl [2, 3, 4, 5, 6, 1, 0] rfl)
set_option maxHeartbeats 4000000 in
set_option maxRecDepth 100000 in
theorem tX1_copyPlaces_22 {st : Nat → Nat} {p : Program} {l : Launch} {e : Env} {s : State} {m : MethodId} {args : Array Value} {below : List Frame} {meth : Method} {c : Code} {D : va_G} {a : Nat → Nat} {cc : Nat → ClassId} {A : Nat → Prop} {N : Nat} {σr : St} (C : T_Cx st l A RX1 p s m args meth c D cc cX1_copyPlaces (Cond.code yX1_copyPlaces cX1_copyPlaces 7 none :: WT) 7 none) (hA : ∀ q, s.heap.size ≤ q → A q) {σ : St} {x1 : Int32} {x2 : Int32} {x3 : Int32} {H : Heap} {locs : List Loc} {ls : Array Slot} (h : fX1_copyPlaces_22 N σ x1 x2 x3 = some σr) : va_P D vwCl (wT a cc σ) H → va_D A (wT a cc σ) → va_S A s.heap H locs → lv_has ls 7 [(0, .ref (a 29)), (1, .int x1), (2, .int x2), (3, .int x3)] → W p l e rmX1_copyPlaces s m args below meth c H locs 0 0 (T_Mv D a cc A below args s σr) (F0 m 22 ls []) := by
  obtain ⟨hx, hb, hr, hml, hown, hts, hin, hK, hlocks, hTS, hl0⟩ := id C
  intro hP hD hS hl
  refine lv_aload_n hx hb dX1_copyPlaces_22 rfl (lv_at hl 0 rfl) ?_
  refine T_gfX1_32 C hP dX1_copyPlaces_23 ?_
  refine lv_if_ne (tgt := 30) hx hb dX1_copyPlaces_26 (by decide) (fun c5 => ?_) (fun c5 => ?_)
  · have h := ifF c5 h
    refine lv_iconst (v := (1 : Int32)) hx hb dX1_copyPlaces_30 (by decide) ?_
    refine lv_istore (lv' := [(4, .int (1 : Int32)), (0, .ref (a 29)), (1, .int x1), (2, .int x2), (3, .int x3)]) hx hb dX1_copyPlaces_31 hl (by decide) rfl (fun ls hl => ?_)
    exact tX1_copyPlaces_33 C hA N h hP hD hS (lv_sub hl [1, 2, 3, 4, 0] rfl)
  · have h := ifT c5 h
    exact T_vret C h hP hD hS dX1_copyPlaces_29
set_option maxHeartbeats 4000000 in
set_option maxRecDepth 100000 in
theorem tX1_copyPlaces {st : Nat → Nat} {p : Program} {l : Launch} {e : Env} {s : State} {m : MethodId} {args : Array Value} {below : List Frame} {meth : Method} {c : Code} {D : va_G} {a : Nat → Nat} {cc : Nat → ClassId} {A : Nat → Prop} {N : Nat} {σr : St} (C : T_Cx st l A RX1 p s m args meth c D cc cX1_copyPlaces (Cond.code yX1_copyPlaces cX1_copyPlaces 7 none :: WT) 7 none) (hA : ∀ q, s.heap.size ≤ q → A q) {σ : St} {p0 : Int32} {p1 : Int32} {H : Heap} {locs : List Loc} {ls : Array Slot} (h : fX1_copyPlaces N σ p0 p1 = some σr) : va_P D vwCl (wT a cc σ) H → va_D A (wT a cc σ) → va_S A s.heap H locs → lv_has ls 7 [(0, .ref (a 29)), (1, .int p0), (2, .int p1)] → W p l e rmX1_copyPlaces s m args below meth c H locs 0 0 (T_Mv D a cc A below args s σr) (F0 m 0 ls []) := by
  obtain ⟨hx, hb, hr, hml, hown, hts, hin, hK, hlocks, hTS, hl0⟩ := id C
  intro hP hD hS hl
  refine lv_aload_n hx hb dX1_copyPlaces_0 rfl (lv_at hl 0 rfl) ?_
  refine T_gfX1_29 C hP dX1_copyPlaces_1 ?_
  refine lv_iload_n hx hb dX1_copyPlaces_4 rfl (lv_at hl 1 rfl) ?_
  refine lv_isub hx hb dX1_copyPlaces_5 ?_
  obtain ⟨u1, eu1, h⟩ := letS_n h
  refine lv_topE eu1 ?_
  refine lv_istore_n (lv' := [(3, .int u1), (0, .ref (a 29)), (1, .int p0), (2, .int p1)]) hx hb dX1_copyPlaces_6 rfl hl (by decide) rfl (fun ls hl => ?_)
  refine lv_iload_n hx hb dX1_copyPlaces_7 rfl (lv_at hl 2 rfl) ?_
  refine lv_iload_n hx hb dX1_copyPlaces_8 rfl (lv_at hl 0 rfl) ?_
  refine lv_iload_n hx hb dX1_copyPlaces_9 rfl (lv_at hl 3 rfl) ?_
  refine lv_imul hx hb dX1_copyPlaces_10 ?_
  refine lv_iadd hx hb dX1_copyPlaces_11 ?_
  refine lv_bipush (v := (9 : Int32)) hx hb dX1_copyPlaces_12 (by decide) ?_
  refine lv_icmp_le (tgt := 22) hx hb dX1_copyPlaces_14 (by decide) (fun c2 => ?_) (fun c2 => ?_)
  · have h := ifT c2 h
    exact tX1_copyPlaces_22 C hA h hP hD hS (lv_sub hl [1, 2, 3, 0] rfl)
  · have h := ifF c2 h
    refine lv_aload_n hx hb dX1_copyPlaces_17 rfl (lv_at hl 1 rfl) ?_
    refine lv_iconst (v := (0 : Int32)) hx hb dX1_copyPlaces_18 (by decide) ?_
    obtain ⟨g4, h⟩ := grd_s h
    obtain ⟨σ3, eσ3, h⟩ := letS_n h
    refine T_pfX1_32 C hP hD hS g4 eσ3 dX1_copyPlaces_19 (fun H locs hP hD hS => ?_)
    exact tX1_copyPlaces_22 C hA h hP hD hS (lv_sub hl [1, 2, 3, 0] rfl)
set_option maxRecDepth 100000 in
theorem kX1_copyPlaces {l : Launch} (hl0 : l.stackTraces = false) (sz : Nat) {st : Nat → Nat} {D : va_G} {a : Nat → Nat} {cc : Nat → ClassId} {N : Nat} {σr : St} {σ : St} {p0 : Int32} {p1 : Int32} (h : fX1_copyPlaces N σ p0 p1 = some σr) : Met l yX1_copyPlaces ((Cond.code yX1_copyPlaces cX1_copyPlaces 7 none :: WT)) rmX1_copyPlaces (T_Pc st D a cc [.ref (a 29), .int p0, .int p1] σ sz) (T_Qv D a cc σ sz σr) 0 0 (va_A (wT a cc σ) sz) := by
  refine Met.ofW (cc := cX1_copyPlaces) (maxL := 7) (ret := none) (by decide) rfl ?_
  intro p e s m args below meth c s₁ B hml hv
  obtain ⟨rfl, hsz, hP, hK, hD0, hTS⟩ := hv
  subst hsz
  have hl := lv_entry ([.ref (a 29), .int p0, .int p1]) (n := 7) (Nat.le_of_ble_eq_true rfl)
  rw [lg_entry_eq]
  generalize (lg_sl ([.ref (a 29), .int p0, .int p1]) ++ List.replicate (7 - (lg_sl ([.ref (a 29), .int p0, .int p1])).length) Slot.unset).toArray = ls at hl ⊢
  exact tX1_copyPlaces ⟨B.exec, B.bytes, B.returns, hml, findClass_of_methodNamed B.named, atoms_spec (ws := (Cond.code yX1_copyPlaces cX1_copyPlaces 7 none :: WT)) B.pre, (fun w h => List.mem_cons_of_mem _ h), hK, B.notSynchronized, hTS, hl0⟩ (fun q h => Or.inr h) h hP hD0.self va_S.rf hl
set_option maxHeartbeats 4000000 in
set_option maxRecDepth 100000 in
theorem tX1_wholeObligation {st : Nat → Nat} {p : Program} {l : Launch} {e : Env} {s : State} {m : MethodId} {args : Array Value} {below : List Frame} {meth : Method} {c : Code} {D : va_G} {a : Nat → Nat} {cc : Nat → ClassId} {A : Nat → Prop} {N : Nat} {r : Int32} {σr : St} (C : T_Cx st l A RX1 p s m args meth c D cc cX1_wholeObligation (Cond.code yX1_wholeObligation cX1_wholeObligation 1 (some .int) :: WT) 1 (some .int)) (hA : ∀ q, s.heap.size ≤ q → A q) {σ : St} {H : Heap} {locs : List Loc} {ls : Array Slot} (h : fX1_wholeObligation N σ = some (r, σr)) : va_P D vwCl (wT a cc σ) H → va_D A (wT a cc σ) → va_S A s.heap H locs → lv_has ls 1 [(0, .ref (a 29))] → W p l e rmX1_wholeObligation s m args below meth c H locs 0 0 (T_Mi D a cc A below args s r σr) (F0 m 0 ls []) := by
  obtain ⟨hx, hb, hr, hml, hown, hts, hin, hK, hlocks, hTS, hl0⟩ := id C
  intro hP hD hS hl
  refine lv_aload_n hx hb dX1_wholeObligation_0 rfl (lv_at hl 0 rfl) ?_
  refine T_gfX1_25 C hP dX1_wholeObligation_1 ?_
  refine lv_if_le (tgt := 24) hx hb dX1_wholeObligation_4 (by decide) (fun c1 => ?_) (fun c1 => ?_)
  · have h := ifT c1 h
    refine lv_iconst (v := (-1 : Int32)) hx hb dX1_wholeObligation_24 (by decide) ?_
    exact T_iret C h hP hD hS dX1_wholeObligation_25
  · have h := ifF c1 h
    refine lv_aload_n hx hb dX1_wholeObligation_7 rfl (lv_at hl 0 rfl) ?_
    refine T_gfX1_11 C hP dX1_wholeObligation_8 ?_
    refine lv_aload_n hx hb dX1_wholeObligation_11 rfl (lv_at hl 0 rfl) ?_
    refine T_gfX1_25 C hP dX1_wholeObligation_12 ?_
    refine lv_iconst (v := (1 : Int32)) hx hb dX1_wholeObligation_15 (by decide) ?_
    refine lv_isub hx hb dX1_wholeObligation_16 ?_
    obtain ⟨g2, h⟩ := grd_s h
    refine T_ldN C hP g2 dX1_wholeObligation_17 ?_
    obtain ⟨g3, h⟩ := grd_s h
    refine T_gfX1_46 C hP g3 dX1_wholeObligation_18 ?_
    refine lv_goto (tgt := 25) hx hb dX1_wholeObligation_21 (by decide) ?_
    exact T_iret C h hP hD hS dX1_wholeObligation_25
set_option maxRecDepth 100000 in
theorem kX1_wholeObligation {l : Launch} (hl0 : l.stackTraces = false) (sz : Nat) {st : Nat → Nat} {D : va_G} {a : Nat → Nat} {cc : Nat → ClassId} {N : Nat} {r : Int32} {σr : St} {σ : St} (h : fX1_wholeObligation N σ = some (r, σr)) : Met l yX1_wholeObligation ((Cond.code yX1_wholeObligation cX1_wholeObligation 1 (some .int) :: WT)) rmX1_wholeObligation (T_Pc st D a cc [.ref (a 29)] σ sz) (T_Qi D a cc σ sz r σr) 0 0 (va_A (wT a cc σ) sz) := by
  refine Met.ofW (cc := cX1_wholeObligation) (maxL := 1) (ret := (some .int)) (by decide) rfl ?_
  intro p e s m args below meth c s₁ B hml hv
  obtain ⟨rfl, hsz, hP, hK, hD0, hTS⟩ := hv
  subst hsz
  have hl := lv_entry ([.ref (a 29)]) (n := 1) (Nat.le_of_ble_eq_true rfl)
  rw [lg_entry_eq]
  generalize (lg_sl ([.ref (a 29)]) ++ List.replicate (1 - (lg_sl ([.ref (a 29)])).length) Slot.unset).toArray = ls at hl ⊢
  exact tX1_wholeObligation ⟨B.exec, B.bytes, B.returns, hml, findClass_of_methodNamed B.named, atoms_spec (ws := (Cond.code yX1_wholeObligation cX1_wholeObligation 1 (some .int) :: WT)) B.pre, (fun w h => List.mem_cons_of_mem _ h), hK, B.notSynchronized, hTS, hl0⟩ (fun q h => Or.inr h) h hP hD0.self va_S.rf hl
set_option maxHeartbeats 4000000 in
set_option maxRecDepth 100000 in
theorem tX2_renew_33 {st : Nat → Nat} {p : Program} {l : Launch} {e : Env} {s : State} {m : MethodId} {args : Array Value} {below : List Frame} {meth : Method} {c : Code} {D : va_G} {a : Nat → Nat} {cc : Nat → ClassId} {A : Nat → Prop} {N : Nat} {σr : St} {k7 : St → Int32 → Option St} (C : T_Cx st l A RX2 p s m args meth c D cc cX2_renew (Cond.code yX2_renew cX2_renew 2 none :: WT) 2 none) (hA : ∀ q, s.heap.size ≤ q → A q) (hk7 : ∀ {σ : St} {x1 : Int32} {H : Heap} {locs : List Loc} {ls : Array Slot}, k7 σ x1 = some σr → va_P D vwCl (wT a cc σ) H → va_D A (wT a cc σ) → va_S A s.heap H locs → lv_has ls 2 [(0, .ref (a 89)), (1, .int x1)] → W p l e rmX2_renew s m args below meth c H locs 0 0 (T_Mv D a cc A below args s σr) (F0 m 7 ls [])) {σ : St} {x1 : Int32} {H : Heap} {locs : List Loc} {ls : Array Slot} (h : fX2_renew_33 N k7 σ x1 = some σr) : va_P D vwCl (wT a cc σ) H → va_D A (wT a cc σ) → va_S A s.heap H locs → lv_has ls 2 [(0, .ref (a 89)), (1, .int x1)] → W p l e rmX2_renew s m args below meth c H locs 0 0 (T_Mv D a cc A below args s σr) (F0 m 33 ls []) := by
  obtain ⟨hx, hb, hr, hml, hown, hts, hin, hK, hlocks, hTS, hl0⟩ := id C
  intro hP hD hS hl
  obtain ⟨u6, eu6, h⟩ := letS_n h
  refine lv_iinc (v := u6) (lv' := [(1, .int u6), (0, .ref (a 89))]) hx hb dX2_renew_33 hl (k := 1) rfl (by rw [eu6]; rfl) (by decide) rfl (fun ls hl => ?_)
  refine lv_goto (tgt := 7) hx hb dX2_renew_36 (by decide) ?_
  exact hk7 h hP hD hS (lv_sub hl [1, 0] rfl)
set_option maxHeartbeats 4000000 in
set_option maxRecDepth 100000 in
theorem tX2_renew_7 {st : Nat → Nat} {p : Program} {l : Launch} {e : Env} {s : State} {m : MethodId} {args : Array Value} {below : List Frame} {meth : Method} {c : Code} {D : va_G} {a : Nat → Nat} {cc : Nat → ClassId} {A : Nat → Prop} {N : Nat} {σr : St} (C : T_Cx st l A RX2 p s m args meth c D cc cX2_renew (Cond.code yX2_renew cX2_renew 2 none :: WT) 2 none) (hA : ∀ q, s.heap.size ≤ q → A q) : ∀ (n : Nat) {σ : St} {x1 : Int32} {H : Heap} {locs : List Loc} {ls : Array Slot}, fX2_renew_7 N n σ x1 = some σr → va_P D vwCl (wT a cc σ) H → va_D A (wT a cc σ) → va_S A s.heap H locs → lv_has ls 2 [(0, .ref (a 89)), (1, .int x1)] → W p l e rmX2_renew s m args below meth c H locs 0 0 (T_Mv D a cc A below args s σr) (F0 m 7 ls []) := by
  obtain ⟨hx, hb, hr, hml, hown, hts, hin, hK, hlocks, hTS, hl0⟩ := id C
  intro n
  induction n with
  | zero => intro σ x1 H locs ls h; exact none_s h
  | succ n ih =>
    intro σ x1 H locs ls h hP hD hS hl
    refine lv_iload_n hx hb dX2_renew_7 rfl (lv_at hl 1 rfl) ?_
    refine lv_bipush (v := (6 : Int32)) hx hb dX2_renew_8 (by decide) ?_
    refine lv_icmp_gt (tgt := 39) hx hb dX2_renew_10 (by decide) (fun c2 => ?_) (fun c2 => ?_)
    · have h := ifT c2 h
      refine lv_aload_n hx hb dX2_renew_39 rfl (lv_at hl 0 rfl) ?_
      refine lv_iconst (v := (-1 : Int32)) hx hb dX2_renew_40 (by decide) ?_
      obtain ⟨σ3, eσ3, h⟩ := letS_n h
      refine T_pfX2_19 C hP hD hS eσ3 dX2_renew_41 (fun H locs hP hD hS => ?_)
      exact T_vret C h hP hD hS dX2_renew_44
    · have h := ifF c2 h
      refine lv_iconst (v := (1 : Int32)) hx hb dX2_renew_13 (by decide) ?_
      refine lv_iload_n hx hb dX2_renew_14 rfl (lv_at hl 1 rfl) ?_
      refine lv_iconst (v := (1 : Int32)) hx hb dX2_renew_15 (by decide) ?_
      refine lv_isub hx hb dX2_renew_16 ?_
      refine lv_ishl hx hb dX2_renew_17 ?_
      refine lv_aload_n hx hb dX2_renew_18 rfl (lv_at hl 0 rfl) ?_
      refine T_gfX2_11 C hP dX2_renew_19 ?_
      refine T_gfX2_32 C hP dX2_renew_22 ?_
      refine lv_icmp_gt (tgt := 33) hx hb dX2_renew_25 (by decide) (fun c4 => ?_) (fun c4 => ?_)
      · have h := ifT c4 h
        exact tX2_renew_33 C hA ih h hP hD hS (lv_sub hl [0, 1] rfl)
      · have h := ifF c4 h
        refine lv_aload_n hx hb dX2_renew_28 rfl (lv_at hl 0 rfl) ?_
        refine lv_iload_n hx hb dX2_renew_29 rfl (lv_at hl 1 rfl) ?_
        obtain ⟨σ5, eσ5, h⟩ := letS_n h
        refine T_pfX2_15 C hP hD hS eσ5 dX2_renew_30 (fun H locs hP hD hS => ?_)
        exact tX2_renew_33 C hA ih h hP hD hS (lv_sub hl [0, 1] rfl)
set_option maxHeartbeats 4000000 in
set_option maxRecDepth 100000 in
theorem tX2_renew {st : Nat → Nat} {p : Program} {l : Launch} {e : Env} {s : State} {m : MethodId} {args : Array Value} {below : List Frame} {meth : Method} {c : Code} {D : va_G} {a : Nat → Nat} {cc : Nat → ClassId} {A : Nat → Prop} {N : Nat} {σr : St} (C : T_Cx st l A RX2 p s m args meth c D cc cX2_renew (Cond.code yX2_renew cX2_renew 2 none :: WT) 2 none) (hA : ∀ q, s.heap.size ≤ q → A q) {σ : St} {H : Heap} {locs : List Loc} {ls : Array Slot} (h : fX2_renew N σ = some σr) : va_P D vwCl (wT a cc σ) H → va_D A (wT a cc σ) → va_S A s.heap H locs → lv_has ls 2 [(0, .ref (a 89))] → W p l e rmX2_renew s m args below meth c H locs 0 0 (T_Mv D a cc A below args s σr) (F0 m 0 ls []) := by
  obtain ⟨hx, hb, hr, hml, hown, hts, hin, hK, hlocks, hTS, hl0⟩ := id C
  intro hP hD hS hl
  refine lv_aload_n hx hb dX2_renew_0 rfl (lv_at hl 0 rfl) ?_
  refine lv_iconst (v := (1 : Int32)) hx hb dX2_renew_1 (by decide) ?_
  obtain ⟨σ1, eσ1, h⟩ := letS_n h
  refine T_pfX2_15 C hP hD hS eσ1 dX2_renew_2 (fun H locs hP hD hS => ?_)
  refine lv_iconst (v := (2 : Int32)) hx hb dX2_renew_5 (by decide) ?_
  refine lv_istore_n (lv' := [(1, .int (2 : Int32)), (0, .ref (a 89))]) hx hb dX2_renew_6 rfl hl (by decide) rfl (fun ls hl => ?_)
  exact tX2_renew_7 C hA N h hP hD hS (lv_sub hl [1, 0] rfl)
set_option maxRecDepth 100000 in
theorem kX2_renew {l : Launch} (hl0 : l.stackTraces = false) (sz : Nat) {st : Nat → Nat} {D : va_G} {a : Nat → Nat} {cc : Nat → ClassId} {N : Nat} {σr : St} {σ : St} (h : fX2_renew N σ = some σr) : Met l yX2_renew ((Cond.code yX2_renew cX2_renew 2 none :: WT)) rmX2_renew (T_Pc st D a cc [.ref (a 89)] σ sz) (T_Qv D a cc σ sz σr) 0 0 (va_A (wT a cc σ) sz) := by
  refine Met.ofW (cc := cX2_renew) (maxL := 2) (ret := none) (by decide) rfl ?_
  intro p e s m args below meth c s₁ B hml hv
  obtain ⟨rfl, hsz, hP, hK, hD0, hTS⟩ := hv
  subst hsz
  have hl := lv_entry ([.ref (a 89)]) (n := 2) (Nat.le_of_ble_eq_true rfl)
  rw [lg_entry_eq]
  generalize (lg_sl ([.ref (a 89)]) ++ List.replicate (2 - (lg_sl ([.ref (a 89)])).length) Slot.unset).toArray = ls at hl ⊢
  exact tX2_renew ⟨B.exec, B.bytes, B.returns, hml, findClass_of_methodNamed B.named, atoms_spec (ws := (Cond.code yX2_renew cX2_renew 2 none :: WT)) B.pre, (fun w h => List.mem_cons_of_mem _ h), hK, B.notSynchronized, hTS, hl0⟩ (fun q h => Or.inr h) h hP hD0.self va_S.rf hl
set_option maxHeartbeats 4000000 in
set_option maxRecDepth 100000 in
theorem tX2_codes {st : Nat → Nat} {p : Program} {l : Launch} {e : Env} {s : State} {m : MethodId} {args : Array Value} {below : List Frame} {meth : Method} {c : Code} {D : va_G} {a : Nat → Nat} {cc : Nat → ClassId} {A : Nat → Prop} {N : Nat} {r : Int32} {σr : St} (C : T_Cx st l A RX2 p s m args meth c D cc cX2_codes (Cond.code yX2_codes cX2_codes 1 (some .int) :: WT) 1 (some .int)) (hA : ∀ q, s.heap.size ≤ q → A q) {σ : St} {H : Heap} {locs : List Loc} {ls : Array Slot} (h : fX2_codes N σ = some (r, σr)) : va_P D vwCl (wT a cc σ) H → va_D A (wT a cc σ) → va_S A s.heap H locs → lv_has ls 1 [(0, .ref (a 89))] → W p l e rmX2_codes s m args below meth c H locs 0 0 (T_Mi D a cc A below args s r σr) (F0 m 0 ls []) := by
  obtain ⟨hx, hb, hr, hml, hown, hts, hin, hK, hlocks, hTS, hl0⟩ := id C
  intro hP hD hS hl
  refine lv_iconst (v := (1 : Int32)) hx hb dX2_codes_0 (by decide) ?_
  refine lv_aload_n hx hb dX2_codes_1 rfl (lv_at hl 0 rfl) ?_
  refine T_gfX2_15 C hP dX2_codes_2 ?_
  refine lv_ishl hx hb dX2_codes_5 ?_
  exact T_iret C h hP hD hS dX2_codes_6
set_option maxRecDepth 100000 in
theorem kX2_codes {l : Launch} (hl0 : l.stackTraces = false) (sz : Nat) {st : Nat → Nat} {D : va_G} {a : Nat → Nat} {cc : Nat → ClassId} {N : Nat} {r : Int32} {σr : St} {σ : St} (h : fX2_codes N σ = some (r, σr)) : Met l yX2_codes ((Cond.code yX2_codes cX2_codes 1 (some .int) :: WT)) rmX2_codes (T_Pc st D a cc [.ref (a 89)] σ sz) (T_Qi D a cc σ sz r σr) 0 0 (va_A (wT a cc σ) sz) := by
  refine Met.ofW (cc := cX2_codes) (maxL := 1) (ret := (some .int)) (by decide) rfl ?_
  intro p e s m args below meth c s₁ B hml hv
  obtain ⟨rfl, hsz, hP, hK, hD0, hTS⟩ := hv
  subst hsz
  have hl := lv_entry ([.ref (a 89)]) (n := 1) (Nat.le_of_ble_eq_true rfl)
  rw [lg_entry_eq]
  generalize (lg_sl ([.ref (a 89)]) ++ List.replicate (1 - (lg_sl ([.ref (a 89)])).length) Slot.unset).toArray = ls at hl ⊢
  exact tX2_codes ⟨B.exec, B.bytes, B.returns, hml, findClass_of_methodNamed B.named, atoms_spec (ws := (Cond.code yX2_codes cX2_codes 1 (some .int) :: WT)) B.pre, (fun w h => List.mem_cons_of_mem _ h), hK, B.notSynchronized, hTS, hl0⟩ (fun q h => Or.inr h) h hP hD0.self va_S.rf hl
set_option maxHeartbeats 4000000 in
set_option maxRecDepth 100000 in
theorem tX4_after_12 {st : Nat → Nat} {p : Program} {l : Launch} {e : Env} {s : State} {m : MethodId} {args : Array Value} {below : List Frame} {meth : Method} {c : Code} {D : va_G} {a : Nat → Nat} {cc : Nat → ClassId} {A : Nat → Prop} {N : Nat} {r : Int32} {σr : St} (C : T_Cx st l A RX4 p s m args meth c D cc cX4_after (Cond.code yX4_after cX4_after 3 (some .int) :: WT) 3 (some .int)) (hA : ∀ q, s.heap.size ≤ q → A q) {σ : St} {H : Heap} {locs : List Loc} {ls : Array Slot} (h : fX4_after_12 N σ = some (r, σr)) : va_P D vwCl (wT a cc σ) H → va_D A (wT a cc σ) → va_S A s.heap H locs → lv_has ls 3 [] → W p l e rmX4_after s m args below meth c H locs 0 0 (T_Mi D a cc A below args s r σr) (F0 m 12 ls []) := by
  obtain ⟨hx, hb, hr, hml, hown, hts, hin, hK, hlocks, hTS, hl0⟩ := id C
  intro hP hD hS hl
  refine lv_iconst (v := (-1 : Int32)) hx hb dX4_after_12 (by decide) ?_
  refine lv_goto (tgt := 27) hx hb dX4_after_13 (by decide) ?_
  exact T_iret C h hP hD hS dX4_after_27
set_option maxHeartbeats 4000000 in
set_option maxRecDepth 100000 in
theorem tX4_after {st : Nat → Nat} {p : Program} {l : Launch} {e : Env} {s : State} {m : MethodId} {args : Array Value} {below : List Frame} {meth : Method} {c : Code} {D : va_G} {a : Nat → Nat} {cc : Nat → ClassId} {A : Nat → Prop} {N : Nat} {r : Int32} {σr : St} (C : T_Cx st l A RX4 p s m args meth c D cc cX4_after (Cond.code yX4_after cX4_after 3 (some .int) :: WT) 3 (some .int)) (hA : ∀ q, s.heap.size ≤ q → A q) {σ : St} {p0 : Int32} {p1 : Int32} {H : Heap} {locs : List Loc} {ls : Array Slot} (h : fX4_after N σ p0 p1 = some (r, σr)) : va_P D vwCl (wT a cc σ) H → va_D A (wT a cc σ) → va_S A s.heap H locs → lv_has ls 3 [(0, .ref (a 79)), (1, .int p0), (2, .int p1)] → W p l e rmX4_after s m args below meth c H locs 0 0 (T_Mi D a cc A below args s r σr) (F0 m 0 ls []) := by
  obtain ⟨hx, hb, hr, hml, hown, hts, hin, hK, hlocks, hTS, hl0⟩ := id C
  intro hP hD hS hl
  refine lv_iload_n hx hb dX4_after_0 rfl (lv_at hl 1 rfl) ?_
  refine lv_if_lt (tgt := 12) hx hb dX4_after_1 (by decide) (fun c1 => ?_) (fun c1 => ?_)
  · have h := ifT c1 h
    exact tX4_after_12 C hA h hP hD hS (lv_sub hl [] rfl)
  · have h := ifF c1 h
    refine lv_iload_n hx hb dX4_after_4 rfl (lv_at hl 1 rfl) ?_
    refine lv_aload_n hx hb dX4_after_5 rfl (lv_at hl 0 rfl) ?_
    refine T_gfX4_15 C hP dX4_after_6 ?_
    refine lv_icmp_lt (tgt := 16) hx hb dX4_after_9 (by decide) (fun c2 => ?_) (fun c2 => ?_)
    · have h := ifT c2 h
      refine lv_aload_n hx hb dX4_after_16 rfl (lv_at hl 0 rfl) ?_
      refine T_gfX4_19 C hP dX4_after_17 ?_
      refine lv_iload_n hx hb dX4_after_20 rfl (lv_at hl 1 rfl) ?_
      refine lv_bipush (v := (8 : Int32)) hx hb dX4_after_21 (by decide) ?_
      refine lv_imul hx hb dX4_after_23 ?_
      refine lv_iload_n hx hb dX4_after_24 rfl (lv_at hl 2 rfl) ?_
      refine lv_iadd hx hb dX4_after_25 ?_
      obtain ⟨g3, h⟩ := grd_s h
      refine T_ld72 C hP g3 dX4_after_26 ?_
      exact T_iret C h hP hD hS dX4_after_27
    · have h := ifF c2 h
      exact tX4_after_12 C hA h hP hD hS (lv_sub hl [] rfl)
set_option maxRecDepth 100000 in
theorem kX4_after {l : Launch} (hl0 : l.stackTraces = false) (sz : Nat) {st : Nat → Nat} {D : va_G} {a : Nat → Nat} {cc : Nat → ClassId} {N : Nat} {r : Int32} {σr : St} {σ : St} {p0 : Int32} {p1 : Int32} (h : fX4_after N σ p0 p1 = some (r, σr)) : Met l yX4_after ((Cond.code yX4_after cX4_after 3 (some .int) :: WT)) rmX4_after (T_Pc st D a cc [.ref (a 79), .int p0, .int p1] σ sz) (T_Qi D a cc σ sz r σr) 0 0 (va_A (wT a cc σ) sz) := by
  refine Met.ofW (cc := cX4_after) (maxL := 3) (ret := (some .int)) (by decide) rfl ?_
  intro p e s m args below meth c s₁ B hml hv
  obtain ⟨rfl, hsz, hP, hK, hD0, hTS⟩ := hv
  subst hsz
  have hl := lv_entry ([.ref (a 79), .int p0, .int p1]) (n := 3) (Nat.le_of_ble_eq_true rfl)
  rw [lg_entry_eq]
  generalize (lg_sl ([.ref (a 79), .int p0, .int p1]) ++ List.replicate (3 - (lg_sl ([.ref (a 79), .int p0, .int p1])).length) Slot.unset).toArray = ls at hl ⊢
  exact tX4_after ⟨B.exec, B.bytes, B.returns, hml, findClass_of_methodNamed B.named, atoms_spec (ws := (Cond.code yX4_after cX4_after 3 (some .int) :: WT)) B.pre, (fun w h => List.mem_cons_of_mem _ h), hK, B.notSynchronized, hTS, hl0⟩ (fun q h => Or.inr h) h hP hD0.self va_S.rf hl
set_option maxHeartbeats 4000000 in
set_option maxRecDepth 100000 in
theorem tX2_isOn_41 {st : Nat → Nat} {p : Program} {l : Launch} {e : Env} {s : State} {m : MethodId} {args : Array Value} {below : List Frame} {meth : Method} {c : Code} {D : va_G} {a : Nat → Nat} {cc : Nat → ClassId} {A : Nat → Prop} {N : Nat} {r : Int32} {σr : St} (C : T_Cx st l A RX2 p s m args meth c D cc cX2_isOn (Cond.code yX2_isOn cX2_isOn 7 (some .boolean) :: WT) 7 (some .boolean)) (hA : ∀ q, s.heap.size ≤ q → A q) {σ : St} {x1 : Int32} {x5 : Int32} {y0 : Int32} {H : Heap} {locs : List Loc} {ls : Array Slot} (h : fX2_isOn_41 N σ x1 x5 y0 = some (r, σr)) : va_P D vwCl (wT a cc σ) H → va_D A (wT a cc σ) → va_S A s.heap H locs → lv_has ls 7 [(0, .ref (a 89)), (1, .int x1), (5, .int x5)] → W p l e rmX2_isOn s m args below meth c H locs 0 0 (T_Mi D a cc A below args s r σr) (F0 m 41 ls [.int y0]) := by
  obtain ⟨hx, hb, hr, hml, hown, hts, hin, hK, hlocks, hTS, hl0⟩ := id C
  intro hP hD hS hl
  refine lv_istore (lv' := [(6, .int y0), (0, .ref (a 89)), (1, .int x1), (5, .int x5)]) hx hb dX2_isOn_41 hl (by decide) rfl (fun ls hl => ?_)
  refine lv_iload_n hx hb dX2_isOn_43 rfl (lv_at hl 2 rfl) ?_
  refine lv_aload_n hx hb dX2_isOn_44 rfl (lv_at hl 1 rfl) ?_
  refine T_gfX2_15 C hP dX2_isOn_45 ?_
  refine lv_icmp_ne (tgt := 56) hx hb dX2_isOn_48 (by decide) (fun c5 => ?_) (fun c5 => ?_)
  · have h := ifF c5 h
    refine lv_iload hx hb dX2_isOn_56 (lv_at hl 0 rfl) ?_
    refine lv_iload_n hx hb dX2_isOn_58 rfl (lv_at hl 2 rfl) ?_
    obtain ⟨r7, σ6, hc, h⟩ := bnd_s h
    refine T_callTi (As := [.int y0, .int x1]) (rest := []) C hA (fun sz => kX8_has hl0 sz hc) gX2_41 hP hD hS ⟨by decide, by decide⟩ ⟨rfl, rfl⟩ rfl hl.1 rfl (lv_room (Nat.le_of_ble_eq_true rfl)) dX2_isOn_59 (fun H locs hP hD hS => ?_)
    exact T_zretZ C h hP hD hS dX2_isOn_62
  · have h := ifT c5 h
    refine lv_iload hx hb dX2_isOn_51 (lv_at hl 3 rfl) ?_
    refine lv_goto (tgt := 62) hx hb dX2_isOn_53 (by decide) ?_
    exact T_zretZ C h hP hD hS dX2_isOn_62
set_option maxHeartbeats 4000000 in
set_option maxRecDepth 100000 in
theorem tX2_isOn_22 {st : Nat → Nat} {p : Program} {l : Launch} {e : Env} {s : State} {m : MethodId} {args : Array Value} {below : List Frame} {meth : Method} {c : Code} {D : va_G} {a : Nat → Nat} {cc : Nat → ClassId} {A : Nat → Prop} {N : Nat} {r : Int32} {σr : St} (C : T_Cx st l A RX2 p s m args meth c D cc cX2_isOn (Cond.code yX2_isOn cX2_isOn 7 (some .boolean) :: WT) 7 (some .boolean)) (hA : ∀ q, s.heap.size ≤ q → A q) {σ : St} {x1 : Int32} {x4 : Int32} {y0 : Int32} {H : Heap} {locs : List Loc} {ls : Array Slot} (h : fX2_isOn_22 N σ x1 x4 y0 = some (r, σr)) : va_P D vwCl (wT a cc σ) H → va_D A (wT a cc σ) → va_S A s.heap H locs → lv_has ls 7 [(0, .ref (a 89)), (1, .int x1), (4, .int x4)] → W p l e rmX2_isOn s m args below meth c H locs 0 0 (T_Mi D a cc A below args s r σr) (F0 m 22 ls [.int y0]) := by
  obtain ⟨hx, hb, hr, hml, hown, hts, hin, hK, hlocks, hTS, hl0⟩ := id C
  intro hP hD hS hl
  refine lv_istore (lv' := [(5, .int y0), (0, .ref (a 89)), (1, .int x1), (4, .int x4)]) hx hb dX2_isOn_22 hl (by decide) rfl (fun ls hl => ?_)
  refine lv_iload hx hb dX2_isOn_24 (lv_at hl 0 rfl) ?_
  refine lv_if_eq (tgt := 39) hx hb dX2_isOn_26 (by decide) (fun c4 => ?_) (fun c4 => ?_)
  · have h := ifT c4 h
    refine lv_iload hx hb dX2_isOn_39 (lv_at hl 3 rfl) ?_
    exact tX2_isOn_41 C hA h hP hD hS (lv_sub hl [1, 2, 0] rfl)
  · have h := ifF c4 h
    refine lv_aload_n hx hb dX2_isOn_29 rfl (lv_at hl 1 rfl) ?_
    refine T_gfX2_11 C hP dX2_isOn_30 ?_
    refine T_gfX2_32 C hP dX2_isOn_33 ?_
    refine lv_goto (tgt := 41) hx hb dX2_isOn_36 (by decide) ?_
    exact tX2_isOn_41 C hA h hP hD hS (lv_sub hl [1, 2, 0] rfl)
set_option maxHeartbeats 4000000 in
set_option maxRecDepth 100000 in
theorem tX2_isOn {st : Nat → Nat} {p : Program} {l : Launch} {e : Env} {s : State} {m : MethodId} {args : Array Value} {below : List Frame} {meth : Method} {c : Code} {D : va_G} {a : Nat → Nat} {cc : Nat → ClassId} {A : Nat → Prop} {N : Nat} {r : Int32} {σr : St} (C : T_Cx st l A RX2 p s m args meth c D cc cX2_isOn (Cond.code yX2_isOn cX2_isOn 7 (some .boolean) :: WT) 7 (some .boolean)) (hA : ∀ q, s.heap.size ≤ q → A q) {σ : St} {p0 : Int32} {p1 : Int32} {p2 : Int32} {H : Heap} {locs : List Loc} {ls : Array Slot} (h : fX2_isOn N σ p0 p1 p2 = some (r, σr)) : va_P D vwCl (wT a cc σ) H → va_D A (wT a cc σ) → va_S A s.heap H locs → lv_has ls 7 [(0, .ref (a 89)), (1, .int p0), (2, .int p1), (3, .int p2)] → W p l e rmX2_isOn s m args below meth c H locs 0 0 (T_Mi D a cc A below args s r σr) (F0 m 0 ls []) := by
  obtain ⟨hx, hb, hr, hml, hown, hts, hin, hK, hlocks, hTS, hl0⟩ := id C
  intro hP hD hS hl
  refine lv_aload_n hx hb dX2_isOn_0 rfl (lv_at hl 0 rfl) ?_
  refine T_gfX2_11 C hP dX2_isOn_1 ?_
  refine lv_iload_n hx hb dX2_isOn_4 rfl (lv_at hl 2 rfl) ?_
  refine lv_iload_n hx hb dX2_isOn_5 rfl (lv_at hl 3 rfl) ?_
  obtain ⟨r2, σ1, hc, h⟩ := bnd_s h
  refine T_callNi (q0 := 14) (ci := 8) (As := [.int p1, .int p2]) (rest := []) C hA (fun sz => kX4_after hl0 sz hc) gX2_37 hP hD hS rfl rfl ⟨by decide, by decide⟩ ⟨rfl, rfl⟩ rfl hl.1 rfl (lv_room (Nat.le_of_ble_eq_true rfl)) dX2_isOn_6 (fun H locs hP hD hS => ?_)
  refine lv_istore (lv' := [(4, .int r2), (0, .ref (a 89)), (1, .int p0), (2, .int p1), (3, .int p2)]) hx hb dX2_isOn_9 hl (by decide) rfl (fun ls hl => ?_)
  refine lv_iload hx hb dX2_isOn_11 (lv_at hl 0 rfl) ?_
  refine lv_iconst (v := (-1 : Int32)) hx hb dX2_isOn_13 (by decide) ?_
  refine lv_icmp_ne (tgt := 21) hx hb dX2_isOn_14 (by decide) (fun c3 => ?_) (fun c3 => ?_)
  · have h := ifF c3 h
    refine lv_iconst (v := (0 : Int32)) hx hb dX2_isOn_21 (by decide) ?_
    exact tX2_isOn_22 C hA h hP hD hS (lv_sub hl [1, 2, 0] rfl)
  · have h := ifT c3 h
    refine lv_iconst (v := (1 : Int32)) hx hb dX2_isOn_17 (by decide) ?_
    refine lv_goto (tgt := 22) hx hb dX2_isOn_18 (by decide) ?_
    exact tX2_isOn_22 C hA h hP hD hS (lv_sub hl [1, 2, 0] rfl)
set_option maxRecDepth 100000 in
theorem kX2_isOn {l : Launch} (hl0 : l.stackTraces = false) (sz : Nat) {st : Nat → Nat} {D : va_G} {a : Nat → Nat} {cc : Nat → ClassId} {N : Nat} {r : Int32} {σr : St} {σ : St} {p0 : Int32} {p1 : Int32} {p2 : Int32} (h : fX2_isOn N σ p0 p1 p2 = some (r, σr)) : Met l yX2_isOn ((Cond.code yX2_isOn cX2_isOn 7 (some .boolean) :: WT)) rmX2_isOn (T_Pc st D a cc [.ref (a 89), .int p0, .int p1, .int p2] σ sz) (T_Qi D a cc σ sz r σr) 0 0 (va_A (wT a cc σ) sz) := by
  refine Met.ofW (cc := cX2_isOn) (maxL := 7) (ret := (some .boolean)) (by decide) rfl ?_
  intro p e s m args below meth c s₁ B hml hv
  obtain ⟨rfl, hsz, hP, hK, hD0, hTS⟩ := hv
  subst hsz
  have hl := lv_entry ([.ref (a 89), .int p0, .int p1, .int p2]) (n := 7) (Nat.le_of_ble_eq_true rfl)
  rw [lg_entry_eq]
  generalize (lg_sl ([.ref (a 89), .int p0, .int p1, .int p2]) ++ List.replicate (7 - (lg_sl ([.ref (a 89), .int p0, .int p1, .int p2])).length) Slot.unset).toArray = ls at hl ⊢
  exact tX2_isOn ⟨B.exec, B.bytes, B.returns, hml, findClass_of_methodNamed B.named, atoms_spec (ws := (Cond.code yX2_isOn cX2_isOn 7 (some .boolean) :: WT)) B.pre, (fun w h => List.mem_cons_of_mem _ h), hK, B.notSynchronized, hTS, hl0⟩ (fun q h => Or.inr h) h hP hD0.self va_S.rf hl
set_option maxHeartbeats 4000000 in
set_option maxRecDepth 100000 in
theorem tX2_fillCells_69 {st : Nat → Nat} {p : Program} {l : Launch} {e : Env} {s : State} {m : MethodId} {args : Array Value} {below : List Frame} {meth : Method} {c : Code} {D : va_G} {a : Nat → Nat} {cc : Nat → ClassId} {A : Nat → Prop} {N : Nat} {r : Int32} {σr : St} {k4 : St → Int32 → Int32 → Option (Int32 × St)} {k14 : St → Int32 → Int32 → Int32 → Option (Int32 × St)} {k38 : St → Int32 → Int32 → Int32 → Int32 → Int32 → Option (Int32 × St)} (C : T_Cx st l A RX2 p s m args meth c D cc cX2_fillCells (Cond.code yX2_fillCells cX2_fillCells 6 (some .int) :: WT) 6 (some .int)) (hA : ∀ q, s.heap.size ≤ q → A q) (hk4 : ∀ {σ : St} {x1 : Int32} {x2 : Int32} {H : Heap} {locs : List Loc} {ls : Array Slot}, k4 σ x1 x2 = some (r, σr) → va_P D vwCl (wT a cc σ) H → va_D A (wT a cc σ) → va_S A s.heap H locs → lv_has ls 6 [(0, .ref (a 89)), (1, .int x1), (2, .int x2)] → W p l e rmX2_fillCells s m args below meth c H locs 0 0 (T_Mi D a cc A below args s r σr) (F0 m 4 ls [])) (hk14 : ∀ {σ : St} {x1 : Int32} {x2 : Int32} {x3 : Int32} {H : Heap} {locs : List Loc} {ls : Array Slot}, k14 σ x1 x2 x3 = some (r, σr) → va_P D vwCl (wT a cc σ) H → va_D A (wT a cc σ) → va_S A s.heap H locs → lv_has ls 6 [(0, .ref (a 89)), (1, .int x1), (2, .int x2), (3, .int x3)] → W p l e rmX2_fillCells s m args below meth c H locs 0 0 (T_Mi D a cc A below args s r σr) (F0 m 14 ls [])) (hk38 : ∀ {σ : St} {x1 : Int32} {x2 : Int32} {x3 : Int32} {x4 : Int32} {x5 : Int32} {H : Heap} {locs : List Loc} {ls : Array Slot}, k38 σ x1 x2 x3 x4 x5 = some (r, σr) → va_P D vwCl (wT a cc σ) H → va_D A (wT a cc σ) → va_S A s.heap H locs → lv_has ls 6 [(0, .ref (a 89)), (1, .int x1), (2, .int x2), (3, .int x3), (4, .int x4), (5, .int x5)] → W p l e rmX2_fillCells s m args below meth c H locs 0 0 (T_Mi D a cc A below args s r σr) (F0 m 38 ls [])) {σ : St} {x1 : Int32} {x2 : Int32} {x3 : Int32} {x4 : Int32} {x5 : Int32} {y0 : Int32} {y1 : Int32} {H : Heap} {locs : List Loc} {ls : Array Slot} (h : fX2_fillCells_69 N k4 k14 k38 σ x1 x2 x3 x4 x5 y0 y1 = some (r, σr)) : va_P D vwCl (wT a cc σ) H → va_D A (wT a cc σ) → va_S A s.heap H locs → lv_has ls 6 [(0, .ref (a 89)), (1, .int x1), (2, .int x2), (3, .int x3), (4, .int x4), (5, .int x5)] → W p l e rmX2_fillCells s m args below meth c H locs 0 0 (T_Mi D a cc A below args s r σr) (F0 m 69 ls [.int y0, .int y1, .ref (a 83)]) := by
  obtain ⟨hx, hb, hr, hml, hown, hts, hin, hK, hlocks, hTS, hl0⟩ := id C
  intro hP hD hS hl
  obtain ⟨g12, h⟩ := grd_s h
  obtain ⟨σ13, eσ13, h⟩ := letS_n h
  refine T_st83 C hP hD hS g12 eσ13 dX2_fillCells_69 (fun H locs hP hD hS => ?_)
  obtain ⟨u14, eu14, h⟩ := letS_n h
  refine lv_iinc (v := u14) (lv' := [(1, .int u14), (0, .ref (a 89)), (2, .int x2), (3, .int x3), (4, .int x4), (5, .int x5)]) hx hb dX2_fillCells_70 hl (k := 1) rfl (by rw [eu14]; rfl) (by decide) rfl (fun ls hl => ?_)
  obtain ⟨u15, eu15, h⟩ := letS_n h
  refine lv_iinc (v := u15) (lv' := [(5, .int u15), (1, .int u14), (0, .ref (a 89)), (2, .int x2), (3, .int x3), (4, .int x4)]) hx hb dX2_fillCells_73 hl (k := 5) rfl (by rw [eu15]; rfl) (by decide) rfl (fun ls hl => ?_)
  refine lv_goto (tgt := 38) hx hb dX2_fillCells_76 (by decide) ?_
  exact hk38 h hP hD hS (lv_sub hl [2, 1, 3, 4, 5, 0] rfl)
set_option maxHeartbeats 4000000 in
set_option maxRecDepth 100000 in
theorem tX2_fillCells_38 {st : Nat → Nat} {p : Program} {l : Launch} {e : Env} {s : State} {m : MethodId} {args : Array Value} {below : List Frame} {meth : Method} {c : Code} {D : va_G} {a : Nat → Nat} {cc : Nat → ClassId} {A : Nat → Prop} {N : Nat} {r : Int32} {σr : St} {k4 : St → Int32 → Int32 → Option (Int32 × St)} {k14 : St → Int32 → Int32 → Int32 → Option (Int32 × St)} (C : T_Cx st l A RX2 p s m args meth c D cc cX2_fillCells (Cond.code yX2_fillCells cX2_fillCells 6 (some .int) :: WT) 6 (some .int)) (hA : ∀ q, s.heap.size ≤ q → A q) (hk4 : ∀ {σ : St} {x1 : Int32} {x2 : Int32} {H : Heap} {locs : List Loc} {ls : Array Slot}, k4 σ x1 x2 = some (r, σr) → va_P D vwCl (wT a cc σ) H → va_D A (wT a cc σ) → va_S A s.heap H locs → lv_has ls 6 [(0, .ref (a 89)), (1, .int x1), (2, .int x2)] → W p l e rmX2_fillCells s m args below meth c H locs 0 0 (T_Mi D a cc A below args s r σr) (F0 m 4 ls [])) (hk14 : ∀ {σ : St} {x1 : Int32} {x2 : Int32} {x3 : Int32} {H : Heap} {locs : List Loc} {ls : Array Slot}, k14 σ x1 x2 x3 = some (r, σr) → va_P D vwCl (wT a cc σ) H → va_D A (wT a cc σ) → va_S A s.heap H locs → lv_has ls 6 [(0, .ref (a 89)), (1, .int x1), (2, .int x2), (3, .int x3)] → W p l e rmX2_fillCells s m args below meth c H locs 0 0 (T_Mi D a cc A below args s r σr) (F0 m 14 ls [])) : ∀ (n : Nat) {σ : St} {x1 : Int32} {x2 : Int32} {x3 : Int32} {x4 : Int32} {x5 : Int32} {H : Heap} {locs : List Loc} {ls : Array Slot}, fX2_fillCells_38 N k4 k14 n σ x1 x2 x3 x4 x5 = some (r, σr) → va_P D vwCl (wT a cc σ) H → va_D A (wT a cc σ) → va_S A s.heap H locs → lv_has ls 6 [(0, .ref (a 89)), (1, .int x1), (2, .int x2), (3, .int x3), (4, .int x4), (5, .int x5)] → W p l e rmX2_fillCells s m args below meth c H locs 0 0 (T_Mi D a cc A below args s r σr) (F0 m 38 ls []) := by
  obtain ⟨hx, hb, hr, hml, hown, hts, hin, hK, hlocks, hTS, hl0⟩ := id C
  intro n
  induction n with
  | zero => intro σ x1 x2 x3 x4 x5 H locs ls h; exact none_s h
  | succ n ih =>
    intro σ x1 x2 x3 x4 x5 H locs ls h hP hD hS hl
    refine lv_iload hx hb dX2_fillCells_38 (lv_at hl 5 rfl) ?_
    refine lv_aload_n hx hb dX2_fillCells_40 rfl (lv_at hl 0 rfl) ?_
    obtain ⟨r6, σ5, hc, h⟩ := bnd_s h
    refine T_callVi (q0 := 21) (ci := 6) (As := []) (rest := [.int x5]) C hA (fun sz => kX2_codes hl0 sz hc) gX2_56 hP hD hS rfl rfl ⟨by decide, by decide⟩ ⟨rfl, rfl⟩ rfl hl.1 rfl (lv_room (Nat.le_of_ble_eq_true rfl)) dX2_fillCells_41 (fun H locs hP hD hS => ?_)
    refine lv_icmp_ge (tgt := 79) hx hb dX2_fillCells_44 (by decide) (fun c7 => ?_) (fun c7 => ?_)
    · have h := ifT c7 h
      obtain ⟨u8, eu8, h⟩ := letS_n h
      refine lv_iinc (v := u8) (lv' := [(3, .int u8), (0, .ref (a 89)), (1, .int x1), (2, .int x2), (4, .int x4), (5, .int x5)]) hx hb dX2_fillCells_79 hl (k := 3) rfl (by rw [eu8]; rfl) (by decide) rfl (fun ls hl => ?_)
      refine lv_goto (tgt := 14) hx hb dX2_fillCells_82 (by decide) ?_
      exact hk14 h hP hD hS (lv_sub hl [1, 2, 3, 0] rfl)
    · have h := ifF c7 h
      refine lv_aload_n hx hb dX2_fillCells_47 rfl (lv_at hl 0 rfl) ?_
      refine T_gfX2_22 C hP dX2_fillCells_48 ?_
      refine lv_iload_n hx hb dX2_fillCells_51 rfl (lv_at hl 1 rfl) ?_
      refine lv_aload_n hx hb dX2_fillCells_52 rfl (lv_at hl 0 rfl) ?_
      refine lv_iload_n hx hb dX2_fillCells_53 rfl (lv_at hl 2 rfl) ?_
      refine lv_iload hx hb dX2_fillCells_54 (lv_at hl 5 rfl) ?_
      refine lv_iload hx hb dX2_fillCells_56 (lv_at hl 4 rfl) ?_
      obtain ⟨r10, σ9, hc, h⟩ := bnd_s h
      refine T_callVi (q0 := 21) (ci := 6) (As := [.int x2, .int x5, .int x4]) (rest := [.int x1, .ref (a 83)]) C hA (fun sz => kX2_isOn hl0 sz hc) gX2_59 hP hD hS rfl rfl ⟨by decide, by decide⟩ ⟨rfl, rfl⟩ rfl hl.1 rfl (lv_room (Nat.le_of_ble_eq_true rfl)) dX2_fillCells_58 (fun H locs hP hD hS => ?_)
      refine lv_if_eq (tgt := 68) hx hb dX2_fillCells_61 (by decide) (fun c11 => ?_) (fun c11 => ?_)
      · have h := ifT c11 h
        refine lv_iconst (v := (0 : Int32)) hx hb dX2_fillCells_68 (by decide) ?_
        exact tX2_fillCells_69 C hA hk4 hk14 ih h hP hD hS (lv_sub hl [0, 1, 2, 3, 4, 5] rfl)
      · have h := ifF c11 h
        refine lv_iconst (v := (1 : Int32)) hx hb dX2_fillCells_64 (by decide) ?_
        refine lv_goto (tgt := 69) hx hb dX2_fillCells_65 (by decide) ?_
        exact tX2_fillCells_69 C hA hk4 hk14 ih h hP hD hS (lv_sub hl [0, 1, 2, 3, 4, 5] rfl)
set_option maxHeartbeats 4000000 in
set_option maxRecDepth 100000 in
theorem tX2_fillCells_14 {st : Nat → Nat} {p : Program} {l : Launch} {e : Env} {s : State} {m : MethodId} {args : Array Value} {below : List Frame} {meth : Method} {c : Code} {D : va_G} {a : Nat → Nat} {cc : Nat → ClassId} {A : Nat → Prop} {N : Nat} {r : Int32} {σr : St} {k4 : St → Int32 → Int32 → Option (Int32 × St)} (C : T_Cx st l A RX2 p s m args meth c D cc cX2_fillCells (Cond.code yX2_fillCells cX2_fillCells 6 (some .int) :: WT) 6 (some .int)) (hA : ∀ q, s.heap.size ≤ q → A q) (hk4 : ∀ {σ : St} {x1 : Int32} {x2 : Int32} {H : Heap} {locs : List Loc} {ls : Array Slot}, k4 σ x1 x2 = some (r, σr) → va_P D vwCl (wT a cc σ) H → va_D A (wT a cc σ) → va_S A s.heap H locs → lv_has ls 6 [(0, .ref (a 89)), (1, .int x1), (2, .int x2)] → W p l e rmX2_fillCells s m args below meth c H locs 0 0 (T_Mi D a cc A below args s r σr) (F0 m 4 ls [])) : ∀ (n : Nat) {σ : St} {x1 : Int32} {x2 : Int32} {x3 : Int32} {H : Heap} {locs : List Loc} {ls : Array Slot}, fX2_fillCells_14 N k4 n σ x1 x2 x3 = some (r, σr) → va_P D vwCl (wT a cc σ) H → va_D A (wT a cc σ) → va_S A s.heap H locs → lv_has ls 6 [(0, .ref (a 89)), (1, .int x1), (2, .int x2), (3, .int x3)] → W p l e rmX2_fillCells s m args below meth c H locs 0 0 (T_Mi D a cc A below args s r σr) (F0 m 14 ls []) := by
  obtain ⟨hx, hb, hr, hml, hown, hts, hin, hK, hlocks, hTS, hl0⟩ := id C
  intro n
  induction n with
  | zero => intro σ x1 x2 x3 H locs ls h; exact none_s h
  | succ n ih =>
    intro σ x1 x2 x3 H locs ls h hP hD hS hl
    refine lv_iload_n hx hb dX2_fillCells_14 rfl (lv_at hl 3 rfl) ?_
    refine lv_bipush (v := (8 : Int32)) hx hb dX2_fillCells_15 (by decide) ?_
    refine lv_icmp_ge (tgt := 85) hx hb dX2_fillCells_17 (by decide) (fun c2 => ?_) (fun c2 => ?_)
    · have h := ifT c2 h
      obtain ⟨u3, eu3, h⟩ := letS_n h
      refine lv_iinc (v := u3) (lv' := [(2, .int u3), (0, .ref (a 89)), (1, .int x1), (3, .int x3)]) hx hb dX2_fillCells_85 hl (k := 2) rfl (by rw [eu3]; rfl) (by decide) rfl (fun ls hl => ?_)
      refine lv_goto (tgt := 4) hx hb dX2_fillCells_88 (by decide) ?_
      exact hk4 h hP hD hS (lv_sub hl [1, 2, 0] rfl)
    · have h := ifF c2 h
      refine lv_iload_n hx hb dX2_fillCells_20 rfl (lv_at hl 3 rfl) ?_
      refine lv_iconst (v := (1 : Int32)) hx hb dX2_fillCells_21 (by decide) ?_
      refine lv_iand hx hb dX2_fillCells_22 ?_
      refine lv_iconst (v := (2 : Int32)) hx hb dX2_fillCells_23 (by decide) ?_
      refine lv_ishl hx hb dX2_fillCells_24 ?_
      refine lv_iload_n hx hb dX2_fillCells_25 rfl (lv_at hl 3 rfl) ?_
      refine lv_iconst (v := (2 : Int32)) hx hb dX2_fillCells_26 (by decide) ?_
      refine lv_iand hx hb dX2_fillCells_27 ?_
      refine lv_ior hx hb dX2_fillCells_28 ?_
      refine lv_iload_n hx hb dX2_fillCells_29 rfl (lv_at hl 3 rfl) ?_
      refine lv_iconst (v := (2 : Int32)) hx hb dX2_fillCells_30 (by decide) ?_
      refine lv_ishr hx hb dX2_fillCells_31 ?_
      refine lv_ior hx hb dX2_fillCells_32 ?_
      obtain ⟨u4, eu4, h⟩ := letS_n h
      refine lv_topE eu4 ?_
      refine lv_istore (lv' := [(4, .int u4), (0, .ref (a 89)), (1, .int x1), (2, .int x2), (3, .int x3)]) hx hb dX2_fillCells_33 hl (by decide) rfl (fun ls hl => ?_)
      refine lv_iconst (v := (0 : Int32)) hx hb dX2_fillCells_35 (by decide) ?_
      refine lv_istore (lv' := [(5, .int (0 : Int32)), (4, .int u4), (0, .ref (a 89)), (1, .int x1), (2, .int x2), (3, .int x3)]) hx hb dX2_fillCells_36 hl (by decide) rfl (fun ls hl => ?_)
      exact tX2_fillCells_38 C hA hk4 ih N h hP hD hS (lv_sub hl [2, 3, 4, 5, 1, 0] rfl)
set_option maxHeartbeats 4000000 in
set_option maxRecDepth 100000 in
theorem tX2_fillCells_4 {st : Nat → Nat} {p : Program} {l : Launch} {e : Env} {s : State} {m : MethodId} {args : Array Value} {below : List Frame} {meth : Method} {c : Code} {D : va_G} {a : Nat → Nat} {cc : Nat → ClassId} {A : Nat → Prop} {N : Nat} {r : Int32} {σr : St} (C : T_Cx st l A RX2 p s m args meth c D cc cX2_fillCells (Cond.code yX2_fillCells cX2_fillCells 6 (some .int) :: WT) 6 (some .int)) (hA : ∀ q, s.heap.size ≤ q → A q) : ∀ (n : Nat) {σ : St} {x1 : Int32} {x2 : Int32} {H : Heap} {locs : List Loc} {ls : Array Slot}, fX2_fillCells_4 N n σ x1 x2 = some (r, σr) → va_P D vwCl (wT a cc σ) H → va_D A (wT a cc σ) → va_S A s.heap H locs → lv_has ls 6 [(0, .ref (a 89)), (1, .int x1), (2, .int x2)] → W p l e rmX2_fillCells s m args below meth c H locs 0 0 (T_Mi D a cc A below args s r σr) (F0 m 4 ls []) := by
  obtain ⟨hx, hb, hr, hml, hown, hts, hin, hK, hlocks, hTS, hl0⟩ := id C
  intro n
  induction n with
  | zero => intro σ x1 x2 H locs ls h; exact none_s h
  | succ n ih =>
    intro σ x1 x2 H locs ls h hP hD hS hl
    refine lv_iload_n hx hb dX2_fillCells_4 rfl (lv_at hl 2 rfl) ?_
    refine lv_aload_n hx hb dX2_fillCells_5 rfl (lv_at hl 0 rfl) ?_
    refine T_gfX2_15 C hP dX2_fillCells_6 ?_
    refine lv_icmp_gt (tgt := 91) hx hb dX2_fillCells_9 (by decide) (fun c1 => ?_) (fun c1 => ?_)
    · have h := ifT c1 h
      refine lv_iload_n hx hb dX2_fillCells_91 rfl (lv_at hl 1 rfl) ?_
      exact T_iret C h hP hD hS dX2_fillCells_92
    · have h := ifF c1 h
      refine lv_iconst (v := (0 : Int32)) hx hb dX2_fillCells_12 (by decide) ?_
      refine lv_istore_n (lv' := [(3, .int (0 : Int32)), (0, .ref (a 89)), (1, .int x1), (2, .int x2)]) hx hb dX2_fillCells_13 rfl hl (by decide) rfl (fun ls hl => ?_)
      exact tX2_fillCells_14 C hA ih N h hP hD hS (lv_sub hl [1, 2, 3, 0] rfl)
set_option maxHeartbeats 4000000 in
set_option maxRecDepth 100000 in
theorem tX2_fillCells {st : Nat → Nat} {p : Program} {l : Launch} {e : Env} {s : State} {m : MethodId} {args : Array Value} {below : List Frame} {meth : Method} {c : Code} {D : va_G} {a : Nat → Nat} {cc : Nat → ClassId} {A : Nat → Prop} {N : Nat} {r : Int32} {σr : St} (C : T_Cx st l A RX2 p s m args meth c D cc cX2_fillCells (Cond.code yX2_fillCells cX2_fillCells 6 (some .int) :: WT) 6 (some .int)) (hA : ∀ q, s.heap.size ≤ q → A q) {σ : St} {H : Heap} {locs : List Loc} {ls : Array Slot} (h : fX2_fillCells N σ = some (r, σr)) : va_P D vwCl (wT a cc σ) H → va_D A (wT a cc σ) → va_S A s.heap H locs → lv_has ls 6 [(0, .ref (a 89))] → W p l e rmX2_fillCells s m args below meth c H locs 0 0 (T_Mi D a cc A below args s r σr) (F0 m 0 ls []) := by
  obtain ⟨hx, hb, hr, hml, hown, hts, hin, hK, hlocks, hTS, hl0⟩ := id C
  intro hP hD hS hl
  refine lv_iconst (v := (0 : Int32)) hx hb dX2_fillCells_0 (by decide) ?_
  refine lv_istore_n (lv' := [(1, .int (0 : Int32)), (0, .ref (a 89))]) hx hb dX2_fillCells_1 rfl hl (by decide) rfl (fun ls hl => ?_)
  refine lv_iconst (v := (0 : Int32)) hx hb dX2_fillCells_2 (by decide) ?_
  refine lv_istore_n (lv' := [(2, .int (0 : Int32)), (1, .int (0 : Int32)), (0, .ref (a 89))]) hx hb dX2_fillCells_3 rfl hl (by decide) rfl (fun ls hl => ?_)
  exact tX2_fillCells_4 C hA N h hP hD hS (lv_sub hl [2, 1, 0] rfl)
set_option maxRecDepth 100000 in
theorem kX2_fillCells {l : Launch} (hl0 : l.stackTraces = false) (sz : Nat) {st : Nat → Nat} {D : va_G} {a : Nat → Nat} {cc : Nat → ClassId} {N : Nat} {r : Int32} {σr : St} {σ : St} (h : fX2_fillCells N σ = some (r, σr)) : Met l yX2_fillCells ((Cond.code yX2_fillCells cX2_fillCells 6 (some .int) :: WT)) rmX2_fillCells (T_Pc st D a cc [.ref (a 89)] σ sz) (T_Qi D a cc σ sz r σr) 0 0 (va_A (wT a cc σ) sz) := by
  refine Met.ofW (cc := cX2_fillCells) (maxL := 6) (ret := (some .int)) (by decide) rfl ?_
  intro p e s m args below meth c s₁ B hml hv
  obtain ⟨rfl, hsz, hP, hK, hD0, hTS⟩ := hv
  subst hsz
  have hl := lv_entry ([.ref (a 89)]) (n := 6) (Nat.le_of_ble_eq_true rfl)
  rw [lg_entry_eq]
  generalize (lg_sl ([.ref (a 89)]) ++ List.replicate (6 - (lg_sl ([.ref (a 89)])).length) Slot.unset).toArray = ls at hl ⊢
  exact tX2_fillCells ⟨B.exec, B.bytes, B.returns, hml, findClass_of_methodNamed B.named, atoms_spec (ws := (Cond.code yX2_fillCells cX2_fillCells 6 (some .int) :: WT)) B.pre, (fun w h => List.mem_cons_of_mem _ h), hK, B.notSynchronized, hTS, hl0⟩ (fun q h => Or.inr h) h hP hD0.self va_S.rf hl
set_option maxHeartbeats 4000000 in
set_option maxRecDepth 100000 in
theorem tX2_join_19 {st : Nat → Nat} {p : Program} {l : Launch} {e : Env} {s : State} {m : MethodId} {args : Array Value} {below : List Frame} {meth : Method} {c : Code} {D : va_G} {a : Nat → Nat} {cc : Nat → ClassId} {A : Nat → Prop} {N : Nat} {r : Int32} {σr : St} (C : T_Cx st l A RX2 p s m args meth c D cc cX2_join (Cond.code yX2_join cX2_join 6 (some .int) :: WT) 6 (some .int)) (hA : ∀ q, s.heap.size ≤ q → A q) : ∀ (n : Nat) {σ : St} {x3 : Int32} {x4 : Int32} {x5 : Int32} {H : Heap} {locs : List Loc} {ls : Array Slot}, fX2_join_19 N n σ x3 x4 x5 = some (r, σr) → va_P D vwCl (wT a cc σ) H → va_D A (wT a cc σ) → va_S A s.heap H locs → lv_has ls 6 [(0, .ref (a 89)), (3, .int x3), (4, .int x4), (5, .int x5)] → W p l e rmX2_join s m args below meth c H locs 0 0 (T_Mi D a cc A below args s r σr) (F0 m 19 ls []) := by
  obtain ⟨hx, hb, hr, hml, hown, hts, hin, hK, hlocks, hTS, hl0⟩ := id C
  intro n
  induction n with
  | zero => intro σ x3 x4 x5 H locs ls h; exact none_s h
  | succ n ih =>
    intro σ x3 x4 x5 H locs ls h hP hD hS hl
    refine lv_iload hx hb dX2_join_19 (lv_at hl 3 rfl) ?_
    refine lv_aload_n hx hb dX2_join_21 rfl (lv_at hl 0 rfl) ?_
    refine T_gfX2_29 C hP dX2_join_22 ?_
    refine lv_icmp_ge (tgt := 51) hx hb dX2_join_25 (by decide) (fun c3 => ?_) (fun c3 => ?_)
    · have h := ifT c3 h
      refine lv_aload_n hx hb dX2_join_51 rfl (lv_at hl 0 rfl) ?_
      refine T_gfX2_26 C hP dX2_join_52 ?_
      refine lv_aload_n hx hb dX2_join_55 rfl (lv_at hl 0 rfl) ?_
      refine T_gfX2_29 C hP dX2_join_56 ?_
      refine lv_iload hx hb dX2_join_59 (lv_at hl 2 rfl) ?_
      obtain ⟨g4, h⟩ := grd_s h
      obtain ⟨σ5, eσ5, h⟩ := letS_n h
      refine T_st84 C hP hD hS g4 eσ5 dX2_join_61 (fun H locs hP hD hS => ?_)
      refine lv_aload_n hx hb dX2_join_62 rfl (lv_at hl 0 rfl) ?_
      refine lv_dup hx hb dX2_join_63 rfl ?_
      refine T_gfX2_29 C hP dX2_join_64 ?_
      refine lv_iconst (v := (1 : Int32)) hx hb dX2_join_67 (by decide) ?_
      refine lv_iadd hx hb dX2_join_68 ?_
      obtain ⟨σ6, eσ6, h⟩ := letS_n h
      refine T_pfX2_29 C hP hD hS eσ6 dX2_join_69 (fun H locs hP hD hS => ?_)
      refine lv_iload_n hx hb dX2_join_72 rfl (lv_at hl 1 rfl) ?_
      refine lv_aload_n hx hb dX2_join_73 rfl (lv_at hl 0 rfl) ?_
      refine T_gfX2_29 C hP dX2_join_74 ?_
      refine lv_iadd hx hb dX2_join_77 ?_
      refine lv_iconst (v := (1 : Int32)) hx hb dX2_join_78 (by decide) ?_
      refine lv_isub hx hb dX2_join_79 ?_
      exact T_iret C h hP hD hS dX2_join_80
    · have h := ifF c3 h
      refine lv_aload_n hx hb dX2_join_28 rfl (lv_at hl 0 rfl) ?_
      refine T_gfX2_26 C hP dX2_join_29 ?_
      refine lv_iload hx hb dX2_join_32 (lv_at hl 3 rfl) ?_
      obtain ⟨g7, h⟩ := grd_s h
      refine T_ld84 C hP g7 dX2_join_34 ?_
      refine lv_iload hx hb dX2_join_35 (lv_at hl 2 rfl) ?_
      refine lv_icmp_ne (tgt := 45) hx hb dX2_join_37 (by decide) (fun c8 => ?_) (fun c8 => ?_)
      · have h := ifF c8 h
        obtain ⟨u9, eu9, h⟩ := letS_n h
        refine lv_iinc (v := u9) (lv' := [(5, .int u9), (0, .ref (a 89)), (3, .int x3), (4, .int x4)]) hx hb dX2_join_45 hl (k := 3) rfl (by rw [eu9]; rfl) (by decide) rfl (fun ls hl => ?_)
        refine lv_goto (tgt := 19) hx hb dX2_join_48 (by decide) ?_
        exact ih h hP hD hS (lv_sub hl [1, 2, 3, 0] rfl)
      · have h := ifT c8 h
        refine lv_iload_n hx hb dX2_join_40 rfl (lv_at hl 1 rfl) ?_
        refine lv_iload hx hb dX2_join_41 (lv_at hl 3 rfl) ?_
        refine lv_iadd hx hb dX2_join_43 ?_
        exact T_iret C h hP hD hS dX2_join_44
set_option maxHeartbeats 4000000 in
set_option maxRecDepth 100000 in
theorem tX2_join {st : Nat → Nat} {p : Program} {l : Launch} {e : Env} {s : State} {m : MethodId} {args : Array Value} {below : List Frame} {meth : Method} {c : Code} {D : va_G} {a : Nat → Nat} {cc : Nat → ClassId} {A : Nat → Prop} {N : Nat} {r : Int32} {σr : St} (C : T_Cx st l A RX2 p s m args meth c D cc cX2_join (Cond.code yX2_join cX2_join 6 (some .int) :: WT) 6 (some .int)) (hA : ∀ q, s.heap.size ≤ q → A q) {σ : St} {p0 : Int32} {p1 : Int32} {p2 : Int32} {H : Heap} {locs : List Loc} {ls : Array Slot} (h : fX2_join N σ p0 p1 p2 = some (r, σr)) : va_P D vwCl (wT a cc σ) H → va_D A (wT a cc σ) → va_S A s.heap H locs → lv_has ls 6 [(0, .ref (a 89)), (1, .int p0), (2, .int p1), (3, .int p2)] → W p l e rmX2_join s m args below meth c H locs 0 0 (T_Mi D a cc A below args s r σr) (F0 m 0 ls []) := by
  obtain ⟨hx, hb, hr, hml, hown, hts, hin, hK, hlocks, hTS, hl0⟩ := id C
  intro hP hD hS hl
  refine lv_iload_n hx hb dX2_join_0 rfl (lv_at hl 1 rfl) ?_
  refine lv_iload_n hx hb dX2_join_1 rfl (lv_at hl 2 rfl) ?_
  refine lv_icmp_ne (tgt := 7) hx hb dX2_join_2 (by decide) (fun c1 => ?_) (fun c1 => ?_)
  · have h := ifF c1 h
    refine lv_iload_n hx hb dX2_join_7 rfl (lv_at hl 1 rfl) ?_
    refine lv_sipush (v := (7168 : Int32)) hx hb dX2_join_8 (by decide) ?_
    refine lv_imul hx hb dX2_join_11 ?_
    refine lv_iload_n hx hb dX2_join_12 rfl (lv_at hl 2 rfl) ?_
    refine lv_iadd hx hb dX2_join_13 ?_
    obtain ⟨u2, eu2, h⟩ := letS_n h
    refine lv_topE eu2 ?_
    refine lv_istore (lv' := [(4, .int u2), (0, .ref (a 89)), (1, .int p0), (2, .int p1), (3, .int p2)]) hx hb dX2_join_14 hl (by decide) rfl (fun ls hl => ?_)
    refine lv_iconst (v := (0 : Int32)) hx hb dX2_join_16 (by decide) ?_
    refine lv_istore (lv' := [(5, .int (0 : Int32)), (4, .int u2), (0, .ref (a 89)), (1, .int p0), (2, .int p1), (3, .int p2)]) hx hb dX2_join_17 hl (by decide) rfl (fun ls hl => ?_)
    exact tX2_join_19 C hA N h hP hD hS (lv_sub hl [2, 5, 1, 0] rfl)
  · have h := ifT c1 h
    refine lv_iload_n hx hb dX2_join_5 rfl (lv_at hl 1 rfl) ?_
    exact T_iret C h hP hD hS dX2_join_6
set_option maxRecDepth 100000 in
theorem kX2_join {l : Launch} (hl0 : l.stackTraces = false) (sz : Nat) {st : Nat → Nat} {D : va_G} {a : Nat → Nat} {cc : Nat → ClassId} {N : Nat} {r : Int32} {σr : St} {σ : St} {p0 : Int32} {p1 : Int32} {p2 : Int32} (h : fX2_join N σ p0 p1 p2 = some (r, σr)) : Met l yX2_join ((Cond.code yX2_join cX2_join 6 (some .int) :: WT)) rmX2_join (T_Pc st D a cc [.ref (a 89), .int p0, .int p1, .int p2] σ sz) (T_Qi D a cc σ sz r σr) 0 0 (va_A (wT a cc σ) sz) := by
  refine Met.ofW (cc := cX2_join) (maxL := 6) (ret := (some .int)) (by decide) rfl ?_
  intro p e s m args below meth c s₁ B hml hv
  obtain ⟨rfl, hsz, hP, hK, hD0, hTS⟩ := hv
  subst hsz
  have hl := lv_entry ([.ref (a 89), .int p0, .int p1, .int p2]) (n := 6) (Nat.le_of_ble_eq_true rfl)
  rw [lg_entry_eq]
  generalize (lg_sl ([.ref (a 89), .int p0, .int p1, .int p2]) ++ List.replicate (6 - (lg_sl ([.ref (a 89), .int p0, .int p1, .int p2])).length) Slot.unset).toArray = ls at hl ⊢
  exact tX2_join ⟨B.exec, B.bytes, B.returns, hml, findClass_of_methodNamed B.named, atoms_spec (ws := (Cond.code yX2_join cX2_join 6 (some .int) :: WT)) B.pre, (fun w h => List.mem_cons_of_mem _ h), hK, B.notSynchronized, hTS, hl0⟩ (fun q h => Or.inr h) h hP hD0.self va_S.rf hl
set_option maxHeartbeats 4000000 in
set_option maxRecDepth 100000 in
theorem tX2_countGates_35 {st : Nat → Nat} {p : Program} {l : Launch} {e : Env} {s : State} {m : MethodId} {args : Array Value} {below : List Frame} {meth : Method} {c : Code} {D : va_G} {a : Nat → Nat} {cc : Nat → ClassId} {A : Nat → Prop} {N : Nat} {r : Int32} {σr : St} {k17 : St → Int32 → Int32 → Int32 → Int32 → Option (Int32 × St)} (C : T_Cx st l A RX2 p s m args meth c D cc cX2_countGates (Cond.code yX2_countGates cX2_countGates 6 (some .int) :: WT) 6 (some .int)) (hA : ∀ q, s.heap.size ≤ q → A q) (hk17 : ∀ {σ : St} {x1 : Int32} {x2 : Int32} {x3 : Int32} {x4 : Int32} {H : Heap} {locs : List Loc} {ls : Array Slot}, k17 σ x1 x2 x3 x4 = some (r, σr) → va_P D vwCl (wT a cc σ) H → va_D A (wT a cc σ) → va_S A s.heap H locs → lv_has ls 6 [(0, .ref (a 89)), (1, .int x1), (2, .int x2), (3, .int x3), (4, .int x4)] → W p l e rmX2_countGates s m args below meth c H locs 0 0 (T_Mi D a cc A below args s r σr) (F0 m 17 ls [])) : ∀ (n : Nat) {σ : St} {x1 : Int32} {x2 : Int32} {x3 : Int32} {x4 : Int32} {x5 : Int32} {H : Heap} {locs : List Loc} {ls : Array Slot}, fX2_countGates_35 N k17 n σ x1 x2 x3 x4 x5 = some (r, σr) → va_P D vwCl (wT a cc σ) H → va_D A (wT a cc σ) → va_S A s.heap H locs → lv_has ls 6 [(0, .ref (a 89)), (1, .int x1), (2, .int x2), (3, .int x3), (4, .int x4), (5, .int x5)] → W p l e rmX2_countGates s m args below meth c H locs 0 0 (T_Mi D a cc A below args s r σr) (F0 m 35 ls []) := by
  obtain ⟨hx, hb, hr, hml, hown, hts, hin, hK, hlocks, hTS, hl0⟩ := id C
  intro n
  induction n with
  | zero => intro σ x1 x2 x3 x4 x5 H locs ls h; exact none_s h
  | succ n ih =>
    intro σ x1 x2 x3 x4 x5 H locs ls h hP hD hS hl
    refine lv_iload hx hb dX2_countGates_35 (lv_at hl 5 rfl) ?_
    refine lv_iload_n hx hb dX2_countGates_37 rfl (lv_at hl 2 rfl) ?_
    refine lv_icmp_ge (tgt := 81) hx hb dX2_countGates_38 (by decide) (fun c8 => ?_) (fun c8 => ?_)
    · have h := ifT c8 h
      refine lv_iload_n hx hb dX2_countGates_81 rfl (lv_at hl 3 rfl) ?_
      refine lv_aload_n hx hb dX2_countGates_82 rfl (lv_at hl 0 rfl) ?_
      refine T_gfX2_29 C hP dX2_countGates_83 ?_
      refine lv_iadd hx hb dX2_countGates_86 ?_
      obtain ⟨u9, eu9, h⟩ := letS_n h
      refine lv_topE eu9 ?_
      refine lv_istore_n (lv' := [(3, .int u9), (0, .ref (a 89)), (1, .int x1), (2, .int x2), (4, .int x4), (5, .int x5)]) hx hb dX2_countGates_87 rfl hl (by decide) rfl (fun ls hl => ?_)
      obtain ⟨u10, eu10, h⟩ := letS_n h
      refine lv_iinc (v := u10) (lv' := [(4, .int u10), (3, .int u9), (0, .ref (a 89)), (1, .int x1), (2, .int x2), (5, .int x5)]) hx hb dX2_countGates_88 hl (k := 4) rfl (by rw [eu10]; rfl) (by decide) rfl (fun ls hl => ?_)
      refine lv_goto (tgt := 17) hx hb dX2_countGates_91 (by decide) ?_
      exact hk17 h hP hD hS (lv_sub hl [2, 3, 4, 1, 0] rfl)
    · have h := ifF c8 h
      refine lv_aload_n hx hb dX2_countGates_41 rfl (lv_at hl 0 rfl) ?_
      refine T_gfX2_22 C hP dX2_countGates_42 ?_
      refine lv_iload hx hb dX2_countGates_45 (lv_at hl 5 rfl) ?_
      refine lv_aload_n hx hb dX2_countGates_47 rfl (lv_at hl 0 rfl) ?_
      refine lv_aload_n hx hb dX2_countGates_48 rfl (lv_at hl 0 rfl) ?_
      refine T_gfX2_22 C hP dX2_countGates_49 ?_
      refine lv_iconst (v := (2 : Int32)) hx hb dX2_countGates_52 (by decide) ?_
      refine lv_iload hx hb dX2_countGates_53 (lv_at hl 5 rfl) ?_
      refine lv_imul hx hb dX2_countGates_55 ?_
      obtain ⟨g11, h⟩ := grd_s h
      refine T_ld83 C hP g11 dX2_countGates_56 ?_
      refine lv_aload_n hx hb dX2_countGates_57 rfl (lv_at hl 0 rfl) ?_
      refine T_gfX2_22 C hP dX2_countGates_58 ?_
      refine lv_iconst (v := (2 : Int32)) hx hb dX2_countGates_61 (by decide) ?_
      refine lv_iload hx hb dX2_countGates_62 (lv_at hl 5 rfl) ?_
      refine lv_imul hx hb dX2_countGates_64 ?_
      refine lv_iconst (v := (1 : Int32)) hx hb dX2_countGates_65 (by decide) ?_
      refine lv_iadd hx hb dX2_countGates_66 ?_
      obtain ⟨g12, h⟩ := grd_s h
      refine T_ld83 C hP g12 dX2_countGates_67 ?_
      refine lv_iload_n hx hb dX2_countGates_68 rfl (lv_at hl 3 rfl) ?_
      refine lv_iconst (v := (2 : Int32)) hx hb dX2_countGates_69 (by decide) ?_
      refine lv_iadd hx hb dX2_countGates_70 ?_
      obtain ⟨r14, σ13, hc, h⟩ := bnd_s h
      refine T_callVi (q0 := 21) (ci := 6) (As := [.int (gI σ 83 ((2 : Int32) * x5).toNatClampNeg), .int (gI σ 83 (((2 : Int32) * x5) + (1 : Int32)).toNatClampNeg), .int (x3 + (2 : Int32))]) (rest := [.int x5, .ref (a 83)]) C hA (fun sz => kX2_join hl0 sz hc) gX2_52 hP hD hS rfl rfl ⟨by decide, by decide⟩ ⟨rfl, rfl⟩ rfl hl.1 rfl (lv_room (Nat.le_of_ble_eq_true rfl)) dX2_countGates_71 (fun H locs hP hD hS => ?_)
      obtain ⟨g15, h⟩ := grd_s h
      obtain ⟨σ16, eσ16, h⟩ := letS_n h
      refine T_st83 C hP hD hS g15 eσ16 dX2_countGates_74 (fun H locs hP hD hS => ?_)
      obtain ⟨u17, eu17, h⟩ := letS_n h
      refine lv_iinc (v := u17) (lv' := [(5, .int u17), (0, .ref (a 89)), (1, .int x1), (2, .int x2), (3, .int x3), (4, .int x4)]) hx hb dX2_countGates_75 hl (k := 5) rfl (by rw [eu17]; rfl) (by decide) rfl (fun ls hl => ?_)
      refine lv_goto (tgt := 35) hx hb dX2_countGates_78 (by decide) ?_
      exact ih h hP hD hS (lv_sub hl [1, 2, 3, 4, 5, 0] rfl)
set_option maxHeartbeats 4000000 in
set_option maxRecDepth 100000 in
theorem tX2_countGates_17 {st : Nat → Nat} {p : Program} {l : Launch} {e : Env} {s : State} {m : MethodId} {args : Array Value} {below : List Frame} {meth : Method} {c : Code} {D : va_G} {a : Nat → Nat} {cc : Nat → ClassId} {A : Nat → Prop} {N : Nat} {r : Int32} {σr : St} (C : T_Cx st l A RX2 p s m args meth c D cc cX2_countGates (Cond.code yX2_countGates cX2_countGates 6 (some .int) :: WT) 6 (some .int)) (hA : ∀ q, s.heap.size ≤ q → A q) : ∀ (n : Nat) {σ : St} {x1 : Int32} {x2 : Int32} {x3 : Int32} {x4 : Int32} {H : Heap} {locs : List Loc} {ls : Array Slot}, fX2_countGates_17 N n σ x1 x2 x3 x4 = some (r, σr) → va_P D vwCl (wT a cc σ) H → va_D A (wT a cc σ) → va_S A s.heap H locs → lv_has ls 6 [(0, .ref (a 89)), (1, .int x1), (2, .int x2), (3, .int x3), (4, .int x4)] → W p l e rmX2_countGates s m args below meth c H locs 0 0 (T_Mi D a cc A below args s r σr) (F0 m 17 ls []) := by
  obtain ⟨hx, hb, hr, hml, hown, hts, hin, hK, hlocks, hTS, hl0⟩ := id C
  intro n
  induction n with
  | zero => intro σ x1 x2 x3 x4 H locs ls h; exact none_s h
  | succ n ih =>
    intro σ x1 x2 x3 x4 H locs ls h hP hD hS hl
    refine lv_iload hx hb dX2_countGates_17 (lv_at hl 4 rfl) ?_
    refine lv_iload_n hx hb dX2_countGates_19 rfl (lv_at hl 1 rfl) ?_
    refine lv_icmp_ge (tgt := 94) hx hb dX2_countGates_20 (by decide) (fun c4 => ?_) (fun c4 => ?_)
    · have h := ifT c4 h
      refine lv_iload_n hx hb dX2_countGates_94 rfl (lv_at hl 3 rfl) ?_
      exact T_iret C h hP hD hS dX2_countGates_95
    · have h := ifF c4 h
      refine lv_aload_n hx hb dX2_countGates_23 rfl (lv_at hl 0 rfl) ?_
      refine lv_iconst (v := (0 : Int32)) hx hb dX2_countGates_24 (by decide) ?_
      obtain ⟨σ5, eσ5, h⟩ := letS_n h
      refine T_pfX2_29 C hP hD hS eσ5 dX2_countGates_25 (fun H locs hP hD hS => ?_)
      refine lv_iload_n hx hb dX2_countGates_28 rfl (lv_at hl 2 rfl) ?_
      refine lv_iconst (v := (2 : Int32)) hx hb dX2_countGates_29 (by decide) ?_
      obtain ⟨g6, h⟩ := grd_s h
      refine lv_idiv hx hb dX2_countGates_30 (nz_ne g6) ?_
      obtain ⟨u7, eu7, h⟩ := letS_n h
      refine lv_topE eu7 ?_
      refine lv_istore_n (lv' := [(2, .int u7), (0, .ref (a 89)), (1, .int x1), (3, .int x3), (4, .int x4)]) hx hb dX2_countGates_31 rfl hl (by decide) rfl (fun ls hl => ?_)
      refine lv_iconst (v := (0 : Int32)) hx hb dX2_countGates_32 (by decide) ?_
      refine lv_istore (lv' := [(5, .int (0 : Int32)), (2, .int u7), (0, .ref (a 89)), (1, .int x1), (3, .int x3), (4, .int x4)]) hx hb dX2_countGates_33 hl (by decide) rfl (fun ls hl => ?_)
      exact tX2_countGates_35 C hA ih N h hP hD hS (lv_sub hl [2, 3, 1, 4, 5, 0] rfl)
set_option maxHeartbeats 4000000 in
set_option maxRecDepth 100000 in
theorem tX2_countGates {st : Nat → Nat} {p : Program} {l : Launch} {e : Env} {s : State} {m : MethodId} {args : Array Value} {below : List Frame} {meth : Method} {c : Code} {D : va_G} {a : Nat → Nat} {cc : Nat → ClassId} {A : Nat → Prop} {N : Nat} {r : Int32} {σr : St} (C : T_Cx st l A RX2 p s m args meth c D cc cX2_countGates (Cond.code yX2_countGates cX2_countGates 6 (some .int) :: WT) 6 (some .int)) (hA : ∀ q, s.heap.size ≤ q → A q) {σ : St} {H : Heap} {locs : List Loc} {ls : Array Slot} (h : fX2_countGates N σ = some (r, σr)) : va_P D vwCl (wT a cc σ) H → va_D A (wT a cc σ) → va_S A s.heap H locs → lv_has ls 6 [(0, .ref (a 89))] → W p l e rmX2_countGates s m args below meth c H locs 0 0 (T_Mi D a cc A below args s r σr) (F0 m 0 ls []) := by
  obtain ⟨hx, hb, hr, hml, hown, hts, hin, hK, hlocks, hTS, hl0⟩ := id C
  intro hP hD hS hl
  refine lv_iconst (v := (3 : Int32)) hx hb dX2_countGates_0 (by decide) ?_
  refine lv_aload_n hx hb dX2_countGates_1 rfl (lv_at hl 0 rfl) ?_
  refine T_gfX2_15 C hP dX2_countGates_2 ?_
  refine lv_iadd hx hb dX2_countGates_5 ?_
  obtain ⟨u1, eu1, h⟩ := letS_n h
  refine lv_topE eu1 ?_
  refine lv_istore_n (lv' := [(1, .int u1), (0, .ref (a 89))]) hx hb dX2_countGates_6 rfl hl (by decide) rfl (fun ls hl => ?_)
  refine lv_aload_n hx hb dX2_countGates_7 rfl (lv_at hl 1 rfl) ?_
  obtain ⟨r3, σ2, hc, h⟩ := bnd_s h
  refine T_callVi (q0 := 21) (ci := 6) (As := []) (rest := []) C hA (fun sz => kX2_fillCells hl0 sz hc) gX2_49 hP hD hS rfl rfl ⟨by decide, by decide⟩ ⟨rfl, rfl⟩ rfl hl.1 rfl (lv_room (Nat.le_of_ble_eq_true rfl)) dX2_countGates_8 (fun H locs hP hD hS => ?_)
  refine lv_istore_n (lv' := [(2, .int r3), (1, .int u1), (0, .ref (a 89))]) hx hb dX2_countGates_11 rfl hl (by decide) rfl (fun ls hl => ?_)
  refine lv_iconst (v := (0 : Int32)) hx hb dX2_countGates_12 (by decide) ?_
  refine lv_istore_n (lv' := [(3, .int (0 : Int32)), (2, .int r3), (1, .int u1), (0, .ref (a 89))]) hx hb dX2_countGates_13 rfl hl (by decide) rfl (fun ls hl => ?_)
  refine lv_iconst (v := (0 : Int32)) hx hb dX2_countGates_14 (by decide) ?_
  refine lv_istore (lv' := [(4, .int (0 : Int32)), (3, .int (0 : Int32)), (2, .int r3), (1, .int u1), (0, .ref (a 89))]) hx hb dX2_countGates_15 hl (by decide) rfl (fun ls hl => ?_)
  exact tX2_countGates_17 C hA N h hP hD hS (lv_sub hl [4, 3, 2, 1, 0] rfl)
set_option maxRecDepth 100000 in
theorem kX2_countGates {l : Launch} (hl0 : l.stackTraces = false) (sz : Nat) {st : Nat → Nat} {D : va_G} {a : Nat → Nat} {cc : Nat → ClassId} {N : Nat} {r : Int32} {σr : St} {σ : St} (h : fX2_countGates N σ = some (r, σr)) : Met l yX2_countGates ((Cond.code yX2_countGates cX2_countGates 6 (some .int) :: WT)) rmX2_countGates (T_Pc st D a cc [.ref (a 89)] σ sz) (T_Qi D a cc σ sz r σr) 0 0 (va_A (wT a cc σ) sz) := by
  refine Met.ofW (cc := cX2_countGates) (maxL := 6) (ret := (some .int)) (by decide) rfl ?_
  intro p e s m args below meth c s₁ B hml hv
  obtain ⟨rfl, hsz, hP, hK, hD0, hTS⟩ := hv
  subst hsz
  have hl := lv_entry ([.ref (a 89)]) (n := 6) (Nat.le_of_ble_eq_true rfl)
  rw [lg_entry_eq]
  generalize (lg_sl ([.ref (a 89)]) ++ List.replicate (6 - (lg_sl ([.ref (a 89)])).length) Slot.unset).toArray = ls at hl ⊢
  exact tX2_countGates ⟨B.exec, B.bytes, B.returns, hml, findClass_of_methodNamed B.named, atoms_spec (ws := (Cond.code yX2_countGates cX2_countGates 6 (some .int) :: WT)) B.pre, (fun w h => List.mem_cons_of_mem _ h), hK, B.notSynchronized, hTS, hl0⟩ (fun q h => Or.inr h) h hP hD0.self va_S.rf hl
set_option maxHeartbeats 4000000 in
set_option maxRecDepth 100000 in
theorem tX2_gates_16 {st : Nat → Nat} {p : Program} {l : Launch} {e : Env} {s : State} {m : MethodId} {args : Array Value} {below : List Frame} {meth : Method} {c : Code} {D : va_G} {a : Nat → Nat} {cc : Nat → ClassId} {A : Nat → Prop} {N : Nat} {r : Int32} {σr : St} (C : T_Cx st l A RX2 p s m args meth c D cc cX2_gates (Cond.code yX2_gates cX2_gates 1 (some .int) :: WT) 1 (some .int)) (hA : ∀ q, s.heap.size ≤ q → A q) {σ : St} {H : Heap} {locs : List Loc} {ls : Array Slot} (h : fX2_gates_16 N σ = some (r, σr)) : va_P D vwCl (wT a cc σ) H → va_D A (wT a cc σ) → va_S A s.heap H locs → lv_has ls 1 [(0, .ref (a 89))] → W p l e rmX2_gates s m args below meth c H locs 0 0 (T_Mi D a cc A below args s r σr) (F0 m 16 ls []) := by
  obtain ⟨hx, hb, hr, hml, hown, hts, hin, hK, hlocks, hTS, hl0⟩ := id C
  intro hP hD hS hl
  refine lv_aload_n hx hb dX2_gates_16 rfl (lv_at hl 0 rfl) ?_
  refine T_gfX2_19 C hP dX2_gates_17 ?_
  exact T_iret C h hP hD hS dX2_gates_20
set_option maxHeartbeats 4000000 in
set_option maxRecDepth 100000 in
theorem tX2_gates {st : Nat → Nat} {p : Program} {l : Launch} {e : Env} {s : State} {m : MethodId} {args : Array Value} {below : List Frame} {meth : Method} {c : Code} {D : va_G} {a : Nat → Nat} {cc : Nat → ClassId} {A : Nat → Prop} {N : Nat} {r : Int32} {σr : St} (C : T_Cx st l A RX2 p s m args meth c D cc cX2_gates (Cond.code yX2_gates cX2_gates 1 (some .int) :: WT) 1 (some .int)) (hA : ∀ q, s.heap.size ≤ q → A q) {σ : St} {H : Heap} {locs : List Loc} {ls : Array Slot} (h : fX2_gates N σ = some (r, σr)) : va_P D vwCl (wT a cc σ) H → va_D A (wT a cc σ) → va_S A s.heap H locs → lv_has ls 1 [(0, .ref (a 89))] → W p l e rmX2_gates s m args below meth c H locs 0 0 (T_Mi D a cc A below args s r σr) (F0 m 0 ls []) := by
  obtain ⟨hx, hb, hr, hml, hown, hts, hin, hK, hlocks, hTS, hl0⟩ := id C
  intro hP hD hS hl
  refine lv_aload_n hx hb dX2_gates_0 rfl (lv_at hl 0 rfl) ?_
  refine T_gfX2_19 C hP dX2_gates_1 ?_
  refine lv_iconst (v := (-1 : Int32)) hx hb dX2_gates_4 (by decide) ?_
  refine lv_icmp_ne (tgt := 16) hx hb dX2_gates_5 (by decide) (fun c1 => ?_) (fun c1 => ?_)
  · have h := ifF c1 h
    exact tX2_gates_16 C hA h hP hD hS (lv_sub hl [0] rfl)
  · have h := ifT c1 h
    refine lv_aload_n hx hb dX2_gates_8 rfl (lv_at hl 0 rfl) ?_
    refine lv_aload_n hx hb dX2_gates_9 rfl (lv_at hl 0 rfl) ?_
    obtain ⟨r3, σ2, hc, h⟩ := bnd_s h
    refine T_callVi (q0 := 21) (ci := 6) (As := []) (rest := [.ref (a 89)]) C hA (fun sz => kX2_countGates hl0 sz hc) gX2_45 hP hD hS rfl rfl ⟨by decide, by decide⟩ ⟨rfl, rfl⟩ rfl hl.1 rfl (lv_room (Nat.le_of_ble_eq_true rfl)) dX2_gates_10 (fun H locs hP hD hS => ?_)
    obtain ⟨σ4, eσ4, h⟩ := letS_n h
    refine T_pfX2_19 C hP hD hS eσ4 dX2_gates_13 (fun H locs hP hD hS => ?_)
    exact tX2_gates_16 C hA h hP hD hS (lv_sub hl [0] rfl)
set_option maxRecDepth 100000 in
theorem kX2_gates {l : Launch} (hl0 : l.stackTraces = false) (sz : Nat) {st : Nat → Nat} {D : va_G} {a : Nat → Nat} {cc : Nat → ClassId} {N : Nat} {r : Int32} {σr : St} {σ : St} (h : fX2_gates N σ = some (r, σr)) : Met l yX2_gates ((Cond.code yX2_gates cX2_gates 1 (some .int) :: WT)) rmX2_gates (T_Pc st D a cc [.ref (a 89)] σ sz) (T_Qi D a cc σ sz r σr) 0 0 (va_A (wT a cc σ) sz) := by
  refine Met.ofW (cc := cX2_gates) (maxL := 1) (ret := (some .int)) (by decide) rfl ?_
  intro p e s m args below meth c s₁ B hml hv
  obtain ⟨rfl, hsz, hP, hK, hD0, hTS⟩ := hv
  subst hsz
  have hl := lv_entry ([.ref (a 89)]) (n := 1) (Nat.le_of_ble_eq_true rfl)
  rw [lg_entry_eq]
  generalize (lg_sl ([.ref (a 89)]) ++ List.replicate (1 - (lg_sl ([.ref (a 89)])).length) Slot.unset).toArray = ls at hl ⊢
  exact tX2_gates ⟨B.exec, B.bytes, B.returns, hml, findClass_of_methodNamed B.named, atoms_spec (ws := (Cond.code yX2_gates cX2_gates 1 (some .int) :: WT)) B.pre, (fun w h => List.mem_cons_of_mem _ h), hK, B.notSynchronized, hTS, hl0⟩ (fun q h => Or.inr h) h hP hD0.self va_S.rf hl
set_option maxHeartbeats 4000000 in
set_option maxRecDepth 100000 in
theorem tX3_leastIn_85 {st : Nat → Nat} {p : Program} {l : Launch} {e : Env} {s : State} {m : MethodId} {args : Array Value} {below : List Frame} {meth : Method} {c : Code} {D : va_G} {a : Nat → Nat} {cc : Nat → ClassId} {A : Nat → Prop} {N : Nat} {r : Int64} {σr : St} {k53 : St → Int32 → Int32 → Int64 → Int64 → Int32 → Option (Int64 × St)} (C : T_Cx st l A RX3 p s m args meth c D cc cX3_leastIn (Cond.code yX3_leastIn cX3_leastIn 8 (some .long) :: WT) 8 (some .long)) (hA : ∀ q, s.heap.size ≤ q → A q) (hk53 : ∀ {σ : St} {x1 : Int32} {x2 : Int32} {x3 : Int64} {x5 : Int64} {x7 : Int32} {H : Heap} {locs : List Loc} {ls : Array Slot}, k53 σ x1 x2 x3 x5 x7 = some (r, σr) → va_P D vwCl (wT a cc σ) H → va_D A (wT a cc σ) → va_S A s.heap H locs → lv_has ls 8 [(0, .ref (a 69)), (1, .int x1), (2, .int x2), (3, .long x3), (5, .long x5), (7, .int x7)] → W p l e rmX3_leastIn s m args below meth c H locs 0 0 (T_Ml D a cc A below args s r σr) (F0 m 53 ls [])) {σ : St} {x1 : Int32} {x2 : Int32} {x3 : Int64} {x5 : Int64} {x7 : Int32} {H : Heap} {locs : List Loc} {ls : Array Slot} (h : fX3_leastIn_85 N k53 σ x1 x2 x3 x5 x7 = some (r, σr)) : va_P D vwCl (wT a cc σ) H → va_D A (wT a cc σ) → va_S A s.heap H locs → lv_has ls 8 [(0, .ref (a 69)), (1, .int x1), (2, .int x2), (3, .long x3), (5, .long x5), (7, .int x7)] → W p l e rmX3_leastIn s m args below meth c H locs 0 0 (T_Ml D a cc A below args s r σr) (F0 m 85 ls []) := by
  obtain ⟨hx, hb, hr, hml, hown, hts, hin, hK, hlocks, hTS, hl0⟩ := id C
  intro hP hD hS hl
  refine lv_iload hx hb dX3_leastIn_85 (lv_at hl 5 rfl) ?_
  refine lv_iconst (v := (1 : Int32)) hx hb dX3_leastIn_87 (by decide) ?_
  refine lv_ishl hx hb dX3_leastIn_88 ?_
  obtain ⟨u11, eu11, h⟩ := letS_n h
  refine lv_topE eu11 ?_
  refine lv_istore (lv' := [(7, .int u11), (0, .ref (a 69)), (1, .int x1), (2, .int x2), (3, .long x3), (5, .long x5)]) hx hb dX3_leastIn_89 hl (by decide) rfl (fun ls hl => ?_)
  refine lv_goto (tgt := 53) hx hb dX3_leastIn_91 (by decide) ?_
  exact hk53 h hP hD hS (lv_sub hl [1, 2, 3, 4, 5, 0] rfl)
set_option maxHeartbeats 4000000 in
set_option maxRecDepth 100000 in
theorem tX3_leastIn_53 {st : Nat → Nat} {p : Program} {l : Launch} {e : Env} {s : State} {m : MethodId} {args : Array Value} {below : List Frame} {meth : Method} {c : Code} {D : va_G} {a : Nat → Nat} {cc : Nat → ClassId} {A : Nat → Prop} {N : Nat} {r : Int64} {σr : St} (C : T_Cx st l A RX3 p s m args meth c D cc cX3_leastIn (Cond.code yX3_leastIn cX3_leastIn 8 (some .long) :: WT) 8 (some .long)) (hA : ∀ q, s.heap.size ≤ q → A q) : ∀ (n : Nat) {σ : St} {x1 : Int32} {x2 : Int32} {x3 : Int64} {x5 : Int64} {x7 : Int32} {H : Heap} {locs : List Loc} {ls : Array Slot}, fX3_leastIn_53 N n σ x1 x2 x3 x5 x7 = some (r, σr) → va_P D vwCl (wT a cc σ) H → va_D A (wT a cc σ) → va_S A s.heap H locs → lv_has ls 8 [(0, .ref (a 69)), (1, .int x1), (2, .int x2), (3, .long x3), (5, .long x5), (7, .int x7)] → W p l e rmX3_leastIn s m args below meth c H locs 0 0 (T_Ml D a cc A below args s r σr) (F0 m 53 ls []) := by
  obtain ⟨hx, hb, hr, hml, hown, hts, hin, hK, hlocks, hTS, hl0⟩ := id C
  intro n
  induction n with
  | zero => intro σ x1 x2 x3 x5 x7 H locs ls h; exact none_s h
  | succ n ih =>
    intro σ x1 x2 x3 x5 x7 H locs ls h hP hD hS hl
    refine lv_iload hx hb dX3_leastIn_53 (lv_at hl 5 rfl) ?_
    refine lv_aload_n hx hb dX3_leastIn_55 rfl (lv_at hl 0 rfl) ?_
    refine T_gfX3_30 C hP dX3_leastIn_56 ?_
    refine lv_icmp_ge (tgt := 94) hx hb dX3_leastIn_59 (by decide) (fun c7 => ?_) (fun c7 => ?_)
    · have h := ifT c7 h
      refine lv_lload_n hx hb dX3_leastIn_94 rfl (lv_at hl 3 rfl) ?_
      refine lv_lload hx hb dX3_leastIn_95 (lv_at hl 4 rfl) ?_
      refine lv_ldc2 (v := (-1 : Int64)) hx hb hown (hts (.constantLong RX3 66 (-1)) (by decide +kernel)) dX3_leastIn_97 ?_
      refine lv_lxor hx hb dX3_leastIn_100 ?_
      refine lv_land hx hb dX3_leastIn_101 ?_
      exact T_lret C h hP hD hS dX3_leastIn_102
    · have h := ifF c7 h
      refine lv_iload_n hx hb dX3_leastIn_62 rfl (lv_at hl 2 rfl) ?_
      refine lv_iload hx hb dX3_leastIn_63 (lv_at hl 5 rfl) ?_
      refine lv_iand hx hb dX3_leastIn_65 ?_
      refine lv_if_eq (tgt := 85) hx hb dX3_leastIn_66 (by decide) (fun c8 => ?_) (fun c8 => ?_)
      · have h := ifT c8 h
        exact tX3_leastIn_85 C hA ih h hP hD hS (lv_sub hl [0, 1, 2, 3, 4, 5] rfl)
      · have h := ifF c8 h
        refine lv_lload hx hb dX3_leastIn_69 (lv_at hl 4 rfl) ?_
        refine lv_aload_n hx hb dX3_leastIn_71 rfl (lv_at hl 0 rfl) ?_
        refine T_gfX3_15 C hP dX3_leastIn_72 ?_
        refine lv_iload_n hx hb dX3_leastIn_75 rfl (lv_at hl 1 rfl) ?_
        refine lv_iload_n hx hb dX3_leastIn_76 rfl (lv_at hl 2 rfl) ?_
        refine lv_iadd hx hb dX3_leastIn_77 ?_
        refine lv_iload hx hb dX3_leastIn_78 (lv_at hl 5 rfl) ?_
        refine lv_isub hx hb dX3_leastIn_80 ?_
        obtain ⟨g9, h⟩ := grd_s h
        refine T_ld61 C hP g9 dX3_leastIn_81 ?_
        refine lv_lor hx hb dX3_leastIn_82 ?_
        obtain ⟨u10, eu10, h⟩ := letS_n h
        refine lv_topF eu10 ?_
        refine lv_lstore (lv' := [(5, .long u10), (0, .ref (a 69)), (1, .int x1), (2, .int x2), (3, .long x3), (7, .int x7)]) hx hb dX3_leastIn_83 hl (by decide) rfl (fun ls hl => ?_)
        exact tX3_leastIn_85 C hA ih h hP hD hS (lv_sub hl [1, 2, 3, 4, 0, 5] rfl)
set_option maxHeartbeats 4000000 in
set_option maxRecDepth 100000 in
theorem tX3_leastIn_15 {st : Nat → Nat} {p : Program} {l : Launch} {e : Env} {s : State} {m : MethodId} {args : Array Value} {below : List Frame} {meth : Method} {c : Code} {D : va_G} {a : Nat → Nat} {cc : Nat → ClassId} {A : Nat → Prop} {N : Nat} {r : Int64} {σr : St} (C : T_Cx st l A RX3 p s m args meth c D cc cX3_leastIn (Cond.code yX3_leastIn cX3_leastIn 8 (some .long) :: WT) 8 (some .long)) (hA : ∀ q, s.heap.size ≤ q → A q) : ∀ (n : Nat) {σ : St} {x1 : Int32} {x2 : Int32} {x3 : Int64} {x5 : Int64} {x7 : Int32} {H : Heap} {locs : List Loc} {ls : Array Slot}, fX3_leastIn_15 N n σ x1 x2 x3 x5 x7 = some (r, σr) → va_P D vwCl (wT a cc σ) H → va_D A (wT a cc σ) → va_S A s.heap H locs → lv_has ls 8 [(0, .ref (a 69)), (1, .int x1), (2, .int x2), (3, .long x3), (5, .long x5), (7, .int x7)] → W p l e rmX3_leastIn s m args below meth c H locs 0 0 (T_Ml D a cc A below args s r σr) (F0 m 15 ls []) := by
  obtain ⟨hx, hb, hr, hml, hown, hts, hin, hK, hlocks, hTS, hl0⟩ := id C
  intro n
  induction n with
  | zero => intro σ x1 x2 x3 x5 x7 H locs ls h; exact none_s h
  | succ n ih =>
    intro σ x1 x2 x3 x5 x7 H locs ls h hP hD hS hl
    refine lv_iload hx hb dX3_leastIn_15 (lv_at hl 5 rfl) ?_
    refine lv_bipush (v := (6 : Int32)) hx hb dX3_leastIn_17 (by decide) ?_
    refine lv_icmp_ge (tgt := 50) hx hb dX3_leastIn_19 (by decide) (fun c3 => ?_) (fun c3 => ?_)
    · have h := ifT c3 h
      refine lv_iconst (v := (1 : Int32)) hx hb dX3_leastIn_50 (by decide) ?_
      refine lv_istore (lv' := [(7, .int (1 : Int32)), (0, .ref (a 69)), (1, .int x1), (2, .int x2), (3, .long x3), (5, .long x5)]) hx hb dX3_leastIn_51 hl (by decide) rfl (fun ls hl => ?_)
      exact tX3_leastIn_53 C hA N h hP hD hS (lv_sub hl [1, 2, 3, 4, 5, 0] rfl)
    · have h := ifF c3 h
      refine lv_lload hx hb dX3_leastIn_22 (lv_at hl 4 rfl) ?_
      refine lv_lload_n hx hb dX3_leastIn_24 rfl (lv_at hl 3 rfl) ?_
      refine T_gsX3_63 C hS dX3_leastIn_25 ?_
      refine lv_iload hx hb dX3_leastIn_28 (lv_at hl 5 rfl) ?_
      obtain ⟨g4, h⟩ := grd_s h
      refine T_sl0 C hS g4 dX3_leastIn_30 ?_
      refine lv_ldc2 (v := (-1 : Int64)) hx hb hown (hts (.constantLong RX3 66 (-1)) (by decide +kernel)) dX3_leastIn_31 ?_
      refine lv_lxor hx hb dX3_leastIn_34 ?_
      refine lv_land hx hb dX3_leastIn_35 ?_
      refine lv_iconst (v := (1 : Int32)) hx hb dX3_leastIn_36 (by decide) ?_
      refine lv_iload hx hb dX3_leastIn_37 (lv_at hl 5 rfl) ?_
      refine lv_ishl hx hb dX3_leastIn_39 ?_
      refine lv_lshl hx hb dX3_leastIn_40 rfl ?_
      refine lv_lor hx hb dX3_leastIn_41 ?_
      obtain ⟨u5, eu5, h⟩ := letS_n h
      refine lv_topF eu5 ?_
      refine lv_lstore (lv' := [(5, .long u5), (0, .ref (a 69)), (1, .int x1), (2, .int x2), (3, .long x3), (7, .int x7)]) hx hb dX3_leastIn_42 hl (by decide) rfl (fun ls hl => ?_)
      obtain ⟨u6, eu6, h⟩ := letS_n h
      refine lv_iinc (v := u6) (lv' := [(7, .int u6), (5, .long u5), (0, .ref (a 69)), (1, .int x1), (2, .int x2), (3, .long x3)]) hx hb dX3_leastIn_44 hl (k := 5) rfl (by rw [eu6]; rfl) (by decide) rfl (fun ls hl => ?_)
      refine lv_goto (tgt := 15) hx hb dX3_leastIn_47 (by decide) ?_
      exact ih h hP hD hS (lv_sub hl [2, 3, 4, 5, 1, 0] rfl)
set_option maxHeartbeats 4000000 in
set_option maxRecDepth 100000 in
theorem tX3_leastIn {st : Nat → Nat} {p : Program} {l : Launch} {e : Env} {s : State} {m : MethodId} {args : Array Value} {below : List Frame} {meth : Method} {c : Code} {D : va_G} {a : Nat → Nat} {cc : Nat → ClassId} {A : Nat → Prop} {N : Nat} {r : Int64} {σr : St} (C : T_Cx st l A RX3 p s m args meth c D cc cX3_leastIn (Cond.code yX3_leastIn cX3_leastIn 8 (some .long) :: WT) 8 (some .long)) (hA : ∀ q, s.heap.size ≤ q → A q) {σ : St} {p0 : Int32} {p1 : Int32} {H : Heap} {locs : List Loc} {ls : Array Slot} (h : fX3_leastIn N σ p0 p1 = some (r, σr)) : va_P D vwCl (wT a cc σ) H → va_D A (wT a cc σ) → va_S A s.heap H locs → lv_has ls 8 [(0, .ref (a 69)), (1, .int p0), (2, .int p1)] → W p l e rmX3_leastIn s m args below meth c H locs 0 0 (T_Ml D a cc A below args s r σr) (F0 m 0 ls []) := by
  obtain ⟨hx, hb, hr, hml, hown, hts, hin, hK, hlocks, hTS, hl0⟩ := id C
  intro hP hD hS hl
  refine lv_aload_n hx hb dX3_leastIn_0 rfl (lv_at hl 0 rfl) ?_
  refine T_gfX3_15 C hP dX3_leastIn_1 ?_
  refine lv_iload_n hx hb dX3_leastIn_4 rfl (lv_at hl 1 rfl) ?_
  refine lv_iload_n hx hb dX3_leastIn_5 rfl (lv_at hl 2 rfl) ?_
  refine lv_iadd hx hb dX3_leastIn_6 ?_
  obtain ⟨g1, h⟩ := grd_s h
  refine T_ld61 C hP g1 dX3_leastIn_7 ?_
  obtain ⟨u2, eu2, h⟩ := letS_n h
  refine lv_topF eu2 ?_
  refine lv_lstore_n (lv' := [(3, .long u2), (0, .ref (a 69)), (1, .int p0), (2, .int p1)]) hx hb dX3_leastIn_8 rfl hl (by decide) rfl (fun ls hl => ?_)
  refine lv_lconst (v := (0 : Int64)) hx hb dX3_leastIn_9 (by decide) ?_
  refine lv_lstore (lv' := [(5, .long (0 : Int64)), (3, .long u2), (0, .ref (a 69)), (1, .int p0), (2, .int p1)]) hx hb dX3_leastIn_10 hl (by decide) rfl (fun ls hl => ?_)
  refine lv_iconst (v := (0 : Int32)) hx hb dX3_leastIn_12 (by decide) ?_
  refine lv_istore (lv' := [(7, .int (0 : Int32)), (5, .long (0 : Int64)), (3, .long u2), (0, .ref (a 69)), (1, .int p0), (2, .int p1)]) hx hb dX3_leastIn_13 hl (by decide) rfl (fun ls hl => ?_)
  exact tX3_leastIn_15 C hA N h hP hD hS (lv_sub hl [3, 4, 5, 2, 1, 0] rfl)
set_option maxRecDepth 100000 in
theorem kX3_leastIn {l : Launch} (hl0 : l.stackTraces = false) (sz : Nat) {st : Nat → Nat} {D : va_G} {a : Nat → Nat} {cc : Nat → ClassId} {N : Nat} {r : Int64} {σr : St} {σ : St} {p0 : Int32} {p1 : Int32} (h : fX3_leastIn N σ p0 p1 = some (r, σr)) : Met l yX3_leastIn ((Cond.code yX3_leastIn cX3_leastIn 8 (some .long) :: WT)) rmX3_leastIn (T_Pc st D a cc [.ref (a 69), .int p0, .int p1] σ sz) (T_Ql D a cc σ sz r σr) 0 0 (va_A (wT a cc σ) sz) := by
  refine Met.ofW (cc := cX3_leastIn) (maxL := 8) (ret := (some .long)) (by decide) rfl ?_
  intro p e s m args below meth c s₁ B hml hv
  obtain ⟨rfl, hsz, hP, hK, hD0, hTS⟩ := hv
  subst hsz
  have hl := lv_entry ([.ref (a 69), .int p0, .int p1]) (n := 8) (Nat.le_of_ble_eq_true rfl)
  rw [lg_entry_eq]
  generalize (lg_sl ([.ref (a 69), .int p0, .int p1]) ++ List.replicate (8 - (lg_sl ([.ref (a 69), .int p0, .int p1])).length) Slot.unset).toArray = ls at hl ⊢
  exact tX3_leastIn ⟨B.exec, B.bytes, B.returns, hml, findClass_of_methodNamed B.named, atoms_spec (ws := (Cond.code yX3_leastIn cX3_leastIn 8 (some .long) :: WT)) B.pre, (fun w h => List.mem_cons_of_mem _ h), hK, B.notSynchronized, hTS, hl0⟩ (fun q h => Or.inr h) h hP hD0.self va_S.rf hl
set_option maxHeartbeats 4000000 in
set_option maxRecDepth 100000 in
theorem tX3_findLeastSets_81 {st : Nat → Nat} {p : Program} {l : Launch} {e : Env} {s : State} {m : MethodId} {args : Array Value} {below : List Frame} {meth : Method} {c : Code} {D : va_G} {a : Nat → Nat} {cc : Nat → ClassId} {A : Nat → Prop} {N : Nat} {σr : St} {k7 : St → Int32 → Int32 → Option St} {k28 : St → Int32 → Int32 → Int64 → Int32 → Option St} (C : T_Cx st l A RX3 p s m args meth c D cc cX3_findLeastSets (Cond.code yX3_findLeastSets cX3_findLeastSets 6 none :: WT) 6 none) (hA : ∀ q, s.heap.size ≤ q → A q) (hk7 : ∀ {σ : St} {x1 : Int32} {x2 : Int32} {H : Heap} {locs : List Loc} {ls : Array Slot}, k7 σ x1 x2 = some σr → va_P D vwCl (wT a cc σ) H → va_D A (wT a cc σ) → va_S A s.heap H locs → lv_has ls 6 [(0, .ref (a 69)), (1, .int x1), (2, .int x2)] → W p l e rmX3_findLeastSets s m args below meth c H locs 0 0 (T_Mv D a cc A below args s σr) (F0 m 7 ls [])) (hk28 : ∀ {σ : St} {x1 : Int32} {x2 : Int32} {x3 : Int64} {x5 : Int32} {H : Heap} {locs : List Loc} {ls : Array Slot}, k28 σ x1 x2 x3 x5 = some σr → va_P D vwCl (wT a cc σ) H → va_D A (wT a cc σ) → va_S A s.heap H locs → lv_has ls 6 [(0, .ref (a 69)), (1, .int x1), (2, .int x2), (3, .long x3), (5, .int x5)] → W p l e rmX3_findLeastSets s m args below meth c H locs 0 0 (T_Mv D a cc A below args s σr) (F0 m 28 ls [])) {σ : St} {x1 : Int32} {x2 : Int32} {x3 : Int64} {x5 : Int32} {H : Heap} {locs : List Loc} {ls : Array Slot} (h : fX3_findLeastSets_81 N k7 k28 σ x1 x2 x3 x5 = some σr) : va_P D vwCl (wT a cc σ) H → va_D A (wT a cc σ) → va_S A s.heap H locs → lv_has ls 6 [(0, .ref (a 69)), (1, .int x1), (2, .int x2), (3, .long x3), (5, .int x5)] → W p l e rmX3_findLeastSets s m args below meth c H locs 0 0 (T_Mv D a cc A below args s σr) (F0 m 81 ls []) := by
  obtain ⟨hx, hb, hr, hml, hown, hts, hin, hK, hlocks, hTS, hl0⟩ := id C
  intro hP hD hS hl
  obtain ⟨u11, eu11, h⟩ := letS_n h
  refine lv_iinc (v := u11) (lv' := [(5, .int u11), (0, .ref (a 69)), (1, .int x1), (2, .int x2), (3, .long x3)]) hx hb dX3_findLeastSets_81 hl (k := 4) rfl (by rw [eu11]; rfl) (by decide) rfl (fun ls hl => ?_)
  refine lv_goto (tgt := 28) hx hb dX3_findLeastSets_84 (by decide) ?_
  exact hk28 h hP hD hS (lv_sub hl [1, 2, 3, 4, 0] rfl)
set_option maxHeartbeats 4000000 in
set_option maxRecDepth 100000 in
theorem tX3_findLeastSets_87 {st : Nat → Nat} {p : Program} {l : Launch} {e : Env} {s : State} {m : MethodId} {args : Array Value} {below : List Frame} {meth : Method} {c : Code} {D : va_G} {a : Nat → Nat} {cc : Nat → ClassId} {A : Nat → Prop} {N : Nat} {σr : St} {k7 : St → Int32 → Int32 → Option St} (C : T_Cx st l A RX3 p s m args meth c D cc cX3_findLeastSets (Cond.code yX3_findLeastSets cX3_findLeastSets 6 none :: WT) 6 none) (hA : ∀ q, s.heap.size ≤ q → A q) (hk7 : ∀ {σ : St} {x1 : Int32} {x2 : Int32} {H : Heap} {locs : List Loc} {ls : Array Slot}, k7 σ x1 x2 = some σr → va_P D vwCl (wT a cc σ) H → va_D A (wT a cc σ) → va_S A s.heap H locs → lv_has ls 6 [(0, .ref (a 69)), (1, .int x1), (2, .int x2)] → W p l e rmX3_findLeastSets s m args below meth c H locs 0 0 (T_Mv D a cc A below args s σr) (F0 m 7 ls [])) {σ : St} {x1 : Int32} {x2 : Int32} {H : Heap} {locs : List Loc} {ls : Array Slot} (h : fX3_findLeastSets_87 N k7 σ x1 x2 = some σr) : va_P D vwCl (wT a cc σ) H → va_D A (wT a cc σ) → va_S A s.heap H locs → lv_has ls 6 [(0, .ref (a 69)), (1, .int x1), (2, .int x2)] → W p l e rmX3_findLeastSets s m args below meth c H locs 0 0 (T_Mv D a cc A below args s σr) (F0 m 87 ls []) := by
  obtain ⟨hx, hb, hr, hml, hown, hts, hin, hK, hlocks, hTS, hl0⟩ := id C
  intro hP hD hS hl
  obtain ⟨u12, eu12, h⟩ := letS_n h
  refine lv_iinc (v := u12) (lv' := [(2, .int u12), (0, .ref (a 69)), (1, .int x1)]) hx hb dX3_findLeastSets_87 hl (k := 2) rfl (by rw [eu12]; rfl) (by decide) rfl (fun ls hl => ?_)
  refine lv_goto (tgt := 7) hx hb dX3_findLeastSets_90 (by decide) ?_
  exact hk7 h hP hD hS (lv_sub hl [1, 2, 0] rfl)
set_option maxHeartbeats 4000000 in
set_option maxRecDepth 100000 in
theorem tX3_findLeastSets_28 {st : Nat → Nat} {p : Program} {l : Launch} {e : Env} {s : State} {m : MethodId} {args : Array Value} {below : List Frame} {meth : Method} {c : Code} {D : va_G} {a : Nat → Nat} {cc : Nat → ClassId} {A : Nat → Prop} {N : Nat} {σr : St} {k7 : St → Int32 → Int32 → Option St} (C : T_Cx st l A RX3 p s m args meth c D cc cX3_findLeastSets (Cond.code yX3_findLeastSets cX3_findLeastSets 6 none :: WT) 6 none) (hA : ∀ q, s.heap.size ≤ q → A q) (hk7 : ∀ {σ : St} {x1 : Int32} {x2 : Int32} {H : Heap} {locs : List Loc} {ls : Array Slot}, k7 σ x1 x2 = some σr → va_P D vwCl (wT a cc σ) H → va_D A (wT a cc σ) → va_S A s.heap H locs → lv_has ls 6 [(0, .ref (a 69)), (1, .int x1), (2, .int x2)] → W p l e rmX3_findLeastSets s m args below meth c H locs 0 0 (T_Mv D a cc A below args s σr) (F0 m 7 ls [])) : ∀ (n : Nat) {σ : St} {x1 : Int32} {x2 : Int32} {x3 : Int64} {x5 : Int32} {H : Heap} {locs : List Loc} {ls : Array Slot}, fX3_findLeastSets_28 N k7 n σ x1 x2 x3 x5 = some σr → va_P D vwCl (wT a cc σ) H → va_D A (wT a cc σ) → va_S A s.heap H locs → lv_has ls 6 [(0, .ref (a 69)), (1, .int x1), (2, .int x2), (3, .long x3), (5, .int x5)] → W p l e rmX3_findLeastSets s m args below meth c H locs 0 0 (T_Mv D a cc A below args s σr) (F0 m 28 ls []) := by
  obtain ⟨hx, hb, hr, hml, hown, hts, hin, hK, hlocks, hTS, hl0⟩ := id C
  intro n
  induction n with
  | zero => intro σ x1 x2 x3 x5 H locs ls h; exact none_s h
  | succ n ih =>
    intro σ x1 x2 x3 x5 H locs ls h hP hD hS hl
    refine lv_iload hx hb dX3_findLeastSets_28 (lv_at hl 4 rfl) ?_
    refine lv_bipush (v := (64 : Int32)) hx hb dX3_findLeastSets_30 (by decide) ?_
    refine lv_icmp_ge (tgt := 87) hx hb dX3_findLeastSets_32 (by decide) (fun c5 => ?_) (fun c5 => ?_)
    · have h := ifT c5 h
      exact tX3_findLeastSets_87 C hA hk7 h hP hD hS (lv_sub hl [0, 1, 2] rfl)
    · have h := ifF c5 h
      refine lv_lload_n hx hb dX3_findLeastSets_35 rfl (lv_at hl 3 rfl) ?_
      refine lv_iload hx hb dX3_findLeastSets_36 (lv_at hl 4 rfl) ?_
      refine lv_lushr hx hb dX3_findLeastSets_38 rfl ?_
      refine lv_lconst (v := (0 : Int64)) hx hb dX3_findLeastSets_39 (by decide) ?_
      refine W.lcmp hx hb dX3_findLeastSets_40 ?_
      refine lv_if_eq (tgt := 87) hx hb dX3_findLeastSets_41 (by decide) (fun c6 => ?_) (fun c6 => ?_)
      · have h := ifT c6 h
        exact tX3_findLeastSets_87 C hA hk7 h hP hD hS (lv_sub hl [0, 1, 2] rfl)
      · have h := ifF c6 h
        refine lv_lload_n hx hb dX3_findLeastSets_44 rfl (lv_at hl 3 rfl) ?_
        refine lv_iload hx hb dX3_findLeastSets_45 (lv_at hl 4 rfl) ?_
        refine lv_lushr hx hb dX3_findLeastSets_47 rfl ?_
        refine lv_lconst (v := (1 : Int64)) hx hb dX3_findLeastSets_48 (by decide) ?_
        refine lv_land hx hb dX3_findLeastSets_49 ?_
        refine lv_lconst (v := (0 : Int64)) hx hb dX3_findLeastSets_50 (by decide) ?_
        refine W.lcmp hx hb dX3_findLeastSets_51 ?_
        refine lv_if_eq (tgt := 81) hx hb dX3_findLeastSets_52 (by decide) (fun c7 => ?_) (fun c7 => ?_)
        · have h := ifT c7 h
          exact tX3_findLeastSets_81 C hA hk7 ih h hP hD hS (lv_sub hl [0, 1, 2, 3, 4] rfl)
        · have h := ifF c7 h
          refine lv_aload_n hx hb dX3_findLeastSets_55 rfl (lv_at hl 0 rfl) ?_
          refine T_gfX3_23 C hP dX3_findLeastSets_56 ?_
          refine lv_aload_n hx hb dX3_findLeastSets_59 rfl (lv_at hl 0 rfl) ?_
          refine T_gfX3_26 C hP dX3_findLeastSets_60 ?_
          refine lv_iload_n hx hb dX3_findLeastSets_63 rfl (lv_at hl 2 rfl) ?_
          refine lv_bipush (v := (6 : Int32)) hx hb dX3_findLeastSets_64 (by decide) ?_
          refine lv_ishl hx hb dX3_findLeastSets_66 ?_
          refine lv_iload hx hb dX3_findLeastSets_67 (lv_at hl 4 rfl) ?_
          refine lv_ior hx hb dX3_findLeastSets_69 ?_
          obtain ⟨g8, h⟩ := grd_s h
          obtain ⟨σ9, eσ9, h⟩ := letS_n h
          refine T_st63 C hP hD hS g8 eσ9 dX3_findLeastSets_70 (fun H locs hP hD hS => ?_)
          refine lv_aload_n hx hb dX3_findLeastSets_71 rfl (lv_at hl 0 rfl) ?_
          refine lv_dup hx hb dX3_findLeastSets_72 rfl ?_
          refine T_gfX3_26 C hP dX3_findLeastSets_73 ?_
          refine lv_iconst (v := (1 : Int32)) hx hb dX3_findLeastSets_76 (by decide) ?_
          refine lv_iadd hx hb dX3_findLeastSets_77 ?_
          obtain ⟨σ10, eσ10, h⟩ := letS_n h
          refine T_pfX3_26 C hP hD hS eσ10 dX3_findLeastSets_78 (fun H locs hP hD hS => ?_)
          exact tX3_findLeastSets_81 C hA hk7 ih h hP hD hS (lv_sub hl [0, 1, 2, 3, 4] rfl)
set_option maxHeartbeats 4000000 in
set_option maxRecDepth 100000 in
theorem tX3_findLeastSets_7 {st : Nat → Nat} {p : Program} {l : Launch} {e : Env} {s : State} {m : MethodId} {args : Array Value} {below : List Frame} {meth : Method} {c : Code} {D : va_G} {a : Nat → Nat} {cc : Nat → ClassId} {A : Nat → Prop} {N : Nat} {σr : St} (C : T_Cx st l A RX3 p s m args meth c D cc cX3_findLeastSets (Cond.code yX3_findLeastSets cX3_findLeastSets 6 none :: WT) 6 none) (hA : ∀ q, s.heap.size ≤ q → A q) : ∀ (n : Nat) {σ : St} {x1 : Int32} {x2 : Int32} {H : Heap} {locs : List Loc} {ls : Array Slot}, fX3_findLeastSets_7 N n σ x1 x2 = some σr → va_P D vwCl (wT a cc σ) H → va_D A (wT a cc σ) → va_S A s.heap H locs → lv_has ls 6 [(0, .ref (a 69)), (1, .int x1), (2, .int x2)] → W p l e rmX3_findLeastSets s m args below meth c H locs 0 0 (T_Mv D a cc A below args s σr) (F0 m 7 ls []) := by
  obtain ⟨hx, hb, hr, hml, hown, hts, hin, hK, hlocks, hTS, hl0⟩ := id C
  intro n
  induction n with
  | zero => intro σ x1 x2 H locs ls h; exact none_s h
  | succ n ih =>
    intro σ x1 x2 H locs ls h hP hD hS hl
    refine lv_iload_n hx hb dX3_findLeastSets_7 rfl (lv_at hl 2 rfl) ?_
    refine lv_aload_n hx hb dX3_findLeastSets_8 rfl (lv_at hl 0 rfl) ?_
    refine T_gfX3_30 C hP dX3_findLeastSets_9 ?_
    refine lv_icmp_ge (tgt := 93) hx hb dX3_findLeastSets_12 (by decide) (fun c2 => ?_) (fun c2 => ?_)
    · have h := ifT c2 h
      exact T_vret C h hP hD hS dX3_findLeastSets_93
    · have h := ifF c2 h
      refine lv_aload_n hx hb dX3_findLeastSets_15 rfl (lv_at hl 0 rfl) ?_
      refine lv_iload_n hx hb dX3_findLeastSets_16 rfl (lv_at hl 1 rfl) ?_
      refine lv_bipush (v := (8 : Int32)) hx hb dX3_findLeastSets_17 (by decide) ?_
      refine lv_imul hx hb dX3_findLeastSets_19 ?_
      refine lv_iload_n hx hb dX3_findLeastSets_20 rfl (lv_at hl 2 rfl) ?_
      obtain ⟨r4, σ3, hc, h⟩ := bnd_s h
      refine T_callVl (q0 := 10) (ci := 7) (As := [.int (x1 * (8 : Int32)), .int x2]) (rest := []) C hA (fun sz => kX3_leastIn hl0 sz hc) gX3_60 hP hD hS rfl rfl ⟨by decide, by decide⟩ ⟨rfl, rfl⟩ rfl hl.1 rfl (lv_room (Nat.le_of_ble_eq_true rfl)) dX3_findLeastSets_21 (fun H locs hP hD hS => ?_)
      refine lv_lstore_n (lv' := [(3, .long r4), (0, .ref (a 69)), (1, .int x1), (2, .int x2)]) hx hb dX3_findLeastSets_24 rfl hl (by decide) rfl (fun ls hl => ?_)
      refine lv_iconst (v := (0 : Int32)) hx hb dX3_findLeastSets_25 (by decide) ?_
      refine lv_istore (lv' := [(5, .int (0 : Int32)), (3, .long r4), (0, .ref (a 69)), (1, .int x1), (2, .int x2)]) hx hb dX3_findLeastSets_26 hl (by decide) rfl (fun ls hl => ?_)
      exact tX3_findLeastSets_28 C hA ih N h hP hD hS (lv_sub hl [2, 3, 4, 1, 0] rfl)
set_option maxHeartbeats 4000000 in
set_option maxRecDepth 100000 in
theorem tX3_findLeastSets {st : Nat → Nat} {p : Program} {l : Launch} {e : Env} {s : State} {m : MethodId} {args : Array Value} {below : List Frame} {meth : Method} {c : Code} {D : va_G} {a : Nat → Nat} {cc : Nat → ClassId} {A : Nat → Prop} {N : Nat} {σr : St} (C : T_Cx st l A RX3 p s m args meth c D cc cX3_findLeastSets (Cond.code yX3_findLeastSets cX3_findLeastSets 6 none :: WT) 6 none) (hA : ∀ q, s.heap.size ≤ q → A q) {σ : St} {p0 : Int32} {H : Heap} {locs : List Loc} {ls : Array Slot} (h : fX3_findLeastSets N σ p0 = some σr) : va_P D vwCl (wT a cc σ) H → va_D A (wT a cc σ) → va_S A s.heap H locs → lv_has ls 6 [(0, .ref (a 69)), (1, .int p0)] → W p l e rmX3_findLeastSets s m args below meth c H locs 0 0 (T_Mv D a cc A below args s σr) (F0 m 0 ls []) := by
  obtain ⟨hx, hb, hr, hml, hown, hts, hin, hK, hlocks, hTS, hl0⟩ := id C
  intro hP hD hS hl
  refine lv_aload_n hx hb dX3_findLeastSets_0 rfl (lv_at hl 0 rfl) ?_
  refine lv_iconst (v := (0 : Int32)) hx hb dX3_findLeastSets_1 (by decide) ?_
  obtain ⟨σ1, eσ1, h⟩ := letS_n h
  refine T_pfX3_26 C hP hD hS eσ1 dX3_findLeastSets_2 (fun H locs hP hD hS => ?_)
  refine lv_iconst (v := (0 : Int32)) hx hb dX3_findLeastSets_5 (by decide) ?_
  refine lv_istore_n (lv' := [(2, .int (0 : Int32)), (0, .ref (a 69)), (1, .int p0)]) hx hb dX3_findLeastSets_6 rfl hl (by decide) rfl (fun ls hl => ?_)
  exact tX3_findLeastSets_7 C hA N h hP hD hS (lv_sub hl [1, 2, 0] rfl)
set_option maxRecDepth 100000 in
theorem kX3_findLeastSets {l : Launch} (hl0 : l.stackTraces = false) (sz : Nat) {st : Nat → Nat} {D : va_G} {a : Nat → Nat} {cc : Nat → ClassId} {N : Nat} {σr : St} {σ : St} {p0 : Int32} (h : fX3_findLeastSets N σ p0 = some σr) : Met l yX3_findLeastSets ((Cond.code yX3_findLeastSets cX3_findLeastSets 6 none :: WT)) rmX3_findLeastSets (T_Pc st D a cc [.ref (a 69), .int p0] σ sz) (T_Qv D a cc σ sz σr) 0 0 (va_A (wT a cc σ) sz) := by
  refine Met.ofW (cc := cX3_findLeastSets) (maxL := 6) (ret := none) (by decide) rfl ?_
  intro p e s m args below meth c s₁ B hml hv
  obtain ⟨rfl, hsz, hP, hK, hD0, hTS⟩ := hv
  subst hsz
  have hl := lv_entry ([.ref (a 69), .int p0]) (n := 6) (Nat.le_of_ble_eq_true rfl)
  rw [lg_entry_eq]
  generalize (lg_sl ([.ref (a 69), .int p0]) ++ List.replicate (6 - (lg_sl ([.ref (a 69), .int p0])).length) Slot.unset).toArray = ls at hl ⊢
  exact tX3_findLeastSets ⟨B.exec, B.bytes, B.returns, hml, findClass_of_methodNamed B.named, atoms_spec (ws := (Cond.code yX3_findLeastSets cX3_findLeastSets 6 none :: WT)) B.pre, (fun w h => List.mem_cons_of_mem _ h), hK, B.notSynchronized, hTS, hl0⟩ (fun q h => Or.inr h) h hP hD0.self va_S.rf hl
set_option maxHeartbeats 4000000 in
set_option maxRecDepth 100000 in
theorem tX3_putIn_69 {st : Nat → Nat} {p : Program} {l : Launch} {e : Env} {s : State} {m : MethodId} {args : Array Value} {below : List Frame} {meth : Method} {c : Code} {D : va_G} {a : Nat → Nat} {cc : Nat → ClassId} {A : Nat → Prop} {N : Nat} {σr : St} {k10 : St → Int32 → Int32 → Int32 → Option St} (C : T_Cx st l A RX3 p s m args meth c D cc cX3_putIn (Cond.code yX3_putIn cX3_putIn 7 none :: WT) 7 none) (hA : ∀ q, s.heap.size ≤ q → A q) (hk10 : ∀ {σ : St} {x1 : Int32} {x2 : Int32} {x3 : Int32} {H : Heap} {locs : List Loc} {ls : Array Slot}, k10 σ x1 x2 x3 = some σr → va_P D vwCl (wT a cc σ) H → va_D A (wT a cc σ) → va_S A s.heap H locs → lv_has ls 7 [(0, .ref (a 69)), (1, .int x1), (2, .int x2), (3, .int x3)] → W p l e rmX3_putIn s m args below meth c H locs 0 0 (T_Mv D a cc A below args s σr) (F0 m 10 ls [])) {σ : St} {x1 : Int32} {x2 : Int32} {x3 : Int32} {x4 : Int64} {H : Heap} {locs : List Loc} {ls : Array Slot} (h : fX3_putIn_69 N k10 σ x1 x2 x3 x4 = some σr) : va_P D vwCl (wT a cc σ) H → va_D A (wT a cc σ) → va_S A s.heap H locs → lv_has ls 7 [(0, .ref (a 69)), (1, .int x1), (2, .int x2), (3, .int x3), (4, .long x4)] → W p l e rmX3_putIn s m args below meth c H locs 0 0 (T_Mv D a cc A below args s σr) (F0 m 69 ls []) := by
  obtain ⟨hx, hb, hr, hml, hown, hts, hin, hK, hlocks, hTS, hl0⟩ := id C
  intro hP hD hS hl
  refine lv_aload_n hx hb dX3_putIn_69 rfl (lv_at hl 0 rfl) ?_
  refine T_gfX3_15 C hP dX3_putIn_70 ?_
  refine lv_iload_n hx hb dX3_putIn_73 rfl (lv_at hl 2 rfl) ?_
  refine lv_iload_n hx hb dX3_putIn_74 rfl (lv_at hl 3 rfl) ?_
  refine lv_iadd hx hb dX3_putIn_75 ?_
  refine lv_lload hx hb dX3_putIn_76 (lv_at hl 4 rfl) ?_
  obtain ⟨g10, h⟩ := grd_s h
  obtain ⟨σ11, eσ11, h⟩ := letS_n h
  refine T_st61 C hP hD hS g10 eσ11 dX3_putIn_78 (fun H locs hP hD hS => ?_)
  obtain ⟨u12, eu12, h⟩ := letS_n h
  refine lv_iinc (v := u12) (lv' := [(3, .int u12), (0, .ref (a 69)), (1, .int x1), (2, .int x2), (4, .long x4)]) hx hb dX3_putIn_79 hl (k := 3) rfl (by rw [eu12]; rfl) (by decide) rfl (fun ls hl => ?_)
  refine lv_goto (tgt := 10) hx hb dX3_putIn_82 (by decide) ?_
  exact hk10 h hP hD hS (lv_sub hl [1, 2, 3, 0] rfl)
set_option maxHeartbeats 4000000 in
set_option maxRecDepth 100000 in
theorem tX3_putIn_24 {st : Nat → Nat} {p : Program} {l : Launch} {e : Env} {s : State} {m : MethodId} {args : Array Value} {below : List Frame} {meth : Method} {c : Code} {D : va_G} {a : Nat → Nat} {cc : Nat → ClassId} {A : Nat → Prop} {N : Nat} {σr : St} {k10 : St → Int32 → Int32 → Int32 → Option St} (C : T_Cx st l A RX3 p s m args meth c D cc cX3_putIn (Cond.code yX3_putIn cX3_putIn 7 none :: WT) 7 none) (hA : ∀ q, s.heap.size ≤ q → A q) (hk10 : ∀ {σ : St} {x1 : Int32} {x2 : Int32} {x3 : Int32} {H : Heap} {locs : List Loc} {ls : Array Slot}, k10 σ x1 x2 x3 = some σr → va_P D vwCl (wT a cc σ) H → va_D A (wT a cc σ) → va_S A s.heap H locs → lv_has ls 7 [(0, .ref (a 69)), (1, .int x1), (2, .int x2), (3, .int x3)] → W p l e rmX3_putIn s m args below meth c H locs 0 0 (T_Mv D a cc A below args s σr) (F0 m 10 ls [])) : ∀ (n : Nat) {σ : St} {x1 : Int32} {x2 : Int32} {x3 : Int32} {x4 : Int64} {x6 : Int32} {H : Heap} {locs : List Loc} {ls : Array Slot}, fX3_putIn_24 N k10 n σ x1 x2 x3 x4 x6 = some σr → va_P D vwCl (wT a cc σ) H → va_D A (wT a cc σ) → va_S A s.heap H locs → lv_has ls 7 [(0, .ref (a 69)), (1, .int x1), (2, .int x2), (3, .int x3), (4, .long x4), (6, .int x6)] → W p l e rmX3_putIn s m args below meth c H locs 0 0 (T_Mv D a cc A below args s σr) (F0 m 24 ls []) := by
  obtain ⟨hx, hb, hr, hml, hown, hts, hin, hK, hlocks, hTS, hl0⟩ := id C
  intro n
  induction n with
  | zero => intro σ x1 x2 x3 x4 x6 H locs ls h; exact none_s h
  | succ n ih =>
    intro σ x1 x2 x3 x4 x6 H locs ls h hP hD hS hl
    refine lv_iload hx hb dX3_putIn_24 (lv_at hl 5 rfl) ?_
    refine lv_aload_n hx hb dX3_putIn_26 rfl (lv_at hl 0 rfl) ?_
    refine T_gfX3_26 C hP dX3_putIn_27 ?_
    refine lv_icmp_ge (tgt := 69) hx hb dX3_putIn_30 (by decide) (fun c3 => ?_) (fun c3 => ?_)
    · have h := ifT c3 h
      exact tX3_putIn_69 C hA hk10 h hP hD hS (lv_sub hl [0, 1, 2, 3, 4] rfl)
    · have h := ifF c3 h
      refine lv_lload hx hb dX3_putIn_33 (lv_at hl 4 rfl) ?_
      refine lv_ldc2 (v := (-1 : Int64)) hx hb hown (hts (.constantLong RX3 66 (-1)) (by decide +kernel)) dX3_putIn_35 ?_
      refine W.lcmp hx hb dX3_putIn_38 ?_
      refine lv_if_eq (tgt := 69) hx hb dX3_putIn_39 (by decide) (fun c4 => ?_) (fun c4 => ?_)
      · have h := ifT c4 h
        exact tX3_putIn_69 C hA hk10 h hP hD hS (lv_sub hl [0, 1, 2, 3, 4] rfl)
      · have h := ifF c4 h
        refine lv_lload hx hb dX3_putIn_42 (lv_at hl 4 rfl) ?_
        refine lv_aload_n hx hb dX3_putIn_44 rfl (lv_at hl 0 rfl) ?_
        refine T_gfX3_9 C hP dX3_putIn_45 ?_
        refine lv_aload_n hx hb dX3_putIn_48 rfl (lv_at hl 0 rfl) ?_
        refine T_gfX3_23 C hP dX3_putIn_49 ?_
        refine lv_iload hx hb dX3_putIn_52 (lv_at hl 5 rfl) ?_
        obtain ⟨g5, h⟩ := grd_s h
        refine T_ld63 C hP g5 dX3_putIn_54 ?_
        refine lv_iload_n hx hb dX3_putIn_55 rfl (lv_at hl 1 rfl) ?_
        refine lv_iload_n hx hb dX3_putIn_56 rfl (lv_at hl 3 rfl) ?_
        obtain ⟨r7, σ6, hc, h⟩ := bnd_s h
        refine T_callNl (q0 := 7) (ci := 4) (As := [.int (gI σ 63 x6.toNatClampNeg), .int x1, .int x3]) (rest := [.long x4]) C hA (fun sz => kX0_askedByAll hl0 sz hc) gX3_68 hP hD hS rfl rfl ⟨by decide, by decide⟩ ⟨rfl, rfl⟩ rfl hl.1 rfl (lv_room (Nat.le_of_ble_eq_true rfl)) dX3_putIn_57 (fun H locs hP hD hS => ?_)
        refine lv_lor hx hb dX3_putIn_60 ?_
        obtain ⟨u8, eu8, h⟩ := letS_n h
        refine lv_topF eu8 ?_
        refine lv_lstore (lv' := [(4, .long u8), (0, .ref (a 69)), (1, .int x1), (2, .int x2), (3, .int x3), (6, .int x6)]) hx hb dX3_putIn_61 hl (by decide) rfl (fun ls hl => ?_)
        obtain ⟨u9, eu9, h⟩ := letS_n h
        refine lv_iinc (v := u9) (lv' := [(6, .int u9), (4, .long u8), (0, .ref (a 69)), (1, .int x1), (2, .int x2), (3, .int x3)]) hx hb dX3_putIn_63 hl (k := 5) rfl (by rw [eu9]; rfl) (by decide) rfl (fun ls hl => ?_)
        refine lv_goto (tgt := 24) hx hb dX3_putIn_66 (by decide) ?_
        exact ih h hP hD hS (lv_sub hl [2, 3, 4, 5, 1, 0] rfl)
set_option maxHeartbeats 4000000 in
set_option maxRecDepth 100000 in
theorem tX3_putIn_10 {st : Nat → Nat} {p : Program} {l : Launch} {e : Env} {s : State} {m : MethodId} {args : Array Value} {below : List Frame} {meth : Method} {c : Code} {D : va_G} {a : Nat → Nat} {cc : Nat → ClassId} {A : Nat → Prop} {N : Nat} {σr : St} (C : T_Cx st l A RX3 p s m args meth c D cc cX3_putIn (Cond.code yX3_putIn cX3_putIn 7 none :: WT) 7 none) (hA : ∀ q, s.heap.size ≤ q → A q) : ∀ (n : Nat) {σ : St} {x1 : Int32} {x2 : Int32} {x3 : Int32} {H : Heap} {locs : List Loc} {ls : Array Slot}, fX3_putIn_10 N n σ x1 x2 x3 = some σr → va_P D vwCl (wT a cc σ) H → va_D A (wT a cc σ) → va_S A s.heap H locs → lv_has ls 7 [(0, .ref (a 69)), (1, .int x1), (2, .int x2), (3, .int x3)] → W p l e rmX3_putIn s m args below meth c H locs 0 0 (T_Mv D a cc A below args s σr) (F0 m 10 ls []) := by
  obtain ⟨hx, hb, hr, hml, hown, hts, hin, hK, hlocks, hTS, hl0⟩ := id C
  intro n
  induction n with
  | zero => intro σ x1 x2 x3 H locs ls h; exact none_s h
  | succ n ih =>
    intro σ x1 x2 x3 H locs ls h hP hD hS hl
    refine lv_iload_n hx hb dX3_putIn_10 rfl (lv_at hl 3 rfl) ?_
    refine lv_aload_n hx hb dX3_putIn_11 rfl (lv_at hl 0 rfl) ?_
    refine T_gfX3_30 C hP dX3_putIn_12 ?_
    refine lv_icmp_ge (tgt := 85) hx hb dX3_putIn_15 (by decide) (fun c2 => ?_) (fun c2 => ?_)
    · have h := ifT c2 h
      exact T_vret C h hP hD hS dX3_putIn_85
    · have h := ifF c2 h
      refine lv_lconst (v := (0 : Int64)) hx hb dX3_putIn_18 (by decide) ?_
      refine lv_lstore (lv' := [(4, .long (0 : Int64)), (0, .ref (a 69)), (1, .int x1), (2, .int x2), (3, .int x3)]) hx hb dX3_putIn_19 hl (by decide) rfl (fun ls hl => ?_)
      refine lv_iconst (v := (0 : Int32)) hx hb dX3_putIn_21 (by decide) ?_
      refine lv_istore (lv' := [(6, .int (0 : Int32)), (4, .long (0 : Int64)), (0, .ref (a 69)), (1, .int x1), (2, .int x2), (3, .int x3)]) hx hb dX3_putIn_22 hl (by decide) rfl (fun ls hl => ?_)
      exact tX3_putIn_24 C hA ih N h hP hD hS (lv_sub hl [2, 3, 4, 5, 1, 0] rfl)
set_option maxHeartbeats 4000000 in
set_option maxRecDepth 100000 in
theorem tX3_putIn {st : Nat → Nat} {p : Program} {l : Launch} {e : Env} {s : State} {m : MethodId} {args : Array Value} {below : List Frame} {meth : Method} {c : Code} {D : va_G} {a : Nat → Nat} {cc : Nat → ClassId} {A : Nat → Prop} {N : Nat} {σr : St} (C : T_Cx st l A RX3 p s m args meth c D cc cX3_putIn (Cond.code yX3_putIn cX3_putIn 7 none :: WT) 7 none) (hA : ∀ q, s.heap.size ≤ q → A q) {σ : St} {p0 : Int32} {H : Heap} {locs : List Loc} {ls : Array Slot} (h : fX3_putIn N σ p0 = some σr) : va_P D vwCl (wT a cc σ) H → va_D A (wT a cc σ) → va_S A s.heap H locs → lv_has ls 7 [(0, .ref (a 69)), (1, .int p0)] → W p l e rmX3_putIn s m args below meth c H locs 0 0 (T_Mv D a cc A below args s σr) (F0 m 0 ls []) := by
  obtain ⟨hx, hb, hr, hml, hown, hts, hin, hK, hlocks, hTS, hl0⟩ := id C
  intro hP hD hS hl
  refine lv_aload_n hx hb dX3_putIn_0 rfl (lv_at hl 0 rfl) ?_
  refine T_gfX3_33 C hP dX3_putIn_1 ?_
  refine lv_bipush (v := (8 : Int32)) hx hb dX3_putIn_4 (by decide) ?_
  refine lv_imul hx hb dX3_putIn_6 ?_
  obtain ⟨u1, eu1, h⟩ := letS_n h
  refine lv_topE eu1 ?_
  refine lv_istore_n (lv' := [(2, .int u1), (0, .ref (a 69)), (1, .int p0)]) hx hb dX3_putIn_7 rfl hl (by decide) rfl (fun ls hl => ?_)
  refine lv_iconst (v := (0 : Int32)) hx hb dX3_putIn_8 (by decide) ?_
  refine lv_istore_n (lv' := [(3, .int (0 : Int32)), (2, .int u1), (0, .ref (a 69)), (1, .int p0)]) hx hb dX3_putIn_9 rfl hl (by decide) rfl (fun ls hl => ?_)
  exact tX3_putIn_10 C hA N h hP hD hS (lv_sub hl [2, 3, 1, 0] rfl)
set_option maxRecDepth 100000 in
theorem kX3_putIn {l : Launch} (hl0 : l.stackTraces = false) (sz : Nat) {st : Nat → Nat} {D : va_G} {a : Nat → Nat} {cc : Nat → ClassId} {N : Nat} {σr : St} {σ : St} {p0 : Int32} (h : fX3_putIn N σ p0 = some σr) : Met l yX3_putIn ((Cond.code yX3_putIn cX3_putIn 7 none :: WT)) rmX3_putIn (T_Pc st D a cc [.ref (a 69), .int p0] σ sz) (T_Qv D a cc σ sz σr) 0 0 (va_A (wT a cc σ) sz) := by
  refine Met.ofW (cc := cX3_putIn) (maxL := 7) (ret := none) (by decide) rfl ?_
  intro p e s m args below meth c s₁ B hml hv
  obtain ⟨rfl, hsz, hP, hK, hD0, hTS⟩ := hv
  subst hsz
  have hl := lv_entry ([.ref (a 69), .int p0]) (n := 7) (Nat.le_of_ble_eq_true rfl)
  rw [lg_entry_eq]
  generalize (lg_sl ([.ref (a 69), .int p0]) ++ List.replicate (7 - (lg_sl ([.ref (a 69), .int p0])).length) Slot.unset).toArray = ls at hl ⊢
  exact tX3_putIn ⟨B.exec, B.bytes, B.returns, hml, findClass_of_methodNamed B.named, atoms_spec (ws := (Cond.code yX3_putIn cX3_putIn 7 none :: WT)) B.pre, (fun w h => List.mem_cons_of_mem _ h), hK, B.notSynchronized, hTS, hl0⟩ (fun q h => Or.inr h) h hP hD0.self va_S.rf hl
set_option maxHeartbeats 4000000 in
set_option maxRecDepth 100000 in
theorem tX3_isSame_2 {st : Nat → Nat} {p : Program} {l : Launch} {e : Env} {s : State} {m : MethodId} {args : Array Value} {below : List Frame} {meth : Method} {c : Code} {D : va_G} {a : Nat → Nat} {cc : Nat → ClassId} {A : Nat → Prop} {N : Nat} {r : Int32} {σr : St} (C : T_Cx st l A RX3 p s m args meth c D cc cX3_isSame (Cond.code yX3_isSame cX3_isSame 4 (some .boolean) :: WT) 4 (some .boolean)) (hA : ∀ q, s.heap.size ≤ q → A q) : ∀ (n : Nat) {σ : St} {x1 : Int32} {x2 : Int32} {x3 : Int32} {H : Heap} {locs : List Loc} {ls : Array Slot}, fX3_isSame_2 N n σ x1 x2 x3 = some (r, σr) → va_P D vwCl (wT a cc σ) H → va_D A (wT a cc σ) → va_S A s.heap H locs → lv_has ls 4 [(0, .ref (a 69)), (1, .int x1), (2, .int x2), (3, .int x3)] → W p l e rmX3_isSame s m args below meth c H locs 0 0 (T_Mi D a cc A below args s r σr) (F0 m 2 ls []) := by
  obtain ⟨hx, hb, hr, hml, hown, hts, hin, hK, hlocks, hTS, hl0⟩ := id C
  intro n
  induction n with
  | zero => intro σ x1 x2 x3 H locs ls h; exact none_s h
  | succ n ih =>
    intro σ x1 x2 x3 H locs ls h hP hD hS hl
    refine lv_iload_n hx hb dX3_isSame_2 rfl (lv_at hl 3 rfl) ?_
    refine lv_aload_n hx hb dX3_isSame_3 rfl (lv_at hl 0 rfl) ?_
    refine T_gfX3_30 C hP dX3_isSame_4 ?_
    refine lv_icmp_ge (tgt := 44) hx hb dX3_isSame_7 (by decide) (fun c1 => ?_) (fun c1 => ?_)
    · have h := ifT c1 h
      refine lv_iconst (v := (1 : Int32)) hx hb dX3_isSame_44 (by decide) ?_
      exact T_zretZ C h hP hD hS dX3_isSame_45
    · have h := ifF c1 h
      refine lv_aload_n hx hb dX3_isSame_10 rfl (lv_at hl 0 rfl) ?_
      refine T_gfX3_15 C hP dX3_isSame_11 ?_
      refine lv_iload_n hx hb dX3_isSame_14 rfl (lv_at hl 1 rfl) ?_
      refine lv_bipush (v := (8 : Int32)) hx hb dX3_isSame_15 (by decide) ?_
      refine lv_imul hx hb dX3_isSame_17 ?_
      refine lv_iload_n hx hb dX3_isSame_18 rfl (lv_at hl 3 rfl) ?_
      refine lv_iadd hx hb dX3_isSame_19 ?_
      obtain ⟨g2, h⟩ := grd_s h
      refine T_ld61 C hP g2 dX3_isSame_20 ?_
      refine lv_aload_n hx hb dX3_isSame_21 rfl (lv_at hl 0 rfl) ?_
      refine T_gfX3_15 C hP dX3_isSame_22 ?_
      refine lv_iload_n hx hb dX3_isSame_25 rfl (lv_at hl 2 rfl) ?_
      refine lv_bipush (v := (8 : Int32)) hx hb dX3_isSame_26 (by decide) ?_
      refine lv_imul hx hb dX3_isSame_28 ?_
      refine lv_iload_n hx hb dX3_isSame_29 rfl (lv_at hl 3 rfl) ?_
      refine lv_iadd hx hb dX3_isSame_30 ?_
      obtain ⟨g3, h⟩ := grd_s h
      refine T_ld61 C hP g3 dX3_isSame_31 ?_
      refine W.lcmp hx hb dX3_isSame_32 ?_
      refine lv_if_eq (tgt := 38) hx hb dX3_isSame_33 (by decide) (fun c4 => ?_) (fun c4 => ?_)
      · have h := ifT c4 h
        obtain ⟨u5, eu5, h⟩ := letS_n h
        refine lv_iinc (v := u5) (lv' := [(3, .int u5), (0, .ref (a 69)), (1, .int x1), (2, .int x2)]) hx hb dX3_isSame_38 hl (k := 3) rfl (by rw [eu5]; rfl) (by decide) rfl (fun ls hl => ?_)
        refine lv_goto (tgt := 2) hx hb dX3_isSame_41 (by decide) ?_
        exact ih h hP hD hS (lv_sub hl [1, 2, 3, 0] rfl)
      · have h := ifF c4 h
        refine lv_iconst (v := (0 : Int32)) hx hb dX3_isSame_36 (by decide) ?_
        exact T_zretZ C h hP hD hS dX3_isSame_37
set_option maxHeartbeats 4000000 in
set_option maxRecDepth 100000 in
theorem tX3_isSame {st : Nat → Nat} {p : Program} {l : Launch} {e : Env} {s : State} {m : MethodId} {args : Array Value} {below : List Frame} {meth : Method} {c : Code} {D : va_G} {a : Nat → Nat} {cc : Nat → ClassId} {A : Nat → Prop} {N : Nat} {r : Int32} {σr : St} (C : T_Cx st l A RX3 p s m args meth c D cc cX3_isSame (Cond.code yX3_isSame cX3_isSame 4 (some .boolean) :: WT) 4 (some .boolean)) (hA : ∀ q, s.heap.size ≤ q → A q) {σ : St} {p0 : Int32} {p1 : Int32} {H : Heap} {locs : List Loc} {ls : Array Slot} (h : fX3_isSame N σ p0 p1 = some (r, σr)) : va_P D vwCl (wT a cc σ) H → va_D A (wT a cc σ) → va_S A s.heap H locs → lv_has ls 4 [(0, .ref (a 69)), (1, .int p0), (2, .int p1)] → W p l e rmX3_isSame s m args below meth c H locs 0 0 (T_Mi D a cc A below args s r σr) (F0 m 0 ls []) := by
  obtain ⟨hx, hb, hr, hml, hown, hts, hin, hK, hlocks, hTS, hl0⟩ := id C
  intro hP hD hS hl
  refine lv_iconst (v := (0 : Int32)) hx hb dX3_isSame_0 (by decide) ?_
  refine lv_istore_n (lv' := [(3, .int (0 : Int32)), (0, .ref (a 69)), (1, .int p0), (2, .int p1)]) hx hb dX3_isSame_1 rfl hl (by decide) rfl (fun ls hl => ?_)
  exact tX3_isSame_2 C hA N h hP hD hS (lv_sub hl [1, 2, 3, 0] rfl)
set_option maxRecDepth 100000 in
theorem kX3_isSame {l : Launch} (hl0 : l.stackTraces = false) (sz : Nat) {st : Nat → Nat} {D : va_G} {a : Nat → Nat} {cc : Nat → ClassId} {N : Nat} {r : Int32} {σr : St} {σ : St} {p0 : Int32} {p1 : Int32} (h : fX3_isSame N σ p0 p1 = some (r, σr)) : Met l yX3_isSame ((Cond.code yX3_isSame cX3_isSame 4 (some .boolean) :: WT)) rmX3_isSame (T_Pc st D a cc [.ref (a 69), .int p0, .int p1] σ sz) (T_Qi D a cc σ sz r σr) 0 0 (va_A (wT a cc σ) sz) := by
  refine Met.ofW (cc := cX3_isSame) (maxL := 4) (ret := (some .boolean)) (by decide) rfl ?_
  intro p e s m args below meth c s₁ B hml hv
  obtain ⟨rfl, hsz, hP, hK, hD0, hTS⟩ := hv
  subst hsz
  have hl := lv_entry ([.ref (a 69), .int p0, .int p1]) (n := 4) (Nat.le_of_ble_eq_true rfl)
  rw [lg_entry_eq]
  generalize (lg_sl ([.ref (a 69), .int p0, .int p1]) ++ List.replicate (4 - (lg_sl ([.ref (a 69), .int p0, .int p1])).length) Slot.unset).toArray = ls at hl ⊢
  exact tX3_isSame ⟨B.exec, B.bytes, B.returns, hml, findClass_of_methodNamed B.named, atoms_spec (ws := (Cond.code yX3_isSame cX3_isSame 4 (some .boolean) :: WT)) B.pre, (fun w h => List.mem_cons_of_mem _ h), hK, B.notSynchronized, hTS, hl0⟩ (fun q h => Or.inr h) h hP hD0.self va_S.rf hl
set_option maxHeartbeats 4000000 in
set_option maxRecDepth 100000 in
theorem tX3_find_2 {st : Nat → Nat} {p : Program} {l : Launch} {e : Env} {s : State} {m : MethodId} {args : Array Value} {below : List Frame} {meth : Method} {c : Code} {D : va_G} {a : Nat → Nat} {cc : Nat → ClassId} {A : Nat → Prop} {N : Nat} {r : Int32} {σr : St} (C : T_Cx st l A RX3 p s m args meth c D cc cX3_find (Cond.code yX3_find cX3_find 2 (some .int) :: WT) 2 (some .int)) (hA : ∀ q, s.heap.size ≤ q → A q) : ∀ (n : Nat) {σ : St} {x1 : Int32} {H : Heap} {locs : List Loc} {ls : Array Slot}, fX3_find_2 N n σ x1 = some (r, σr) → va_P D vwCl (wT a cc σ) H → va_D A (wT a cc σ) → va_S A s.heap H locs → lv_has ls 2 [(0, .ref (a 69)), (1, .int x1)] → W p l e rmX3_find s m args below meth c H locs 0 0 (T_Mi D a cc A below args s r σr) (F0 m 2 ls []) := by
  obtain ⟨hx, hb, hr, hml, hown, hts, hin, hK, hlocks, hTS, hl0⟩ := id C
  intro n
  induction n with
  | zero => intro σ x1 H locs ls h; exact none_s h
  | succ n ih =>
    intro σ x1 H locs ls h hP hD hS hl
    refine lv_iload_n hx hb dX3_find_2 rfl (lv_at hl 1 rfl) ?_
    refine lv_aload_n hx hb dX3_find_3 rfl (lv_at hl 0 rfl) ?_
    refine T_gfX3_33 C hP dX3_find_4 ?_
    refine lv_icmp_ge (tgt := 30) hx hb dX3_find_7 (by decide) (fun c1 => ?_) (fun c1 => ?_)
    · have h := ifT c1 h
      refine lv_aload_n hx hb dX3_find_30 rfl (lv_at hl 0 rfl) ?_
      refine T_gfX3_33 C hP dX3_find_31 ?_
      exact T_iret C h hP hD hS dX3_find_34
    · have h := ifF c1 h
      refine lv_aload_n hx hb dX3_find_10 rfl (lv_at hl 0 rfl) ?_
      refine lv_iload_n hx hb dX3_find_11 rfl (lv_at hl 1 rfl) ?_
      refine lv_aload_n hx hb dX3_find_12 rfl (lv_at hl 0 rfl) ?_
      refine T_gfX3_33 C hP dX3_find_13 ?_
      obtain ⟨r3, σ2, hc, h⟩ := bnd_s h
      refine T_callVi (q0 := 10) (ci := 7) (As := [.int x1, .int (gI σ 66 0)]) (rest := []) C hA (fun sz => kX3_isSame hl0 sz hc) gX3_72 hP hD hS rfl rfl ⟨by decide, by decide⟩ ⟨rfl, rfl⟩ rfl hl.1 rfl (lv_room (Nat.le_of_ble_eq_true rfl)) dX3_find_16 (fun H locs hP hD hS => ?_)
      refine lv_if_eq (tgt := 24) hx hb dX3_find_19 (by decide) (fun c4 => ?_) (fun c4 => ?_)
      · have h := ifT c4 h
        obtain ⟨u5, eu5, h⟩ := letS_n h
        refine lv_iinc (v := u5) (lv' := [(1, .int u5), (0, .ref (a 69))]) hx hb dX3_find_24 hl (k := 1) rfl (by rw [eu5]; rfl) (by decide) rfl (fun ls hl => ?_)
        refine lv_goto (tgt := 2) hx hb dX3_find_27 (by decide) ?_
        exact ih h hP hD hS (lv_sub hl [1, 0] rfl)
      · have h := ifF c4 h
        refine lv_iload_n hx hb dX3_find_22 rfl (lv_at hl 1 rfl) ?_
        exact T_iret C h hP hD hS dX3_find_23
set_option maxHeartbeats 4000000 in
set_option maxRecDepth 100000 in
theorem tX3_find {st : Nat → Nat} {p : Program} {l : Launch} {e : Env} {s : State} {m : MethodId} {args : Array Value} {below : List Frame} {meth : Method} {c : Code} {D : va_G} {a : Nat → Nat} {cc : Nat → ClassId} {A : Nat → Prop} {N : Nat} {r : Int32} {σr : St} (C : T_Cx st l A RX3 p s m args meth c D cc cX3_find (Cond.code yX3_find cX3_find 2 (some .int) :: WT) 2 (some .int)) (hA : ∀ q, s.heap.size ≤ q → A q) {σ : St} {H : Heap} {locs : List Loc} {ls : Array Slot} (h : fX3_find N σ = some (r, σr)) : va_P D vwCl (wT a cc σ) H → va_D A (wT a cc σ) → va_S A s.heap H locs → lv_has ls 2 [(0, .ref (a 69))] → W p l e rmX3_find s m args below meth c H locs 0 0 (T_Mi D a cc A below args s r σr) (F0 m 0 ls []) := by
  obtain ⟨hx, hb, hr, hml, hown, hts, hin, hK, hlocks, hTS, hl0⟩ := id C
  intro hP hD hS hl
  refine lv_iconst (v := (0 : Int32)) hx hb dX3_find_0 (by decide) ?_
  refine lv_istore_n (lv' := [(1, .int (0 : Int32)), (0, .ref (a 69))]) hx hb dX3_find_1 rfl hl (by decide) rfl (fun ls hl => ?_)
  exact tX3_find_2 C hA N h hP hD hS (lv_sub hl [1, 0] rfl)
set_option maxRecDepth 100000 in
theorem kX3_find {l : Launch} (hl0 : l.stackTraces = false) (sz : Nat) {st : Nat → Nat} {D : va_G} {a : Nat → Nat} {cc : Nat → ClassId} {N : Nat} {r : Int32} {σr : St} {σ : St} (h : fX3_find N σ = some (r, σr)) : Met l yX3_find ((Cond.code yX3_find cX3_find 2 (some .int) :: WT)) rmX3_find (T_Pc st D a cc [.ref (a 69)] σ sz) (T_Qi D a cc σ sz r σr) 0 0 (va_A (wT a cc σ) sz) := by
  refine Met.ofW (cc := cX3_find) (maxL := 2) (ret := (some .int)) (by decide) rfl ?_
  intro p e s m args below meth c s₁ B hml hv
  obtain ⟨rfl, hsz, hP, hK, hD0, hTS⟩ := hv
  subst hsz
  have hl := lv_entry ([.ref (a 69)]) (n := 2) (Nat.le_of_ble_eq_true rfl)
  rw [lg_entry_eq]
  generalize (lg_sl ([.ref (a 69)]) ++ List.replicate (2 - (lg_sl ([.ref (a 69)])).length) Slot.unset).toArray = ls at hl ⊢
  exact tX3_find ⟨B.exec, B.bytes, B.returns, hml, findClass_of_methodNamed B.named, atoms_spec (ws := (Cond.code yX3_find cX3_find 2 (some .int) :: WT)) B.pre, (fun w h => List.mem_cons_of_mem _ h), hK, B.notSynchronized, hTS, hl0⟩ (fun q h => Or.inr h) h hP hD0.self va_S.rf hl
set_option maxHeartbeats 4000000 in
set_option maxRecDepth 100000 in
theorem tX3_explore_66 {st : Nat → Nat} {p : Program} {l : Launch} {e : Env} {s : State} {m : MethodId} {args : Array Value} {below : List Frame} {meth : Method} {c : Code} {D : va_G} {a : Nat → Nat} {cc : Nat → ClassId} {A : Nat → Prop} {N : Nat} {r : Int32} {σr : St} {k45 : St → Int32 → Option (Int32 × St)} (C : T_Cx st l A RX3 p s m args meth c D cc cX3_explore (Cond.code yX3_explore cX3_explore 5 (some .boolean) :: WT) 5 (some .boolean)) (hA : ∀ q, s.heap.size ≤ q → A q) (hk45 : ∀ {σ : St} {x2 : Int32} {H : Heap} {locs : List Loc} {ls : Array Slot}, k45 σ x2 = some (r, σr) → va_P D vwCl (wT a cc σ) H → va_D A (wT a cc σ) → va_S A s.heap H locs → lv_has ls 5 [(0, .ref (a 69)), (2, .int x2)] → W p l e rmX3_explore s m args below meth c H locs 0 0 (T_Mi D a cc A below args s r σr) (F0 m 45 ls [])) : ∀ (n : Nat) {σ : St} {x2 : Int32} {x3 : Int32} {H : Heap} {locs : List Loc} {ls : Array Slot}, fX3_explore_66 N k45 n σ x2 x3 = some (r, σr) → va_P D vwCl (wT a cc σ) H → va_D A (wT a cc σ) → va_S A s.heap H locs → lv_has ls 5 [(0, .ref (a 69)), (2, .int x2), (3, .int x3)] → W p l e rmX3_explore s m args below meth c H locs 0 0 (T_Mi D a cc A below args s r σr) (F0 m 66 ls []) := by
  obtain ⟨hx, hb, hr, hml, hown, hts, hin, hK, hlocks, hTS, hl0⟩ := id C
  intro n
  induction n with
  | zero => intro σ x2 x3 H locs ls h; exact none_s h
  | succ n ih =>
    intro σ x2 x3 H locs ls h hP hD hS hl
    refine lv_iload_n hx hb dX3_explore_66 rfl (lv_at hl 2 rfl) ?_
    refine lv_bipush (v := (8 : Int32)) hx hb dX3_explore_67 (by decide) ?_
    refine lv_icmp_ge (tgt := 126) hx hb dX3_explore_69 (by decide) (fun c12 => ?_) (fun c12 => ?_)
    · have h := ifT c12 h
      obtain ⟨u13, eu13, h⟩ := letS_n h
      refine lv_iinc (v := u13) (lv' := [(2, .int u13), (0, .ref (a 69)), (3, .int x3)]) hx hb dX3_explore_126 hl (k := 1) rfl (by rw [eu13]; rfl) (by decide) rfl (fun ls hl => ?_)
      refine lv_goto (tgt := 45) hx hb dX3_explore_129 (by decide) ?_
      exact hk45 h hP hD hS (lv_sub hl [1, 0] rfl)
    · have h := ifF c12 h
      refine lv_aload_n hx hb dX3_explore_72 rfl (lv_at hl 0 rfl) ?_
      refine lv_iload_n hx hb dX3_explore_73 rfl (lv_at hl 2 rfl) ?_
      obtain ⟨σ14, hc, h⟩ := bnd1_s h
      refine T_callVv (q0 := 10) (ci := 7) (As := [.int x3]) (rest := []) C hA (fun sz => kX3_putIn hl0 sz hc) gX3_47 hP hD hS rfl rfl ⟨by decide, by decide⟩ ⟨rfl, rfl⟩ rfl hl.1 rfl (lv_room (Nat.le_of_ble_eq_true rfl)) dX3_explore_74 (fun H locs hP hD hS => ?_)
      refine lv_aload_n hx hb dX3_explore_77 rfl (lv_at hl 0 rfl) ?_
      obtain ⟨r16, σ15, hc, h⟩ := bnd_s h
      refine T_callVi (q0 := 10) (ci := 7) (As := []) (rest := []) C hA (fun sz => kX3_find hl0 sz hc) gX3_50 hP hD hS rfl rfl ⟨by decide, by decide⟩ ⟨rfl, rfl⟩ rfl hl.1 rfl (lv_room (Nat.le_of_ble_eq_true rfl)) dX3_explore_78 (fun H locs hP hD hS => ?_)
      refine lv_istore (lv' := [(4, .int r16), (0, .ref (a 69)), (2, .int x2), (3, .int x3)]) hx hb dX3_explore_81 hl (by decide) rfl (fun ls hl => ?_)
      refine lv_iload hx hb dX3_explore_83 (lv_at hl 0 rfl) ?_
      refine lv_bipush (v := (40 : Int32)) hx hb dX3_explore_85 (by decide) ?_
      refine lv_icmp_lt (tgt := 92) hx hb dX3_explore_87 (by decide) (fun c17 => ?_) (fun c17 => ?_)
      · have h := ifT c17 h
        refine lv_aload_n hx hb dX3_explore_92 rfl (lv_at hl 1 rfl) ?_
        refine T_gfX3_19 C hP dX3_explore_93 ?_
        refine lv_iload_n hx hb dX3_explore_96 rfl (lv_at hl 2 rfl) ?_
        refine lv_bipush (v := (8 : Int32)) hx hb dX3_explore_97 (by decide) ?_
        refine lv_imul hx hb dX3_explore_99 ?_
        refine lv_iload_n hx hb dX3_explore_100 rfl (lv_at hl 3 rfl) ?_
        refine lv_iadd hx hb dX3_explore_101 ?_
        refine lv_iload hx hb dX3_explore_102 (lv_at hl 0 rfl) ?_
        obtain ⟨g18, h⟩ := grd_s h
        obtain ⟨σ19, eσ19, h⟩ := letS_n h
        refine T_st62 C hP hD hS g18 eσ19 dX3_explore_104 (fun H locs hP hD hS => ?_)
        refine lv_aload_n hx hb dX3_explore_105 rfl (lv_at hl 1 rfl) ?_
        refine lv_aload_n hx hb dX3_explore_106 rfl (lv_at hl 1 rfl) ?_
        refine T_gfX3_33 C hP dX3_explore_107 ?_
        refine lv_iload hx hb dX3_explore_110 (lv_at hl 0 rfl) ?_
        refine lv_iconst (v := (1 : Int32)) hx hb dX3_explore_112 (by decide) ?_
        refine lv_iadd hx hb dX3_explore_113 ?_
        refine T_max C hl.1 (memWT (i := 57) rfl) (by decide) (Nat.le_of_ble_eq_true rfl) dX3_explore_114 ?_
        obtain ⟨σ20, eσ20, h⟩ := letS_n h
        refine T_pfX3_33 C hP hD hS eσ20 dX3_explore_117 (fun H locs hP hD hS => ?_)
        obtain ⟨u21, eu21, h⟩ := letS_n h
        refine lv_iinc (v := u21) (lv' := [(3, .int u21), (4, .int r16), (0, .ref (a 69)), (2, .int x2)]) hx hb dX3_explore_120 hl (k := 3) rfl (by rw [eu21]; rfl) (by decide) rfl (fun ls hl => ?_)
        refine lv_goto (tgt := 66) hx hb dX3_explore_123 (by decide) ?_
        exact ih h hP hD hS (lv_sub hl [2, 3, 0] rfl)
      · have h := ifF c17 h
        refine lv_iconst (v := (0 : Int32)) hx hb dX3_explore_90 (by decide) ?_
        exact T_zretZ C h hP hD hS dX3_explore_91
set_option maxHeartbeats 4000000 in
set_option maxRecDepth 100000 in
theorem tX3_explore_132 {st : Nat → Nat} {p : Program} {l : Launch} {e : Env} {s : State} {m : MethodId} {args : Array Value} {below : List Frame} {meth : Method} {c : Code} {D : va_G} {a : Nat → Nat} {cc : Nat → ClassId} {A : Nat → Prop} {N : Nat} {r : Int32} {σr : St} (C : T_Cx st l A RX3 p s m args meth c D cc cX3_explore (Cond.code yX3_explore cX3_explore 5 (some .boolean) :: WT) 5 (some .boolean)) (hA : ∀ q, s.heap.size ≤ q → A q) {σ : St} {H : Heap} {locs : List Loc} {ls : Array Slot} (h : fX3_explore_132 N σ = some (r, σr)) : va_P D vwCl (wT a cc σ) H → va_D A (wT a cc σ) → va_S A s.heap H locs → lv_has ls 5 [] → W p l e rmX3_explore s m args below meth c H locs 0 0 (T_Mi D a cc A below args s r σr) (F0 m 132 ls []) := by
  obtain ⟨hx, hb, hr, hml, hown, hts, hin, hK, hlocks, hTS, hl0⟩ := id C
  intro hP hD hS hl
  refine lv_iconst (v := (1 : Int32)) hx hb dX3_explore_132 (by decide) ?_
  exact T_zretZ C h hP hD hS dX3_explore_133
set_option maxHeartbeats 4000000 in
set_option maxRecDepth 100000 in
theorem tX3_explore_45 {st : Nat → Nat} {p : Program} {l : Launch} {e : Env} {s : State} {m : MethodId} {args : Array Value} {below : List Frame} {meth : Method} {c : Code} {D : va_G} {a : Nat → Nat} {cc : Nat → ClassId} {A : Nat → Prop} {N : Nat} {r : Int32} {σr : St} (C : T_Cx st l A RX3 p s m args meth c D cc cX3_explore (Cond.code yX3_explore cX3_explore 5 (some .boolean) :: WT) 5 (some .boolean)) (hA : ∀ q, s.heap.size ≤ q → A q) : ∀ (n : Nat) {σ : St} {x2 : Int32} {H : Heap} {locs : List Loc} {ls : Array Slot}, fX3_explore_45 N n σ x2 = some (r, σr) → va_P D vwCl (wT a cc σ) H → va_D A (wT a cc σ) → va_S A s.heap H locs → lv_has ls 5 [(0, .ref (a 69)), (2, .int x2)] → W p l e rmX3_explore s m args below meth c H locs 0 0 (T_Mi D a cc A below args s r σr) (F0 m 45 ls []) := by
  obtain ⟨hx, hb, hr, hml, hown, hts, hin, hK, hlocks, hTS, hl0⟩ := id C
  intro n
  induction n with
  | zero => intro σ x2 H locs ls h; exact none_s h
  | succ n ih =>
    intro σ x2 H locs ls h hP hD hS hl
    refine lv_iload_n hx hb dX3_explore_45 rfl (lv_at hl 1 rfl) ?_
    refine lv_aload_n hx hb dX3_explore_46 rfl (lv_at hl 0 rfl) ?_
    refine T_gfX3_33 C hP dX3_explore_47 ?_
    refine lv_icmp_ge (tgt := 132) hx hb dX3_explore_50 (by decide) (fun c9 => ?_) (fun c9 => ?_)
    · have h := ifT c9 h
      exact tX3_explore_132 C hA h hP hD hS (lv_sub hl [] rfl)
    · have h := ifF c9 h
      refine lv_iload_n hx hb dX3_explore_53 rfl (lv_at hl 1 rfl) ?_
      refine lv_bipush (v := (40 : Int32)) hx hb dX3_explore_54 (by decide) ?_
      refine lv_icmp_ge (tgt := 132) hx hb dX3_explore_56 (by decide) (fun c10 => ?_) (fun c10 => ?_)
      · have h := ifT c10 h
        exact tX3_explore_132 C hA h hP hD hS (lv_sub hl [] rfl)
      · have h := ifF c10 h
        refine lv_aload_n hx hb dX3_explore_59 rfl (lv_at hl 0 rfl) ?_
        refine lv_iload_n hx hb dX3_explore_60 rfl (lv_at hl 1 rfl) ?_
        obtain ⟨σ11, hc, h⟩ := bnd1_s h
        refine T_callVv (q0 := 10) (ci := 7) (As := [.int x2]) (rest := []) C hA (fun sz => kX3_findLeastSets hl0 sz hc) gX3_43 hP hD hS rfl rfl ⟨by decide, by decide⟩ ⟨rfl, rfl⟩ rfl hl.1 rfl (lv_room (Nat.le_of_ble_eq_true rfl)) dX3_explore_61 (fun H locs hP hD hS => ?_)
        refine lv_iconst (v := (0 : Int32)) hx hb dX3_explore_64 (by decide) ?_
        refine lv_istore_n (lv' := [(3, .int (0 : Int32)), (0, .ref (a 69)), (2, .int x2)]) hx hb dX3_explore_65 rfl hl (by decide) rfl (fun ls hl => ?_)
        exact tX3_explore_66 C hA ih N h hP hD hS (lv_sub hl [1, 2, 0] rfl)
set_option maxHeartbeats 4000000 in
set_option maxRecDepth 100000 in
theorem tX3_explore_18 {st : Nat → Nat} {p : Program} {l : Launch} {e : Env} {s : State} {m : MethodId} {args : Array Value} {below : List Frame} {meth : Method} {c : Code} {D : va_G} {a : Nat → Nat} {cc : Nat → ClassId} {A : Nat → Prop} {N : Nat} {r : Int32} {σr : St} (C : T_Cx st l A RX3 p s m args meth c D cc cX3_explore (Cond.code yX3_explore cX3_explore 5 (some .boolean) :: WT) 5 (some .boolean)) (hA : ∀ q, s.heap.size ≤ q → A q) : ∀ (n : Nat) {σ : St} {x1 : Int32} {x2 : Int32} {H : Heap} {locs : List Loc} {ls : Array Slot}, fX3_explore_18 N n σ x1 x2 = some (r, σr) → va_P D vwCl (wT a cc σ) H → va_D A (wT a cc σ) → va_S A s.heap H locs → lv_has ls 5 [(0, .ref (a 69)), (1, .int x1), (2, .int x2)] → W p l e rmX3_explore s m args below meth c H locs 0 0 (T_Mi D a cc A below args s r σr) (F0 m 18 ls []) := by
  obtain ⟨hx, hb, hr, hml, hown, hts, hin, hK, hlocks, hTS, hl0⟩ := id C
  intro n
  induction n with
  | zero => intro σ x1 x2 H locs ls h; exact none_s h
  | succ n ih =>
    intro σ x1 x2 H locs ls h hP hD hS hl
    refine lv_iload_n hx hb dX3_explore_18 rfl (lv_at hl 2 rfl) ?_
    refine lv_aload_n hx hb dX3_explore_19 rfl (lv_at hl 0 rfl) ?_
    refine T_gfX3_30 C hP dX3_explore_20 ?_
    refine lv_icmp_ge (tgt := 43) hx hb dX3_explore_23 (by decide) (fun c3 => ?_) (fun c3 => ?_)
    · have h := ifT c3 h
      refine lv_iconst (v := (0 : Int32)) hx hb dX3_explore_43 (by decide) ?_
      refine lv_istore_n (lv' := [(2, .int (0 : Int32)), (0, .ref (a 69)), (1, .int x1)]) hx hb dX3_explore_44 rfl hl (by decide) rfl (fun ls hl => ?_)
      exact tX3_explore_45 C hA N h hP hD hS (lv_sub hl [1, 0] rfl)
    · have h := ifF c3 h
      refine lv_aload_n hx hb dX3_explore_26 rfl (lv_at hl 0 rfl) ?_
      refine T_gfX3_15 C hP dX3_explore_27 ?_
      refine lv_iload_n hx hb dX3_explore_30 rfl (lv_at hl 2 rfl) ?_
      refine lv_iload_n hx hb dX3_explore_31 rfl (lv_at hl 1 rfl) ?_
      refine lv_iload_n hx hb dX3_explore_32 rfl (lv_at hl 2 rfl) ?_
      obtain ⟨r5, σ4, hc, h⟩ := bnd_s h
      refine T_callTl (As := [.int x1, .int x2]) (rest := [.int x2, .ref (a 61)]) C hA (fun sz => kX0_with hl0 sz hc) gX3_39 hP hD hS ⟨by decide, by decide⟩ ⟨rfl, rfl⟩ rfl hl.1 rfl (lv_room (Nat.le_of_ble_eq_true rfl)) dX3_explore_33 (fun H locs hP hD hS => ?_)
      obtain ⟨g6, h⟩ := grd_s h
      obtain ⟨σ7, eσ7, h⟩ := letS_n h
      refine T_st61 C hP hD hS g6 eσ7 dX3_explore_36 (fun H locs hP hD hS => ?_)
      obtain ⟨u8, eu8, h⟩ := letS_n h
      refine lv_iinc (v := u8) (lv' := [(2, .int u8), (0, .ref (a 69)), (1, .int x1)]) hx hb dX3_explore_37 hl (k := 2) rfl (by rw [eu8]; rfl) (by decide) rfl (fun ls hl => ?_)
      refine lv_goto (tgt := 18) hx hb dX3_explore_40 (by decide) ?_
      exact ih h hP hD hS (lv_sub hl [1, 2, 0] rfl)
set_option maxHeartbeats 4000000 in
set_option maxRecDepth 100000 in
theorem tX3_explore {st : Nat → Nat} {p : Program} {l : Launch} {e : Env} {s : State} {m : MethodId} {args : Array Value} {below : List Frame} {meth : Method} {c : Code} {D : va_G} {a : Nat → Nat} {cc : Nat → ClassId} {A : Nat → Prop} {N : Nat} {r : Int32} {σr : St} (C : T_Cx st l A RX3 p s m args meth c D cc cX3_explore (Cond.code yX3_explore cX3_explore 5 (some .boolean) :: WT) 5 (some .boolean)) (hA : ∀ q, s.heap.size ≤ q → A q) {σ : St} {p0 : Int32} {H : Heap} {locs : List Loc} {ls : Array Slot} (h : fX3_explore N σ p0 = some (r, σr)) : va_P D vwCl (wT a cc σ) H → va_D A (wT a cc σ) → va_S A s.heap H locs → lv_has ls 5 [(0, .ref (a 69)), (1, .int p0)] → W p l e rmX3_explore s m args below meth c H locs 0 0 (T_Mi D a cc A below args s r σr) (F0 m 0 ls []) := by
  obtain ⟨hx, hb, hr, hml, hown, hts, hin, hK, hlocks, hTS, hl0⟩ := id C
  intro hP hD hS hl
  refine lv_aload_n hx hb dX3_explore_0 rfl (lv_at hl 0 rfl) ?_
  refine lv_aload_n hx hb dX3_explore_1 rfl (lv_at hl 0 rfl) ?_
  refine T_gfX3_9 C hP dX3_explore_2 ?_
  refine T_gfX3_36 C hP dX3_explore_5 ?_
  obtain ⟨σ1, eσ1, h⟩ := letS_n h
  refine T_pfX3_30 C hP hD hS eσ1 dX3_explore_8 (fun H locs hP hD hS => ?_)
  refine lv_aload_n hx hb dX3_explore_11 rfl (lv_at hl 0 rfl) ?_
  refine lv_iconst (v := (1 : Int32)) hx hb dX3_explore_12 (by decide) ?_
  obtain ⟨σ2, eσ2, h⟩ := letS_n h
  refine T_pfX3_33 C hP hD hS eσ2 dX3_explore_13 (fun H locs hP hD hS => ?_)
  refine lv_iconst (v := (0 : Int32)) hx hb dX3_explore_16 (by decide) ?_
  refine lv_istore_n (lv' := [(2, .int (0 : Int32)), (0, .ref (a 69)), (1, .int p0)]) hx hb dX3_explore_17 rfl hl (by decide) rfl (fun ls hl => ?_)
  exact tX3_explore_18 C hA N h hP hD hS (lv_sub hl [1, 2, 0] rfl)
set_option maxRecDepth 100000 in
theorem kX3_explore {l : Launch} (hl0 : l.stackTraces = false) (sz : Nat) {st : Nat → Nat} {D : va_G} {a : Nat → Nat} {cc : Nat → ClassId} {N : Nat} {r : Int32} {σr : St} {σ : St} {p0 : Int32} (h : fX3_explore N σ p0 = some (r, σr)) : Met l yX3_explore ((Cond.code yX3_explore cX3_explore 5 (some .boolean) :: WT)) rmX3_explore (T_Pc st D a cc [.ref (a 69), .int p0] σ sz) (T_Qi D a cc σ sz r σr) 0 0 (va_A (wT a cc σ) sz) := by
  refine Met.ofW (cc := cX3_explore) (maxL := 5) (ret := (some .boolean)) (by decide) rfl ?_
  intro p e s m args below meth c s₁ B hml hv
  obtain ⟨rfl, hsz, hP, hK, hD0, hTS⟩ := hv
  subst hsz
  have hl := lv_entry ([.ref (a 69), .int p0]) (n := 5) (Nat.le_of_ble_eq_true rfl)
  rw [lg_entry_eq]
  generalize (lg_sl ([.ref (a 69), .int p0]) ++ List.replicate (5 - (lg_sl ([.ref (a 69), .int p0])).length) Slot.unset).toArray = ls at hl ⊢
  exact tX3_explore ⟨B.exec, B.bytes, B.returns, hml, findClass_of_methodNamed B.named, atoms_spec (ws := (Cond.code yX3_explore cX3_explore 5 (some .boolean) :: WT)) B.pre, (fun w h => List.mem_cons_of_mem _ h), hK, B.notSynchronized, hTS, hl0⟩ (fun q h => Or.inr h) h hP hD0.self va_S.rf hl
set_option maxHeartbeats 4000000 in
set_option maxRecDepth 100000 in
theorem tX3_lead {st : Nat → Nat} {p : Program} {l : Launch} {e : Env} {s : State} {m : MethodId} {args : Array Value} {below : List Frame} {meth : Method} {c : Code} {D : va_G} {a : Nat → Nat} {cc : Nat → ClassId} {A : Nat → Prop} {N : Nat} {r : Int32} {σr : St} (C : T_Cx st l A RX3 p s m args meth c D cc cX3_lead (Cond.code yX3_lead cX3_lead 3 (some .int) :: WT) 3 (some .int)) (hA : ∀ q, s.heap.size ≤ q → A q) {σ : St} {p0 : Int32} {p1 : Int32} {H : Heap} {locs : List Loc} {ls : Array Slot} (h : fX3_lead N σ p0 p1 = some (r, σr)) : va_P D vwCl (wT a cc σ) H → va_D A (wT a cc σ) → va_S A s.heap H locs → lv_has ls 3 [(0, .ref (a 69)), (1, .int p0), (2, .int p1)] → W p l e rmX3_lead s m args below meth c H locs 0 0 (T_Mi D a cc A below args s r σr) (F0 m 0 ls []) := by
  obtain ⟨hx, hb, hr, hml, hown, hts, hin, hK, hlocks, hTS, hl0⟩ := id C
  intro hP hD hS hl
  refine lv_aload_n hx hb dX3_lead_0 rfl (lv_at hl 0 rfl) ?_
  refine T_gfX3_19 C hP dX3_lead_1 ?_
  refine lv_iload_n hx hb dX3_lead_4 rfl (lv_at hl 1 rfl) ?_
  refine lv_bipush (v := (8 : Int32)) hx hb dX3_lead_5 (by decide) ?_
  refine lv_imul hx hb dX3_lead_7 ?_
  refine lv_iload_n hx hb dX3_lead_8 rfl (lv_at hl 2 rfl) ?_
  refine lv_iadd hx hb dX3_lead_9 ?_
  obtain ⟨g1, h⟩ := grd_s h
  refine T_ld62 C hP g1 dX3_lead_10 ?_
  exact T_iret C h hP hD hS dX3_lead_11
set_option maxRecDepth 100000 in
theorem kX3_lead {l : Launch} (hl0 : l.stackTraces = false) (sz : Nat) {st : Nat → Nat} {D : va_G} {a : Nat → Nat} {cc : Nat → ClassId} {N : Nat} {r : Int32} {σr : St} {σ : St} {p0 : Int32} {p1 : Int32} (h : fX3_lead N σ p0 p1 = some (r, σr)) : Met l yX3_lead ((Cond.code yX3_lead cX3_lead 3 (some .int) :: WT)) rmX3_lead (T_Pc st D a cc [.ref (a 69), .int p0, .int p1] σ sz) (T_Qi D a cc σ sz r σr) 0 0 (va_A (wT a cc σ) sz) := by
  refine Met.ofW (cc := cX3_lead) (maxL := 3) (ret := (some .int)) (by decide) rfl ?_
  intro p e s m args below meth c s₁ B hml hv
  obtain ⟨rfl, hsz, hP, hK, hD0, hTS⟩ := hv
  subst hsz
  have hl := lv_entry ([.ref (a 69), .int p0, .int p1]) (n := 3) (Nat.le_of_ble_eq_true rfl)
  rw [lg_entry_eq]
  generalize (lg_sl ([.ref (a 69), .int p0, .int p1]) ++ List.replicate (3 - (lg_sl ([.ref (a 69), .int p0, .int p1])).length) Slot.unset).toArray = ls at hl ⊢
  exact tX3_lead ⟨B.exec, B.bytes, B.returns, hml, findClass_of_methodNamed B.named, atoms_spec (ws := (Cond.code yX3_lead cX3_lead 3 (some .int) :: WT)) B.pre, (fun w h => List.mem_cons_of_mem _ h), hK, B.notSynchronized, hTS, hl0⟩ (fun q h => Or.inr h) h hP hD0.self va_S.rf hl
set_option maxHeartbeats 4000000 in
set_option maxRecDepth 100000 in
theorem tX3_isNever_2 {st : Nat → Nat} {p : Program} {l : Launch} {e : Env} {s : State} {m : MethodId} {args : Array Value} {below : List Frame} {meth : Method} {c : Code} {D : va_G} {a : Nat → Nat} {cc : Nat → ClassId} {A : Nat → Prop} {N : Nat} {r : Int32} {σr : St} (C : T_Cx st l A RX3 p s m args meth c D cc cX3_isNever (Cond.code yX3_isNever cX3_isNever 3 (some .boolean) :: WT) 3 (some .boolean)) (hA : ∀ q, s.heap.size ≤ q → A q) : ∀ (n : Nat) {σ : St} {x1 : Int32} {x2 : Int32} {H : Heap} {locs : List Loc} {ls : Array Slot}, fX3_isNever_2 N n σ x1 x2 = some (r, σr) → va_P D vwCl (wT a cc σ) H → va_D A (wT a cc σ) → va_S A s.heap H locs → lv_has ls 3 [(0, .ref (a 69)), (1, .int x1), (2, .int x2)] → W p l e rmX3_isNever s m args below meth c H locs 0 0 (T_Mi D a cc A below args s r σr) (F0 m 2 ls []) := by
  obtain ⟨hx, hb, hr, hml, hown, hts, hin, hK, hlocks, hTS, hl0⟩ := id C
  intro n
  induction n with
  | zero => intro σ x1 x2 H locs ls h; exact none_s h
  | succ n ih =>
    intro σ x1 x2 H locs ls h hP hD hS hl
    refine lv_iload_n hx hb dX3_isNever_2 rfl (lv_at hl 2 rfl) ?_
    refine lv_aload_n hx hb dX3_isNever_3 rfl (lv_at hl 0 rfl) ?_
    refine T_gfX3_30 C hP dX3_isNever_4 ?_
    refine lv_icmp_ge (tgt := 34) hx hb dX3_isNever_7 (by decide) (fun c1 => ?_) (fun c1 => ?_)
    · have h := ifT c1 h
      refine lv_iconst (v := (1 : Int32)) hx hb dX3_isNever_34 (by decide) ?_
      exact T_zretZ C h hP hD hS dX3_isNever_35
    · have h := ifF c1 h
      refine lv_aload_n hx hb dX3_isNever_10 rfl (lv_at hl 0 rfl) ?_
      refine T_gfX3_15 C hP dX3_isNever_11 ?_
      refine lv_iload_n hx hb dX3_isNever_14 rfl (lv_at hl 1 rfl) ?_
      refine lv_bipush (v := (8 : Int32)) hx hb dX3_isNever_15 (by decide) ?_
      refine lv_imul hx hb dX3_isNever_17 ?_
      refine lv_iload_n hx hb dX3_isNever_18 rfl (lv_at hl 2 rfl) ?_
      refine lv_iadd hx hb dX3_isNever_19 ?_
      obtain ⟨g2, h⟩ := grd_s h
      refine T_ld61 C hP g2 dX3_isNever_20 ?_
      refine lv_lconst (v := (0 : Int64)) hx hb dX3_isNever_21 (by decide) ?_
      refine W.lcmp hx hb dX3_isNever_22 ?_
      refine lv_if_eq (tgt := 28) hx hb dX3_isNever_23 (by decide) (fun c3 => ?_) (fun c3 => ?_)
      · have h := ifT c3 h
        obtain ⟨u4, eu4, h⟩ := letS_n h
        refine lv_iinc (v := u4) (lv' := [(2, .int u4), (0, .ref (a 69)), (1, .int x1)]) hx hb dX3_isNever_28 hl (k := 2) rfl (by rw [eu4]; rfl) (by decide) rfl (fun ls hl => ?_)
        refine lv_goto (tgt := 2) hx hb dX3_isNever_31 (by decide) ?_
        exact ih h hP hD hS (lv_sub hl [1, 2, 0] rfl)
      · have h := ifF c3 h
        refine lv_iconst (v := (0 : Int32)) hx hb dX3_isNever_26 (by decide) ?_
        exact T_zretZ C h hP hD hS dX3_isNever_27
set_option maxHeartbeats 4000000 in
set_option maxRecDepth 100000 in
theorem tX3_isNever {st : Nat → Nat} {p : Program} {l : Launch} {e : Env} {s : State} {m : MethodId} {args : Array Value} {below : List Frame} {meth : Method} {c : Code} {D : va_G} {a : Nat → Nat} {cc : Nat → ClassId} {A : Nat → Prop} {N : Nat} {r : Int32} {σr : St} (C : T_Cx st l A RX3 p s m args meth c D cc cX3_isNever (Cond.code yX3_isNever cX3_isNever 3 (some .boolean) :: WT) 3 (some .boolean)) (hA : ∀ q, s.heap.size ≤ q → A q) {σ : St} {p0 : Int32} {H : Heap} {locs : List Loc} {ls : Array Slot} (h : fX3_isNever N σ p0 = some (r, σr)) : va_P D vwCl (wT a cc σ) H → va_D A (wT a cc σ) → va_S A s.heap H locs → lv_has ls 3 [(0, .ref (a 69)), (1, .int p0)] → W p l e rmX3_isNever s m args below meth c H locs 0 0 (T_Mi D a cc A below args s r σr) (F0 m 0 ls []) := by
  obtain ⟨hx, hb, hr, hml, hown, hts, hin, hK, hlocks, hTS, hl0⟩ := id C
  intro hP hD hS hl
  refine lv_iconst (v := (0 : Int32)) hx hb dX3_isNever_0 (by decide) ?_
  refine lv_istore_n (lv' := [(2, .int (0 : Int32)), (0, .ref (a 69)), (1, .int p0)]) hx hb dX3_isNever_1 rfl hl (by decide) rfl (fun ls hl => ?_)
  exact tX3_isNever_2 C hA N h hP hD hS (lv_sub hl [1, 2, 0] rfl)
set_option maxRecDepth 100000 in
theorem kX3_isNever {l : Launch} (hl0 : l.stackTraces = false) (sz : Nat) {st : Nat → Nat} {D : va_G} {a : Nat → Nat} {cc : Nat → ClassId} {N : Nat} {r : Int32} {σr : St} {σ : St} {p0 : Int32} (h : fX3_isNever N σ p0 = some (r, σr)) : Met l yX3_isNever ((Cond.code yX3_isNever cX3_isNever 3 (some .boolean) :: WT)) rmX3_isNever (T_Pc st D a cc [.ref (a 69), .int p0] σ sz) (T_Qi D a cc σ sz r σr) 0 0 (va_A (wT a cc σ) sz) := by
  refine Met.ofW (cc := cX3_isNever) (maxL := 3) (ret := (some .boolean)) (by decide) rfl ?_
  intro p e s m args below meth c s₁ B hml hv
  obtain ⟨rfl, hsz, hP, hK, hD0, hTS⟩ := hv
  subst hsz
  have hl := lv_entry ([.ref (a 69), .int p0]) (n := 3) (Nat.le_of_ble_eq_true rfl)
  rw [lg_entry_eq]
  generalize (lg_sl ([.ref (a 69), .int p0]) ++ List.replicate (3 - (lg_sl ([.ref (a 69), .int p0])).length) Slot.unset).toArray = ls at hl ⊢
  exact tX3_isNever ⟨B.exec, B.bytes, B.returns, hml, findClass_of_methodNamed B.named, atoms_spec (ws := (Cond.code yX3_isNever cX3_isNever 3 (some .boolean) :: WT)) B.pre, (fun w h => List.mem_cons_of_mem _ h), hK, B.notSynchronized, hTS, hl0⟩ (fun q h => Or.inr h) h hP hD0.self va_S.rf hl
set_option maxHeartbeats 4000000 in
set_option maxRecDepth 100000 in
theorem tX4_firstState {st : Nat → Nat} {p : Program} {l : Launch} {e : Env} {s : State} {m : MethodId} {args : Array Value} {below : List Frame} {meth : Method} {c : Code} {D : va_G} {a : Nat → Nat} {cc : Nat → ClassId} {A : Nat → Prop} {N : Nat} {r : Int32} {σr : St} (C : T_Cx st l A RX4 p s m args meth c D cc cX4_firstState (Cond.code yX4_firstState cX4_firstState 1 (some .int) :: WT) 1 (some .int)) (hA : ∀ q, s.heap.size ≤ q → A q) {σ : St} {H : Heap} {locs : List Loc} {ls : Array Slot} (h : fX4_firstState N σ = some (r, σr)) : va_P D vwCl (wT a cc σ) H → va_D A (wT a cc σ) → va_S A s.heap H locs → lv_has ls 1 [(0, .ref (a 79))] → W p l e rmX4_firstState s m args below meth c H locs 0 0 (T_Mi D a cc A below args s r σr) (F0 m 0 ls []) := by
  obtain ⟨hx, hb, hr, hml, hown, hts, hin, hK, hlocks, hTS, hl0⟩ := id C
  intro hP hD hS hl
  refine lv_aload_n hx hb dX4_firstState_0 rfl (lv_at hl 0 rfl) ?_
  refine T_gfX4_15 C hP dX4_firstState_1 ?_
  refine lv_if_le (tgt := 11) hx hb dX4_firstState_4 (by decide) (fun c1 => ?_) (fun c1 => ?_)
  · have h := ifT c1 h
    refine lv_iconst (v := (-1 : Int32)) hx hb dX4_firstState_11 (by decide) ?_
    exact T_iret C h hP hD hS dX4_firstState_12
  · have h := ifF c1 h
    refine lv_iconst (v := (0 : Int32)) hx hb dX4_firstState_7 (by decide) ?_
    refine lv_goto (tgt := 12) hx hb dX4_firstState_8 (by decide) ?_
    exact T_iret C h hP hD hS dX4_firstState_12
set_option maxRecDepth 100000 in
theorem kX4_firstState {l : Launch} (hl0 : l.stackTraces = false) (sz : Nat) {st : Nat → Nat} {D : va_G} {a : Nat → Nat} {cc : Nat → ClassId} {N : Nat} {r : Int32} {σr : St} {σ : St} (h : fX4_firstState N σ = some (r, σr)) : Met l yX4_firstState ((Cond.code yX4_firstState cX4_firstState 1 (some .int) :: WT)) rmX4_firstState (T_Pc st D a cc [.ref (a 79)] σ sz) (T_Qi D a cc σ sz r σr) 0 0 (va_A (wT a cc σ) sz) := by
  refine Met.ofW (cc := cX4_firstState) (maxL := 1) (ret := (some .int)) (by decide) rfl ?_
  intro p e s m args below meth c s₁ B hml hv
  obtain ⟨rfl, hsz, hP, hK, hD0, hTS⟩ := hv
  subst hsz
  have hl := lv_entry ([.ref (a 79)]) (n := 1) (Nat.le_of_ble_eq_true rfl)
  rw [lg_entry_eq]
  generalize (lg_sl ([.ref (a 79)]) ++ List.replicate (1 - (lg_sl ([.ref (a 79)])).length) Slot.unset).toArray = ls at hl ⊢
  exact tX4_firstState ⟨B.exec, B.bytes, B.returns, hml, findClass_of_methodNamed B.named, atoms_spec (ws := (Cond.code yX4_firstState cX4_firstState 1 (some .int) :: WT)) B.pre, (fun w h => List.mem_cons_of_mem _ h), hK, B.notSynchronized, hTS, hl0⟩ (fun q h => Or.inr h) h hP hD0.self va_S.rf hl
set_option maxHeartbeats 4000000 in
set_option maxRecDepth 100000 in
theorem tX4_leadsToFailingOnly_2 {st : Nat → Nat} {p : Program} {l : Launch} {e : Env} {s : State} {m : MethodId} {args : Array Value} {below : List Frame} {meth : Method} {c : Code} {D : va_G} {a : Nat → Nat} {cc : Nat → ClassId} {A : Nat → Prop} {N : Nat} {r : Int32} {σr : St} (C : T_Cx st l A RX4 p s m args meth c D cc cX4_leadsToFailingOnly (Cond.code yX4_leadsToFailingOnly cX4_leadsToFailingOnly 3 (some .boolean) :: WT) 3 (some .boolean)) (hA : ∀ q, s.heap.size ≤ q → A q) : ∀ (n : Nat) {σ : St} {x1 : Int32} {x2 : Int32} {H : Heap} {locs : List Loc} {ls : Array Slot}, fX4_leadsToFailingOnly_2 N n σ x1 x2 = some (r, σr) → va_P D vwCl (wT a cc σ) H → va_D A (wT a cc σ) → va_S A s.heap H locs → lv_has ls 3 [(0, .ref (a 79)), (1, .int x1), (2, .int x2)] → W p l e rmX4_leadsToFailingOnly s m args below meth c H locs 0 0 (T_Mi D a cc A below args s r σr) (F0 m 2 ls []) := by
  obtain ⟨hx, hb, hr, hml, hown, hts, hin, hK, hlocks, hTS, hl0⟩ := id C
  intro n
  induction n with
  | zero => intro σ x1 x2 H locs ls h; exact none_s h
  | succ n ih =>
    intro σ x1 x2 H locs ls h hP hD hS hl
    refine lv_iload_n hx hb dX4_leadsToFailingOnly_2 rfl (lv_at hl 2 rfl) ?_
    refine lv_bipush (v := (8 : Int32)) hx hb dX4_leadsToFailingOnly_3 (by decide) ?_
    refine lv_icmp_ge (tgt := 33) hx hb dX4_leadsToFailingOnly_5 (by decide) (fun c1 => ?_) (fun c1 => ?_)
    · have h := ifT c1 h
      refine lv_iconst (v := (1 : Int32)) hx hb dX4_leadsToFailingOnly_33 (by decide) ?_
      exact T_zretZ C h hP hD hS dX4_leadsToFailingOnly_34
    · have h := ifF c1 h
      refine lv_aload_n hx hb dX4_leadsToFailingOnly_8 rfl (lv_at hl 0 rfl) ?_
      refine T_gfX4_23 C hP dX4_leadsToFailingOnly_9 ?_
      refine lv_aload_n hx hb dX4_leadsToFailingOnly_12 rfl (lv_at hl 0 rfl) ?_
      refine T_gfX4_9 C hP dX4_leadsToFailingOnly_13 ?_
      refine lv_iload_n hx hb dX4_leadsToFailingOnly_16 rfl (lv_at hl 1 rfl) ?_
      refine lv_iload_n hx hb dX4_leadsToFailingOnly_17 rfl (lv_at hl 2 rfl) ?_
      obtain ⟨r3, σ2, hc, h⟩ := bnd_s h
      refine T_callNi (q0 := 10) (ci := 7) (As := [.int x1, .int x2]) (rest := [.ref (a 73)]) C hA (fun sz => kX3_lead hl0 sz hc) gX4_60 hP hD hS rfl rfl ⟨by decide, by decide⟩ ⟨rfl, rfl⟩ rfl hl.1 rfl (lv_room (Nat.le_of_ble_eq_true rfl)) dX4_leadsToFailingOnly_18 (fun H locs hP hD hS => ?_)
      obtain ⟨g4, h⟩ := grd_s h
      refine T_ld73 C hP g4 dX4_leadsToFailingOnly_21 ?_
      refine lv_if_ne (tgt := 27) hx hb dX4_leadsToFailingOnly_22 (by decide) (fun c5 => ?_) (fun c5 => ?_)
      · have h := ifF c5 h
        obtain ⟨u6, eu6, h⟩ := letS_n h
        refine lv_iinc (v := u6) (lv' := [(2, .int u6), (0, .ref (a 79)), (1, .int x1)]) hx hb dX4_leadsToFailingOnly_27 hl (k := 2) rfl (by rw [eu6]; rfl) (by decide) rfl (fun ls hl => ?_)
        refine lv_goto (tgt := 2) hx hb dX4_leadsToFailingOnly_30 (by decide) ?_
        exact ih h hP hD hS (lv_sub hl [1, 2, 0] rfl)
      · have h := ifT c5 h
        refine lv_iconst (v := (0 : Int32)) hx hb dX4_leadsToFailingOnly_25 (by decide) ?_
        exact T_zretZ C h hP hD hS dX4_leadsToFailingOnly_26
set_option maxHeartbeats 4000000 in
set_option maxRecDepth 100000 in
theorem tX4_leadsToFailingOnly {st : Nat → Nat} {p : Program} {l : Launch} {e : Env} {s : State} {m : MethodId} {args : Array Value} {below : List Frame} {meth : Method} {c : Code} {D : va_G} {a : Nat → Nat} {cc : Nat → ClassId} {A : Nat → Prop} {N : Nat} {r : Int32} {σr : St} (C : T_Cx st l A RX4 p s m args meth c D cc cX4_leadsToFailingOnly (Cond.code yX4_leadsToFailingOnly cX4_leadsToFailingOnly 3 (some .boolean) :: WT) 3 (some .boolean)) (hA : ∀ q, s.heap.size ≤ q → A q) {σ : St} {p0 : Int32} {H : Heap} {locs : List Loc} {ls : Array Slot} (h : fX4_leadsToFailingOnly N σ p0 = some (r, σr)) : va_P D vwCl (wT a cc σ) H → va_D A (wT a cc σ) → va_S A s.heap H locs → lv_has ls 3 [(0, .ref (a 79)), (1, .int p0)] → W p l e rmX4_leadsToFailingOnly s m args below meth c H locs 0 0 (T_Mi D a cc A below args s r σr) (F0 m 0 ls []) := by
  obtain ⟨hx, hb, hr, hml, hown, hts, hin, hK, hlocks, hTS, hl0⟩ := id C
  intro hP hD hS hl
  refine lv_iconst (v := (0 : Int32)) hx hb dX4_leadsToFailingOnly_0 (by decide) ?_
  refine lv_istore_n (lv' := [(2, .int (0 : Int32)), (0, .ref (a 79)), (1, .int p0)]) hx hb dX4_leadsToFailingOnly_1 rfl hl (by decide) rfl (fun ls hl => ?_)
  exact tX4_leadsToFailingOnly_2 C hA N h hP hD hS (lv_sub hl [1, 2, 0] rfl)
set_option maxRecDepth 100000 in
theorem kX4_leadsToFailingOnly {l : Launch} (hl0 : l.stackTraces = false) (sz : Nat) {st : Nat → Nat} {D : va_G} {a : Nat → Nat} {cc : Nat → ClassId} {N : Nat} {r : Int32} {σr : St} {σ : St} {p0 : Int32} (h : fX4_leadsToFailingOnly N σ p0 = some (r, σr)) : Met l yX4_leadsToFailingOnly ((Cond.code yX4_leadsToFailingOnly cX4_leadsToFailingOnly 3 (some .boolean) :: WT)) rmX4_leadsToFailingOnly (T_Pc st D a cc [.ref (a 79), .int p0] σ sz) (T_Qi D a cc σ sz r σr) 0 0 (va_A (wT a cc σ) sz) := by
  refine Met.ofW (cc := cX4_leadsToFailingOnly) (maxL := 3) (ret := (some .boolean)) (by decide) rfl ?_
  intro p e s m args below meth c s₁ B hml hv
  obtain ⟨rfl, hsz, hP, hK, hD0, hTS⟩ := hv
  subst hsz
  have hl := lv_entry ([.ref (a 79), .int p0]) (n := 3) (Nat.le_of_ble_eq_true rfl)
  rw [lg_entry_eq]
  generalize (lg_sl ([.ref (a 79), .int p0]) ++ List.replicate (3 - (lg_sl ([.ref (a 79), .int p0])).length) Slot.unset).toArray = ls at hl ⊢
  exact tX4_leadsToFailingOnly ⟨B.exec, B.bytes, B.returns, hml, findClass_of_methodNamed B.named, atoms_spec (ws := (Cond.code yX4_leadsToFailingOnly cX4_leadsToFailingOnly 3 (some .boolean) :: WT)) B.pre, (fun w h => List.mem_cons_of_mem _ h), hK, B.notSynchronized, hTS, hl0⟩ (fun q h => Or.inr h) h hP hD0.self va_S.rf hl
set_option maxHeartbeats 4000000 in
set_option maxRecDepth 100000 in
theorem tX4_markFailing_88 {st : Nat → Nat} {p : Program} {l : Launch} {e : Env} {s : State} {m : MethodId} {args : Array Value} {below : List Frame} {meth : Method} {c : Code} {D : va_G} {a : Nat → Nat} {cc : Nat → ClassId} {A : Nat → Prop} {N : Nat} {σr : St} {k37 : St → Int32 → Int32 → Option St} {k51 : St → Int32 → Int32 → Int32 → Option St} (C : T_Cx st l A RX4 p s m args meth c D cc cX4_markFailing (Cond.code yX4_markFailing cX4_markFailing 4 none :: WT) 4 none) (hA : ∀ q, s.heap.size ≤ q → A q) (hk37 : ∀ {σ : St} {x1 : Int32} {x2 : Int32} {H : Heap} {locs : List Loc} {ls : Array Slot}, k37 σ x1 x2 = some σr → va_P D vwCl (wT a cc σ) H → va_D A (wT a cc σ) → va_S A s.heap H locs → lv_has ls 4 [(0, .ref (a 79)), (1, .int x1), (2, .int x2)] → W p l e rmX4_markFailing s m args below meth c H locs 0 0 (T_Mv D a cc A below args s σr) (F0 m 37 ls [])) (hk51 : ∀ {σ : St} {x1 : Int32} {x2 : Int32} {x3 : Int32} {H : Heap} {locs : List Loc} {ls : Array Slot}, k51 σ x1 x2 x3 = some σr → va_P D vwCl (wT a cc σ) H → va_D A (wT a cc σ) → va_S A s.heap H locs → lv_has ls 4 [(0, .ref (a 79)), (1, .int x1), (2, .int x2), (3, .int x3)] → W p l e rmX4_markFailing s m args below meth c H locs 0 0 (T_Mv D a cc A below args s σr) (F0 m 51 ls [])) {σ : St} {x1 : Int32} {x2 : Int32} {x3 : Int32} {H : Heap} {locs : List Loc} {ls : Array Slot} (h : fX4_markFailing_88 N k37 k51 σ x1 x2 x3 = some σr) : va_P D vwCl (wT a cc σ) H → va_D A (wT a cc σ) → va_S A s.heap H locs → lv_has ls 4 [(0, .ref (a 79)), (1, .int x1), (2, .int x2), (3, .int x3)] → W p l e rmX4_markFailing s m args below meth c H locs 0 0 (T_Mv D a cc A below args s σr) (F0 m 88 ls []) := by
  obtain ⟨hx, hb, hr, hml, hown, hts, hin, hK, hlocks, hTS, hl0⟩ := id C
  intro hP hD hS hl
  obtain ⟨u18, eu18, h⟩ := letS_n h
  refine lv_iinc (v := u18) (lv' := [(3, .int u18), (0, .ref (a 79)), (1, .int x1), (2, .int x2)]) hx hb dX4_markFailing_88 hl (k := 3) rfl (by rw [eu18]; rfl) (by decide) rfl (fun ls hl => ?_)
  refine lv_goto (tgt := 51) hx hb dX4_markFailing_91 (by decide) ?_
  exact hk51 h hP hD hS (lv_sub hl [1, 2, 3, 0] rfl)
set_option maxHeartbeats 4000000 in
set_option maxRecDepth 100000 in
theorem tX4_markFailing_51 {st : Nat → Nat} {p : Program} {l : Launch} {e : Env} {s : State} {m : MethodId} {args : Array Value} {below : List Frame} {meth : Method} {c : Code} {D : va_G} {a : Nat → Nat} {cc : Nat → ClassId} {A : Nat → Prop} {N : Nat} {σr : St} {k37 : St → Int32 → Int32 → Option St} (C : T_Cx st l A RX4 p s m args meth c D cc cX4_markFailing (Cond.code yX4_markFailing cX4_markFailing 4 none :: WT) 4 none) (hA : ∀ q, s.heap.size ≤ q → A q) (hk37 : ∀ {σ : St} {x1 : Int32} {x2 : Int32} {H : Heap} {locs : List Loc} {ls : Array Slot}, k37 σ x1 x2 = some σr → va_P D vwCl (wT a cc σ) H → va_D A (wT a cc σ) → va_S A s.heap H locs → lv_has ls 4 [(0, .ref (a 79)), (1, .int x1), (2, .int x2)] → W p l e rmX4_markFailing s m args below meth c H locs 0 0 (T_Mv D a cc A below args s σr) (F0 m 37 ls [])) : ∀ (n : Nat) {σ : St} {x1 : Int32} {x2 : Int32} {x3 : Int32} {H : Heap} {locs : List Loc} {ls : Array Slot}, fX4_markFailing_51 N k37 n σ x1 x2 x3 = some σr → va_P D vwCl (wT a cc σ) H → va_D A (wT a cc σ) → va_S A s.heap H locs → lv_has ls 4 [(0, .ref (a 79)), (1, .int x1), (2, .int x2), (3, .int x3)] → W p l e rmX4_markFailing s m args below meth c H locs 0 0 (T_Mv D a cc A below args s σr) (F0 m 51 ls []) := by
  obtain ⟨hx, hb, hr, hml, hown, hts, hin, hK, hlocks, hTS, hl0⟩ := id C
  intro n
  induction n with
  | zero => intro σ x1 x2 x3 H locs ls h; exact none_s h
  | succ n ih =>
    intro σ x1 x2 x3 H locs ls h hP hD hS hl
    refine lv_iload_n hx hb dX4_markFailing_51 rfl (lv_at hl 3 rfl) ?_
    refine lv_aload_n hx hb dX4_markFailing_52 rfl (lv_at hl 0 rfl) ?_
    refine T_gfX4_9 C hP dX4_markFailing_53 ?_
    refine T_gfX4_48 C hP dX4_markFailing_56 ?_
    refine lv_icmp_ge (tgt := 94) hx hb dX4_markFailing_59 (by decide) (fun c9 => ?_) (fun c9 => ?_)
    · have h := ifT c9 h
      obtain ⟨u10, eu10, h⟩ := letS_n h
      refine lv_iinc (v := u10) (lv' := [(2, .int u10), (0, .ref (a 79)), (1, .int x1), (3, .int x3)]) hx hb dX4_markFailing_94 hl (k := 2) rfl (by rw [eu10]; rfl) (by decide) rfl (fun ls hl => ?_)
      refine lv_goto (tgt := 37) hx hb dX4_markFailing_97 (by decide) ?_
      exact hk37 h hP hD hS (lv_sub hl [1, 2, 0] rfl)
    · have h := ifF c9 h
      refine lv_aload_n hx hb dX4_markFailing_62 rfl (lv_at hl 0 rfl) ?_
      refine T_gfX4_23 C hP dX4_markFailing_63 ?_
      refine lv_iload_n hx hb dX4_markFailing_66 rfl (lv_at hl 3 rfl) ?_
      obtain ⟨g11, h⟩ := grd_s h
      refine T_ld73 C hP g11 dX4_markFailing_67 ?_
      refine lv_if_ne (tgt := 88) hx hb dX4_markFailing_68 (by decide) (fun c12 => ?_) (fun c12 => ?_)
      · have h := ifF c12 h
        exact tX4_markFailing_88 C hA hk37 ih h hP hD hS (lv_sub hl [0, 1, 2, 3] rfl)
      · have h := ifT c12 h
        refine lv_aload_n hx hb dX4_markFailing_71 rfl (lv_at hl 0 rfl) ?_
        refine lv_iload_n hx hb dX4_markFailing_72 rfl (lv_at hl 3 rfl) ?_
        obtain ⟨r14, σ13, hc, h⟩ := bnd_s h
        refine T_callVi (q0 := 14) (ci := 8) (As := [.int x3]) (rest := []) C hA (fun sz => kX4_leadsToFailingOnly hl0 sz hc) gX4_57 hP hD hS rfl rfl ⟨by decide, by decide⟩ ⟨rfl, rfl⟩ rfl hl.1 rfl (lv_room (Nat.le_of_ble_eq_true rfl)) dX4_markFailing_73 (fun H locs hP hD hS => ?_)
        refine lv_if_eq (tgt := 88) hx hb dX4_markFailing_76 (by decide) (fun c15 => ?_) (fun c15 => ?_)
        · have h := ifT c15 h
          exact tX4_markFailing_88 C hA hk37 ih h hP hD hS (lv_sub hl [0, 1, 2, 3] rfl)
        · have h := ifF c15 h
          refine lv_aload_n hx hb dX4_markFailing_79 rfl (lv_at hl 0 rfl) ?_
          refine T_gfX4_23 C hP dX4_markFailing_80 ?_
          refine lv_iload_n hx hb dX4_markFailing_83 rfl (lv_at hl 3 rfl) ?_
          refine lv_iconst (v := (1 : Int32)) hx hb dX4_markFailing_84 (by decide) ?_
          obtain ⟨g16, h⟩ := grd_s h
          obtain ⟨σ17, eσ17, h⟩ := letS_n h
          refine T_st73 C hP hD hS g16 eσ17 dX4_markFailing_85 (fun H locs hP hD hS => ?_)
          refine lv_iconst (v := (1 : Int32)) hx hb dX4_markFailing_86 (by decide) ?_
          refine lv_istore_n (lv' := [(1, .int (1 : Int32)), (0, .ref (a 79)), (2, .int x2), (3, .int x3)]) hx hb dX4_markFailing_87 rfl hl (by decide) rfl (fun ls hl => ?_)
          exact tX4_markFailing_88 C hA hk37 ih h hP hD hS (lv_sub hl [1, 0, 2, 3] rfl)
set_option maxHeartbeats 4000000 in
set_option maxRecDepth 100000 in
theorem tX4_markFailing_37 {st : Nat → Nat} {p : Program} {l : Launch} {e : Env} {s : State} {m : MethodId} {args : Array Value} {below : List Frame} {meth : Method} {c : Code} {D : va_G} {a : Nat → Nat} {cc : Nat → ClassId} {A : Nat → Prop} {N : Nat} {σr : St} (C : T_Cx st l A RX4 p s m args meth c D cc cX4_markFailing (Cond.code yX4_markFailing cX4_markFailing 4 none :: WT) 4 none) (hA : ∀ q, s.heap.size ≤ q → A q) : ∀ (n : Nat) {σ : St} {x1 : Int32} {x2 : Int32} {H : Heap} {locs : List Loc} {ls : Array Slot}, fX4_markFailing_37 N n σ x1 x2 = some σr → va_P D vwCl (wT a cc σ) H → va_D A (wT a cc σ) → va_S A s.heap H locs → lv_has ls 4 [(0, .ref (a 79)), (1, .int x1), (2, .int x2)] → W p l e rmX4_markFailing s m args below meth c H locs 0 0 (T_Mv D a cc A below args s σr) (F0 m 37 ls []) := by
  obtain ⟨hx, hb, hr, hml, hown, hts, hin, hK, hlocks, hTS, hl0⟩ := id C
  intro n
  induction n with
  | zero => intro σ x1 x2 H locs ls h; exact none_s h
  | succ n ih =>
    intro σ x1 x2 H locs ls h hP hD hS hl
    refine lv_iload_n hx hb dX4_markFailing_37 rfl (lv_at hl 2 rfl) ?_
    refine lv_bipush (v := (40 : Int32)) hx hb dX4_markFailing_38 (by decide) ?_
    refine lv_icmp_ge (tgt := 100) hx hb dX4_markFailing_40 (by decide) (fun c7 => ?_) (fun c7 => ?_)
    · have h := ifT c7 h
      exact T_vret C h hP hD hS dX4_markFailing_100
    · have h := ifF c7 h
      refine lv_iload_n hx hb dX4_markFailing_43 rfl (lv_at hl 1 rfl) ?_
      refine lv_if_eq (tgt := 100) hx hb dX4_markFailing_44 (by decide) (fun c8 => ?_) (fun c8 => ?_)
      · have h := ifT c8 h
        exact T_vret C h hP hD hS dX4_markFailing_100
      · have h := ifF c8 h
        refine lv_iconst (v := (0 : Int32)) hx hb dX4_markFailing_47 (by decide) ?_
        refine lv_istore_n (lv' := [(1, .int (0 : Int32)), (0, .ref (a 79)), (2, .int x2)]) hx hb dX4_markFailing_48 rfl hl (by decide) rfl (fun ls hl => ?_)
        refine lv_iconst (v := (0 : Int32)) hx hb dX4_markFailing_49 (by decide) ?_
        refine lv_istore_n (lv' := [(3, .int (0 : Int32)), (1, .int (0 : Int32)), (0, .ref (a 79)), (2, .int x2)]) hx hb dX4_markFailing_50 rfl hl (by decide) rfl (fun ls hl => ?_)
        exact tX4_markFailing_51 C hA ih N h hP hD hS (lv_sub hl [2, 1, 3, 0] rfl)
set_option maxHeartbeats 4000000 in
set_option maxRecDepth 100000 in
theorem tX4_markFailing_2 {st : Nat → Nat} {p : Program} {l : Launch} {e : Env} {s : State} {m : MethodId} {args : Array Value} {below : List Frame} {meth : Method} {c : Code} {D : va_G} {a : Nat → Nat} {cc : Nat → ClassId} {A : Nat → Prop} {N : Nat} {σr : St} (C : T_Cx st l A RX4 p s m args meth c D cc cX4_markFailing (Cond.code yX4_markFailing cX4_markFailing 4 none :: WT) 4 none) (hA : ∀ q, s.heap.size ≤ q → A q) : ∀ (n : Nat) {σ : St} {x1 : Int32} {H : Heap} {locs : List Loc} {ls : Array Slot}, fX4_markFailing_2 N n σ x1 = some σr → va_P D vwCl (wT a cc σ) H → va_D A (wT a cc σ) → va_S A s.heap H locs → lv_has ls 4 [(0, .ref (a 79)), (1, .int x1)] → W p l e rmX4_markFailing s m args below meth c H locs 0 0 (T_Mv D a cc A below args s σr) (F0 m 2 ls []) := by
  obtain ⟨hx, hb, hr, hml, hown, hts, hin, hK, hlocks, hTS, hl0⟩ := id C
  intro n
  induction n with
  | zero => intro σ x1 H locs ls h; exact none_s h
  | succ n ih =>
    intro σ x1 H locs ls h hP hD hS hl
    refine lv_iload_n hx hb dX4_markFailing_2 rfl (lv_at hl 1 rfl) ?_
    refine lv_aload_n hx hb dX4_markFailing_3 rfl (lv_at hl 0 rfl) ?_
    refine T_gfX4_9 C hP dX4_markFailing_4 ?_
    refine T_gfX4_48 C hP dX4_markFailing_7 ?_
    refine lv_icmp_ge (tgt := 33) hx hb dX4_markFailing_10 (by decide) (fun c1 => ?_) (fun c1 => ?_)
    · have h := ifT c1 h
      refine lv_iconst (v := (1 : Int32)) hx hb dX4_markFailing_33 (by decide) ?_
      refine lv_istore_n (lv' := [(1, .int (1 : Int32)), (0, .ref (a 79))]) hx hb dX4_markFailing_34 rfl hl (by decide) rfl (fun ls hl => ?_)
      refine lv_iconst (v := (0 : Int32)) hx hb dX4_markFailing_35 (by decide) ?_
      refine lv_istore_n (lv' := [(2, .int (0 : Int32)), (1, .int (1 : Int32)), (0, .ref (a 79))]) hx hb dX4_markFailing_36 rfl hl (by decide) rfl (fun ls hl => ?_)
      exact tX4_markFailing_37 C hA N h hP hD hS (lv_sub hl [2, 1, 0] rfl)
    · have h := ifF c1 h
      refine lv_aload_n hx hb dX4_markFailing_13 rfl (lv_at hl 0 rfl) ?_
      refine T_gfX4_23 C hP dX4_markFailing_14 ?_
      refine lv_iload_n hx hb dX4_markFailing_17 rfl (lv_at hl 1 rfl) ?_
      refine lv_aload_n hx hb dX4_markFailing_18 rfl (lv_at hl 0 rfl) ?_
      refine T_gfX4_9 C hP dX4_markFailing_19 ?_
      refine lv_iload_n hx hb dX4_markFailing_22 rfl (lv_at hl 1 rfl) ?_
      obtain ⟨r3, σ2, hc, h⟩ := bnd_s h
      refine T_callNi (q0 := 10) (ci := 7) (As := [.int x1]) (rest := [.int x1, .ref (a 73)]) C hA (fun sz => kX3_isNever hl0 sz hc) gX4_53 hP hD hS rfl rfl ⟨by decide, by decide⟩ ⟨rfl, rfl⟩ rfl hl.1 rfl (lv_room (Nat.le_of_ble_eq_true rfl)) dX4_markFailing_23 (fun H locs hP hD hS => ?_)
      obtain ⟨g4, h⟩ := grd_s h
      obtain ⟨σ5, eσ5, h⟩ := letS_n h
      refine T_st73 C hP hD hS g4 eσ5 dX4_markFailing_26 (fun H locs hP hD hS => ?_)
      obtain ⟨u6, eu6, h⟩ := letS_n h
      refine lv_iinc (v := u6) (lv' := [(1, .int u6), (0, .ref (a 79))]) hx hb dX4_markFailing_27 hl (k := 1) rfl (by rw [eu6]; rfl) (by decide) rfl (fun ls hl => ?_)
      refine lv_goto (tgt := 2) hx hb dX4_markFailing_30 (by decide) ?_
      exact ih h hP hD hS (lv_sub hl [1, 0] rfl)
set_option maxHeartbeats 4000000 in
set_option maxRecDepth 100000 in
theorem tX4_markFailing {st : Nat → Nat} {p : Program} {l : Launch} {e : Env} {s : State} {m : MethodId} {args : Array Value} {below : List Frame} {meth : Method} {c : Code} {D : va_G} {a : Nat → Nat} {cc : Nat → ClassId} {A : Nat → Prop} {N : Nat} {σr : St} (C : T_Cx st l A RX4 p s m args meth c D cc cX4_markFailing (Cond.code yX4_markFailing cX4_markFailing 4 none :: WT) 4 none) (hA : ∀ q, s.heap.size ≤ q → A q) {σ : St} {H : Heap} {locs : List Loc} {ls : Array Slot} (h : fX4_markFailing N σ = some σr) : va_P D vwCl (wT a cc σ) H → va_D A (wT a cc σ) → va_S A s.heap H locs → lv_has ls 4 [(0, .ref (a 79))] → W p l e rmX4_markFailing s m args below meth c H locs 0 0 (T_Mv D a cc A below args s σr) (F0 m 0 ls []) := by
  obtain ⟨hx, hb, hr, hml, hown, hts, hin, hK, hlocks, hTS, hl0⟩ := id C
  intro hP hD hS hl
  refine lv_iconst (v := (0 : Int32)) hx hb dX4_markFailing_0 (by decide) ?_
  refine lv_istore_n (lv' := [(1, .int (0 : Int32)), (0, .ref (a 79))]) hx hb dX4_markFailing_1 rfl hl (by decide) rfl (fun ls hl => ?_)
  exact tX4_markFailing_2 C hA N h hP hD hS (lv_sub hl [1, 0] rfl)
set_option maxRecDepth 100000 in
theorem kX4_markFailing {l : Launch} (hl0 : l.stackTraces = false) (sz : Nat) {st : Nat → Nat} {D : va_G} {a : Nat → Nat} {cc : Nat → ClassId} {N : Nat} {σr : St} {σ : St} (h : fX4_markFailing N σ = some σr) : Met l yX4_markFailing ((Cond.code yX4_markFailing cX4_markFailing 4 none :: WT)) rmX4_markFailing (T_Pc st D a cc [.ref (a 79)] σ sz) (T_Qv D a cc σ sz σr) 0 0 (va_A (wT a cc σ) sz) := by
  refine Met.ofW (cc := cX4_markFailing) (maxL := 4) (ret := none) (by decide) rfl ?_
  intro p e s m args below meth c s₁ B hml hv
  obtain ⟨rfl, hsz, hP, hK, hD0, hTS⟩ := hv
  subst hsz
  have hl := lv_entry ([.ref (a 79)]) (n := 4) (Nat.le_of_ble_eq_true rfl)
  rw [lg_entry_eq]
  generalize (lg_sl ([.ref (a 79)]) ++ List.replicate (4 - (lg_sl ([.ref (a 79)])).length) Slot.unset).toArray = ls at hl ⊢
  exact tX4_markFailing ⟨B.exec, B.bytes, B.returns, hml, findClass_of_methodNamed B.named, atoms_spec (ws := (Cond.code yX4_markFailing cX4_markFailing 4 none :: WT)) B.pre, (fun w h => List.mem_cons_of_mem _ h), hK, B.notSynchronized, hTS, hl0⟩ (fun q h => Or.inr h) h hP hD0.self va_S.rf hl
set_option maxHeartbeats 4000000 in
set_option maxRecDepth 100000 in
theorem tX4_isLike_19 {st : Nat → Nat} {p : Program} {l : Launch} {e : Env} {s : State} {m : MethodId} {args : Array Value} {below : List Frame} {meth : Method} {c : Code} {D : va_G} {a : Nat → Nat} {cc : Nat → ClassId} {A : Nat → Prop} {N : Nat} {r : Int32} {σr : St} (C : T_Cx st l A RX4 p s m args meth c D cc cX4_isLike (Cond.code yX4_isLike cX4_isLike 4 (some .boolean) :: WT) 4 (some .boolean)) (hA : ∀ q, s.heap.size ≤ q → A q) : ∀ (n : Nat) {σ : St} {x1 : Int32} {x2 : Int32} {x3 : Int32} {H : Heap} {locs : List Loc} {ls : Array Slot}, fX4_isLike_19 N n σ x1 x2 x3 = some (r, σr) → va_P D vwCl (wT a cc σ) H → va_D A (wT a cc σ) → va_S A s.heap H locs → lv_has ls 4 [(0, .ref (a 79)), (1, .int x1), (2, .int x2), (3, .int x3)] → W p l e rmX4_isLike s m args below meth c H locs 0 0 (T_Mi D a cc A below args s r σr) (F0 m 19 ls []) := by
  obtain ⟨hx, hb, hr, hml, hown, hts, hin, hK, hlocks, hTS, hl0⟩ := id C
  intro n
  induction n with
  | zero => intro σ x1 x2 x3 H locs ls h; exact none_s h
  | succ n ih =>
    intro σ x1 x2 x3 H locs ls h hP hD hS hl
    refine lv_iload_n hx hb dX4_isLike_19 rfl (lv_at hl 3 rfl) ?_
    refine lv_bipush (v := (8 : Int32)) hx hb dX4_isLike_20 (by decide) ?_
    refine lv_icmp_ge (tgt := 64) hx hb dX4_isLike_22 (by decide) (fun c4 => ?_) (fun c4 => ?_)
    · have h := ifT c4 h
      refine lv_iconst (v := (1 : Int32)) hx hb dX4_isLike_64 (by decide) ?_
      exact T_zretZ C h hP hD hS dX4_isLike_65
    · have h := ifF c4 h
      refine lv_aload_n hx hb dX4_isLike_25 rfl (lv_at hl 0 rfl) ?_
      refine T_gfX4_27 C hP dX4_isLike_26 ?_
      refine lv_aload_n hx hb dX4_isLike_29 rfl (lv_at hl 0 rfl) ?_
      refine T_gfX4_9 C hP dX4_isLike_30 ?_
      refine lv_iload_n hx hb dX4_isLike_33 rfl (lv_at hl 1 rfl) ?_
      refine lv_iload_n hx hb dX4_isLike_34 rfl (lv_at hl 3 rfl) ?_
      obtain ⟨r6, σ5, hc, h⟩ := bnd_s h
      refine T_callNi (q0 := 10) (ci := 7) (As := [.int x1, .int x3]) (rest := [.ref (a 74)]) C hA (fun sz => kX3_lead hl0 sz hc) gX4_60 hP hD hS rfl rfl ⟨by decide, by decide⟩ ⟨rfl, rfl⟩ rfl hl.1 rfl (lv_room (Nat.le_of_ble_eq_true rfl)) dX4_isLike_35 (fun H locs hP hD hS => ?_)
      obtain ⟨g7, h⟩ := grd_s h
      refine T_ld74 C hP g7 dX4_isLike_38 ?_
      refine lv_aload_n hx hb dX4_isLike_39 rfl (lv_at hl 0 rfl) ?_
      refine T_gfX4_27 C hP dX4_isLike_40 ?_
      refine lv_aload_n hx hb dX4_isLike_43 rfl (lv_at hl 0 rfl) ?_
      refine T_gfX4_9 C hP dX4_isLike_44 ?_
      refine lv_iload_n hx hb dX4_isLike_47 rfl (lv_at hl 2 rfl) ?_
      refine lv_iload_n hx hb dX4_isLike_48 rfl (lv_at hl 3 rfl) ?_
      obtain ⟨r9, σ8, hc, h⟩ := bnd_s h
      refine T_callNi (q0 := 10) (ci := 7) (As := [.int x2, .int x3]) (rest := [.ref (a 74), .int (gI σ5 74 r6.toNatClampNeg)]) C hA (fun sz => kX3_lead hl0 sz hc) gX4_60 hP hD hS rfl rfl ⟨by decide, by decide⟩ ⟨rfl, rfl⟩ rfl hl.1 rfl (lv_room (Nat.le_of_ble_eq_true rfl)) dX4_isLike_49 (fun H locs hP hD hS => ?_)
      obtain ⟨g10, h⟩ := grd_s h
      refine T_ld74 C hP g10 dX4_isLike_52 ?_
      refine lv_icmp_eq (tgt := 58) hx hb dX4_isLike_53 (by decide) (fun c11 => ?_) (fun c11 => ?_)
      · have h := ifT c11 h
        obtain ⟨u12, eu12, h⟩ := letS_n h
        refine lv_iinc (v := u12) (lv' := [(3, .int u12), (0, .ref (a 79)), (1, .int x1), (2, .int x2)]) hx hb dX4_isLike_58 hl (k := 3) rfl (by rw [eu12]; rfl) (by decide) rfl (fun ls hl => ?_)
        refine lv_goto (tgt := 19) hx hb dX4_isLike_61 (by decide) ?_
        exact ih h hP hD hS (lv_sub hl [1, 2, 3, 0] rfl)
      · have h := ifF c11 h
        refine lv_iconst (v := (0 : Int32)) hx hb dX4_isLike_56 (by decide) ?_
        exact T_zretZ C h hP hD hS dX4_isLike_57
set_option maxHeartbeats 4000000 in
set_option maxRecDepth 100000 in
theorem tX4_isLike {st : Nat → Nat} {p : Program} {l : Launch} {e : Env} {s : State} {m : MethodId} {args : Array Value} {below : List Frame} {meth : Method} {c : Code} {D : va_G} {a : Nat → Nat} {cc : Nat → ClassId} {A : Nat → Prop} {N : Nat} {r : Int32} {σr : St} (C : T_Cx st l A RX4 p s m args meth c D cc cX4_isLike (Cond.code yX4_isLike cX4_isLike 4 (some .boolean) :: WT) 4 (some .boolean)) (hA : ∀ q, s.heap.size ≤ q → A q) {σ : St} {p0 : Int32} {p1 : Int32} {H : Heap} {locs : List Loc} {ls : Array Slot} (h : fX4_isLike N σ p0 p1 = some (r, σr)) : va_P D vwCl (wT a cc σ) H → va_D A (wT a cc σ) → va_S A s.heap H locs → lv_has ls 4 [(0, .ref (a 79)), (1, .int p0), (2, .int p1)] → W p l e rmX4_isLike s m args below meth c H locs 0 0 (T_Mi D a cc A below args s r σr) (F0 m 0 ls []) := by
  obtain ⟨hx, hb, hr, hml, hown, hts, hin, hK, hlocks, hTS, hl0⟩ := id C
  intro hP hD hS hl
  refine lv_aload_n hx hb dX4_isLike_0 rfl (lv_at hl 0 rfl) ?_
  refine T_gfX4_27 C hP dX4_isLike_1 ?_
  refine lv_iload_n hx hb dX4_isLike_4 rfl (lv_at hl 1 rfl) ?_
  obtain ⟨g1, h⟩ := grd_s h
  refine T_ld74 C hP g1 dX4_isLike_5 ?_
  refine lv_aload_n hx hb dX4_isLike_6 rfl (lv_at hl 0 rfl) ?_
  refine T_gfX4_27 C hP dX4_isLike_7 ?_
  refine lv_iload_n hx hb dX4_isLike_10 rfl (lv_at hl 2 rfl) ?_
  obtain ⟨g2, h⟩ := grd_s h
  refine T_ld74 C hP g2 dX4_isLike_11 ?_
  refine lv_icmp_eq (tgt := 17) hx hb dX4_isLike_12 (by decide) (fun c3 => ?_) (fun c3 => ?_)
  · have h := ifT c3 h
    refine lv_iconst (v := (0 : Int32)) hx hb dX4_isLike_17 (by decide) ?_
    refine lv_istore_n (lv' := [(3, .int (0 : Int32)), (0, .ref (a 79)), (1, .int p0), (2, .int p1)]) hx hb dX4_isLike_18 rfl hl (by decide) rfl (fun ls hl => ?_)
    exact tX4_isLike_19 C hA N h hP hD hS (lv_sub hl [1, 2, 3, 0] rfl)
  · have h := ifF c3 h
    refine lv_iconst (v := (0 : Int32)) hx hb dX4_isLike_15 (by decide) ?_
    exact T_zretZ C h hP hD hS dX4_isLike_16
set_option maxRecDepth 100000 in
theorem kX4_isLike {l : Launch} (hl0 : l.stackTraces = false) (sz : Nat) {st : Nat → Nat} {D : va_G} {a : Nat → Nat} {cc : Nat → ClassId} {N : Nat} {r : Int32} {σr : St} {σ : St} {p0 : Int32} {p1 : Int32} (h : fX4_isLike N σ p0 p1 = some (r, σr)) : Met l yX4_isLike ((Cond.code yX4_isLike cX4_isLike 4 (some .boolean) :: WT)) rmX4_isLike (T_Pc st D a cc [.ref (a 79), .int p0, .int p1] σ sz) (T_Qi D a cc σ sz r σr) 0 0 (va_A (wT a cc σ) sz) := by
  refine Met.ofW (cc := cX4_isLike) (maxL := 4) (ret := (some .boolean)) (by decide) rfl ?_
  intro p e s m args below meth c s₁ B hml hv
  obtain ⟨rfl, hsz, hP, hK, hD0, hTS⟩ := hv
  subst hsz
  have hl := lv_entry ([.ref (a 79), .int p0, .int p1]) (n := 4) (Nat.le_of_ble_eq_true rfl)
  rw [lg_entry_eq]
  generalize (lg_sl ([.ref (a 79), .int p0, .int p1]) ++ List.replicate (4 - (lg_sl ([.ref (a 79), .int p0, .int p1])).length) Slot.unset).toArray = ls at hl ⊢
  exact tX4_isLike ⟨B.exec, B.bytes, B.returns, hml, findClass_of_methodNamed B.named, atoms_spec (ws := (Cond.code yX4_isLike cX4_isLike 4 (some .boolean) :: WT)) B.pre, (fun w h => List.mem_cons_of_mem _ h), hK, B.notSynchronized, hTS, hl0⟩ (fun q h => Or.inr h) h hP hD0.self va_S.rf hl
set_option maxHeartbeats 4000000 in
set_option maxRecDepth 100000 in
theorem tX4_firstLike_28 {st : Nat → Nat} {p : Program} {l : Launch} {e : Env} {s : State} {m : MethodId} {args : Array Value} {below : List Frame} {meth : Method} {c : Code} {D : va_G} {a : Nat → Nat} {cc : Nat → ClassId} {A : Nat → Prop} {N : Nat} {r : Int32} {σr : St} {k2 : St → Int32 → Int32 → Option (Int32 × St)} (C : T_Cx st l A RX4 p s m args meth c D cc cX4_firstLike (Cond.code yX4_firstLike cX4_firstLike 3 (some .int) :: WT) 3 (some .int)) (hA : ∀ q, s.heap.size ≤ q → A q) (hk2 : ∀ {σ : St} {x1 : Int32} {x2 : Int32} {H : Heap} {locs : List Loc} {ls : Array Slot}, k2 σ x1 x2 = some (r, σr) → va_P D vwCl (wT a cc σ) H → va_D A (wT a cc σ) → va_S A s.heap H locs → lv_has ls 3 [(0, .ref (a 79)), (1, .int x1), (2, .int x2)] → W p l e rmX4_firstLike s m args below meth c H locs 0 0 (T_Mi D a cc A below args s r σr) (F0 m 2 ls [])) {σ : St} {x1 : Int32} {x2 : Int32} {H : Heap} {locs : List Loc} {ls : Array Slot} (h : fX4_firstLike_28 N k2 σ x1 x2 = some (r, σr)) : va_P D vwCl (wT a cc σ) H → va_D A (wT a cc σ) → va_S A s.heap H locs → lv_has ls 3 [(0, .ref (a 79)), (1, .int x1), (2, .int x2)] → W p l e rmX4_firstLike s m args below meth c H locs 0 0 (T_Mi D a cc A below args s r σr) (F0 m 28 ls []) := by
  obtain ⟨hx, hb, hr, hml, hown, hts, hin, hK, hlocks, hTS, hl0⟩ := id C
  intro hP hD hS hl
  obtain ⟨u7, eu7, h⟩ := letS_n h
  refine lv_iinc (v := u7) (lv' := [(2, .int u7), (0, .ref (a 79)), (1, .int x1)]) hx hb dX4_firstLike_28 hl (k := 2) rfl (by rw [eu7]; rfl) (by decide) rfl (fun ls hl => ?_)
  refine lv_goto (tgt := 2) hx hb dX4_firstLike_31 (by decide) ?_
  exact hk2 h hP hD hS (lv_sub hl [1, 2, 0] rfl)
set_option maxHeartbeats 4000000 in
set_option maxRecDepth 100000 in
theorem tX4_firstLike_2 {st : Nat → Nat} {p : Program} {l : Launch} {e : Env} {s : State} {m : MethodId} {args : Array Value} {below : List Frame} {meth : Method} {c : Code} {D : va_G} {a : Nat → Nat} {cc : Nat → ClassId} {A : Nat → Prop} {N : Nat} {r : Int32} {σr : St} (C : T_Cx st l A RX4 p s m args meth c D cc cX4_firstLike (Cond.code yX4_firstLike cX4_firstLike 3 (some .int) :: WT) 3 (some .int)) (hA : ∀ q, s.heap.size ≤ q → A q) : ∀ (n : Nat) {σ : St} {x1 : Int32} {x2 : Int32} {H : Heap} {locs : List Loc} {ls : Array Slot}, fX4_firstLike_2 N n σ x1 x2 = some (r, σr) → va_P D vwCl (wT a cc σ) H → va_D A (wT a cc σ) → va_S A s.heap H locs → lv_has ls 3 [(0, .ref (a 79)), (1, .int x1), (2, .int x2)] → W p l e rmX4_firstLike s m args below meth c H locs 0 0 (T_Mi D a cc A below args s r σr) (F0 m 2 ls []) := by
  obtain ⟨hx, hb, hr, hml, hown, hts, hin, hK, hlocks, hTS, hl0⟩ := id C
  intro n
  induction n with
  | zero => intro σ x1 x2 H locs ls h; exact none_s h
  | succ n ih =>
    intro σ x1 x2 H locs ls h hP hD hS hl
    refine lv_iload_n hx hb dX4_firstLike_2 rfl (lv_at hl 2 rfl) ?_
    refine lv_iload_n hx hb dX4_firstLike_3 rfl (lv_at hl 1 rfl) ?_
    refine lv_icmp_ge (tgt := 34) hx hb dX4_firstLike_4 (by decide) (fun c1 => ?_) (fun c1 => ?_)
    · have h := ifT c1 h
      refine lv_iload_n hx hb dX4_firstLike_34 rfl (lv_at hl 1 rfl) ?_
      exact T_iret C h hP hD hS dX4_firstLike_35
    · have h := ifF c1 h
      refine lv_aload_n hx hb dX4_firstLike_7 rfl (lv_at hl 0 rfl) ?_
      refine T_gfX4_30 C hP dX4_firstLike_8 ?_
      refine lv_iload_n hx hb dX4_firstLike_11 rfl (lv_at hl 2 rfl) ?_
      obtain ⟨g2, h⟩ := grd_s h
      refine T_ld75 C hP g2 dX4_firstLike_12 ?_
      refine lv_iload_n hx hb dX4_firstLike_13 rfl (lv_at hl 2 rfl) ?_
      refine lv_icmp_ne (tgt := 28) hx hb dX4_firstLike_14 (by decide) (fun c3 => ?_) (fun c3 => ?_)
      · have h := ifF c3 h
        exact tX4_firstLike_28 C hA ih h hP hD hS (lv_sub hl [0, 1, 2] rfl)
      · have h := ifT c3 h
        refine lv_aload_n hx hb dX4_firstLike_17 rfl (lv_at hl 0 rfl) ?_
        refine lv_iload_n hx hb dX4_firstLike_18 rfl (lv_at hl 2 rfl) ?_
        refine lv_iload_n hx hb dX4_firstLike_19 rfl (lv_at hl 1 rfl) ?_
        obtain ⟨r5, σ4, hc, h⟩ := bnd_s h
        refine T_callVi (q0 := 14) (ci := 8) (As := [.int x2, .int x1]) (rest := []) C hA (fun sz => kX4_isLike hl0 sz hc) gX4_78 hP hD hS rfl rfl ⟨by decide, by decide⟩ ⟨rfl, rfl⟩ rfl hl.1 rfl (lv_room (Nat.le_of_ble_eq_true rfl)) dX4_firstLike_20 (fun H locs hP hD hS => ?_)
        refine lv_if_eq (tgt := 28) hx hb dX4_firstLike_23 (by decide) (fun c6 => ?_) (fun c6 => ?_)
        · have h := ifT c6 h
          exact tX4_firstLike_28 C hA ih h hP hD hS (lv_sub hl [0, 1, 2] rfl)
        · have h := ifF c6 h
          refine lv_iload_n hx hb dX4_firstLike_26 rfl (lv_at hl 2 rfl) ?_
          exact T_iret C h hP hD hS dX4_firstLike_27
set_option maxHeartbeats 4000000 in
set_option maxRecDepth 100000 in
theorem tX4_firstLike {st : Nat → Nat} {p : Program} {l : Launch} {e : Env} {s : State} {m : MethodId} {args : Array Value} {below : List Frame} {meth : Method} {c : Code} {D : va_G} {a : Nat → Nat} {cc : Nat → ClassId} {A : Nat → Prop} {N : Nat} {r : Int32} {σr : St} (C : T_Cx st l A RX4 p s m args meth c D cc cX4_firstLike (Cond.code yX4_firstLike cX4_firstLike 3 (some .int) :: WT) 3 (some .int)) (hA : ∀ q, s.heap.size ≤ q → A q) {σ : St} {p0 : Int32} {H : Heap} {locs : List Loc} {ls : Array Slot} (h : fX4_firstLike N σ p0 = some (r, σr)) : va_P D vwCl (wT a cc σ) H → va_D A (wT a cc σ) → va_S A s.heap H locs → lv_has ls 3 [(0, .ref (a 79)), (1, .int p0)] → W p l e rmX4_firstLike s m args below meth c H locs 0 0 (T_Mi D a cc A below args s r σr) (F0 m 0 ls []) := by
  obtain ⟨hx, hb, hr, hml, hown, hts, hin, hK, hlocks, hTS, hl0⟩ := id C
  intro hP hD hS hl
  refine lv_iconst (v := (0 : Int32)) hx hb dX4_firstLike_0 (by decide) ?_
  refine lv_istore_n (lv' := [(2, .int (0 : Int32)), (0, .ref (a 79)), (1, .int p0)]) hx hb dX4_firstLike_1 rfl hl (by decide) rfl (fun ls hl => ?_)
  exact tX4_firstLike_2 C hA N h hP hD hS (lv_sub hl [1, 2, 0] rfl)
set_option maxRecDepth 100000 in
theorem kX4_firstLike {l : Launch} (hl0 : l.stackTraces = false) (sz : Nat) {st : Nat → Nat} {D : va_G} {a : Nat → Nat} {cc : Nat → ClassId} {N : Nat} {r : Int32} {σr : St} {σ : St} {p0 : Int32} (h : fX4_firstLike N σ p0 = some (r, σr)) : Met l yX4_firstLike ((Cond.code yX4_firstLike cX4_firstLike 3 (some .int) :: WT)) rmX4_firstLike (T_Pc st D a cc [.ref (a 79), .int p0] σ sz) (T_Qi D a cc σ sz r σr) 0 0 (va_A (wT a cc σ) sz) := by
  refine Met.ofW (cc := cX4_firstLike) (maxL := 3) (ret := (some .int)) (by decide) rfl ?_
  intro p e s m args below meth c s₁ B hml hv
  obtain ⟨rfl, hsz, hP, hK, hD0, hTS⟩ := hv
  subst hsz
  have hl := lv_entry ([.ref (a 79), .int p0]) (n := 3) (Nat.le_of_ble_eq_true rfl)
  rw [lg_entry_eq]
  generalize (lg_sl ([.ref (a 79), .int p0]) ++ List.replicate (3 - (lg_sl ([.ref (a 79), .int p0])).length) Slot.unset).toArray = ls at hl ⊢
  exact tX4_firstLike ⟨B.exec, B.bytes, B.returns, hml, findClass_of_methodNamed B.named, atoms_spec (ws := (Cond.code yX4_firstLike cX4_firstLike 3 (some .int) :: WT)) B.pre, (fun w h => List.mem_cons_of_mem _ h), hK, B.notSynchronized, hTS, hl0⟩ (fun q h => Or.inr h) h hP hD0.self va_S.rf hl
set_option maxHeartbeats 4000000 in
set_option maxRecDepth 100000 in
theorem tX4_refineGroups_39 {st : Nat → Nat} {p : Program} {l : Launch} {e : Env} {s : State} {m : MethodId} {args : Array Value} {below : List Frame} {meth : Method} {c : Code} {D : va_G} {a : Nat → Nat} {cc : Nat → ClassId} {A : Nat → Prop} {N : Nat} {r : Int32} {σr : St} {k4 : St → Int32 → Int32 → Option (Int32 × St)} (C : T_Cx st l A RX4 p s m args meth c D cc cX4_refineGroups (Cond.code yX4_refineGroups cX4_refineGroups 3 (some .int) :: WT) 3 (some .int)) (hA : ∀ q, s.heap.size ≤ q → A q) (hk4 : ∀ {σ : St} {x1 : Int32} {x2 : Int32} {H : Heap} {locs : List Loc} {ls : Array Slot}, k4 σ x1 x2 = some (r, σr) → va_P D vwCl (wT a cc σ) H → va_D A (wT a cc σ) → va_S A s.heap H locs → lv_has ls 3 [(0, .ref (a 79)), (1, .int x1), (2, .int x2)] → W p l e rmX4_refineGroups s m args below meth c H locs 0 0 (T_Mi D a cc A below args s r σr) (F0 m 4 ls [])) {σ : St} {x1 : Int32} {x2 : Int32} {H : Heap} {locs : List Loc} {ls : Array Slot} (h : fX4_refineGroups_39 N k4 σ x1 x2 = some (r, σr)) : va_P D vwCl (wT a cc σ) H → va_D A (wT a cc σ) → va_S A s.heap H locs → lv_has ls 3 [(0, .ref (a 79)), (1, .int x1), (2, .int x2)] → W p l e rmX4_refineGroups s m args below meth c H locs 0 0 (T_Mi D a cc A below args s r σr) (F0 m 39 ls []) := by
  obtain ⟨hx, hb, hr, hml, hown, hts, hin, hK, hlocks, hTS, hl0⟩ := id C
  intro hP hD hS hl
  obtain ⟨u11, eu11, h⟩ := letS_n h
  refine lv_iinc (v := u11) (lv' := [(2, .int u11), (0, .ref (a 79)), (1, .int x1)]) hx hb dX4_refineGroups_39 hl (k := 2) rfl (by rw [eu11]; rfl) (by decide) rfl (fun ls hl => ?_)
  refine lv_goto (tgt := 4) hx hb dX4_refineGroups_42 (by decide) ?_
  exact hk4 h hP hD hS (lv_sub hl [1, 2, 0] rfl)
set_option maxHeartbeats 4000000 in
set_option maxRecDepth 100000 in
theorem tX4_refineGroups_4 {st : Nat → Nat} {p : Program} {l : Launch} {e : Env} {s : State} {m : MethodId} {args : Array Value} {below : List Frame} {meth : Method} {c : Code} {D : va_G} {a : Nat → Nat} {cc : Nat → ClassId} {A : Nat → Prop} {N : Nat} {r : Int32} {σr : St} (C : T_Cx st l A RX4 p s m args meth c D cc cX4_refineGroups (Cond.code yX4_refineGroups cX4_refineGroups 3 (some .int) :: WT) 3 (some .int)) (hA : ∀ q, s.heap.size ≤ q → A q) : ∀ (n : Nat) {σ : St} {x1 : Int32} {x2 : Int32} {H : Heap} {locs : List Loc} {ls : Array Slot}, fX4_refineGroups_4 N n σ x1 x2 = some (r, σr) → va_P D vwCl (wT a cc σ) H → va_D A (wT a cc σ) → va_S A s.heap H locs → lv_has ls 3 [(0, .ref (a 79)), (1, .int x1), (2, .int x2)] → W p l e rmX4_refineGroups s m args below meth c H locs 0 0 (T_Mi D a cc A below args s r σr) (F0 m 4 ls []) := by
  obtain ⟨hx, hb, hr, hml, hown, hts, hin, hK, hlocks, hTS, hl0⟩ := id C
  intro n
  induction n with
  | zero => intro σ x1 x2 H locs ls h; exact none_s h
  | succ n ih =>
    intro σ x1 x2 H locs ls h hP hD hS hl
    refine lv_iload_n hx hb dX4_refineGroups_4 rfl (lv_at hl 2 rfl) ?_
    refine lv_aload_n hx hb dX4_refineGroups_5 rfl (lv_at hl 0 rfl) ?_
    refine T_gfX4_9 C hP dX4_refineGroups_6 ?_
    refine T_gfX4_48 C hP dX4_refineGroups_9 ?_
    refine lv_icmp_ge (tgt := 45) hx hb dX4_refineGroups_12 (by decide) (fun c1 => ?_) (fun c1 => ?_)
    · have h := ifT c1 h
      refine lv_aload_n hx hb dX4_refineGroups_45 rfl (lv_at hl 0 rfl) ?_
      refine T_gfX4_30 C hP dX4_refineGroups_46 ?_
      refine lv_iconst (v := (0 : Int32)) hx hb dX4_refineGroups_49 (by decide) ?_
      refine lv_aload_n hx hb dX4_refineGroups_50 rfl (lv_at hl 0 rfl) ?_
      refine T_gfX4_27 C hP dX4_refineGroups_51 ?_
      refine lv_iconst (v := (0 : Int32)) hx hb dX4_refineGroups_54 (by decide) ?_
      refine lv_aload_n hx hb dX4_refineGroups_55 rfl (lv_at hl 0 rfl) ?_
      refine T_gfX4_9 C hP dX4_refineGroups_56 ?_
      refine T_gfX4_48 C hP dX4_refineGroups_59 ?_
      obtain ⟨g2, h⟩ := grd_s h
      obtain ⟨σ3, eσ3, h⟩ := letS_n h
      refine T_copy C hP hD hS hl.1 g2 eσ3 (by decide) (Nat.le_of_ble_eq_true rfl) dX4_refineGroups_62 (fun H locs hP hD hS => ?_)
      refine lv_iload_n hx hb dX4_refineGroups_65 rfl (lv_at hl 1 rfl) ?_
      exact T_iret C h hP hD hS dX4_refineGroups_66
    · have h := ifF c1 h
      refine lv_aload_n hx hb dX4_refineGroups_15 rfl (lv_at hl 0 rfl) ?_
      refine T_gfX4_30 C hP dX4_refineGroups_16 ?_
      refine lv_iload_n hx hb dX4_refineGroups_19 rfl (lv_at hl 2 rfl) ?_
      refine lv_aload_n hx hb dX4_refineGroups_20 rfl (lv_at hl 0 rfl) ?_
      refine lv_iload_n hx hb dX4_refineGroups_21 rfl (lv_at hl 2 rfl) ?_
      obtain ⟨r5, σ4, hc, h⟩ := bnd_s h
      refine T_callVi (q0 := 14) (ci := 8) (As := [.int x2]) (rest := [.int x2, .ref (a 75)]) C hA (fun sz => kX4_firstLike hl0 sz hc) gX4_68 hP hD hS rfl rfl ⟨by decide, by decide⟩ ⟨rfl, rfl⟩ rfl hl.1 rfl (lv_room (Nat.le_of_ble_eq_true rfl)) dX4_refineGroups_22 (fun H locs hP hD hS => ?_)
      obtain ⟨g6, h⟩ := grd_s h
      obtain ⟨σ7, eσ7, h⟩ := letS_n h
      refine T_st75 C hP hD hS g6 eσ7 dX4_refineGroups_25 (fun H locs hP hD hS => ?_)
      refine lv_aload_n hx hb dX4_refineGroups_26 rfl (lv_at hl 0 rfl) ?_
      refine T_gfX4_30 C hP dX4_refineGroups_27 ?_
      refine lv_iload_n hx hb dX4_refineGroups_30 rfl (lv_at hl 2 rfl) ?_
      obtain ⟨g8, h⟩ := grd_s h
      refine T_ld75 C hP g8 dX4_refineGroups_31 ?_
      refine lv_iload_n hx hb dX4_refineGroups_32 rfl (lv_at hl 2 rfl) ?_
      refine lv_icmp_ne (tgt := 39) hx hb dX4_refineGroups_33 (by decide) (fun c9 => ?_) (fun c9 => ?_)
      · have h := ifF c9 h
        exact tX4_refineGroups_39 C hA ih h hP hD hS (lv_sub hl [0, 1, 2] rfl)
      · have h := ifT c9 h
        obtain ⟨u10, eu10, h⟩ := letS_n h
        refine lv_iinc (v := u10) (lv' := [(1, .int u10), (0, .ref (a 79)), (2, .int x2)]) hx hb dX4_refineGroups_36 hl (k := 1) rfl (by rw [eu10]; rfl) (by decide) rfl (fun ls hl => ?_)
        exact tX4_refineGroups_39 C hA ih h hP hD hS (lv_sub hl [1, 0, 2] rfl)
set_option maxHeartbeats 4000000 in
set_option maxRecDepth 100000 in
theorem tX4_refineGroups {st : Nat → Nat} {p : Program} {l : Launch} {e : Env} {s : State} {m : MethodId} {args : Array Value} {below : List Frame} {meth : Method} {c : Code} {D : va_G} {a : Nat → Nat} {cc : Nat → ClassId} {A : Nat → Prop} {N : Nat} {r : Int32} {σr : St} (C : T_Cx st l A RX4 p s m args meth c D cc cX4_refineGroups (Cond.code yX4_refineGroups cX4_refineGroups 3 (some .int) :: WT) 3 (some .int)) (hA : ∀ q, s.heap.size ≤ q → A q) {σ : St} {H : Heap} {locs : List Loc} {ls : Array Slot} (h : fX4_refineGroups N σ = some (r, σr)) : va_P D vwCl (wT a cc σ) H → va_D A (wT a cc σ) → va_S A s.heap H locs → lv_has ls 3 [(0, .ref (a 79))] → W p l e rmX4_refineGroups s m args below meth c H locs 0 0 (T_Mi D a cc A below args s r σr) (F0 m 0 ls []) := by
  obtain ⟨hx, hb, hr, hml, hown, hts, hin, hK, hlocks, hTS, hl0⟩ := id C
  intro hP hD hS hl
  refine lv_iconst (v := (0 : Int32)) hx hb dX4_refineGroups_0 (by decide) ?_
  refine lv_istore_n (lv' := [(1, .int (0 : Int32)), (0, .ref (a 79))]) hx hb dX4_refineGroups_1 rfl hl (by decide) rfl (fun ls hl => ?_)
  refine lv_iconst (v := (0 : Int32)) hx hb dX4_refineGroups_2 (by decide) ?_
  refine lv_istore_n (lv' := [(2, .int (0 : Int32)), (1, .int (0 : Int32)), (0, .ref (a 79))]) hx hb dX4_refineGroups_3 rfl hl (by decide) rfl (fun ls hl => ?_)
  exact tX4_refineGroups_4 C hA N h hP hD hS (lv_sub hl [2, 1, 0] rfl)
set_option maxRecDepth 100000 in
theorem kX4_refineGroups {l : Launch} (hl0 : l.stackTraces = false) (sz : Nat) {st : Nat → Nat} {D : va_G} {a : Nat → Nat} {cc : Nat → ClassId} {N : Nat} {r : Int32} {σr : St} {σ : St} (h : fX4_refineGroups N σ = some (r, σr)) : Met l yX4_refineGroups ((Cond.code yX4_refineGroups cX4_refineGroups 3 (some .int) :: WT)) rmX4_refineGroups (T_Pc st D a cc [.ref (a 79)] σ sz) (T_Qi D a cc σ sz r σr) 0 0 (va_A (wT a cc σ) sz) := by
  refine Met.ofW (cc := cX4_refineGroups) (maxL := 3) (ret := (some .int)) (by decide) rfl ?_
  intro p e s m args below meth c s₁ B hml hv
  obtain ⟨rfl, hsz, hP, hK, hD0, hTS⟩ := hv
  subst hsz
  have hl := lv_entry ([.ref (a 79)]) (n := 3) (Nat.le_of_ble_eq_true rfl)
  rw [lg_entry_eq]
  generalize (lg_sl ([.ref (a 79)]) ++ List.replicate (3 - (lg_sl ([.ref (a 79)])).length) Slot.unset).toArray = ls at hl ⊢
  exact tX4_refineGroups ⟨B.exec, B.bytes, B.returns, hml, findClass_of_methodNamed B.named, atoms_spec (ws := (Cond.code yX4_refineGroups cX4_refineGroups 3 (some .int) :: WT)) B.pre, (fun w h => List.mem_cons_of_mem _ h), hK, B.notSynchronized, hTS, hl0⟩ (fun q h => Or.inr h) h hP hD0.self va_S.rf hl
set_option maxHeartbeats 4000000 in
set_option maxRecDepth 100000 in
theorem tX4_groupConditions_32 {st : Nat → Nat} {p : Program} {l : Launch} {e : Env} {s : State} {m : MethodId} {args : Array Value} {below : List Frame} {meth : Method} {c : Code} {D : va_G} {a : Nat → Nat} {cc : Nat → ClassId} {A : Nat → Prop} {N : Nat} {σr : St} {k2 : St → Int32 → Option St} (C : T_Cx st l A RX4 p s m args meth c D cc cX4_groupConditions (Cond.code yX4_groupConditions cX4_groupConditions 5 none :: WT) 5 none) (hA : ∀ q, s.heap.size ≤ q → A q) (hk2 : ∀ {σ : St} {x1 : Int32} {H : Heap} {locs : List Loc} {ls : Array Slot}, k2 σ x1 = some σr → va_P D vwCl (wT a cc σ) H → va_D A (wT a cc σ) → va_S A s.heap H locs → lv_has ls 5 [(0, .ref (a 79)), (1, .int x1)] → W p l e rmX4_groupConditions s m args below meth c H locs 0 0 (T_Mv D a cc A below args s σr) (F0 m 2 ls [])) {σ : St} {x1 : Int32} {y0 : Int32} {y1 : Int32} {H : Heap} {locs : List Loc} {ls : Array Slot} (h : fX4_groupConditions_32 N k2 σ x1 y0 y1 = some σr) : va_P D vwCl (wT a cc σ) H → va_D A (wT a cc σ) → va_S A s.heap H locs → lv_has ls 5 [(0, .ref (a 79)), (1, .int x1)] → W p l e rmX4_groupConditions s m args below meth c H locs 0 0 (T_Mv D a cc A below args s σr) (F0 m 32 ls [.int y0, .int y1, .ref (a 74)]) := by
  obtain ⟨hx, hb, hr, hml, hown, hts, hin, hK, hlocks, hTS, hl0⟩ := id C
  intro hP hD hS hl
  obtain ⟨g4, h⟩ := grd_s h
  obtain ⟨σ5, eσ5, h⟩ := letS_n h
  refine T_st74 C hP hD hS g4 eσ5 dX4_groupConditions_32 (fun H locs hP hD hS => ?_)
  obtain ⟨u6, eu6, h⟩ := letS_n h
  refine lv_iinc (v := u6) (lv' := [(1, .int u6), (0, .ref (a 79))]) hx hb dX4_groupConditions_33 hl (k := 1) rfl (by rw [eu6]; rfl) (by decide) rfl (fun ls hl => ?_)
  refine lv_goto (tgt := 2) hx hb dX4_groupConditions_36 (by decide) ?_
  exact hk2 h hP hD hS (lv_sub hl [1, 0] rfl)
set_option maxHeartbeats 4000000 in
set_option maxRecDepth 100000 in
theorem tX4_groupConditions_74 {st : Nat → Nat} {p : Program} {l : Launch} {e : Env} {s : State} {m : MethodId} {args : Array Value} {below : List Frame} {meth : Method} {c : Code} {D : va_G} {a : Nat → Nat} {cc : Nat → ClassId} {A : Nat → Prop} {N : Nat} {σr : St} {k45 : St → Int32 → Int32 → Int32 → Option St} (C : T_Cx st l A RX4 p s m args meth c D cc cX4_groupConditions (Cond.code yX4_groupConditions cX4_groupConditions 5 none :: WT) 5 none) (hA : ∀ q, s.heap.size ≤ q → A q) (hk45 : ∀ {σ : St} {x1 : Int32} {x2 : Int32} {x3 : Int32} {H : Heap} {locs : List Loc} {ls : Array Slot}, k45 σ x1 x2 x3 = some σr → va_P D vwCl (wT a cc σ) H → va_D A (wT a cc σ) → va_S A s.heap H locs → lv_has ls 5 [(0, .ref (a 79)), (1, .int x1), (2, .int x2), (3, .int x3)] → W p l e rmX4_groupConditions s m args below meth c H locs 0 0 (T_Mv D a cc A below args s σr) (F0 m 45 ls [])) {σ : St} {x1 : Int32} {x3 : Int32} {y0 : Int32} {H : Heap} {locs : List Loc} {ls : Array Slot} (h : fX4_groupConditions_74 N k45 σ x1 x3 y0 = some σr) : va_P D vwCl (wT a cc σ) H → va_D A (wT a cc σ) → va_S A s.heap H locs → lv_has ls 5 [(0, .ref (a 79)), (1, .int x1), (3, .int x3)] → W p l e rmX4_groupConditions s m args below meth c H locs 0 0 (T_Mv D a cc A below args s σr) (F0 m 74 ls [.int y0]) := by
  obtain ⟨hx, hb, hr, hml, hown, hts, hin, hK, hlocks, hTS, hl0⟩ := id C
  intro hP hD hS hl
  refine lv_istore_n (lv' := [(2, .int y0), (0, .ref (a 79)), (1, .int x1), (3, .int x3)]) hx hb dX4_groupConditions_74 rfl hl (by decide) rfl (fun ls hl => ?_)
  obtain ⟨u12, eu12, h⟩ := letS_n h
  refine lv_iinc (v := u12) (lv' := [(3, .int u12), (2, .int y0), (0, .ref (a 79)), (1, .int x1)]) hx hb dX4_groupConditions_75 hl (k := 3) rfl (by rw [eu12]; rfl) (by decide) rfl (fun ls hl => ?_)
  refine lv_goto (tgt := 45) hx hb dX4_groupConditions_78 (by decide) ?_
  exact hk45 h hP hD hS (lv_sub hl [2, 3, 1, 0] rfl)
set_option maxHeartbeats 4000000 in
set_option maxRecDepth 100000 in
theorem tX4_groupConditions_45 {st : Nat → Nat} {p : Program} {l : Launch} {e : Env} {s : State} {m : MethodId} {args : Array Value} {below : List Frame} {meth : Method} {c : Code} {D : va_G} {a : Nat → Nat} {cc : Nat → ClassId} {A : Nat → Prop} {N : Nat} {σr : St} (C : T_Cx st l A RX4 p s m args meth c D cc cX4_groupConditions (Cond.code yX4_groupConditions cX4_groupConditions 5 none :: WT) 5 none) (hA : ∀ q, s.heap.size ≤ q → A q) : ∀ (n : Nat) {σ : St} {x1 : Int32} {x2 : Int32} {x3 : Int32} {H : Heap} {locs : List Loc} {ls : Array Slot}, fX4_groupConditions_45 N n σ x1 x2 x3 = some σr → va_P D vwCl (wT a cc σ) H → va_D A (wT a cc σ) → va_S A s.heap H locs → lv_has ls 5 [(0, .ref (a 79)), (1, .int x1), (2, .int x2), (3, .int x3)] → W p l e rmX4_groupConditions s m args below meth c H locs 0 0 (T_Mv D a cc A below args s σr) (F0 m 45 ls []) := by
  obtain ⟨hx, hb, hr, hml, hown, hts, hin, hK, hlocks, hTS, hl0⟩ := id C
  intro n
  induction n with
  | zero => intro σ x1 x2 x3 H locs ls h; exact none_s h
  | succ n ih =>
    intro σ x1 x2 x3 H locs ls h hP hD hS hl
    refine lv_iload_n hx hb dX4_groupConditions_45 rfl (lv_at hl 3 rfl) ?_
    refine lv_bipush (v := (40 : Int32)) hx hb dX4_groupConditions_46 (by decide) ?_
    refine lv_icmp_gt (tgt := 81) hx hb dX4_groupConditions_48 (by decide) (fun c7 => ?_) (fun c7 => ?_)
    · have h := ifT c7 h
      exact T_vret C h hP hD hS dX4_groupConditions_81
    · have h := ifF c7 h
      refine lv_iload_n hx hb dX4_groupConditions_51 rfl (lv_at hl 2 rfl) ?_
      refine lv_if_eq (tgt := 81) hx hb dX4_groupConditions_52 (by decide) (fun c8 => ?_) (fun c8 => ?_)
      · have h := ifT c8 h
        exact T_vret C h hP hD hS dX4_groupConditions_81
      · have h := ifF c8 h
        refine lv_iload_n hx hb dX4_groupConditions_55 rfl (lv_at hl 1 rfl) ?_
        refine lv_istore (lv' := [(4, .int x1), (0, .ref (a 79)), (1, .int x1), (2, .int x2), (3, .int x3)]) hx hb dX4_groupConditions_56 hl (by decide) rfl (fun ls hl => ?_)
        refine lv_aload_n hx hb dX4_groupConditions_58 rfl (lv_at hl 1 rfl) ?_
        obtain ⟨r10, σ9, hc, h⟩ := bnd_s h
        refine T_callVi (q0 := 14) (ci := 8) (As := []) (rest := []) C hA (fun sz => kX4_refineGroups hl0 sz hc) gX4_64 hP hD hS rfl rfl ⟨by decide, by decide⟩ ⟨rfl, rfl⟩ rfl hl.1 rfl (lv_room (Nat.le_of_ble_eq_true rfl)) dX4_groupConditions_59 (fun H locs hP hD hS => ?_)
        refine lv_istore_n (lv' := [(1, .int r10), (4, .int x1), (0, .ref (a 79)), (2, .int x2), (3, .int x3)]) hx hb dX4_groupConditions_62 rfl hl (by decide) rfl (fun ls hl => ?_)
        refine lv_iload_n hx hb dX4_groupConditions_63 rfl (lv_at hl 0 rfl) ?_
        refine lv_iload hx hb dX4_groupConditions_64 (lv_at hl 1 rfl) ?_
        refine lv_icmp_le (tgt := 73) hx hb dX4_groupConditions_66 (by decide) (fun c11 => ?_) (fun c11 => ?_)
        · have h := ifT c11 h
          refine lv_iconst (v := (0 : Int32)) hx hb dX4_groupConditions_73 (by decide) ?_
          exact tX4_groupConditions_74 C hA ih h hP hD hS (lv_sub hl [2, 0, 4] rfl)
        · have h := ifF c11 h
          refine lv_iconst (v := (1 : Int32)) hx hb dX4_groupConditions_69 (by decide) ?_
          refine lv_goto (tgt := 74) hx hb dX4_groupConditions_70 (by decide) ?_
          exact tX4_groupConditions_74 C hA ih h hP hD hS (lv_sub hl [2, 0, 4] rfl)
set_option maxHeartbeats 4000000 in
set_option maxRecDepth 100000 in
theorem tX4_groupConditions_2 {st : Nat → Nat} {p : Program} {l : Launch} {e : Env} {s : State} {m : MethodId} {args : Array Value} {below : List Frame} {meth : Method} {c : Code} {D : va_G} {a : Nat → Nat} {cc : Nat → ClassId} {A : Nat → Prop} {N : Nat} {σr : St} (C : T_Cx st l A RX4 p s m args meth c D cc cX4_groupConditions (Cond.code yX4_groupConditions cX4_groupConditions 5 none :: WT) 5 none) (hA : ∀ q, s.heap.size ≤ q → A q) : ∀ (n : Nat) {σ : St} {x1 : Int32} {H : Heap} {locs : List Loc} {ls : Array Slot}, fX4_groupConditions_2 N n σ x1 = some σr → va_P D vwCl (wT a cc σ) H → va_D A (wT a cc σ) → va_S A s.heap H locs → lv_has ls 5 [(0, .ref (a 79)), (1, .int x1)] → W p l e rmX4_groupConditions s m args below meth c H locs 0 0 (T_Mv D a cc A below args s σr) (F0 m 2 ls []) := by
  obtain ⟨hx, hb, hr, hml, hown, hts, hin, hK, hlocks, hTS, hl0⟩ := id C
  intro n
  induction n with
  | zero => intro σ x1 H locs ls h; exact none_s h
  | succ n ih =>
    intro σ x1 H locs ls h hP hD hS hl
    refine lv_iload_n hx hb dX4_groupConditions_2 rfl (lv_at hl 1 rfl) ?_
    refine lv_aload_n hx hb dX4_groupConditions_3 rfl (lv_at hl 0 rfl) ?_
    refine T_gfX4_9 C hP dX4_groupConditions_4 ?_
    refine T_gfX4_48 C hP dX4_groupConditions_7 ?_
    refine lv_icmp_ge (tgt := 39) hx hb dX4_groupConditions_10 (by decide) (fun c1 => ?_) (fun c1 => ?_)
    · have h := ifT c1 h
      refine lv_iconst (v := (0 : Int32)) hx hb dX4_groupConditions_39 (by decide) ?_
      refine lv_istore_n (lv' := [(1, .int (0 : Int32)), (0, .ref (a 79))]) hx hb dX4_groupConditions_40 rfl hl (by decide) rfl (fun ls hl => ?_)
      refine lv_iconst (v := (1 : Int32)) hx hb dX4_groupConditions_41 (by decide) ?_
      refine lv_istore_n (lv' := [(2, .int (1 : Int32)), (1, .int (0 : Int32)), (0, .ref (a 79))]) hx hb dX4_groupConditions_42 rfl hl (by decide) rfl (fun ls hl => ?_)
      refine lv_iconst (v := (0 : Int32)) hx hb dX4_groupConditions_43 (by decide) ?_
      refine lv_istore_n (lv' := [(3, .int (0 : Int32)), (2, .int (1 : Int32)), (1, .int (0 : Int32)), (0, .ref (a 79))]) hx hb dX4_groupConditions_44 rfl hl (by decide) rfl (fun ls hl => ?_)
      exact tX4_groupConditions_45 C hA N h hP hD hS (lv_sub hl [3, 2, 1, 0] rfl)
    · have h := ifF c1 h
      refine lv_aload_n hx hb dX4_groupConditions_13 rfl (lv_at hl 0 rfl) ?_
      refine T_gfX4_27 C hP dX4_groupConditions_14 ?_
      refine lv_iload_n hx hb dX4_groupConditions_17 rfl (lv_at hl 1 rfl) ?_
      refine lv_aload_n hx hb dX4_groupConditions_18 rfl (lv_at hl 0 rfl) ?_
      refine T_gfX4_23 C hP dX4_groupConditions_19 ?_
      refine lv_iload_n hx hb dX4_groupConditions_22 rfl (lv_at hl 1 rfl) ?_
      obtain ⟨g2, h⟩ := grd_s h
      refine T_ld73 C hP g2 dX4_groupConditions_23 ?_
      refine lv_if_eq (tgt := 31) hx hb dX4_groupConditions_24 (by decide) (fun c3 => ?_) (fun c3 => ?_)
      · have h := ifT c3 h
        refine lv_iconst (v := (0 : Int32)) hx hb dX4_groupConditions_31 (by decide) ?_
        exact tX4_groupConditions_32 C hA ih h hP hD hS (lv_sub hl [0, 1] rfl)
      · have h := ifF c3 h
        refine lv_iconst (v := (1 : Int32)) hx hb dX4_groupConditions_27 (by decide) ?_
        refine lv_goto (tgt := 32) hx hb dX4_groupConditions_28 (by decide) ?_
        exact tX4_groupConditions_32 C hA ih h hP hD hS (lv_sub hl [0, 1] rfl)
set_option maxHeartbeats 4000000 in
set_option maxRecDepth 100000 in
theorem tX4_groupConditions {st : Nat → Nat} {p : Program} {l : Launch} {e : Env} {s : State} {m : MethodId} {args : Array Value} {below : List Frame} {meth : Method} {c : Code} {D : va_G} {a : Nat → Nat} {cc : Nat → ClassId} {A : Nat → Prop} {N : Nat} {σr : St} (C : T_Cx st l A RX4 p s m args meth c D cc cX4_groupConditions (Cond.code yX4_groupConditions cX4_groupConditions 5 none :: WT) 5 none) (hA : ∀ q, s.heap.size ≤ q → A q) {σ : St} {H : Heap} {locs : List Loc} {ls : Array Slot} (h : fX4_groupConditions N σ = some σr) : va_P D vwCl (wT a cc σ) H → va_D A (wT a cc σ) → va_S A s.heap H locs → lv_has ls 5 [(0, .ref (a 79))] → W p l e rmX4_groupConditions s m args below meth c H locs 0 0 (T_Mv D a cc A below args s σr) (F0 m 0 ls []) := by
  obtain ⟨hx, hb, hr, hml, hown, hts, hin, hK, hlocks, hTS, hl0⟩ := id C
  intro hP hD hS hl
  refine lv_iconst (v := (0 : Int32)) hx hb dX4_groupConditions_0 (by decide) ?_
  refine lv_istore_n (lv' := [(1, .int (0 : Int32)), (0, .ref (a 79))]) hx hb dX4_groupConditions_1 rfl hl (by decide) rfl (fun ls hl => ?_)
  exact tX4_groupConditions_2 C hA N h hP hD hS (lv_sub hl [1, 0] rfl)
set_option maxRecDepth 100000 in
theorem kX4_groupConditions {l : Launch} (hl0 : l.stackTraces = false) (sz : Nat) {st : Nat → Nat} {D : va_G} {a : Nat → Nat} {cc : Nat → ClassId} {N : Nat} {σr : St} {σ : St} (h : fX4_groupConditions N σ = some σr) : Met l yX4_groupConditions ((Cond.code yX4_groupConditions cX4_groupConditions 5 none :: WT)) rmX4_groupConditions (T_Pc st D a cc [.ref (a 79)] σ sz) (T_Qv D a cc σ sz σr) 0 0 (va_A (wT a cc σ) sz) := by
  refine Met.ofW (cc := cX4_groupConditions) (maxL := 5) (ret := none) (by decide) rfl ?_
  intro p e s m args below meth c s₁ B hml hv
  obtain ⟨rfl, hsz, hP, hK, hD0, hTS⟩ := hv
  subst hsz
  have hl := lv_entry ([.ref (a 79)]) (n := 5) (Nat.le_of_ble_eq_true rfl)
  rw [lg_entry_eq]
  generalize (lg_sl ([.ref (a 79)]) ++ List.replicate (5 - (lg_sl ([.ref (a 79)])).length) Slot.unset).toArray = ls at hl ⊢
  exact tX4_groupConditions ⟨B.exec, B.bytes, B.returns, hml, findClass_of_methodNamed B.named, atoms_spec (ws := (Cond.code yX4_groupConditions cX4_groupConditions 5 none :: WT)) B.pre, (fun w h => List.mem_cons_of_mem _ h), hK, B.notSynchronized, hTS, hl0⟩ (fun q h => Or.inr h) h hP hD0.self va_S.rf hl
set_option maxHeartbeats 4000000 in
set_option maxRecDepth 100000 in
theorem tX4_stateOf_67 {st : Nat → Nat} {p : Program} {l : Launch} {e : Env} {s : State} {m : MethodId} {args : Array Value} {below : List Frame} {meth : Method} {c : Code} {D : va_G} {a : Nat → Nat} {cc : Nat → ClassId} {A : Nat → Prop} {N : Nat} {r : Int32} {σr : St} (C : T_Cx st l A RX4 p s m args meth c D cc cX4_stateOf (Cond.code yX4_stateOf cX4_stateOf 3 (some .int) :: WT) 3 (some .int)) (hA : ∀ q, s.heap.size ≤ q → A q) {σ : St} {x2 : Int32} {H : Heap} {locs : List Loc} {ls : Array Slot} (h : fX4_stateOf_67 N σ x2 = some (r, σr)) : va_P D vwCl (wT a cc σ) H → va_D A (wT a cc σ) → va_S A s.heap H locs → lv_has ls 3 [(0, .ref (a 79)), (2, .int x2)] → W p l e rmX4_stateOf s m args below meth c H locs 0 0 (T_Mi D a cc A below args s r σr) (F0 m 67 ls []) := by
  obtain ⟨hx, hb, hr, hml, hown, hts, hin, hK, hlocks, hTS, hl0⟩ := id C
  intro hP hD hS hl
  refine lv_aload_n hx hb dX4_stateOf_67 rfl (lv_at hl 0 rfl) ?_
  refine T_gfX4_33 C hP dX4_stateOf_68 ?_
  refine lv_iload_n hx hb dX4_stateOf_71 rfl (lv_at hl 1 rfl) ?_
  obtain ⟨g13, h⟩ := grd_s h
  refine T_ld76 C hP g13 dX4_stateOf_72 ?_
  exact T_iret C h hP hD hS dX4_stateOf_73
set_option maxHeartbeats 4000000 in
set_option maxRecDepth 100000 in
theorem tX4_stateOf {st : Nat → Nat} {p : Program} {l : Launch} {e : Env} {s : State} {m : MethodId} {args : Array Value} {below : List Frame} {meth : Method} {c : Code} {D : va_G} {a : Nat → Nat} {cc : Nat → ClassId} {A : Nat → Prop} {N : Nat} {r : Int32} {σr : St} (C : T_Cx st l A RX4 p s m args meth c D cc cX4_stateOf (Cond.code yX4_stateOf cX4_stateOf 3 (some .int) :: WT) 3 (some .int)) (hA : ∀ q, s.heap.size ≤ q → A q) {σ : St} {p0 : Int32} {H : Heap} {locs : List Loc} {ls : Array Slot} (h : fX4_stateOf N σ p0 = some (r, σr)) : va_P D vwCl (wT a cc σ) H → va_D A (wT a cc σ) → va_S A s.heap H locs → lv_has ls 3 [(0, .ref (a 79)), (1, .int p0)] → W p l e rmX4_stateOf s m args below meth c H locs 0 0 (T_Mi D a cc A below args s r σr) (F0 m 0 ls []) := by
  obtain ⟨hx, hb, hr, hml, hown, hts, hin, hK, hlocks, hTS, hl0⟩ := id C
  intro hP hD hS hl
  refine lv_aload_n hx hb dX4_stateOf_0 rfl (lv_at hl 0 rfl) ?_
  refine T_gfX4_23 C hP dX4_stateOf_1 ?_
  refine lv_iload_n hx hb dX4_stateOf_4 rfl (lv_at hl 1 rfl) ?_
  obtain ⟨g1, h⟩ := grd_s h
  refine T_ld73 C hP g1 dX4_stateOf_5 ?_
  refine lv_if_eq (tgt := 11) hx hb dX4_stateOf_6 (by decide) (fun c2 => ?_) (fun c2 => ?_)
  · have h := ifT c2 h
    refine lv_aload_n hx hb dX4_stateOf_11 rfl (lv_at hl 0 rfl) ?_
    refine T_gfX4_27 C hP dX4_stateOf_12 ?_
    refine lv_iload_n hx hb dX4_stateOf_15 rfl (lv_at hl 1 rfl) ?_
    obtain ⟨g3, h⟩ := grd_s h
    refine T_ld74 C hP g3 dX4_stateOf_16 ?_
    obtain ⟨u4, eu4, h⟩ := letS_n h
    refine lv_topE eu4 ?_
    refine lv_istore_n (lv' := [(2, .int u4), (0, .ref (a 79)), (1, .int p0)]) hx hb dX4_stateOf_17 rfl hl (by decide) rfl (fun ls hl => ?_)
    refine lv_aload_n hx hb dX4_stateOf_18 rfl (lv_at hl 1 rfl) ?_
    refine T_gfX4_33 C hP dX4_stateOf_19 ?_
    refine lv_iload_n hx hb dX4_stateOf_22 rfl (lv_at hl 0 rfl) ?_
    obtain ⟨g5, h⟩ := grd_s h
    refine T_ld76 C hP g5 dX4_stateOf_23 ?_
    refine lv_iconst (v := (-1 : Int32)) hx hb dX4_stateOf_24 (by decide) ?_
    refine lv_icmp_ne (tgt := 67) hx hb dX4_stateOf_25 (by decide) (fun c6 => ?_) (fun c6 => ?_)
    · have h := ifF c6 h
      exact tX4_stateOf_67 C hA h hP hD hS (lv_sub hl [1, 0] rfl)
    · have h := ifT c6 h
      refine lv_aload_n hx hb dX4_stateOf_28 rfl (lv_at hl 1 rfl) ?_
      refine T_gfX4_15 C hP dX4_stateOf_29 ?_
      refine lv_bipush (v := (40 : Int32)) hx hb dX4_stateOf_32 (by decide) ?_
      refine lv_icmp_ge (tgt := 67) hx hb dX4_stateOf_34 (by decide) (fun c7 => ?_) (fun c7 => ?_)
      · have h := ifT c7 h
        exact tX4_stateOf_67 C hA h hP hD hS (lv_sub hl [1, 0] rfl)
      · have h := ifF c7 h
        refine lv_aload_n hx hb dX4_stateOf_37 rfl (lv_at hl 1 rfl) ?_
        refine T_gfX4_33 C hP dX4_stateOf_38 ?_
        refine lv_iload_n hx hb dX4_stateOf_41 rfl (lv_at hl 0 rfl) ?_
        refine lv_aload_n hx hb dX4_stateOf_42 rfl (lv_at hl 1 rfl) ?_
        refine T_gfX4_15 C hP dX4_stateOf_43 ?_
        obtain ⟨g8, h⟩ := grd_s h
        obtain ⟨σ9, eσ9, h⟩ := letS_n h
        refine T_st76 C hP hD hS g8 eσ9 dX4_stateOf_46 (fun H locs hP hD hS => ?_)
        refine lv_aload_n hx hb dX4_stateOf_47 rfl (lv_at hl 1 rfl) ?_
        refine T_gfX4_36 C hP dX4_stateOf_48 ?_
        refine lv_aload_n hx hb dX4_stateOf_51 rfl (lv_at hl 1 rfl) ?_
        refine T_gfX4_15 C hP dX4_stateOf_52 ?_
        refine lv_iload_n hx hb dX4_stateOf_55 rfl (lv_at hl 0 rfl) ?_
        obtain ⟨g10, h⟩ := grd_s h
        obtain ⟨σ11, eσ11, h⟩ := letS_n h
        refine T_st77 C hP hD hS g10 eσ11 dX4_stateOf_56 (fun H locs hP hD hS => ?_)
        refine lv_aload_n hx hb dX4_stateOf_57 rfl (lv_at hl 1 rfl) ?_
        refine lv_dup hx hb dX4_stateOf_58 rfl ?_
        refine T_gfX4_15 C hP dX4_stateOf_59 ?_
        refine lv_iconst (v := (1 : Int32)) hx hb dX4_stateOf_62 (by decide) ?_
        refine lv_iadd hx hb dX4_stateOf_63 ?_
        obtain ⟨σ12, eσ12, h⟩ := letS_n h
        refine T_pfX4_15 C hP hD hS eσ12 dX4_stateOf_64 (fun H locs hP hD hS => ?_)
        exact tX4_stateOf_67 C hA h hP hD hS (lv_sub hl [1, 0] rfl)
  · have h := ifF c2 h
    refine lv_iconst (v := (-1 : Int32)) hx hb dX4_stateOf_9 (by decide) ?_
    exact T_iret C h hP hD hS dX4_stateOf_10
set_option maxRecDepth 100000 in
theorem kX4_stateOf {l : Launch} (hl0 : l.stackTraces = false) (sz : Nat) {st : Nat → Nat} {D : va_G} {a : Nat → Nat} {cc : Nat → ClassId} {N : Nat} {r : Int32} {σr : St} {σ : St} {p0 : Int32} (h : fX4_stateOf N σ p0 = some (r, σr)) : Met l yX4_stateOf ((Cond.code yX4_stateOf cX4_stateOf 3 (some .int) :: WT)) rmX4_stateOf (T_Pc st D a cc [.ref (a 79), .int p0] σ sz) (T_Qi D a cc σ sz r σr) 0 0 (va_A (wT a cc σ) sz) := by
  refine Met.ofW (cc := cX4_stateOf) (maxL := 3) (ret := (some .int)) (by decide) rfl ?_
  intro p e s m args below meth c s₁ B hml hv
  obtain ⟨rfl, hsz, hP, hK, hD0, hTS⟩ := hv
  subst hsz
  have hl := lv_entry ([.ref (a 79), .int p0]) (n := 3) (Nat.le_of_ble_eq_true rfl)
  rw [lg_entry_eq]
  generalize (lg_sl ([.ref (a 79), .int p0]) ++ List.replicate (3 - (lg_sl ([.ref (a 79), .int p0])).length) Slot.unset).toArray = ls at hl ⊢
  exact tX4_stateOf ⟨B.exec, B.bytes, B.returns, hml, findClass_of_methodNamed B.named, atoms_spec (ws := (Cond.code yX4_stateOf cX4_stateOf 3 (some .int) :: WT)) B.pre, (fun w h => List.mem_cons_of_mem _ h), hK, B.notSynchronized, hTS, hl0⟩ (fun q h => Or.inr h) h hP hD0.self va_S.rf hl
set_option maxHeartbeats 4000000 in
set_option maxRecDepth 100000 in
theorem tX4_numberStates_55 {st : Nat → Nat} {p : Program} {l : Launch} {e : Env} {s : State} {m : MethodId} {args : Array Value} {below : List Frame} {meth : Method} {c : Code} {D : va_G} {a : Nat → Nat} {cc : Nat → ClassId} {A : Nat → Prop} {N : Nat} {σr : St} {k39 : St → Int32 → Option St} (C : T_Cx st l A RX4 p s m args meth c D cc cX4_numberStates (Cond.code yX4_numberStates cX4_numberStates 3 none :: WT) 3 none) (hA : ∀ q, s.heap.size ≤ q → A q) (hk39 : ∀ {σ : St} {x1 : Int32} {H : Heap} {locs : List Loc} {ls : Array Slot}, k39 σ x1 = some σr → va_P D vwCl (wT a cc σ) H → va_D A (wT a cc σ) → va_S A s.heap H locs → lv_has ls 3 [(0, .ref (a 79)), (1, .int x1)] → W p l e rmX4_numberStates s m args below meth c H locs 0 0 (T_Mv D a cc A below args s σr) (F0 m 39 ls [])) : ∀ (n : Nat) {σ : St} {x1 : Int32} {x2 : Int32} {H : Heap} {locs : List Loc} {ls : Array Slot}, fX4_numberStates_55 N k39 n σ x1 x2 = some σr → va_P D vwCl (wT a cc σ) H → va_D A (wT a cc σ) → va_S A s.heap H locs → lv_has ls 3 [(0, .ref (a 79)), (1, .int x1), (2, .int x2)] → W p l e rmX4_numberStates s m args below meth c H locs 0 0 (T_Mv D a cc A below args s σr) (F0 m 55 ls []) := by
  obtain ⟨hx, hb, hr, hml, hown, hts, hin, hK, hlocks, hTS, hl0⟩ := id C
  intro n
  induction n with
  | zero => intro σ x1 x2 H locs ls h; exact none_s h
  | succ n ih =>
    intro σ x1 x2 H locs ls h hP hD hS hl
    refine lv_iload_n hx hb dX4_numberStates_55 rfl (lv_at hl 2 rfl) ?_
    refine lv_bipush (v := (8 : Int32)) hx hb dX4_numberStates_56 (by decide) ?_
    refine lv_icmp_ge (tgt := 96) hx hb dX4_numberStates_58 (by decide) (fun c10 => ?_) (fun c10 => ?_)
    · have h := ifT c10 h
      obtain ⟨u11, eu11, h⟩ := letS_n h
      refine lv_iinc (v := u11) (lv' := [(1, .int u11), (0, .ref (a 79)), (2, .int x2)]) hx hb dX4_numberStates_96 hl (k := 1) rfl (by rw [eu11]; rfl) (by decide) rfl (fun ls hl => ?_)
      refine lv_goto (tgt := 39) hx hb dX4_numberStates_99 (by decide) ?_
      exact hk39 h hP hD hS (lv_sub hl [1, 0] rfl)
    · have h := ifF c10 h
      refine lv_aload_n hx hb dX4_numberStates_61 rfl (lv_at hl 0 rfl) ?_
      refine T_gfX4_19 C hP dX4_numberStates_62 ?_
      refine lv_iload_n hx hb dX4_numberStates_65 rfl (lv_at hl 1 rfl) ?_
      refine lv_bipush (v := (8 : Int32)) hx hb dX4_numberStates_66 (by decide) ?_
      refine lv_imul hx hb dX4_numberStates_68 ?_
      refine lv_iload_n hx hb dX4_numberStates_69 rfl (lv_at hl 2 rfl) ?_
      refine lv_iadd hx hb dX4_numberStates_70 ?_
      refine lv_aload_n hx hb dX4_numberStates_71 rfl (lv_at hl 0 rfl) ?_
      refine lv_aload_n hx hb dX4_numberStates_72 rfl (lv_at hl 0 rfl) ?_
      refine T_gfX4_9 C hP dX4_numberStates_73 ?_
      refine lv_aload_n hx hb dX4_numberStates_76 rfl (lv_at hl 0 rfl) ?_
      refine T_gfX4_36 C hP dX4_numberStates_77 ?_
      refine lv_iload_n hx hb dX4_numberStates_80 rfl (lv_at hl 1 rfl) ?_
      obtain ⟨g12, h⟩ := grd_s h
      refine T_ld77 C hP g12 dX4_numberStates_81 ?_
      refine lv_iload_n hx hb dX4_numberStates_82 rfl (lv_at hl 2 rfl) ?_
      obtain ⟨r14, σ13, hc, h⟩ := bnd_s h
      refine T_callNi (q0 := 10) (ci := 7) (As := [.int (gI σ 77 x1.toNatClampNeg), .int x2]) (rest := [.ref (a 79), .int ((x1 * (8 : Int32)) + x2), .ref (a 72)]) C hA (fun sz => kX3_lead hl0 sz hc) gX4_60 hP hD hS rfl rfl ⟨by decide, by decide⟩ ⟨rfl, rfl⟩ rfl hl.1 rfl (lv_room (Nat.le_of_ble_eq_true rfl)) dX4_numberStates_83 (fun H locs hP hD hS => ?_)
      obtain ⟨r16, σ15, hc, h⟩ := bnd_s h
      refine T_callVi (q0 := 14) (ci := 8) (As := [.int r14]) (rest := [.int ((x1 * (8 : Int32)) + x2), .ref (a 72)]) C hA (fun sz => kX4_stateOf hl0 sz hc) gX4_82 hP hD hS rfl rfl ⟨by decide, by decide⟩ ⟨rfl, rfl⟩ rfl hl.1 rfl (lv_room (Nat.le_of_ble_eq_true rfl)) dX4_numberStates_86 (fun H locs hP hD hS => ?_)
      obtain ⟨g17, h⟩ := grd_s h
      obtain ⟨σ18, eσ18, h⟩ := letS_n h
      refine T_st72 C hP hD hS g17 eσ18 dX4_numberStates_89 (fun H locs hP hD hS => ?_)
      obtain ⟨u19, eu19, h⟩ := letS_n h
      refine lv_iinc (v := u19) (lv' := [(2, .int u19), (0, .ref (a 79)), (1, .int x1)]) hx hb dX4_numberStates_90 hl (k := 2) rfl (by rw [eu19]; rfl) (by decide) rfl (fun ls hl => ?_)
      refine lv_goto (tgt := 55) hx hb dX4_numberStates_93 (by decide) ?_
      exact ih h hP hD hS (lv_sub hl [1, 2, 0] rfl)
set_option maxHeartbeats 4000000 in
set_option maxRecDepth 100000 in
theorem tX4_numberStates_39 {st : Nat → Nat} {p : Program} {l : Launch} {e : Env} {s : State} {m : MethodId} {args : Array Value} {below : List Frame} {meth : Method} {c : Code} {D : va_G} {a : Nat → Nat} {cc : Nat → ClassId} {A : Nat → Prop} {N : Nat} {σr : St} (C : T_Cx st l A RX4 p s m args meth c D cc cX4_numberStates (Cond.code yX4_numberStates cX4_numberStates 3 none :: WT) 3 none) (hA : ∀ q, s.heap.size ≤ q → A q) : ∀ (n : Nat) {σ : St} {x1 : Int32} {H : Heap} {locs : List Loc} {ls : Array Slot}, fX4_numberStates_39 N n σ x1 = some σr → va_P D vwCl (wT a cc σ) H → va_D A (wT a cc σ) → va_S A s.heap H locs → lv_has ls 3 [(0, .ref (a 79)), (1, .int x1)] → W p l e rmX4_numberStates s m args below meth c H locs 0 0 (T_Mv D a cc A below args s σr) (F0 m 39 ls []) := by
  obtain ⟨hx, hb, hr, hml, hown, hts, hin, hK, hlocks, hTS, hl0⟩ := id C
  intro n
  induction n with
  | zero => intro σ x1 H locs ls h; exact none_s h
  | succ n ih =>
    intro σ x1 H locs ls h hP hD hS hl
    refine lv_iload_n hx hb dX4_numberStates_39 rfl (lv_at hl 1 rfl) ?_
    refine lv_aload_n hx hb dX4_numberStates_40 rfl (lv_at hl 0 rfl) ?_
    refine T_gfX4_15 C hP dX4_numberStates_41 ?_
    refine lv_icmp_ge (tgt := 102) hx hb dX4_numberStates_44 (by decide) (fun c8 => ?_) (fun c8 => ?_)
    · have h := ifT c8 h
      exact T_vret C h hP hD hS dX4_numberStates_102
    · have h := ifF c8 h
      refine lv_iload_n hx hb dX4_numberStates_47 rfl (lv_at hl 1 rfl) ?_
      refine lv_bipush (v := (40 : Int32)) hx hb dX4_numberStates_48 (by decide) ?_
      refine lv_icmp_ge (tgt := 102) hx hb dX4_numberStates_50 (by decide) (fun c9 => ?_) (fun c9 => ?_)
      · have h := ifT c9 h
        exact T_vret C h hP hD hS dX4_numberStates_102
      · have h := ifF c9 h
        refine lv_iconst (v := (0 : Int32)) hx hb dX4_numberStates_53 (by decide) ?_
        refine lv_istore_n (lv' := [(2, .int (0 : Int32)), (0, .ref (a 79)), (1, .int x1)]) hx hb dX4_numberStates_54 rfl hl (by decide) rfl (fun ls hl => ?_)
        exact tX4_numberStates_55 C hA ih N h hP hD hS (lv_sub hl [1, 2, 0] rfl)
set_option maxHeartbeats 4000000 in
set_option maxRecDepth 100000 in
theorem tX4_numberStates_7 {st : Nat → Nat} {p : Program} {l : Launch} {e : Env} {s : State} {m : MethodId} {args : Array Value} {below : List Frame} {meth : Method} {c : Code} {D : va_G} {a : Nat → Nat} {cc : Nat → ClassId} {A : Nat → Prop} {N : Nat} {σr : St} (C : T_Cx st l A RX4 p s m args meth c D cc cX4_numberStates (Cond.code yX4_numberStates cX4_numberStates 3 none :: WT) 3 none) (hA : ∀ q, s.heap.size ≤ q → A q) : ∀ (n : Nat) {σ : St} {x1 : Int32} {H : Heap} {locs : List Loc} {ls : Array Slot}, fX4_numberStates_7 N n σ x1 = some σr → va_P D vwCl (wT a cc σ) H → va_D A (wT a cc σ) → va_S A s.heap H locs → lv_has ls 3 [(0, .ref (a 79)), (1, .int x1)] → W p l e rmX4_numberStates s m args below meth c H locs 0 0 (T_Mv D a cc A below args s σr) (F0 m 7 ls []) := by
  obtain ⟨hx, hb, hr, hml, hown, hts, hin, hK, hlocks, hTS, hl0⟩ := id C
  intro n
  induction n with
  | zero => intro σ x1 H locs ls h; exact none_s h
  | succ n ih =>
    intro σ x1 H locs ls h hP hD hS hl
    refine lv_iload_n hx hb dX4_numberStates_7 rfl (lv_at hl 1 rfl) ?_
    refine lv_aload_n hx hb dX4_numberStates_8 rfl (lv_at hl 0 rfl) ?_
    refine T_gfX4_9 C hP dX4_numberStates_9 ?_
    refine T_gfX4_48 C hP dX4_numberStates_12 ?_
    refine lv_icmp_ge (tgt := 31) hx hb dX4_numberStates_15 (by decide) (fun c2 => ?_) (fun c2 => ?_)
    · have h := ifT c2 h
      refine lv_aload_n hx hb dX4_numberStates_31 rfl (lv_at hl 0 rfl) ?_
      refine lv_iconst (v := (0 : Int32)) hx hb dX4_numberStates_32 (by decide) ?_
      obtain ⟨r4, σ3, hc, h⟩ := bnd_s h
      refine T_callVi (q0 := 14) (ci := 8) (As := [.int (0 : Int32)]) (rest := []) C hA (fun sz => kX4_stateOf hl0 sz hc) gX4_82 hP hD hS rfl rfl ⟨by decide, by decide⟩ ⟨rfl, rfl⟩ rfl hl.1 rfl (lv_room (Nat.le_of_ble_eq_true rfl)) dX4_numberStates_33 (fun H locs hP hD hS => ?_)
      refine lv_pop hx hb dX4_numberStates_36 rfl ?_
      refine lv_iconst (v := (0 : Int32)) hx hb dX4_numberStates_37 (by decide) ?_
      refine lv_istore_n (lv' := [(1, .int (0 : Int32)), (0, .ref (a 79))]) hx hb dX4_numberStates_38 rfl hl (by decide) rfl (fun ls hl => ?_)
      exact tX4_numberStates_39 C hA N h hP hD hS (lv_sub hl [1, 0] rfl)
    · have h := ifF c2 h
      refine lv_aload_n hx hb dX4_numberStates_18 rfl (lv_at hl 0 rfl) ?_
      refine T_gfX4_33 C hP dX4_numberStates_19 ?_
      refine lv_iload_n hx hb dX4_numberStates_22 rfl (lv_at hl 1 rfl) ?_
      refine lv_iconst (v := (-1 : Int32)) hx hb dX4_numberStates_23 (by decide) ?_
      obtain ⟨g5, h⟩ := grd_s h
      obtain ⟨σ6, eσ6, h⟩ := letS_n h
      refine T_st76 C hP hD hS g5 eσ6 dX4_numberStates_24 (fun H locs hP hD hS => ?_)
      obtain ⟨u7, eu7, h⟩ := letS_n h
      refine lv_iinc (v := u7) (lv' := [(1, .int u7), (0, .ref (a 79))]) hx hb dX4_numberStates_25 hl (k := 1) rfl (by rw [eu7]; rfl) (by decide) rfl (fun ls hl => ?_)
      refine lv_goto (tgt := 7) hx hb dX4_numberStates_28 (by decide) ?_
      exact ih h hP hD hS (lv_sub hl [1, 0] rfl)
set_option maxHeartbeats 4000000 in
set_option maxRecDepth 100000 in
theorem tX4_numberStates {st : Nat → Nat} {p : Program} {l : Launch} {e : Env} {s : State} {m : MethodId} {args : Array Value} {below : List Frame} {meth : Method} {c : Code} {D : va_G} {a : Nat → Nat} {cc : Nat → ClassId} {A : Nat → Prop} {N : Nat} {σr : St} (C : T_Cx st l A RX4 p s m args meth c D cc cX4_numberStates (Cond.code yX4_numberStates cX4_numberStates 3 none :: WT) 3 none) (hA : ∀ q, s.heap.size ≤ q → A q) {σ : St} {H : Heap} {locs : List Loc} {ls : Array Slot} (h : fX4_numberStates N σ = some σr) : va_P D vwCl (wT a cc σ) H → va_D A (wT a cc σ) → va_S A s.heap H locs → lv_has ls 3 [(0, .ref (a 79))] → W p l e rmX4_numberStates s m args below meth c H locs 0 0 (T_Mv D a cc A below args s σr) (F0 m 0 ls []) := by
  obtain ⟨hx, hb, hr, hml, hown, hts, hin, hK, hlocks, hTS, hl0⟩ := id C
  intro hP hD hS hl
  refine lv_aload_n hx hb dX4_numberStates_0 rfl (lv_at hl 0 rfl) ?_
  refine lv_iconst (v := (0 : Int32)) hx hb dX4_numberStates_1 (by decide) ?_
  obtain ⟨σ1, eσ1, h⟩ := letS_n h
  refine T_pfX4_15 C hP hD hS eσ1 dX4_numberStates_2 (fun H locs hP hD hS => ?_)
  refine lv_iconst (v := (0 : Int32)) hx hb dX4_numberStates_5 (by decide) ?_
  refine lv_istore_n (lv' := [(1, .int (0 : Int32)), (0, .ref (a 79))]) hx hb dX4_numberStates_6 rfl hl (by decide) rfl (fun ls hl => ?_)
  exact tX4_numberStates_7 C hA N h hP hD hS (lv_sub hl [1, 0] rfl)
set_option maxRecDepth 100000 in
theorem kX4_numberStates {l : Launch} (hl0 : l.stackTraces = false) (sz : Nat) {st : Nat → Nat} {D : va_G} {a : Nat → Nat} {cc : Nat → ClassId} {N : Nat} {σr : St} {σ : St} (h : fX4_numberStates N σ = some σr) : Met l yX4_numberStates ((Cond.code yX4_numberStates cX4_numberStates 3 none :: WT)) rmX4_numberStates (T_Pc st D a cc [.ref (a 79)] σ sz) (T_Qv D a cc σ sz σr) 0 0 (va_A (wT a cc σ) sz) := by
  refine Met.ofW (cc := cX4_numberStates) (maxL := 3) (ret := none) (by decide) rfl ?_
  intro p e s m args below meth c s₁ B hml hv
  obtain ⟨rfl, hsz, hP, hK, hD0, hTS⟩ := hv
  subst hsz
  have hl := lv_entry ([.ref (a 79)]) (n := 3) (Nat.le_of_ble_eq_true rfl)
  rw [lg_entry_eq]
  generalize (lg_sl ([.ref (a 79)]) ++ List.replicate (3 - (lg_sl ([.ref (a 79)])).length) Slot.unset).toArray = ls at hl ⊢
  exact tX4_numberStates ⟨B.exec, B.bytes, B.returns, hml, findClass_of_methodNamed B.named, atoms_spec (ws := (Cond.code yX4_numberStates cX4_numberStates 3 none :: WT)) B.pre, (fun w h => List.mem_cons_of_mem _ h), hK, B.notSynchronized, hTS, hl0⟩ (fun q h => Or.inr h) h hP hD0.self va_S.rf hl
set_option maxHeartbeats 4000000 in
set_option maxRecDepth 100000 in
theorem tX4_build {st : Nat → Nat} {p : Program} {l : Launch} {e : Env} {s : State} {m : MethodId} {args : Array Value} {below : List Frame} {meth : Method} {c : Code} {D : va_G} {a : Nat → Nat} {cc : Nat → ClassId} {A : Nat → Prop} {N : Nat} {σr : St} (C : T_Cx st l A RX4 p s m args meth c D cc cX4_build (Cond.code yX4_build cX4_build 1 none :: WT) 1 none) (hA : ∀ q, s.heap.size ≤ q → A q) {σ : St} {H : Heap} {locs : List Loc} {ls : Array Slot} (h : fX4_build N σ = some σr) : va_P D vwCl (wT a cc σ) H → va_D A (wT a cc σ) → va_S A s.heap H locs → lv_has ls 1 [(0, .ref (a 79))] → W p l e rmX4_build s m args below meth c H locs 0 0 (T_Mv D a cc A below args s σr) (F0 m 0 ls []) := by
  obtain ⟨hx, hb, hr, hml, hown, hts, hin, hK, hlocks, hTS, hl0⟩ := id C
  intro hP hD hS hl
  refine lv_aload_n hx hb dX4_build_0 rfl (lv_at hl 0 rfl) ?_
  obtain ⟨σ1, hc, h⟩ := bnd1_s h
  refine T_callVv (q0 := 14) (ci := 8) (As := []) (rest := []) C hA (fun sz => kX4_markFailing hl0 sz hc) gX4_39 hP hD hS rfl rfl ⟨by decide, by decide⟩ ⟨rfl, rfl⟩ rfl hl.1 rfl (lv_room (Nat.le_of_ble_eq_true rfl)) dX4_build_1 (fun H locs hP hD hS => ?_)
  refine lv_aload_n hx hb dX4_build_4 rfl (lv_at hl 0 rfl) ?_
  obtain ⟨σ2, hc, h⟩ := bnd1_s h
  refine T_callVv (q0 := 14) (ci := 8) (As := []) (rest := []) C hA (fun sz => kX4_groupConditions hl0 sz hc) gX4_42 hP hD hS rfl rfl ⟨by decide, by decide⟩ ⟨rfl, rfl⟩ rfl hl.1 rfl (lv_room (Nat.le_of_ble_eq_true rfl)) dX4_build_5 (fun H locs hP hD hS => ?_)
  refine lv_aload_n hx hb dX4_build_8 rfl (lv_at hl 0 rfl) ?_
  obtain ⟨σ3, hc, h⟩ := bnd1_s h
  refine T_callVv (q0 := 14) (ci := 8) (As := []) (rest := []) C hA (fun sz => kX4_numberStates hl0 sz hc) gX4_45 hP hD hS rfl rfl ⟨by decide, by decide⟩ ⟨rfl, rfl⟩ rfl hl.1 rfl (lv_room (Nat.le_of_ble_eq_true rfl)) dX4_build_9 (fun H locs hP hD hS => ?_)
  exact T_vret C h hP hD hS dX4_build_12
set_option maxRecDepth 100000 in
theorem kX4_build {l : Launch} (hl0 : l.stackTraces = false) (sz : Nat) {st : Nat → Nat} {D : va_G} {a : Nat → Nat} {cc : Nat → ClassId} {N : Nat} {σr : St} {σ : St} (h : fX4_build N σ = some σr) : Met l yX4_build ((Cond.code yX4_build cX4_build 1 none :: WT)) rmX4_build (T_Pc st D a cc [.ref (a 79)] σ sz) (T_Qv D a cc σ sz σr) 0 0 (va_A (wT a cc σ) sz) := by
  refine Met.ofW (cc := cX4_build) (maxL := 1) (ret := none) (by decide) rfl ?_
  intro p e s m args below meth c s₁ B hml hv
  obtain ⟨rfl, hsz, hP, hK, hD0, hTS⟩ := hv
  subst hsz
  have hl := lv_entry ([.ref (a 79)]) (n := 1) (Nat.le_of_ble_eq_true rfl)
  rw [lg_entry_eq]
  generalize (lg_sl ([.ref (a 79)]) ++ List.replicate (1 - (lg_sl ([.ref (a 79)])).length) Slot.unset).toArray = ls at hl ⊢
  exact tX4_build ⟨B.exec, B.bytes, B.returns, hml, findClass_of_methodNamed B.named, atoms_spec (ws := (Cond.code yX4_build cX4_build 1 none :: WT)) B.pre, (fun w h => List.mem_cons_of_mem _ h), hK, B.notSynchronized, hTS, hl0⟩ (fun q h => Or.inr h) h hP hD0.self va_S.rf hl
set_option maxHeartbeats 4000000 in
set_option maxRecDepth 100000 in
theorem tX6_require {st : Nat → Nat} {p : Program} {l : Launch} {e : Env} {s : State} {m : MethodId} {args : Array Value} {below : List Frame} {meth : Method} {c : Code} {D : va_G} {a : Nat → Nat} {cc : Nat → ClassId} {A : Nat → Prop} {N : Nat} {x r : Int32} {σr : St} (C : T_Cx st l A RX6 p s m args meth c D cc cX6_require (Cond.code yX6_require cX6_require 2 none :: WT) 2 none) (hA : ∀ q, s.heap.size ≤ q → A q) (hxt : ∀ x ∈ c.exceptionTable.toList, False) {σ : St} {p0 : Int32} {H : Heap} {locs : List Loc} {ls : Array Slot} (h : fX6_require N σ p0 = some (x, r, σr)) : va_P D vwCl (wT a cc σ) H → va_D A (wT a cc σ) → va_S A s.heap H locs → lv_has ls 2 [(0, .ref (a 49)), (1, .int p0)] → W p l e rmX6_require s m args below meth c H locs 0 0 (T_Mxv D a cc A below args s x r σr) (F0 m 0 ls []) := by
  obtain ⟨hx, hb, hr, hml, hown, hts, hin, hK, hlocks, hTS, hl0⟩ := id C
  intro hP hD hS hl
  refine lv_iload_n hx hb dX6_require_0 rfl (lv_at hl 1 rfl) ?_
  refine lv_if_ne (tgt := 22) hx hb dX6_require_1 (by decide) (fun c1 => ?_) (fun c1 => ?_)
  · have h := ifF c1 h
    exact T_xvret C h hP hD hS dX6_require_22
  · have h := ifT c1 h
    refine lv_aload_n hx hb dX6_require_4 rfl (lv_at hl 0 rfl) ?_
    refine lv_aload_n hx hb dX6_require_5 rfl (lv_at hl 0 rfl) ?_
    refine T_gfX6_23 C hP dX6_require_6 ?_
    obtain ⟨σ2, eσ2, h⟩ := letS_n h
    refine T_pfX6_26 C hP hD hS eσ2 dX6_require_9 (fun H locs hP hD hS => ?_)
    exact T_throwX6_46_48 C hA hxt h hP hD hS hl.1 ⟨by decide, by decide, by decide, by decide⟩ dX6_require_12 dX6_require_15 dX6_require_16 dX6_require_18 dX6_require_21
set_option maxRecDepth 100000 in
theorem kX6_require {l : Launch} (hl0 : l.stackTraces = false) (sz : Nat) {st : Nat → Nat} {D : va_G} {a : Nat → Nat} {cc : Nat → ClassId} {N : Nat} {x r : Int32} {σr : St} {σ : St} {p0 : Int32} (h : fX6_require N σ p0 = some (x, r, σr)) : vy_Met l yX6_require ((Cond.code yX6_require cX6_require 2 none :: WT)) rmX6_require (T_Pc st D a cc [.ref (a 49), .int p0] σ sz) (T_Rxv D a cc (va_A (wT a cc σ) sz) x r σr) (T_X D a cc (va_A (wT a cc σ) sz) x σr) (va_A (wT a cc σ) sz) := by
  refine vy_ofW (cc := cX6_require) (maxL := 2) (ret := none) (by decide) rfl ?_
  intro p e s m args below meth c s₁ B hml hxt hv
  obtain ⟨rfl, hsz, hP, hK, hD0, hTS⟩ := hv
  subst hsz
  have hl := lv_entry ([.ref (a 49), .int p0]) (n := 2) (Nat.le_of_ble_eq_true rfl)
  rw [lg_entry_eq]
  generalize (lg_sl ([.ref (a 49), .int p0]) ++ List.replicate (2 - (lg_sl ([.ref (a 49), .int p0])).length) Slot.unset).toArray = ls at hl ⊢
  exact tX6_require ⟨B.exec, B.bytes, B.returns, hml, findClass_of_methodNamed B.named, atoms_spec (ws := (Cond.code yX6_require cX6_require 2 none :: WT)) B.pre, (fun w h => List.mem_cons_of_mem _ h), hK, B.notSynchronized, hTS, hl0⟩ (fun q h => Or.inr h) hxt h hP hD0.self va_S.rf hl
set_option maxHeartbeats 4000000 in
set_option maxRecDepth 100000 in
theorem tX6_peek {st : Nat → Nat} {p : Program} {l : Launch} {e : Env} {s : State} {m : MethodId} {args : Array Value} {below : List Frame} {meth : Method} {c : Code} {D : va_G} {a : Nat → Nat} {cc : Nat → ClassId} {A : Nat → Prop} {N : Nat} {r : Int32} {σr : St} (C : T_Cx st l A RX6 p s m args meth c D cc cX6_peek (Cond.code yX6_peek cX6_peek 1 (some .char) :: WT) 1 (some .char)) (hA : ∀ q, s.heap.size ≤ q → A q) {σ : St} {H : Heap} {locs : List Loc} {ls : Array Slot} (h : fX6_peek N σ = some (r, σr)) : va_P D vwCl (wT a cc σ) H → va_D A (wT a cc σ) → va_S A s.heap H locs → lv_has ls 1 [(0, .ref (a 49))] → W p l e rmX6_peek s m args below meth c H locs 0 0 (T_Mi D a cc A below args s r σr) (F0 m 0 ls []) := by
  obtain ⟨hx, hb, hr, hml, hown, hts, hin, hK, hlocks, hTS, hl0⟩ := id C
  intro hP hD hS hl
  refine lv_aload_n hx hb dX6_peek_0 rfl (lv_at hl 0 rfl) ?_
  refine T_gfX6_23 C hP dX6_peek_1 ?_
  refine lv_aload_n hx hb dX6_peek_4 rfl (lv_at hl 0 rfl) ?_
  refine T_gfX6_19 C hP dX6_peek_5 ?_
  refine lv_icmp_ge (tgt := 23) hx hb dX6_peek_8 (by decide) (fun c1 => ?_) (fun c1 => ?_)
  · have h := ifT c1 h
    refine lv_iconst (v := (0 : Int32)) hx hb dX6_peek_23 (by decide) ?_
    exact T_zretC C h hP hD hS dX6_peek_24
  · have h := ifF c1 h
    refine lv_aload_n hx hb dX6_peek_11 rfl (lv_at hl 0 rfl) ?_
    refine T_gfX6_9 C hP dX6_peek_12 ?_
    refine lv_aload_n hx hb dX6_peek_15 rfl (lv_at hl 0 rfl) ?_
    refine T_gfX6_23 C hP dX6_peek_16 ?_
    obtain ⟨g2, h⟩ := grd_s h
    refine T_ld0 C hP g2 dX6_peek_19 ?_
    refine lv_goto (tgt := 24) hx hb dX6_peek_20 (by decide) ?_
    exact T_zretC C h hP hD hS dX6_peek_24
set_option maxRecDepth 100000 in
theorem kX6_peek {l : Launch} (hl0 : l.stackTraces = false) (sz : Nat) {st : Nat → Nat} {D : va_G} {a : Nat → Nat} {cc : Nat → ClassId} {N : Nat} {r : Int32} {σr : St} {σ : St} (h : fX6_peek N σ = some (r, σr)) : Met l yX6_peek ((Cond.code yX6_peek cX6_peek 1 (some .char) :: WT)) rmX6_peek (T_Pc st D a cc [.ref (a 49)] σ sz) (T_Qi D a cc σ sz r σr) 0 0 (va_A (wT a cc σ) sz) := by
  refine Met.ofW (cc := cX6_peek) (maxL := 1) (ret := (some .char)) (by decide) rfl ?_
  intro p e s m args below meth c s₁ B hml hv
  obtain ⟨rfl, hsz, hP, hK, hD0, hTS⟩ := hv
  subst hsz
  have hl := lv_entry ([.ref (a 49)]) (n := 1) (Nat.le_of_ble_eq_true rfl)
  rw [lg_entry_eq]
  generalize (lg_sl ([.ref (a 49)]) ++ List.replicate (1 - (lg_sl ([.ref (a 49)])).length) Slot.unset).toArray = ls at hl ⊢
  exact tX6_peek ⟨B.exec, B.bytes, B.returns, hml, findClass_of_methodNamed B.named, atoms_spec (ws := (Cond.code yX6_peek cX6_peek 1 (some .char) :: WT)) B.pre, (fun w h => List.mem_cons_of_mem _ h), hK, B.notSynchronized, hTS, hl0⟩ (fun q h => Or.inr h) h hP hD0.self va_S.rf hl
set_option maxHeartbeats 4000000 in
set_option maxRecDepth 100000 in
theorem tX6_pass_14 {st : Nat → Nat} {p : Program} {l : Launch} {e : Env} {s : State} {m : MethodId} {args : Array Value} {below : List Frame} {meth : Method} {c : Code} {D : va_G} {a : Nat → Nat} {cc : Nat → ClassId} {A : Nat → Prop} {N : Nat} {x r : Int32} {σr : St} (C : T_Cx st l A RX6 p s m args meth c D cc cX6_pass (Cond.code yX6_pass cX6_pass 2 none :: WT) 2 none) (hA : ∀ q, s.heap.size ≤ q → A q) (hxt : ∀ x ∈ c.exceptionTable.toList, False) {σ : St} {y0 : Int32} {H : Heap} {locs : List Loc} {ls : Array Slot} (h : fX6_pass_14 N σ y0 = some (x, r, σr)) : va_P D vwCl (wT a cc σ) H → va_D A (wT a cc σ) → va_S A s.heap H locs → lv_has ls 2 [(0, .ref (a 49))] → W p l e rmX6_pass s m args below meth c H locs 0 0 (T_Mxv D a cc A below args s x r σr) (F0 m 14 ls [.int y0, .ref (a 49)]) := by
  obtain ⟨hx, hb, hr, hml, hown, hts, hin, hK, hlocks, hTS, hl0⟩ := id C
  intro hP hD hS hl
  obtain ⟨v5, r6, σ4, hc, h1, h2⟩ := bndX_s h
  refine T_callXVv (q0 := 6) (ci := 10) (As := [.int y0]) (rest := []) C hA hxt (fun sz => kX6_require hl0 sz hc) gX6_38 hP hD hS h2 rfl rfl ⟨by decide, by decide⟩ ⟨by decide, by decide⟩ ⟨rfl, rfl⟩ rfl hl.1 rfl (lv_room (Nat.le_of_ble_eq_true rfl)) dX6_pass_14 (fun ev5 H locs hP hD hS => ?_)
  have h := h1 ev5
  refine lv_aload_n hx hb dX6_pass_17 rfl (lv_at hl 0 rfl) ?_
  refine lv_dup hx hb dX6_pass_18 rfl ?_
  refine T_gfX6_23 C hP dX6_pass_19 ?_
  refine lv_iconst (v := (1 : Int32)) hx hb dX6_pass_22 (by decide) ?_
  refine lv_iadd hx hb dX6_pass_23 ?_
  obtain ⟨σ7, eσ7, h⟩ := letS_n h
  refine T_pfX6_23 C hP hD hS eσ7 dX6_pass_24 (fun H locs hP hD hS => ?_)
  exact T_xvret C h hP hD hS dX6_pass_27
set_option maxHeartbeats 4000000 in
set_option maxRecDepth 100000 in
theorem tX6_pass {st : Nat → Nat} {p : Program} {l : Launch} {e : Env} {s : State} {m : MethodId} {args : Array Value} {below : List Frame} {meth : Method} {c : Code} {D : va_G} {a : Nat → Nat} {cc : Nat → ClassId} {A : Nat → Prop} {N : Nat} {x r : Int32} {σr : St} (C : T_Cx st l A RX6 p s m args meth c D cc cX6_pass (Cond.code yX6_pass cX6_pass 2 none :: WT) 2 none) (hA : ∀ q, s.heap.size ≤ q → A q) (hxt : ∀ x ∈ c.exceptionTable.toList, False) {σ : St} {p0 : Int32} {H : Heap} {locs : List Loc} {ls : Array Slot} (h : fX6_pass N σ p0 = some (x, r, σr)) : va_P D vwCl (wT a cc σ) H → va_D A (wT a cc σ) → va_S A s.heap H locs → lv_has ls 2 [(0, .ref (a 49)), (1, .int p0)] → W p l e rmX6_pass s m args below meth c H locs 0 0 (T_Mxv D a cc A below args s x r σr) (F0 m 0 ls []) := by
  obtain ⟨hx, hb, hr, hml, hown, hts, hin, hK, hlocks, hTS, hl0⟩ := id C
  intro hP hD hS hl
  refine lv_aload_n hx hb dX6_pass_0 rfl (lv_at hl 0 rfl) ?_
  refine lv_aload_n hx hb dX6_pass_1 rfl (lv_at hl 0 rfl) ?_
  obtain ⟨r2, σ1, hc, h⟩ := bnd_s h
  refine T_callVi (q0 := 6) (ci := 10) (As := []) (rest := [.ref (a 49)]) C hA (fun sz => kX6_peek hl0 sz hc) gX6_53 hP hD hS rfl rfl ⟨by decide, by decide⟩ ⟨rfl, rfl⟩ rfl hl.1 rfl (lv_room (Nat.le_of_ble_eq_true rfl)) dX6_pass_2 (fun H locs hP hD hS => ?_)
  refine lv_iload_n hx hb dX6_pass_5 rfl (lv_at hl 1 rfl) ?_
  refine lv_icmp_ne (tgt := 13) hx hb dX6_pass_6 (by decide) (fun c3 => ?_) (fun c3 => ?_)
  · have h := ifF c3 h
    refine lv_iconst (v := (0 : Int32)) hx hb dX6_pass_13 (by decide) ?_
    exact tX6_pass_14 C hA hxt h hP hD hS (lv_sub hl [0] rfl)
  · have h := ifT c3 h
    refine lv_iconst (v := (1 : Int32)) hx hb dX6_pass_9 (by decide) ?_
    refine lv_goto (tgt := 14) hx hb dX6_pass_10 (by decide) ?_
    exact tX6_pass_14 C hA hxt h hP hD hS (lv_sub hl [0] rfl)
set_option maxRecDepth 100000 in
theorem kX6_pass {l : Launch} (hl0 : l.stackTraces = false) (sz : Nat) {st : Nat → Nat} {D : va_G} {a : Nat → Nat} {cc : Nat → ClassId} {N : Nat} {x r : Int32} {σr : St} {σ : St} {p0 : Int32} (h : fX6_pass N σ p0 = some (x, r, σr)) : vy_Met l yX6_pass ((Cond.code yX6_pass cX6_pass 2 none :: WT)) rmX6_pass (T_Pc st D a cc [.ref (a 49), .int p0] σ sz) (T_Rxv D a cc (va_A (wT a cc σ) sz) x r σr) (T_X D a cc (va_A (wT a cc σ) sz) x σr) (va_A (wT a cc σ) sz) := by
  refine vy_ofW (cc := cX6_pass) (maxL := 2) (ret := none) (by decide) rfl ?_
  intro p e s m args below meth c s₁ B hml hxt hv
  obtain ⟨rfl, hsz, hP, hK, hD0, hTS⟩ := hv
  subst hsz
  have hl := lv_entry ([.ref (a 49), .int p0]) (n := 2) (Nat.le_of_ble_eq_true rfl)
  rw [lg_entry_eq]
  generalize (lg_sl ([.ref (a 49), .int p0]) ++ List.replicate (2 - (lg_sl ([.ref (a 49), .int p0])).length) Slot.unset).toArray = ls at hl ⊢
  exact tX6_pass ⟨B.exec, B.bytes, B.returns, hml, findClass_of_methodNamed B.named, atoms_spec (ws := (Cond.code yX6_pass cX6_pass 2 none :: WT)) B.pre, (fun w h => List.mem_cons_of_mem _ h), hK, B.notSynchronized, hTS, hl0⟩ (fun q h => Or.inr h) hxt h hP hD0.self va_S.rf hl
def T_rec (st : Nat → Nat) (l : Launch) (D : va_G) (a : Nat → Nat) (cc : Nat → ClassId) (rec : Nat → St → Int32 → Option (Int32 × Int32 × St)) (d : Nat) : Prop :=
  (∀ (sz : Nat) {σ : St} {x r : Int32} {σr : St} {p0 : Int32}, rec 0 σ p0 = some (x, r, σr) → vy_Met l yX6_readProperty (Cond.code yX6_readProperty cX6_readProperty 2 (some .int) :: WT) (RMd d) (T_Pc st D a cc [.ref (a 49), .int p0] σ sz) (T_Rxi D a cc (va_A (wT a cc σ) sz) x r σr) (T_X D a cc (va_A (wT a cc σ) sz) x σr) (va_A (wT a cc σ) sz)) ∧
  (∀ (sz : Nat) {σ : St} {x r : Int32} {σr : St} {p0 : Int32}, rec 1 σ p0 = some (x, r, σr) → vy_Met l yX6_readAlways (Cond.code yX6_readAlways cX6_readAlways 4 (some .int) :: WT) (RMd d) (T_Pc st D a cc [.ref (a 49), .int p0] σ sz) (T_Rxi D a cc (va_A (wT a cc σ) sz) x r σr) (T_X D a cc (va_A (wT a cc σ) sz) x σr) (va_A (wT a cc σ) sz)) ∧
  (∀ (sz : Nat) {σ : St} {x r : Int32} {σr : St} {p0 : Int32}, rec 2 σ p0 = some (x, r, σr) → vy_Met l yX6_readBehind (Cond.code yX6_readBehind cX6_readBehind 3 (some .int) :: WT) (RMd d) (T_Pc st D a cc [.ref (a 49), .int p0] σ sz) (T_Rxi D a cc (va_A (wT a cc σ) sz) x r σr) (T_X D a cc (va_A (wT a cc σ) sz) x σr) (va_A (wT a cc σ) sz)) ∧
  (∀ (sz : Nat) {σ : St} {x r : Int32} {σr : St} {p0 : Int32}, rec 3 σ p0 = some (x, r, σr) → vy_Met l yX6_readPair (Cond.code yX6_readPair cX6_readPair 6 (some .int) :: WT) (RMd d) (T_Pc st D a cc [.ref (a 49), .int p0] σ sz) (T_Rxi D a cc (va_A (wT a cc σ) sz) x r σr) (T_X D a cc (va_A (wT a cc σ) sz) x σr) (va_A (wT a cc σ) sz)) ∧
  (∀ (sz : Nat) {σ : St} {x r : Int32} {σr : St} {p0 : Int32}, rec 4 σ p0 = some (x, r, σr) → vy_Met l yX6_readRule (Cond.code yX6_readRule cX6_readRule 10 (some .int) :: WT) (RMd d) (T_Pc st D a cc [.ref (a 49), .int p0] σ sz) (T_Rxi D a cc (va_A (wT a cc σ) sz) x r σr) (T_X D a cc (va_A (wT a cc σ) sz) x σr) (va_A (wT a cc σ) sz)) ∧
  (∀ (sz : Nat) {σ : St} {x r : Int32} {σr : St} {p0 : Int32}, rec 5 σ p0 = some (x, r, σr) → vy_Met l yX6_readSequence (Cond.code yX6_readSequence cX6_readSequence 5 none :: WT) (RMd d) (T_Pc st D a cc [.ref (a 49), .int p0] σ sz) (T_Rxv D a cc (va_A (wT a cc σ) sz) x r σr) (T_X D a cc (va_A (wT a cc σ) sz) x σr) (va_A (wT a cc σ) sz)) ∧
  (∀ (sz : Nat) {σ : St} {x r : Int32} {σr : St} {p0 : Int32}, rec 6 σ p0 = some (x, r, σr) → vy_Met l yX6_readTerm (Cond.code yX6_readTerm cX6_readTerm 5 none :: WT) (RMd d) (T_Pc st D a cc [.ref (a 49), .int p0] σ sz) (T_Rxv D a cc (va_A (wT a cc σ) sz) x r σr) (T_X D a cc (va_A (wT a cc σ) sz) x σr) (va_A (wT a cc σ) sz)) ∧
  (∀ (sz : Nat) {σ : St} {x r : Int32} {σr : St} {p0 : Int32}, rec 7 σ p0 = some (x, r, σr) → vy_Met l yX6_readUnit (Cond.code yX6_readUnit cX6_readUnit 5 none :: WT) (RMd d) (T_Pc st D a cc [.ref (a 49), .int p0] σ sz) (T_Rxv D a cc (va_A (wT a cc σ) sz) x r σr) (T_X D a cc (va_A (wT a cc σ) sz) x σr) (va_A (wT a cc σ) sz)) ∧
  (∀ (sz : Nat) {σ : St} {x r : Int32} {σr : St} {p0 : Int32}, rec 8 σ p0 = some (x, r, σr) → vy_Met l yX6_readBoolean (Cond.code yX6_readBoolean cX6_readBoolean 4 (some .int) :: WT) (RMd d) (T_Pc st D a cc [.ref (a 49), .int p0] σ sz) (T_Rxi D a cc (va_A (wT a cc σ) sz) x r σr) (T_X D a cc (va_A (wT a cc σ) sz) x σr) (va_A (wT a cc σ) sz)) ∧
  (∀ (sz : Nat) {σ : St} {x r : Int32} {σr : St} {p0 : Int32}, rec 9 σ p0 = some (x, r, σr) → vy_Met l yX6_readBooleanPair (Cond.code yX6_readBooleanPair cX6_readBooleanPair 5 (some .int) :: WT) (RMd d) (T_Pc st D a cc [.ref (a 49), .int p0] σ sz) (T_Rxi D a cc (va_A (wT a cc σ) sz) x r σr) (T_X D a cc (va_A (wT a cc σ) sz) x σr) (va_A (wT a cc σ) sz))
set_option maxHeartbeats 4000000 in
set_option maxRecDepth 100000 in
theorem tX6_readAlways {st : Nat → Nat} {p : Program} {l : Launch} {e : Env} {s : State} {m : MethodId} {args : Array Value} {below : List Frame} {meth : Method} {c : Code} {D : va_G} {a : Nat → Nat} {cc : Nat → ClassId} {A : Nat → Prop} {N : Nat} {rec : Nat → St → Int32 → Option (Int32 × Int32 × St)} {d : Nat} {x r : Int32} {σr : St} (C : T_Cx st l A RX6 p s m args meth c D cc cX6_readAlways (Cond.code yX6_readAlways cX6_readAlways 4 (some .int) :: WT) 4 (some .int)) (hA : ∀ q, s.heap.size ≤ q → A q) (hxt : ∀ x ∈ c.exceptionTable.toList, False) (hrec : T_rec st l D a cc rec d) {σ : St} {p0 : Int32} {H : Heap} {locs : List Loc} {ls : Array Slot} (h : fX6_readAlways N rec σ p0 = some (x, r, σr)) : va_P D vwCl (wT a cc σ) H → va_D A (wT a cc σ) → va_S A s.heap H locs → lv_has ls 4 [(0, .ref (a 49)), (1, .int p0)] → W p l e (RMd (d + 1)) s m args below meth c H locs 0 0 (T_Mxi D a cc A below args s x r σr) (F0 m 0 ls []) := by
  obtain ⟨hx, hb, hr, hml, hown, hts, hin, hK, hlocks, hTS, hl0⟩ := id C
  intro hP hD hS hl
  refine lv_aload_n hx hb dX6_readAlways_0 rfl (lv_at hl 0 rfl) ?_
  refine lv_bipush (v := (71 : Int32)) hx hb dX6_readAlways_1 (by decide) ?_
  obtain ⟨v2, r3, σ1, hc, h1, h2⟩ := bndX_s h
  refine T_callXVv (q0 := 6) (ci := 10) (As := [.int (71 : Int32)]) (rest := []) C hA hxt (fun sz => kX6_pass hl0 sz hc) gX6_75 hP hD hS h2 rfl rfl ⟨by show 8 + 1 ≤ 20 + (d + 1); omega, by show 8 + (2 + 11) + 131 ≤ 400 + 45 * (d + 1); omega⟩ ⟨by simp [RMd], by simp [RMd]⟩ ⟨rfl, rfl⟩ rfl hl.1 rfl (lv_room (Nat.le_of_ble_eq_true rfl)) dX6_readAlways_3 (fun ev2 H locs hP hD hS => ?_)
  have h := h1 ev2
  refine lv_aload_n hx hb dX6_readAlways_6 rfl (lv_at hl 0 rfl) ?_
  refine lv_iload_n hx hb dX6_readAlways_7 rfl (lv_at hl 1 rfl) ?_
  refine lv_iconst (v := (1 : Int32)) hx hb dX6_readAlways_8 (by decide) ?_
  refine lv_iadd hx hb dX6_readAlways_9 ?_
  obtain ⟨v6, r5, σ4, hc, h1, h2⟩ := bndX_s h
  refine T_callXVi (q0 := 6) (ci := 10) (As := [.int (p0 + (1 : Int32))]) (rest := []) C hA hxt (fun sz => hrec.1 sz hc) gX6_34 hP hD hS h2 rfl rfl ⟨by simp only [RMd]; omega, by simp only [RMd]; omega⟩ ⟨by simp [RMd], by simp [RMd]⟩ ⟨rfl, rfl⟩ rfl hl.1 rfl (lv_room (Nat.le_of_ble_eq_true rfl)) dX6_readAlways_10 (fun ev6 H locs hP hD hS => ?_)
  have h := h1 ev6
  refine lv_istore_n (lv' := [(2, .int r5), (0, .ref (a 49)), (1, .int p0)]) hx hb dX6_readAlways_13 rfl hl (by decide) rfl (fun ls hl => ?_)
  refine lv_aload_n hx hb dX6_readAlways_14 rfl (lv_at hl 1 rfl) ?_
  refine T_gfX6_15 C hP dX6_readAlways_15 ?_
  refine lv_bipush (v := (71 : Int32)) hx hb dX6_readAlways_18 (by decide) ?_
  refine lv_iload_n hx hb dX6_readAlways_20 rfl (lv_at hl 0 rfl) ?_
  refine lv_iconst (v := (-1 : Int32)) hx hb dX6_readAlways_21 (by decide) ?_
  obtain ⟨r8, σ7, hc, h⟩ := bnd_s h
  refine T_callNi (q0 := 2) (ci := 5) (As := [.int (71 : Int32), .int r5, .int (-1 : Int32)]) (rest := []) C hA (fun sz => kX1_add hl0 sz hc) gX6_79 hP hD hS rfl rfl ⟨by show 0 + 1 ≤ 20 + (d + 1); omega, by show 8 + (5 + 11) + 0 ≤ 400 + 45 * (d + 1); omega⟩ ⟨rfl, rfl⟩ rfl hl.1 rfl (lv_room (Nat.le_of_ble_eq_true rfl)) dX6_readAlways_22 (fun H locs hP hD hS => ?_)
  refine lv_istore_n (lv' := [(3, .int r8), (2, .int r5), (0, .ref (a 49)), (1, .int p0)]) hx hb dX6_readAlways_25 rfl hl (by decide) rfl (fun ls hl => ?_)
  refine lv_aload_n hx hb dX6_readAlways_26 rfl (lv_at hl 2 rfl) ?_
  refine T_gfX6_15 C hP dX6_readAlways_27 ?_
  refine lv_iload_n hx hb dX6_readAlways_30 rfl (lv_at hl 0 rfl) ?_
  obtain ⟨σ9, hc, h⟩ := bnd1_s h
  refine T_callNv (q0 := 2) (ci := 5) (As := [.int r8]) (rest := []) C hA (fun sz => kX1_oblige hl0 sz hc) gX6_42 hP hD hS rfl rfl ⟨by show 1 + 1 ≤ 20 + (d + 1); omega, by show 8 + (2 + 11) + 20 ≤ 400 + 45 * (d + 1); omega⟩ ⟨rfl, rfl⟩ rfl hl.1 rfl (lv_room (Nat.le_of_ble_eq_true rfl)) dX6_readAlways_31 (fun H locs hP hD hS => ?_)
  refine lv_iload_n hx hb dX6_readAlways_34 rfl (lv_at hl 0 rfl) ?_
  exact T_xiret C h hP hD hS dX6_readAlways_35
set_option maxRecDepth 100000 in
theorem kX6_readAlways {l : Launch} (hl0 : l.stackTraces = false) (sz : Nat) {st : Nat → Nat} {D : va_G} {a : Nat → Nat} {cc : Nat → ClassId} {N : Nat} {rec : Nat → St → Int32 → Option (Int32 × Int32 × St)} {d : Nat} {x r : Int32} {σr : St} (hrec : T_rec st l D a cc rec d) {σ : St} {p0 : Int32} (h : fX6_readAlways N rec σ p0 = some (x, r, σr)) : vy_Met l yX6_readAlways ((Cond.code yX6_readAlways cX6_readAlways 4 (some .int) :: WT)) (RMd (d + 1)) (T_Pc st D a cc [.ref (a 49), .int p0] σ sz) (T_Rxi D a cc (va_A (wT a cc σ) sz) x r σr) (T_X D a cc (va_A (wT a cc σ) sz) x σr) (va_A (wT a cc σ) sz) := by
  refine vy_ofW (cc := cX6_readAlways) (maxL := 4) (ret := (some .int)) (by decide) rfl ?_
  intro p e s m args below meth c s₁ B hml hxt hv
  obtain ⟨rfl, hsz, hP, hK, hD0, hTS⟩ := hv
  subst hsz
  have hl := lv_entry ([.ref (a 49), .int p0]) (n := 4) (Nat.le_of_ble_eq_true rfl)
  rw [lg_entry_eq]
  generalize (lg_sl ([.ref (a 49), .int p0]) ++ List.replicate (4 - (lg_sl ([.ref (a 49), .int p0])).length) Slot.unset).toArray = ls at hl ⊢
  exact tX6_readAlways ⟨B.exec, B.bytes, B.returns, hml, findClass_of_methodNamed B.named, atoms_spec (ws := (Cond.code yX6_readAlways cX6_readAlways 4 (some .int) :: WT)) B.pre, (fun w h => List.mem_cons_of_mem _ h), hK, B.notSynchronized, hTS, hl0⟩ (fun q h => Or.inr h) hxt hrec h hP hD0.self va_S.rf hl
set_option maxHeartbeats 4000000 in
set_option maxRecDepth 100000 in
theorem tX6_readBehind {st : Nat → Nat} {p : Program} {l : Launch} {e : Env} {s : State} {m : MethodId} {args : Array Value} {below : List Frame} {meth : Method} {c : Code} {D : va_G} {a : Nat → Nat} {cc : Nat → ClassId} {A : Nat → Prop} {N : Nat} {rec : Nat → St → Int32 → Option (Int32 × Int32 × St)} {d : Nat} {x r : Int32} {σr : St} (C : T_Cx st l A RX6 p s m args meth c D cc cX6_readBehind (Cond.code yX6_readBehind cX6_readBehind 3 (some .int) :: WT) 3 (some .int)) (hA : ∀ q, s.heap.size ≤ q → A q) (hxt : ∀ x ∈ c.exceptionTable.toList, False) (hrec : T_rec st l D a cc rec d) {σ : St} {p0 : Int32} {H : Heap} {locs : List Loc} {ls : Array Slot} (h : fX6_readBehind N rec σ p0 = some (x, r, σr)) : va_P D vwCl (wT a cc σ) H → va_D A (wT a cc σ) → va_S A s.heap H locs → lv_has ls 3 [(0, .ref (a 49)), (1, .int p0)] → W p l e (RMd (d + 1)) s m args below meth c H locs 0 0 (T_Mxi D a cc A below args s x r σr) (F0 m 0 ls []) := by
  obtain ⟨hx, hb, hr, hml, hown, hts, hin, hK, hlocks, hTS, hl0⟩ := id C
  intro hP hD hS hl
  refine lv_aload_n hx hb dX6_readBehind_0 rfl (lv_at hl 0 rfl) ?_
  refine lv_bipush (v := (88 : Int32)) hx hb dX6_readBehind_1 (by decide) ?_
  obtain ⟨v2, r3, σ1, hc, h1, h2⟩ := bndX_s h
  refine T_callXVv (q0 := 6) (ci := 10) (As := [.int (88 : Int32)]) (rest := []) C hA hxt (fun sz => kX6_pass hl0 sz hc) gX6_75 hP hD hS h2 rfl rfl ⟨by show 8 + 1 ≤ 20 + (d + 1); omega, by show 8 + (2 + 11) + 131 ≤ 400 + 45 * (d + 1); omega⟩ ⟨by simp [RMd], by simp [RMd]⟩ ⟨rfl, rfl⟩ rfl hl.1 rfl (lv_room (Nat.le_of_ble_eq_true rfl)) dX6_readBehind_3 (fun ev2 H locs hP hD hS => ?_)
  have h := h1 ev2
  refine lv_aload_n hx hb dX6_readBehind_6 rfl (lv_at hl 0 rfl) ?_
  refine lv_iload_n hx hb dX6_readBehind_7 rfl (lv_at hl 1 rfl) ?_
  refine lv_iconst (v := (1 : Int32)) hx hb dX6_readBehind_8 (by decide) ?_
  refine lv_iadd hx hb dX6_readBehind_9 ?_
  obtain ⟨v6, r5, σ4, hc, h1, h2⟩ := bndX_s h
  refine T_callXVi (q0 := 6) (ci := 10) (As := [.int (p0 + (1 : Int32))]) (rest := []) C hA hxt (fun sz => hrec.1 sz hc) gX6_34 hP hD hS h2 rfl rfl ⟨by simp only [RMd]; omega, by simp only [RMd]; omega⟩ ⟨by simp [RMd], by simp [RMd]⟩ ⟨rfl, rfl⟩ rfl hl.1 rfl (lv_room (Nat.le_of_ble_eq_true rfl)) dX6_readBehind_10 (fun ev6 H locs hP hD hS => ?_)
  have h := h1 ev6
  refine lv_istore_n (lv' := [(2, .int r5), (0, .ref (a 49)), (1, .int p0)]) hx hb dX6_readBehind_13 rfl hl (by decide) rfl (fun ls hl => ?_)
  refine lv_aload_n hx hb dX6_readBehind_14 rfl (lv_at hl 1 rfl) ?_
  refine T_gfX6_15 C hP dX6_readBehind_15 ?_
  refine lv_iload_n hx hb dX6_readBehind_18 rfl (lv_at hl 0 rfl) ?_
  obtain ⟨σ7, hc, h⟩ := bnd1_s h
  refine T_callNv (q0 := 2) (ci := 5) (As := [.int r5]) (rest := []) C hA (fun sz => kX1_oblige hl0 sz hc) gX6_42 hP hD hS rfl rfl ⟨by show 1 + 1 ≤ 20 + (d + 1); omega, by show 8 + (2 + 11) + 20 ≤ 400 + 45 * (d + 1); omega⟩ ⟨rfl, rfl⟩ rfl hl.1 rfl (lv_room (Nat.le_of_ble_eq_true rfl)) dX6_readBehind_19 (fun H locs hP hD hS => ?_)
  refine lv_aload_n hx hb dX6_readBehind_22 rfl (lv_at hl 1 rfl) ?_
  refine T_gfX6_15 C hP dX6_readBehind_23 ?_
  refine lv_bipush (v := (88 : Int32)) hx hb dX6_readBehind_26 (by decide) ?_
  refine lv_iload_n hx hb dX6_readBehind_28 rfl (lv_at hl 0 rfl) ?_
  refine lv_iconst (v := (-1 : Int32)) hx hb dX6_readBehind_29 (by decide) ?_
  obtain ⟨r9, σ8, hc, h⟩ := bnd_s h
  refine T_callNi (q0 := 2) (ci := 5) (As := [.int (88 : Int32), .int r5, .int (-1 : Int32)]) (rest := []) C hA (fun sz => kX1_add hl0 sz hc) gX6_79 hP hD hS rfl rfl ⟨by show 0 + 1 ≤ 20 + (d + 1); omega, by show 8 + (5 + 11) + 0 ≤ 400 + 45 * (d + 1); omega⟩ ⟨rfl, rfl⟩ rfl hl.1 rfl (lv_room (Nat.le_of_ble_eq_true rfl)) dX6_readBehind_30 (fun H locs hP hD hS => ?_)
  exact T_xiret C h hP hD hS dX6_readBehind_33
set_option maxRecDepth 100000 in
theorem kX6_readBehind {l : Launch} (hl0 : l.stackTraces = false) (sz : Nat) {st : Nat → Nat} {D : va_G} {a : Nat → Nat} {cc : Nat → ClassId} {N : Nat} {rec : Nat → St → Int32 → Option (Int32 × Int32 × St)} {d : Nat} {x r : Int32} {σr : St} (hrec : T_rec st l D a cc rec d) {σ : St} {p0 : Int32} (h : fX6_readBehind N rec σ p0 = some (x, r, σr)) : vy_Met l yX6_readBehind ((Cond.code yX6_readBehind cX6_readBehind 3 (some .int) :: WT)) (RMd (d + 1)) (T_Pc st D a cc [.ref (a 49), .int p0] σ sz) (T_Rxi D a cc (va_A (wT a cc σ) sz) x r σr) (T_X D a cc (va_A (wT a cc σ) sz) x σr) (va_A (wT a cc σ) sz) := by
  refine vy_ofW (cc := cX6_readBehind) (maxL := 3) (ret := (some .int)) (by decide) rfl ?_
  intro p e s m args below meth c s₁ B hml hxt hv
  obtain ⟨rfl, hsz, hP, hK, hD0, hTS⟩ := hv
  subst hsz
  have hl := lv_entry ([.ref (a 49), .int p0]) (n := 3) (Nat.le_of_ble_eq_true rfl)
  rw [lg_entry_eq]
  generalize (lg_sl ([.ref (a 49), .int p0]) ++ List.replicate (3 - (lg_sl ([.ref (a 49), .int p0])).length) Slot.unset).toArray = ls at hl ⊢
  exact tX6_readBehind ⟨B.exec, B.bytes, B.returns, hml, findClass_of_methodNamed B.named, atoms_spec (ws := (Cond.code yX6_readBehind cX6_readBehind 3 (some .int) :: WT)) B.pre, (fun w h => List.mem_cons_of_mem _ h), hK, B.notSynchronized, hTS, hl0⟩ (fun q h => Or.inr h) hxt hrec h hP hD0.self va_S.rf hl
set_option maxHeartbeats 4000000 in
set_option maxRecDepth 100000 in
theorem tX6_readBooleanPair_37 {st : Nat → Nat} {p : Program} {l : Launch} {e : Env} {s : State} {m : MethodId} {args : Array Value} {below : List Frame} {meth : Method} {c : Code} {D : va_G} {a : Nat → Nat} {cc : Nat → ClassId} {A : Nat → Prop} {N : Nat} {rec : Nat → St → Int32 → Option (Int32 × Int32 × St)} {d : Nat} {x r : Int32} {σr : St} (C : T_Cx st l A RX6 p s m args meth c D cc cX6_readBooleanPair (Cond.code yX6_readBooleanPair cX6_readBooleanPair 5 (some .int) :: WT) 5 (some .int)) (hA : ∀ q, s.heap.size ≤ q → A q) (hxt : ∀ x ∈ c.exceptionTable.toList, False) (hrec : T_rec st l D a cc rec d) {σ : St} {x1 : Int32} {x2 : Int32} {x3 : Int32} {y0 : Int32} {H : Heap} {locs : List Loc} {ls : Array Slot} (h : fX6_readBooleanPair_37 N rec σ x1 x2 x3 y0 = some (x, r, σr)) : va_P D vwCl (wT a cc σ) H → va_D A (wT a cc σ) → va_S A s.heap H locs → lv_has ls 5 [(0, .ref (a 49)), (1, .int x1), (2, .int x2), (3, .int x3)] → W p l e (RMd (d + 1)) s m args below meth c H locs 0 0 (T_Mxi D a cc A below args s x r σr) (F0 m 37 ls [.int y0, .ref (a 49)]) := by
  obtain ⟨hx, hb, hr, hml, hown, hts, hin, hK, hlocks, hTS, hl0⟩ := id C
  intro hP hD hS hl
  obtain ⟨v12, r13, σ11, hc, h1, h2⟩ := bndX_s h
  refine T_callXVv (q0 := 6) (ci := 10) (As := [.int y0]) (rest := []) C hA hxt (fun sz => kX6_require hl0 sz hc) gX6_38 hP hD hS h2 rfl rfl ⟨by show 7 + 1 ≤ 20 + (d + 1); omega, by show 8 + (2 + 11) + 110 ≤ 400 + 45 * (d + 1); omega⟩ ⟨by simp [RMd], by simp [RMd]⟩ ⟨rfl, rfl⟩ rfl hl.1 rfl (lv_room (Nat.le_of_ble_eq_true rfl)) dX6_readBooleanPair_37 (fun ev12 H locs hP hD hS => ?_)
  have h := h1 ev12
  refine lv_aload_n hx hb dX6_readBooleanPair_40 rfl (lv_at hl 0 rfl) ?_
  refine lv_dup hx hb dX6_readBooleanPair_41 rfl ?_
  refine T_gfX6_23 C hP dX6_readBooleanPair_42 ?_
  refine lv_iconst (v := (1 : Int32)) hx hb dX6_readBooleanPair_45 (by decide) ?_
  refine lv_iadd hx hb dX6_readBooleanPair_46 ?_
  obtain ⟨σ14, eσ14, h⟩ := letS_n h
  refine T_pfX6_23 C hP hD hS eσ14 dX6_readBooleanPair_47 (fun H locs hP hD hS => ?_)
  refine lv_aload_n hx hb dX6_readBooleanPair_50 rfl (lv_at hl 0 rfl) ?_
  refine lv_iload_n hx hb dX6_readBooleanPair_51 rfl (lv_at hl 1 rfl) ?_
  refine lv_iconst (v := (1 : Int32)) hx hb dX6_readBooleanPair_52 (by decide) ?_
  refine lv_iadd hx hb dX6_readBooleanPair_53 ?_
  obtain ⟨v17, r16, σ15, hc, h1, h2⟩ := bndX_s h
  refine T_callXVi (q0 := 6) (ci := 10) (As := [.int (x1 + (1 : Int32))]) (rest := []) C hA hxt (fun sz => hrec.2.2.2.2.2.2.2.2.1 sz hc) gX6_69 hP hD hS h2 rfl rfl ⟨by simp only [RMd]; omega, by simp only [RMd]; omega⟩ ⟨by simp [RMd], by simp [RMd]⟩ ⟨rfl, rfl⟩ rfl hl.1 rfl (lv_room (Nat.le_of_ble_eq_true rfl)) dX6_readBooleanPair_54 (fun ev17 H locs hP hD hS => ?_)
  have h := h1 ev17
  refine lv_istore (lv' := [(4, .int r16), (0, .ref (a 49)), (1, .int x1), (2, .int x2), (3, .int x3)]) hx hb dX6_readBooleanPair_57 hl (by decide) rfl (fun ls hl => ?_)
  refine lv_aload_n hx hb dX6_readBooleanPair_59 rfl (lv_at hl 1 rfl) ?_
  refine lv_bipush (v := (41 : Int32)) hx hb dX6_readBooleanPair_60 (by decide) ?_
  obtain ⟨v19, r20, σ18, hc, h1, h2⟩ := bndX_s h
  refine T_callXVv (q0 := 6) (ci := 10) (As := [.int (41 : Int32)]) (rest := []) C hA hxt (fun sz => kX6_pass hl0 sz hc) gX6_75 hP hD hS h2 rfl rfl ⟨by show 8 + 1 ≤ 20 + (d + 1); omega, by show 8 + (2 + 11) + 131 ≤ 400 + 45 * (d + 1); omega⟩ ⟨by simp [RMd], by simp [RMd]⟩ ⟨rfl, rfl⟩ rfl hl.1 rfl (lv_room (Nat.le_of_ble_eq_true rfl)) dX6_readBooleanPair_62 (fun ev19 H locs hP hD hS => ?_)
  have h := h1 ev19
  refine lv_iload_n hx hb dX6_readBooleanPair_65 rfl (lv_at hl 4 rfl) ?_
  refine lv_bipush (v := (38 : Int32)) hx hb dX6_readBooleanPair_66 (by decide) ?_
  refine lv_icmp_ne (tgt := 78) hx hb dX6_readBooleanPair_68 (by decide) (fun c21 => ?_) (fun c21 => ?_)
  · have h := ifF c21 h
    refine lv_iload_n hx hb dX6_readBooleanPair_78 rfl (lv_at hl 3 rfl) ?_
    refine lv_iload hx hb dX6_readBooleanPair_79 (lv_at hl 0 rfl) ?_
    refine lv_ior hx hb dX6_readBooleanPair_81 ?_
    exact T_xiret C h hP hD hS dX6_readBooleanPair_82
  · have h := ifT c21 h
    refine lv_iload_n hx hb dX6_readBooleanPair_71 rfl (lv_at hl 3 rfl) ?_
    refine lv_iload hx hb dX6_readBooleanPair_72 (lv_at hl 0 rfl) ?_
    refine lv_iand hx hb dX6_readBooleanPair_74 ?_
    refine lv_goto (tgt := 82) hx hb dX6_readBooleanPair_75 (by decide) ?_
    exact T_xiret C h hP hD hS dX6_readBooleanPair_82
set_option maxHeartbeats 4000000 in
set_option maxRecDepth 100000 in
theorem tX6_readBooleanPair_32 {st : Nat → Nat} {p : Program} {l : Launch} {e : Env} {s : State} {m : MethodId} {args : Array Value} {below : List Frame} {meth : Method} {c : Code} {D : va_G} {a : Nat → Nat} {cc : Nat → ClassId} {A : Nat → Prop} {N : Nat} {rec : Nat → St → Int32 → Option (Int32 × Int32 × St)} {d : Nat} {x r : Int32} {σr : St} (C : T_Cx st l A RX6 p s m args meth c D cc cX6_readBooleanPair (Cond.code yX6_readBooleanPair cX6_readBooleanPair 5 (some .int) :: WT) 5 (some .int)) (hA : ∀ q, s.heap.size ≤ q → A q) (hxt : ∀ x ∈ c.exceptionTable.toList, False) (hrec : T_rec st l D a cc rec d) {σ : St} {x1 : Int32} {x2 : Int32} {x3 : Int32} {H : Heap} {locs : List Loc} {ls : Array Slot} (h : fX6_readBooleanPair_32 N rec σ x1 x2 x3 = some (x, r, σr)) : va_P D vwCl (wT a cc σ) H → va_D A (wT a cc σ) → va_S A s.heap H locs → lv_has ls 5 [(0, .ref (a 49)), (1, .int x1), (2, .int x2), (3, .int x3)] → W p l e (RMd (d + 1)) s m args below meth c H locs 0 0 (T_Mxi D a cc A below args s x r σr) (F0 m 32 ls [.ref (a 49)]) := by
  obtain ⟨hx, hb, hr, hml, hown, hts, hin, hK, hlocks, hTS, hl0⟩ := id C
  intro hP hD hS hl
  refine lv_iconst (v := (1 : Int32)) hx hb dX6_readBooleanPair_32 (by decide) ?_
  refine lv_goto (tgt := 37) hx hb dX6_readBooleanPair_33 (by decide) ?_
  exact tX6_readBooleanPair_37 C hA hxt hrec h hP hD hS (lv_sub hl [0, 1, 2, 3] rfl)
set_option maxHeartbeats 4000000 in
set_option maxRecDepth 100000 in
theorem tX6_readBooleanPair {st : Nat → Nat} {p : Program} {l : Launch} {e : Env} {s : State} {m : MethodId} {args : Array Value} {below : List Frame} {meth : Method} {c : Code} {D : va_G} {a : Nat → Nat} {cc : Nat → ClassId} {A : Nat → Prop} {N : Nat} {rec : Nat → St → Int32 → Option (Int32 × Int32 × St)} {d : Nat} {x r : Int32} {σr : St} (C : T_Cx st l A RX6 p s m args meth c D cc cX6_readBooleanPair (Cond.code yX6_readBooleanPair cX6_readBooleanPair 5 (some .int) :: WT) 5 (some .int)) (hA : ∀ q, s.heap.size ≤ q → A q) (hxt : ∀ x ∈ c.exceptionTable.toList, False) (hrec : T_rec st l D a cc rec d) {σ : St} {p0 : Int32} {H : Heap} {locs : List Loc} {ls : Array Slot} (h : fX6_readBooleanPair N rec σ p0 = some (x, r, σr)) : va_P D vwCl (wT a cc σ) H → va_D A (wT a cc σ) → va_S A s.heap H locs → lv_has ls 5 [(0, .ref (a 49)), (1, .int p0)] → W p l e (RMd (d + 1)) s m args below meth c H locs 0 0 (T_Mxi D a cc A below args s x r σr) (F0 m 0 ls []) := by
  obtain ⟨hx, hb, hr, hml, hown, hts, hin, hK, hlocks, hTS, hl0⟩ := id C
  intro hP hD hS hl
  refine lv_aload_n hx hb dX6_readBooleanPair_0 rfl (lv_at hl 0 rfl) ?_
  refine lv_bipush (v := (40 : Int32)) hx hb dX6_readBooleanPair_1 (by decide) ?_
  obtain ⟨v2, r3, σ1, hc, h1, h2⟩ := bndX_s h
  refine T_callXVv (q0 := 6) (ci := 10) (As := [.int (40 : Int32)]) (rest := []) C hA hxt (fun sz => kX6_pass hl0 sz hc) gX6_75 hP hD hS h2 rfl rfl ⟨by show 8 + 1 ≤ 20 + (d + 1); omega, by show 8 + (2 + 11) + 131 ≤ 400 + 45 * (d + 1); omega⟩ ⟨by simp [RMd], by simp [RMd]⟩ ⟨rfl, rfl⟩ rfl hl.1 rfl (lv_room (Nat.le_of_ble_eq_true rfl)) dX6_readBooleanPair_3 (fun ev2 H locs hP hD hS => ?_)
  have h := h1 ev2
  refine lv_aload_n hx hb dX6_readBooleanPair_6 rfl (lv_at hl 0 rfl) ?_
  refine lv_iload_n hx hb dX6_readBooleanPair_7 rfl (lv_at hl 1 rfl) ?_
  refine lv_iconst (v := (1 : Int32)) hx hb dX6_readBooleanPair_8 (by decide) ?_
  refine lv_iadd hx hb dX6_readBooleanPair_9 ?_
  obtain ⟨v6, r5, σ4, hc, h1, h2⟩ := bndX_s h
  refine T_callXVi (q0 := 6) (ci := 10) (As := [.int (p0 + (1 : Int32))]) (rest := []) C hA hxt (fun sz => hrec.2.2.2.2.2.2.2.2.1 sz hc) gX6_69 hP hD hS h2 rfl rfl ⟨by simp only [RMd]; omega, by simp only [RMd]; omega⟩ ⟨by simp [RMd], by simp [RMd]⟩ ⟨rfl, rfl⟩ rfl hl.1 rfl (lv_room (Nat.le_of_ble_eq_true rfl)) dX6_readBooleanPair_10 (fun ev6 H locs hP hD hS => ?_)
  have h := h1 ev6
  refine lv_istore_n (lv' := [(2, .int r5), (0, .ref (a 49)), (1, .int p0)]) hx hb dX6_readBooleanPair_13 rfl hl (by decide) rfl (fun ls hl => ?_)
  refine lv_aload_n hx hb dX6_readBooleanPair_14 rfl (lv_at hl 1 rfl) ?_
  obtain ⟨r8, σ7, hc, h⟩ := bnd_s h
  refine T_callVi (q0 := 6) (ci := 10) (As := []) (rest := []) C hA (fun sz => kX6_peek hl0 sz hc) gX6_53 hP hD hS rfl rfl ⟨by show 0 + 1 ≤ 20 + (d + 1); omega, by show 8 + (1 + 11) + 0 ≤ 400 + 45 * (d + 1); omega⟩ ⟨rfl, rfl⟩ rfl hl.1 rfl (lv_room (Nat.le_of_ble_eq_true rfl)) dX6_readBooleanPair_15 (fun H locs hP hD hS => ?_)
  refine lv_istore_n (lv' := [(3, .int r8), (2, .int r5), (0, .ref (a 49)), (1, .int p0)]) hx hb dX6_readBooleanPair_18 rfl hl (by decide) rfl (fun ls hl => ?_)
  refine lv_aload_n hx hb dX6_readBooleanPair_19 rfl (lv_at hl 2 rfl) ?_
  refine lv_iload_n hx hb dX6_readBooleanPair_20 rfl (lv_at hl 0 rfl) ?_
  refine lv_bipush (v := (38 : Int32)) hx hb dX6_readBooleanPair_21 (by decide) ?_
  refine lv_icmp_eq (tgt := 32) hx hb dX6_readBooleanPair_23 (by decide) (fun c9 => ?_) (fun c9 => ?_)
  · have h := ifT c9 h
    exact tX6_readBooleanPair_32 C hA hxt hrec h hP hD hS (lv_sub hl [2, 3, 1, 0] rfl)
  · have h := ifF c9 h
    refine lv_iload_n hx hb dX6_readBooleanPair_26 rfl (lv_at hl 0 rfl) ?_
    refine lv_bipush (v := (124 : Int32)) hx hb dX6_readBooleanPair_27 (by decide) ?_
    refine lv_icmp_ne (tgt := 36) hx hb dX6_readBooleanPair_29 (by decide) (fun c10 => ?_) (fun c10 => ?_)
    · have h := ifF c10 h
      refine lv_iconst (v := (0 : Int32)) hx hb dX6_readBooleanPair_36 (by decide) ?_
      exact tX6_readBooleanPair_37 C hA hxt hrec h hP hD hS (lv_sub hl [2, 3, 1, 0] rfl)
    · have h := ifT c10 h
      exact tX6_readBooleanPair_32 C hA hxt hrec h hP hD hS (lv_sub hl [2, 3, 1, 0] rfl)
set_option maxRecDepth 100000 in
theorem kX6_readBooleanPair {l : Launch} (hl0 : l.stackTraces = false) (sz : Nat) {st : Nat → Nat} {D : va_G} {a : Nat → Nat} {cc : Nat → ClassId} {N : Nat} {rec : Nat → St → Int32 → Option (Int32 × Int32 × St)} {d : Nat} {x r : Int32} {σr : St} (hrec : T_rec st l D a cc rec d) {σ : St} {p0 : Int32} (h : fX6_readBooleanPair N rec σ p0 = some (x, r, σr)) : vy_Met l yX6_readBooleanPair ((Cond.code yX6_readBooleanPair cX6_readBooleanPair 5 (some .int) :: WT)) (RMd (d + 1)) (T_Pc st D a cc [.ref (a 49), .int p0] σ sz) (T_Rxi D a cc (va_A (wT a cc σ) sz) x r σr) (T_X D a cc (va_A (wT a cc σ) sz) x σr) (va_A (wT a cc σ) sz) := by
  refine vy_ofW (cc := cX6_readBooleanPair) (maxL := 5) (ret := (some .int)) (by decide) rfl ?_
  intro p e s m args below meth c s₁ B hml hxt hv
  obtain ⟨rfl, hsz, hP, hK, hD0, hTS⟩ := hv
  subst hsz
  have hl := lv_entry ([.ref (a 49), .int p0]) (n := 5) (Nat.le_of_ble_eq_true rfl)
  rw [lg_entry_eq]
  generalize (lg_sl ([.ref (a 49), .int p0]) ++ List.replicate (5 - (lg_sl ([.ref (a 49), .int p0])).length) Slot.unset).toArray = ls at hl ⊢
  exact tX6_readBooleanPair ⟨B.exec, B.bytes, B.returns, hml, findClass_of_methodNamed B.named, atoms_spec (ws := (Cond.code yX6_readBooleanPair cX6_readBooleanPair 5 (some .int) :: WT)) B.pre, (fun w h => List.mem_cons_of_mem _ h), hK, B.notSynchronized, hTS, hl0⟩ (fun q h => Or.inr h) hxt hrec h hP hD0.self va_S.rf hl
set_option maxHeartbeats 4000000 in
set_option maxRecDepth 100000 in
theorem tX6_readBoolean_83 {st : Nat → Nat} {p : Program} {l : Launch} {e : Env} {s : State} {m : MethodId} {args : Array Value} {below : List Frame} {meth : Method} {c : Code} {D : va_G} {a : Nat → Nat} {cc : Nat → ClassId} {A : Nat → Prop} {N : Nat} {rec : Nat → St → Int32 → Option (Int32 × Int32 × St)} {d : Nat} {x r : Int32} {σr : St} (C : T_Cx st l A RX6 p s m args meth c D cc cX6_readBoolean (Cond.code yX6_readBoolean cX6_readBoolean 4 (some .int) :: WT) 4 (some .int)) (hA : ∀ q, s.heap.size ≤ q → A q) (hxt : ∀ x ∈ c.exceptionTable.toList, False) (hrec : T_rec st l D a cc rec d) {σ : St} {x3 : Int32} {y0 : Int32} {H : Heap} {locs : List Loc} {ls : Array Slot} (h : fX6_readBoolean_83 N rec σ x3 y0 = some (x, r, σr)) : va_P D vwCl (wT a cc σ) H → va_D A (wT a cc σ) → va_S A s.heap H locs → lv_has ls 4 [(0, .ref (a 49)), (3, .int x3)] → W p l e (RMd (d + 1)) s m args below meth c H locs 0 0 (T_Mxi D a cc A below args s x r σr) (F0 m 83 ls [.int y0, .ref (a 49)]) := by
  obtain ⟨hx, hb, hr, hml, hown, hts, hin, hK, hlocks, hTS, hl0⟩ := id C
  intro hP hD hS hl
  obtain ⟨v24, r25, σ23, hc, h1, h2⟩ := bndX_s h
  refine T_callXVv (q0 := 6) (ci := 10) (As := [.int y0]) (rest := []) C hA hxt (fun sz => kX6_require hl0 sz hc) gX6_38 hP hD hS h2 rfl rfl ⟨by show 7 + 1 ≤ 20 + (d + 1); omega, by show 8 + (2 + 11) + 110 ≤ 400 + 45 * (d + 1); omega⟩ ⟨by simp [RMd], by simp [RMd]⟩ ⟨rfl, rfl⟩ rfl hl.1 rfl (lv_room (Nat.le_of_ble_eq_true rfl)) dX6_readBoolean_83 (fun ev24 H locs hP hD hS => ?_)
  have h := h1 ev24
  refine lv_aload_n hx hb dX6_readBoolean_86 rfl (lv_at hl 0 rfl) ?_
  refine lv_dup hx hb dX6_readBoolean_87 rfl ?_
  refine T_gfX6_23 C hP dX6_readBoolean_88 ?_
  refine lv_iconst (v := (1 : Int32)) hx hb dX6_readBoolean_91 (by decide) ?_
  refine lv_iadd hx hb dX6_readBoolean_92 ?_
  obtain ⟨σ26, eσ26, h⟩ := letS_n h
  refine T_pfX6_23 C hP hD hS eσ26 dX6_readBoolean_93 (fun H locs hP hD hS => ?_)
  refine T_gsX6_150 C hS dX6_readBoolean_96 ?_
  refine lv_iload_n hx hb dX6_readBoolean_99 rfl (lv_at hl 1 rfl) ?_
  obtain ⟨g27, h⟩ := grd_s h
  refine T_sl1 C hS g27 dX6_readBoolean_100 ?_
  exact T_xiret C h hP hD hS dX6_readBoolean_101
set_option maxHeartbeats 4000000 in
set_option maxRecDepth 100000 in
theorem tX6_readBoolean_82 {st : Nat → Nat} {p : Program} {l : Launch} {e : Env} {s : State} {m : MethodId} {args : Array Value} {below : List Frame} {meth : Method} {c : Code} {D : va_G} {a : Nat → Nat} {cc : Nat → ClassId} {A : Nat → Prop} {N : Nat} {rec : Nat → St → Int32 → Option (Int32 × Int32 × St)} {d : Nat} {x r : Int32} {σr : St} (C : T_Cx st l A RX6 p s m args meth c D cc cX6_readBoolean (Cond.code yX6_readBoolean cX6_readBoolean 4 (some .int) :: WT) 4 (some .int)) (hA : ∀ q, s.heap.size ≤ q → A q) (hxt : ∀ x ∈ c.exceptionTable.toList, False) (hrec : T_rec st l D a cc rec d) {σ : St} {x3 : Int32} {H : Heap} {locs : List Loc} {ls : Array Slot} (h : fX6_readBoolean_82 N rec σ x3 = some (x, r, σr)) : va_P D vwCl (wT a cc σ) H → va_D A (wT a cc σ) → va_S A s.heap H locs → lv_has ls 4 [(0, .ref (a 49)), (3, .int x3)] → W p l e (RMd (d + 1)) s m args below meth c H locs 0 0 (T_Mxi D a cc A below args s x r σr) (F0 m 82 ls [.ref (a 49)]) := by
  obtain ⟨hx, hb, hr, hml, hown, hts, hin, hK, hlocks, hTS, hl0⟩ := id C
  intro hP hD hS hl
  refine lv_iconst (v := (0 : Int32)) hx hb dX6_readBoolean_82 (by decide) ?_
  exact tX6_readBoolean_83 C hA hxt hrec h hP hD hS (lv_sub hl [0, 1] rfl)
set_option maxHeartbeats 4000000 in
set_option maxRecDepth 100000 in
theorem tX6_readBoolean_12 {st : Nat → Nat} {p : Program} {l : Launch} {e : Env} {s : State} {m : MethodId} {args : Array Value} {below : List Frame} {meth : Method} {c : Code} {D : va_G} {a : Nat → Nat} {cc : Nat → ClassId} {A : Nat → Prop} {N : Nat} {rec : Nat → St → Int32 → Option (Int32 × Int32 × St)} {d : Nat} {x r : Int32} {σr : St} (C : T_Cx st l A RX6 p s m args meth c D cc cX6_readBoolean (Cond.code yX6_readBoolean cX6_readBoolean 4 (some .int) :: WT) 4 (some .int)) (hA : ∀ q, s.heap.size ≤ q → A q) (hxt : ∀ x ∈ c.exceptionTable.toList, False) (hrec : T_rec st l D a cc rec d) {σ : St} {x1 : Int32} {y0 : Int32} {H : Heap} {locs : List Loc} {ls : Array Slot} (h : fX6_readBoolean_12 N rec σ x1 y0 = some (x, r, σr)) : va_P D vwCl (wT a cc σ) H → va_D A (wT a cc σ) → va_S A s.heap H locs → lv_has ls 4 [(0, .ref (a 49)), (1, .int x1)] → W p l e (RMd (d + 1)) s m args below meth c H locs 0 0 (T_Mxi D a cc A below args s x r σr) (F0 m 12 ls [.int y0, .ref (a 49)]) := by
  obtain ⟨hx, hb, hr, hml, hown, hts, hin, hK, hlocks, hTS, hl0⟩ := id C
  intro hP hD hS hl
  obtain ⟨v3, r4, σ2, hc, h1, h2⟩ := bndX_s h
  refine T_callXVv (q0 := 6) (ci := 10) (As := [.int y0]) (rest := []) C hA hxt (fun sz => kX6_require hl0 sz hc) gX6_38 hP hD hS h2 rfl rfl ⟨by show 7 + 1 ≤ 20 + (d + 1); omega, by show 8 + (2 + 11) + 110 ≤ 400 + 45 * (d + 1); omega⟩ ⟨by simp [RMd], by simp [RMd]⟩ ⟨rfl, rfl⟩ rfl hl.1 rfl (lv_room (Nat.le_of_ble_eq_true rfl)) dX6_readBoolean_12 (fun ev3 H locs hP hD hS => ?_)
  have h := h1 ev3
  refine lv_aload_n hx hb dX6_readBoolean_15 rfl (lv_at hl 0 rfl) ?_
  obtain ⟨r6, σ5, hc, h⟩ := bnd_s h
  refine T_callVi (q0 := 6) (ci := 10) (As := []) (rest := []) C hA (fun sz => kX6_peek hl0 sz hc) gX6_53 hP hD hS rfl rfl ⟨by show 0 + 1 ≤ 20 + (d + 1); omega, by show 8 + (1 + 11) + 0 ≤ 400 + 45 * (d + 1); omega⟩ ⟨rfl, rfl⟩ rfl hl.1 rfl (lv_room (Nat.le_of_ble_eq_true rfl)) dX6_readBoolean_16 (fun H locs hP hD hS => ?_)
  refine lv_istore_n (lv' := [(2, .int r6), (0, .ref (a 49)), (1, .int x1)]) hx hb dX6_readBoolean_19 rfl hl (by decide) rfl (fun ls hl => ?_)
  refine lv_iload_n hx hb dX6_readBoolean_20 rfl (lv_at hl 0 rfl) ?_
  refine lv_bipush (v := (33 : Int32)) hx hb dX6_readBoolean_21 (by decide) ?_
  refine lv_icmp_ne (tgt := 46) hx hb dX6_readBoolean_23 (by decide) (fun c7 => ?_) (fun c7 => ?_)
  · have h := ifF c7 h
    refine lv_iload_n hx hb dX6_readBoolean_46 rfl (lv_at hl 0 rfl) ?_
    refine lv_bipush (v := (40 : Int32)) hx hb dX6_readBoolean_47 (by decide) ?_
    refine lv_icmp_ne (tgt := 58) hx hb dX6_readBoolean_49 (by decide) (fun c8 => ?_) (fun c8 => ?_)
    · have h := ifF c8 h
      refine T_ldcS C (List.mem_of_getElem? (i := 0) rfl) dX6_readBoolean_58 ?_
      refine lv_iload_n hx hb dX6_readBoolean_60 rfl (lv_at hl 0 rfl) ?_
      obtain ⟨g9, h⟩ := grd_s h
      obtain ⟨r11, σ10, hc, h⟩ := bnd_s h
      refine T_callQi (As := [.int r6]) (rest := []) C hA (fun sz => kJ0_indexOf_0f7a4 hl0 sz hc) gX6_145 hP hD hS (of_decide_eq_true g9) rfl ⟨by show 3 + 1 ≤ 20 + (d + 1); omega, by show 8 + (2 + 11) + 105 ≤ 400 + 45 * (d + 1); omega⟩ ⟨rfl, rfl⟩ rfl hl.1 rfl (lv_room (Nat.le_of_ble_eq_true rfl)) dX6_readBoolean_61 (fun H locs hP hD hS => ?_)
      refine lv_istore_n (lv' := [(3, .int r11), (2, .int r6), (0, .ref (a 49)), (1, .int x1)]) hx hb dX6_readBoolean_64 rfl hl (by decide) rfl (fun ls hl => ?_)
      refine lv_aload_n hx hb dX6_readBoolean_65 rfl (lv_at hl 2 rfl) ?_
      refine lv_iload_n hx hb dX6_readBoolean_66 rfl (lv_at hl 0 rfl) ?_
      refine lv_if_lt (tgt := 82) hx hb dX6_readBoolean_67 (by decide) (fun c12 => ?_) (fun c12 => ?_)
      · have h := ifT c12 h
        exact tX6_readBoolean_82 C hA hxt hrec h hP hD hS (lv_sub hl [2, 0] rfl)
      · have h := ifF c12 h
        refine lv_iload_n hx hb dX6_readBoolean_70 rfl (lv_at hl 0 rfl) ?_
        refine T_gsX6_150 C hS dX6_readBoolean_71 ?_
        refine T_sln1 C hS dX6_readBoolean_74 ?_
        refine lv_icmp_ge (tgt := 82) hx hb dX6_readBoolean_75 (by decide) (fun c13 => ?_) (fun c13 => ?_)
        · have h := ifT c13 h
          exact tX6_readBoolean_82 C hA hxt hrec h hP hD hS (lv_sub hl [2, 0] rfl)
        · have h := ifF c13 h
          refine lv_iconst (v := (1 : Int32)) hx hb dX6_readBoolean_78 (by decide) ?_
          refine lv_goto (tgt := 83) hx hb dX6_readBoolean_79 (by decide) ?_
          exact tX6_readBoolean_83 C hA hxt hrec h hP hD hS (lv_sub hl [2, 0] rfl)
    · have h := ifT c8 h
      refine lv_aload_n hx hb dX6_readBoolean_52 rfl (lv_at hl 1 rfl) ?_
      refine lv_iload_n hx hb dX6_readBoolean_53 rfl (lv_at hl 2 rfl) ?_
      obtain ⟨v16, r15, σ14, hc, h1, h2⟩ := bndX_s h
      refine T_callXVi (q0 := 6) (ci := 10) (As := [.int x1]) (rest := []) C hA hxt (fun sz => hrec.2.2.2.2.2.2.2.2.2 sz hc) gX6_140 hP hD hS h2 rfl rfl ⟨by simp only [RMd]; omega, by simp only [RMd]; omega⟩ ⟨by simp [RMd], by simp [RMd]⟩ ⟨rfl, rfl⟩ rfl hl.1 rfl (lv_room (Nat.le_of_ble_eq_true rfl)) dX6_readBoolean_54 (fun ev16 H locs hP hD hS => ?_)
      have h := h1 ev16
      exact T_xiret C h hP hD hS dX6_readBoolean_57
  · have h := ifT c7 h
    refine lv_aload_n hx hb dX6_readBoolean_26 rfl (lv_at hl 1 rfl) ?_
    refine lv_bipush (v := (33 : Int32)) hx hb dX6_readBoolean_27 (by decide) ?_
    obtain ⟨v18, r19, σ17, hc, h1, h2⟩ := bndX_s h
    refine T_callXVv (q0 := 6) (ci := 10) (As := [.int (33 : Int32)]) (rest := []) C hA hxt (fun sz => kX6_pass hl0 sz hc) gX6_75 hP hD hS h2 rfl rfl ⟨by show 8 + 1 ≤ 20 + (d + 1); omega, by show 8 + (2 + 11) + 131 ≤ 400 + 45 * (d + 1); omega⟩ ⟨by simp [RMd], by simp [RMd]⟩ ⟨rfl, rfl⟩ rfl hl.1 rfl (lv_room (Nat.le_of_ble_eq_true rfl)) dX6_readBoolean_29 (fun ev18 H locs hP hD hS => ?_)
    have h := h1 ev18
    refine lv_sipush (v := (255 : Int32)) hx hb dX6_readBoolean_32 (by decide) ?_
    refine lv_aload_n hx hb dX6_readBoolean_35 rfl (lv_at hl 1 rfl) ?_
    refine lv_iload_n hx hb dX6_readBoolean_36 rfl (lv_at hl 2 rfl) ?_
    refine lv_iconst (v := (1 : Int32)) hx hb dX6_readBoolean_37 (by decide) ?_
    refine lv_iadd hx hb dX6_readBoolean_38 ?_
    obtain ⟨v22, r21, σ20, hc, h1, h2⟩ := bndX_s h
    refine T_callXVi (q0 := 6) (ci := 10) (As := [.int (x1 + (1 : Int32))]) (rest := [.int (255 : Int32)]) C hA hxt (fun sz => hrec.2.2.2.2.2.2.2.2.1 sz hc) gX6_69 hP hD hS h2 rfl rfl ⟨by simp only [RMd]; omega, by simp only [RMd]; omega⟩ ⟨by simp [RMd], by simp [RMd]⟩ ⟨rfl, rfl⟩ rfl hl.1 rfl (lv_room (Nat.le_of_ble_eq_true rfl)) dX6_readBoolean_39 (fun ev22 H locs hP hD hS => ?_)
    have h := h1 ev22
    refine lv_iconst (v := (-1 : Int32)) hx hb dX6_readBoolean_42 (by decide) ?_
    refine lv_ixor hx hb dX6_readBoolean_43 ?_
    refine lv_iand hx hb dX6_readBoolean_44 ?_
    exact T_xiret C h hP hD hS dX6_readBoolean_45
set_option maxHeartbeats 4000000 in
set_option maxRecDepth 100000 in
theorem tX6_readBoolean {st : Nat → Nat} {p : Program} {l : Launch} {e : Env} {s : State} {m : MethodId} {args : Array Value} {below : List Frame} {meth : Method} {c : Code} {D : va_G} {a : Nat → Nat} {cc : Nat → ClassId} {A : Nat → Prop} {N : Nat} {rec : Nat → St → Int32 → Option (Int32 × Int32 × St)} {d : Nat} {x r : Int32} {σr : St} (C : T_Cx st l A RX6 p s m args meth c D cc cX6_readBoolean (Cond.code yX6_readBoolean cX6_readBoolean 4 (some .int) :: WT) 4 (some .int)) (hA : ∀ q, s.heap.size ≤ q → A q) (hxt : ∀ x ∈ c.exceptionTable.toList, False) (hrec : T_rec st l D a cc rec d) {σ : St} {p0 : Int32} {H : Heap} {locs : List Loc} {ls : Array Slot} (h : fX6_readBoolean N rec σ p0 = some (x, r, σr)) : va_P D vwCl (wT a cc σ) H → va_D A (wT a cc σ) → va_S A s.heap H locs → lv_has ls 4 [(0, .ref (a 49)), (1, .int p0)] → W p l e (RMd (d + 1)) s m args below meth c H locs 0 0 (T_Mxi D a cc A below args s x r σr) (F0 m 0 ls []) := by
  obtain ⟨hx, hb, hr, hml, hown, hts, hin, hK, hlocks, hTS, hl0⟩ := id C
  intro hP hD hS hl
  refine lv_aload_n hx hb dX6_readBoolean_0 rfl (lv_at hl 0 rfl) ?_
  refine lv_iload_n hx hb dX6_readBoolean_1 rfl (lv_at hl 1 rfl) ?_
  refine lv_bipush (v := (12 : Int32)) hx hb dX6_readBoolean_2 (by decide) ?_
  refine lv_icmp_gt (tgt := 11) hx hb dX6_readBoolean_4 (by decide) (fun c1 => ?_) (fun c1 => ?_)
  · have h := ifT c1 h
    refine lv_iconst (v := (0 : Int32)) hx hb dX6_readBoolean_11 (by decide) ?_
    exact tX6_readBoolean_12 C hA hxt hrec h hP hD hS (lv_sub hl [0, 1] rfl)
  · have h := ifF c1 h
    refine lv_iconst (v := (1 : Int32)) hx hb dX6_readBoolean_7 (by decide) ?_
    refine lv_goto (tgt := 12) hx hb dX6_readBoolean_8 (by decide) ?_
    exact tX6_readBoolean_12 C hA hxt hrec h hP hD hS (lv_sub hl [0, 1] rfl)
set_option maxRecDepth 100000 in
theorem kX6_readBoolean {l : Launch} (hl0 : l.stackTraces = false) (sz : Nat) {st : Nat → Nat} {D : va_G} {a : Nat → Nat} {cc : Nat → ClassId} {N : Nat} {rec : Nat → St → Int32 → Option (Int32 × Int32 × St)} {d : Nat} {x r : Int32} {σr : St} (hrec : T_rec st l D a cc rec d) {σ : St} {p0 : Int32} (h : fX6_readBoolean N rec σ p0 = some (x, r, σr)) : vy_Met l yX6_readBoolean ((Cond.code yX6_readBoolean cX6_readBoolean 4 (some .int) :: WT)) (RMd (d + 1)) (T_Pc st D a cc [.ref (a 49), .int p0] σ sz) (T_Rxi D a cc (va_A (wT a cc σ) sz) x r σr) (T_X D a cc (va_A (wT a cc σ) sz) x σr) (va_A (wT a cc σ) sz) := by
  refine vy_ofW (cc := cX6_readBoolean) (maxL := 4) (ret := (some .int)) (by decide) rfl ?_
  intro p e s m args below meth c s₁ B hml hxt hv
  obtain ⟨rfl, hsz, hP, hK, hD0, hTS⟩ := hv
  subst hsz
  have hl := lv_entry ([.ref (a 49), .int p0]) (n := 4) (Nat.le_of_ble_eq_true rfl)
  rw [lg_entry_eq]
  generalize (lg_sl ([.ref (a 49), .int p0]) ++ List.replicate (4 - (lg_sl ([.ref (a 49), .int p0])).length) Slot.unset).toArray = ls at hl ⊢
  exact tX6_readBoolean ⟨B.exec, B.bytes, B.returns, hml, findClass_of_methodNamed B.named, atoms_spec (ws := (Cond.code yX6_readBoolean cX6_readBoolean 4 (some .int) :: WT)) B.pre, (fun w h => List.mem_cons_of_mem _ h), hK, B.notSynchronized, hTS, hl0⟩ (fun q h => Or.inr h) hxt hrec h hP hD0.self va_S.rf hl
set_option maxHeartbeats 4000000 in
set_option maxRecDepth 100000 in
theorem tX6_readUnit_113 {st : Nat → Nat} {p : Program} {l : Launch} {e : Env} {s : State} {m : MethodId} {args : Array Value} {below : List Frame} {meth : Method} {c : Code} {D : va_G} {a : Nat → Nat} {cc : Nat → ClassId} {A : Nat → Prop} {N : Nat} {rec : Nat → St → Int32 → Option (Int32 × Int32 × St)} {d : Nat} {x r : Int32} {σr : St} (C : T_Cx st l A RX6 p s m args meth c D cc cX6_readUnit (Cond.code yX6_readUnit cX6_readUnit 5 none :: WT) 5 none) (hA : ∀ q, s.heap.size ≤ q → A q) (hxt : ∀ x ∈ c.exceptionTable.toList, False) (hrec : T_rec st l D a cc rec d) {σ : St} {x2 : Int32} {x3 : Int32} {H : Heap} {locs : List Loc} {ls : Array Slot} (h : fX6_readUnit_113 N rec σ x2 x3 = some (x, r, σr)) : va_P D vwCl (wT a cc σ) H → va_D A (wT a cc σ) → va_S A s.heap H locs → lv_has ls 5 [(0, .ref (a 49)), (2, .int x2), (3, .int x3)] → W p l e (RMd (d + 1)) s m args below meth c H locs 0 0 (T_Mxv D a cc A below args s x r σr) (F0 m 113 ls []) := by
  obtain ⟨hx, hb, hr, hml, hown, hts, hin, hK, hlocks, hTS, hl0⟩ := id C
  intro hP hD hS hl
  refine lv_aload_n hx hb dX6_readUnit_113 rfl (lv_at hl 0 rfl) ?_
  refine lv_bipush (v := (93 : Int32)) hx hb dX6_readUnit_114 (by decide) ?_
  obtain ⟨v33, r34, σ32, hc, h1, h2⟩ := bndX_s h
  refine T_callXVv (q0 := 6) (ci := 10) (As := [.int (93 : Int32)]) (rest := []) C hA hxt (fun sz => kX6_pass hl0 sz hc) gX6_75 hP hD hS h2 rfl rfl ⟨by show 8 + 1 ≤ 20 + (d + 1); omega, by show 8 + (2 + 11) + 131 ≤ 400 + 45 * (d + 1); omega⟩ ⟨by simp [RMd], by simp [RMd]⟩ ⟨rfl, rfl⟩ rfl hl.1 rfl (lv_room (Nat.le_of_ble_eq_true rfl)) dX6_readUnit_116 (fun ev33 H locs hP hD hS => ?_)
  have h := h1 ev33
  refine lv_aload_n hx hb dX6_readUnit_119 rfl (lv_at hl 0 rfl) ?_
  refine lv_iload_n hx hb dX6_readUnit_120 rfl (lv_at hl 1 rfl) ?_
  obtain ⟨σ35, eσ35, h⟩ := letS_n h
  refine T_pfX6_89 C hP hD hS eσ35 dX6_readUnit_121 (fun H locs hP hD hS => ?_)
  refine lv_aload_n hx hb dX6_readUnit_124 rfl (lv_at hl 0 rfl) ?_
  refine lv_iload_n hx hb dX6_readUnit_125 rfl (lv_at hl 2 rfl) ?_
  obtain ⟨σ36, eσ36, h⟩ := letS_n h
  refine T_pfX6_92 C hP hD hS eσ36 dX6_readUnit_126 (fun H locs hP hD hS => ?_)
  exact T_xvret C h hP hD hS dX6_readUnit_129
set_option maxHeartbeats 4000000 in
set_option maxRecDepth 100000 in
theorem tX6_readUnit_62 {st : Nat → Nat} {p : Program} {l : Launch} {e : Env} {s : State} {m : MethodId} {args : Array Value} {below : List Frame} {meth : Method} {c : Code} {D : va_G} {a : Nat → Nat} {cc : Nat → ClassId} {A : Nat → Prop} {N : Nat} {rec : Nat → St → Int32 → Option (Int32 × Int32 × St)} {d : Nat} {x r : Int32} {σr : St} (C : T_Cx st l A RX6 p s m args meth c D cc cX6_readUnit (Cond.code yX6_readUnit cX6_readUnit 5 none :: WT) 5 none) (hA : ∀ q, s.heap.size ≤ q → A q) (hxt : ∀ x ∈ c.exceptionTable.toList, False) (hrec : T_rec st l D a cc rec d) : ∀ (n : Nat) {σ : St} {x1 : Int32} {x2 : Int32} {x3 : Int32} {x4 : Int32} {H : Heap} {locs : List Loc} {ls : Array Slot}, fX6_readUnit_62 N rec n σ x1 x2 x3 x4 = some (x, r, σr) → va_P D vwCl (wT a cc σ) H → va_D A (wT a cc σ) → va_S A s.heap H locs → lv_has ls 5 [(0, .ref (a 49)), (1, .int x1), (2, .int x2), (3, .int x3), (4, .int x4)] → W p l e (RMd (d + 1)) s m args below meth c H locs 0 0 (T_Mxv D a cc A below args s x r σr) (F0 m 62 ls []) := by
  obtain ⟨hx, hb, hr, hml, hown, hts, hin, hK, hlocks, hTS, hl0⟩ := id C
  intro n
  induction n with
  | zero => intro σ x1 x2 x3 x4 H locs ls h; exact none_s h
  | succ n ih =>
    intro σ x1 x2 x3 x4 H locs ls h hP hD hS hl
    refine lv_iload hx hb dX6_readUnit_62 (lv_at hl 4 rfl) ?_
    refine lv_aload_n hx hb dX6_readUnit_64 rfl (lv_at hl 0 rfl) ?_
    refine T_gfX6_19 C hP dX6_readUnit_65 ?_
    refine lv_icmp_ge (tgt := 113) hx hb dX6_readUnit_68 (by decide) (fun c19 => ?_) (fun c19 => ?_)
    · have h := ifT c19 h
      exact tX6_readUnit_113 C hA hxt hrec h hP hD hS (lv_sub hl [0, 2, 3] rfl)
    · have h := ifF c19 h
      refine lv_aload_n hx hb dX6_readUnit_71 rfl (lv_at hl 0 rfl) ?_
      obtain ⟨r21, σ20, hc, h⟩ := bnd_s h
      refine T_callVi (q0 := 6) (ci := 10) (As := []) (rest := []) C hA (fun sz => kX6_peek hl0 sz hc) gX6_53 hP hD hS rfl rfl ⟨by show 0 + 1 ≤ 20 + (d + 1); omega, by show 8 + (1 + 11) + 0 ≤ 400 + 45 * (d + 1); omega⟩ ⟨rfl, rfl⟩ rfl hl.1 rfl (lv_room (Nat.le_of_ble_eq_true rfl)) dX6_readUnit_72 (fun H locs hP hD hS => ?_)
      refine lv_bipush (v := (47 : Int32)) hx hb dX6_readUnit_75 (by decide) ?_
      refine lv_icmp_ne (tgt := 113) hx hb dX6_readUnit_77 (by decide) (fun c22 => ?_) (fun c22 => ?_)
      · have h := ifF c22 h
        exact tX6_readUnit_113 C hA hxt hrec h hP hD hS (lv_sub hl [0, 2, 3] rfl)
      · have h := ifT c22 h
        refine lv_aload_n hx hb dX6_readUnit_80 rfl (lv_at hl 0 rfl) ?_
        refine lv_bipush (v := (47 : Int32)) hx hb dX6_readUnit_81 (by decide) ?_
        obtain ⟨v24, r25, σ23, hc, h1, h2⟩ := bndX_s h
        refine T_callXVv (q0 := 6) (ci := 10) (As := [.int (47 : Int32)]) (rest := []) C hA hxt (fun sz => kX6_pass hl0 sz hc) gX6_75 hP hD hS h2 rfl rfl ⟨by show 8 + 1 ≤ 20 + (d + 1); omega, by show 8 + (2 + 11) + 131 ≤ 400 + 45 * (d + 1); omega⟩ ⟨by simp [RMd], by simp [RMd]⟩ ⟨rfl, rfl⟩ rfl hl.1 rfl (lv_room (Nat.le_of_ble_eq_true rfl)) dX6_readUnit_83 (fun ev24 H locs hP hD hS => ?_)
        have h := h1 ev24
        refine lv_aload_n hx hb dX6_readUnit_86 rfl (lv_at hl 0 rfl) ?_
        refine lv_iload_n hx hb dX6_readUnit_87 rfl (lv_at hl 1 rfl) ?_
        refine lv_iconst (v := (1 : Int32)) hx hb dX6_readUnit_88 (by decide) ?_
        refine lv_iadd hx hb dX6_readUnit_89 ?_
        obtain ⟨v27, r28, σ26, hc, h1, h2⟩ := bndX_s h
        refine T_callXVv (q0 := 6) (ci := 10) (As := [.int (x1 + (1 : Int32))]) (rest := []) C hA hxt (fun sz => hrec.2.2.2.2.2.1 sz hc) gX6_86 hP hD hS h2 rfl rfl ⟨by simp only [RMd]; omega, by simp only [RMd]; omega⟩ ⟨by simp [RMd], by simp [RMd]⟩ ⟨rfl, rfl⟩ rfl hl.1 rfl (lv_room (Nat.le_of_ble_eq_true rfl)) dX6_readUnit_90 (fun ev27 H locs hP hD hS => ?_)
        have h := h1 ev27
        refine lv_iload_n hx hb dX6_readUnit_93 rfl (lv_at hl 2 rfl) ?_
        refine lv_aload_n hx hb dX6_readUnit_94 rfl (lv_at hl 0 rfl) ?_
        refine T_gfX6_89 C hP dX6_readUnit_95 ?_
        refine lv_ior hx hb dX6_readUnit_98 ?_
        obtain ⟨u29, eu29, h⟩ := letS_n h
        refine lv_topE eu29 ?_
        refine lv_istore_n (lv' := [(2, .int u29), (0, .ref (a 49)), (1, .int x1), (3, .int x3), (4, .int x4)]) hx hb dX6_readUnit_99 rfl hl (by decide) rfl (fun ls hl => ?_)
        refine lv_iload_n hx hb dX6_readUnit_100 rfl (lv_at hl 3 rfl) ?_
        refine lv_aload_n hx hb dX6_readUnit_101 rfl (lv_at hl 1 rfl) ?_
        refine T_gfX6_92 C hP dX6_readUnit_102 ?_
        refine lv_ior hx hb dX6_readUnit_105 ?_
        obtain ⟨u30, eu30, h⟩ := letS_n h
        refine lv_topE eu30 ?_
        refine lv_istore_n (lv' := [(3, .int u30), (2, .int u29), (0, .ref (a 49)), (1, .int x1), (4, .int x4)]) hx hb dX6_readUnit_106 rfl hl (by decide) rfl (fun ls hl => ?_)
        obtain ⟨u31, eu31, h⟩ := letS_n h
        refine lv_iinc (v := u31) (lv' := [(4, .int u31), (3, .int u30), (2, .int u29), (0, .ref (a 49)), (1, .int x1)]) hx hb dX6_readUnit_107 hl (k := 4) rfl (by rw [eu31]; rfl) (by decide) rfl (fun ls hl => ?_)
        refine lv_goto (tgt := 62) hx hb dX6_readUnit_110 (by decide) ?_
        exact ih h hP hD hS (lv_sub hl [3, 4, 2, 1, 0] rfl)
set_option maxHeartbeats 4000000 in
set_option maxRecDepth 100000 in
theorem tX6_readUnit {st : Nat → Nat} {p : Program} {l : Launch} {e : Env} {s : State} {m : MethodId} {args : Array Value} {below : List Frame} {meth : Method} {c : Code} {D : va_G} {a : Nat → Nat} {cc : Nat → ClassId} {A : Nat → Prop} {N : Nat} {rec : Nat → St → Int32 → Option (Int32 × Int32 × St)} {d : Nat} {x r : Int32} {σr : St} (C : T_Cx st l A RX6 p s m args meth c D cc cX6_readUnit (Cond.code yX6_readUnit cX6_readUnit 5 none :: WT) 5 none) (hA : ∀ q, s.heap.size ≤ q → A q) (hxt : ∀ x ∈ c.exceptionTable.toList, False) (hrec : T_rec st l D a cc rec d) {σ : St} {p0 : Int32} {H : Heap} {locs : List Loc} {ls : Array Slot} (h : fX6_readUnit N rec σ p0 = some (x, r, σr)) : va_P D vwCl (wT a cc σ) H → va_D A (wT a cc σ) → va_S A s.heap H locs → lv_has ls 5 [(0, .ref (a 49)), (1, .int p0)] → W p l e (RMd (d + 1)) s m args below meth c H locs 0 0 (T_Mxv D a cc A below args s x r σr) (F0 m 0 ls []) := by
  obtain ⟨hx, hb, hr, hml, hown, hts, hin, hK, hlocks, hTS, hl0⟩ := id C
  intro hP hD hS hl
  refine lv_aload_n hx hb dX6_readUnit_0 rfl (lv_at hl 0 rfl) ?_
  obtain ⟨r2, σ1, hc, h⟩ := bnd_s h
  refine T_callVi (q0 := 6) (ci := 10) (As := []) (rest := []) C hA (fun sz => kX6_peek hl0 sz hc) gX6_53 hP hD hS rfl rfl ⟨by show 0 + 1 ≤ 20 + (d + 1); omega, by show 8 + (1 + 11) + 0 ≤ 400 + 45 * (d + 1); omega⟩ ⟨rfl, rfl⟩ rfl hl.1 rfl (lv_room (Nat.le_of_ble_eq_true rfl)) dX6_readUnit_1 (fun H locs hP hD hS => ?_)
  refine lv_bipush (v := (91 : Int32)) hx hb dX6_readUnit_4 (by decide) ?_
  refine lv_icmp_eq (tgt := 36) hx hb dX6_readUnit_6 (by decide) (fun c3 => ?_) (fun c3 => ?_)
  · have h := ifT c3 h
    refine lv_aload_n hx hb dX6_readUnit_36 rfl (lv_at hl 0 rfl) ?_
    refine lv_bipush (v := (91 : Int32)) hx hb dX6_readUnit_37 (by decide) ?_
    obtain ⟨v5, r6, σ4, hc, h1, h2⟩ := bndX_s h
    refine T_callXVv (q0 := 6) (ci := 10) (As := [.int (91 : Int32)]) (rest := []) C hA hxt (fun sz => kX6_pass hl0 sz hc) gX6_75 hP hD hS h2 rfl rfl ⟨by show 8 + 1 ≤ 20 + (d + 1); omega, by show 8 + (2 + 11) + 131 ≤ 400 + 45 * (d + 1); omega⟩ ⟨by simp [RMd], by simp [RMd]⟩ ⟨rfl, rfl⟩ rfl hl.1 rfl (lv_room (Nat.le_of_ble_eq_true rfl)) dX6_readUnit_39 (fun ev5 H locs hP hD hS => ?_)
    have h := h1 ev5
    refine lv_aload_n hx hb dX6_readUnit_42 rfl (lv_at hl 0 rfl) ?_
    refine lv_iload_n hx hb dX6_readUnit_43 rfl (lv_at hl 1 rfl) ?_
    refine lv_iconst (v := (1 : Int32)) hx hb dX6_readUnit_44 (by decide) ?_
    refine lv_iadd hx hb dX6_readUnit_45 ?_
    obtain ⟨v8, r9, σ7, hc, h1, h2⟩ := bndX_s h
    refine T_callXVv (q0 := 6) (ci := 10) (As := [.int (p0 + (1 : Int32))]) (rest := []) C hA hxt (fun sz => hrec.2.2.2.2.2.1 sz hc) gX6_86 hP hD hS h2 rfl rfl ⟨by simp only [RMd]; omega, by simp only [RMd]; omega⟩ ⟨by simp [RMd], by simp [RMd]⟩ ⟨rfl, rfl⟩ rfl hl.1 rfl (lv_room (Nat.le_of_ble_eq_true rfl)) dX6_readUnit_46 (fun ev8 H locs hP hD hS => ?_)
    have h := h1 ev8
    refine lv_aload_n hx hb dX6_readUnit_49 rfl (lv_at hl 0 rfl) ?_
    refine T_gfX6_89 C hP dX6_readUnit_50 ?_
    obtain ⟨u10, eu10, h⟩ := letS_n h
    refine lv_topE eu10 ?_
    refine lv_istore_n (lv' := [(2, .int u10), (0, .ref (a 49)), (1, .int p0)]) hx hb dX6_readUnit_53 rfl hl (by decide) rfl (fun ls hl => ?_)
    refine lv_aload_n hx hb dX6_readUnit_54 rfl (lv_at hl 1 rfl) ?_
    refine T_gfX6_92 C hP dX6_readUnit_55 ?_
    obtain ⟨u11, eu11, h⟩ := letS_n h
    refine lv_topE eu11 ?_
    refine lv_istore_n (lv' := [(3, .int u11), (2, .int u10), (0, .ref (a 49)), (1, .int p0)]) hx hb dX6_readUnit_58 rfl hl (by decide) rfl (fun ls hl => ?_)
    refine lv_iconst (v := (0 : Int32)) hx hb dX6_readUnit_59 (by decide) ?_
    refine lv_istore (lv' := [(4, .int (0 : Int32)), (3, .int u11), (2, .int u10), (0, .ref (a 49)), (1, .int p0)]) hx hb dX6_readUnit_60 hl (by decide) rfl (fun ls hl => ?_)
    exact tX6_readUnit_62 C hA hxt hrec N h hP hD hS (lv_sub hl [3, 4, 2, 1, 0] rfl)
  · have h := ifF c3 h
    refine lv_aload_n hx hb dX6_readUnit_9 rfl (lv_at hl 0 rfl) ?_
    refine lv_aload_n hx hb dX6_readUnit_10 rfl (lv_at hl 0 rfl) ?_
    refine T_gfX6_15 C hP dX6_readUnit_11 ?_
    refine lv_aload_n hx hb dX6_readUnit_14 rfl (lv_at hl 0 rfl) ?_
    refine lv_iload_n hx hb dX6_readUnit_15 rfl (lv_at hl 1 rfl) ?_
    refine lv_iconst (v := (1 : Int32)) hx hb dX6_readUnit_16 (by decide) ?_
    refine lv_iadd hx hb dX6_readUnit_17 ?_
    obtain ⟨v14, r13, σ12, hc, h1, h2⟩ := bndX_s h
    refine T_callXVi (q0 := 6) (ci := 10) (As := [.int (p0 + (1 : Int32))]) (rest := [.ref (a 29), .ref (a 49)]) C hA hxt (fun sz => hrec.2.2.2.2.2.2.2.2.1 sz hc) gX6_69 hP hD hS h2 rfl rfl ⟨by simp only [RMd]; omega, by simp only [RMd]; omega⟩ ⟨by simp [RMd], by simp [RMd]⟩ ⟨rfl, rfl⟩ rfl hl.1 rfl (lv_room (Nat.le_of_ble_eq_true rfl)) dX6_readUnit_18 (fun ev14 H locs hP hD hS => ?_)
    have h := h1 ev14
    obtain ⟨r16, σ15, hc, h⟩ := bnd_s h
    refine T_callNi (q0 := 2) (ci := 5) (As := [.int r13]) (rest := [.ref (a 49)]) C hA (fun sz => kX1_addPlace hl0 sz hc) gX6_130 hP hD hS rfl rfl ⟨by show 1 + 1 ≤ 20 + (d + 1); omega, by show 8 + (3 + 11) + 20 ≤ 400 + 45 * (d + 1); omega⟩ ⟨rfl, rfl⟩ rfl hl.1 rfl (lv_room (Nat.le_of_ble_eq_true rfl)) dX6_readUnit_21 (fun H locs hP hD hS => ?_)
    obtain ⟨σ17, eσ17, h⟩ := letS_n h
    refine T_pfX6_89 C hP hD hS eσ17 dX6_readUnit_24 (fun H locs hP hD hS => ?_)
    refine lv_aload_n hx hb dX6_readUnit_27 rfl (lv_at hl 0 rfl) ?_
    refine lv_aload_n hx hb dX6_readUnit_28 rfl (lv_at hl 0 rfl) ?_
    refine T_gfX6_89 C hP dX6_readUnit_29 ?_
    obtain ⟨σ18, eσ18, h⟩ := letS_n h
    refine T_pfX6_92 C hP hD hS eσ18 dX6_readUnit_32 (fun H locs hP hD hS => ?_)
    exact T_xvret C h hP hD hS dX6_readUnit_35
set_option maxRecDepth 100000 in
theorem kX6_readUnit {l : Launch} (hl0 : l.stackTraces = false) (sz : Nat) {st : Nat → Nat} {D : va_G} {a : Nat → Nat} {cc : Nat → ClassId} {N : Nat} {rec : Nat → St → Int32 → Option (Int32 × Int32 × St)} {d : Nat} {x r : Int32} {σr : St} (hrec : T_rec st l D a cc rec d) {σ : St} {p0 : Int32} (h : fX6_readUnit N rec σ p0 = some (x, r, σr)) : vy_Met l yX6_readUnit ((Cond.code yX6_readUnit cX6_readUnit 5 none :: WT)) (RMd (d + 1)) (T_Pc st D a cc [.ref (a 49), .int p0] σ sz) (T_Rxv D a cc (va_A (wT a cc σ) sz) x r σr) (T_X D a cc (va_A (wT a cc σ) sz) x σr) (va_A (wT a cc σ) sz) := by
  refine vy_ofW (cc := cX6_readUnit) (maxL := 5) (ret := none) (by decide) rfl ?_
  intro p e s m args below meth c s₁ B hml hxt hv
  obtain ⟨rfl, hsz, hP, hK, hD0, hTS⟩ := hv
  subst hsz
  have hl := lv_entry ([.ref (a 49), .int p0]) (n := 5) (Nat.le_of_ble_eq_true rfl)
  rw [lg_entry_eq]
  generalize (lg_sl ([.ref (a 49), .int p0]) ++ List.replicate (5 - (lg_sl ([.ref (a 49), .int p0])).length) Slot.unset).toArray = ls at hl ⊢
  exact tX6_readUnit ⟨B.exec, B.bytes, B.returns, hml, findClass_of_methodNamed B.named, atoms_spec (ws := (Cond.code yX6_readUnit cX6_readUnit 5 none :: WT)) B.pre, (fun w h => List.mem_cons_of_mem _ h), hK, B.notSynchronized, hTS, hl0⟩ (fun q h => Or.inr h) hxt hrec h hP hD0.self va_S.rf hl
set_option maxHeartbeats 4000000 in
set_option maxRecDepth 100000 in
theorem tX6_readDigit_25 {st : Nat → Nat} {p : Program} {l : Launch} {e : Env} {s : State} {m : MethodId} {args : Array Value} {below : List Frame} {meth : Method} {c : Code} {D : va_G} {a : Nat → Nat} {cc : Nat → ClassId} {A : Nat → Prop} {N : Nat} {x r : Int32} {σr : St} (C : T_Cx st l A RX6 p s m args meth c D cc cX6_readDigit (Cond.code yX6_readDigit cX6_readDigit 3 (some .int) :: WT) 3 (some .int)) (hA : ∀ q, s.heap.size ≤ q → A q) (hxt : ∀ x ∈ c.exceptionTable.toList, False) {σ : St} {x2 : Int32} {y0 : Int32} {H : Heap} {locs : List Loc} {ls : Array Slot} (h : fX6_readDigit_25 N σ x2 y0 = some (x, r, σr)) : va_P D vwCl (wT a cc σ) H → va_D A (wT a cc σ) → va_S A s.heap H locs → lv_has ls 3 [(0, .ref (a 49)), (2, .int x2)] → W p l e rmX6_readDigit s m args below meth c H locs 0 0 (T_Mxi D a cc A below args s x r σr) (F0 m 25 ls [.int y0, .ref (a 49)]) := by
  obtain ⟨hx, hb, hr, hml, hown, hts, hin, hK, hlocks, hTS, hl0⟩ := id C
  intro hP hD hS hl
  obtain ⟨v7, r8, σ6, hc, h1, h2⟩ := bndX_s h
  refine T_callXVv (q0 := 6) (ci := 10) (As := [.int y0]) (rest := []) C hA hxt (fun sz => kX6_require hl0 sz hc) gX6_38 hP hD hS h2 rfl rfl ⟨by decide, by decide⟩ ⟨by decide, by decide⟩ ⟨rfl, rfl⟩ rfl hl.1 rfl (lv_room (Nat.le_of_ble_eq_true rfl)) dX6_readDigit_25 (fun ev7 H locs hP hD hS => ?_)
  have h := h1 ev7
  refine lv_aload_n hx hb dX6_readDigit_28 rfl (lv_at hl 0 rfl) ?_
  refine lv_dup hx hb dX6_readDigit_29 rfl ?_
  refine T_gfX6_23 C hP dX6_readDigit_30 ?_
  refine lv_iconst (v := (1 : Int32)) hx hb dX6_readDigit_33 (by decide) ?_
  refine lv_iadd hx hb dX6_readDigit_34 ?_
  obtain ⟨σ9, eσ9, h⟩ := letS_n h
  refine T_pfX6_23 C hP hD hS eσ9 dX6_readDigit_35 (fun H locs hP hD hS => ?_)
  refine lv_iload_n hx hb dX6_readDigit_38 rfl (lv_at hl 1 rfl) ?_
  exact T_xiret C h hP hD hS dX6_readDigit_39
set_option maxHeartbeats 4000000 in
set_option maxRecDepth 100000 in
theorem tX6_readDigit_24 {st : Nat → Nat} {p : Program} {l : Launch} {e : Env} {s : State} {m : MethodId} {args : Array Value} {below : List Frame} {meth : Method} {c : Code} {D : va_G} {a : Nat → Nat} {cc : Nat → ClassId} {A : Nat → Prop} {N : Nat} {x r : Int32} {σr : St} (C : T_Cx st l A RX6 p s m args meth c D cc cX6_readDigit (Cond.code yX6_readDigit cX6_readDigit 3 (some .int) :: WT) 3 (some .int)) (hA : ∀ q, s.heap.size ≤ q → A q) (hxt : ∀ x ∈ c.exceptionTable.toList, False) {σ : St} {x2 : Int32} {H : Heap} {locs : List Loc} {ls : Array Slot} (h : fX6_readDigit_24 N σ x2 = some (x, r, σr)) : va_P D vwCl (wT a cc σ) H → va_D A (wT a cc σ) → va_S A s.heap H locs → lv_has ls 3 [(0, .ref (a 49)), (2, .int x2)] → W p l e rmX6_readDigit s m args below meth c H locs 0 0 (T_Mxi D a cc A below args s x r σr) (F0 m 24 ls [.ref (a 49)]) := by
  obtain ⟨hx, hb, hr, hml, hown, hts, hin, hK, hlocks, hTS, hl0⟩ := id C
  intro hP hD hS hl
  refine lv_iconst (v := (0 : Int32)) hx hb dX6_readDigit_24 (by decide) ?_
  exact tX6_readDigit_25 C hA hxt h hP hD hS (lv_sub hl [0, 1] rfl)
set_option maxHeartbeats 4000000 in
set_option maxRecDepth 100000 in
theorem tX6_readDigit {st : Nat → Nat} {p : Program} {l : Launch} {e : Env} {s : State} {m : MethodId} {args : Array Value} {below : List Frame} {meth : Method} {c : Code} {D : va_G} {a : Nat → Nat} {cc : Nat → ClassId} {A : Nat → Prop} {N : Nat} {x r : Int32} {σr : St} (C : T_Cx st l A RX6 p s m args meth c D cc cX6_readDigit (Cond.code yX6_readDigit cX6_readDigit 3 (some .int) :: WT) 3 (some .int)) (hA : ∀ q, s.heap.size ≤ q → A q) (hxt : ∀ x ∈ c.exceptionTable.toList, False) {σ : St} {p0 : Int32} {H : Heap} {locs : List Loc} {ls : Array Slot} (h : fX6_readDigit N σ p0 = some (x, r, σr)) : va_P D vwCl (wT a cc σ) H → va_D A (wT a cc σ) → va_S A s.heap H locs → lv_has ls 3 [(0, .ref (a 49)), (1, .int p0)] → W p l e rmX6_readDigit s m args below meth c H locs 0 0 (T_Mxi D a cc A below args s x r σr) (F0 m 0 ls []) := by
  obtain ⟨hx, hb, hr, hml, hown, hts, hin, hK, hlocks, hTS, hl0⟩ := id C
  intro hP hD hS hl
  refine lv_aload_n hx hb dX6_readDigit_0 rfl (lv_at hl 0 rfl) ?_
  obtain ⟨r2, σ1, hc, h⟩ := bnd_s h
  refine T_callVi (q0 := 6) (ci := 10) (As := []) (rest := []) C hA (fun sz => kX6_peek hl0 sz hc) gX6_53 hP hD hS rfl rfl ⟨by decide, by decide⟩ ⟨rfl, rfl⟩ rfl hl.1 rfl (lv_room (Nat.le_of_ble_eq_true rfl)) dX6_readDigit_1 (fun H locs hP hD hS => ?_)
  refine lv_bipush (v := (48 : Int32)) hx hb dX6_readDigit_4 (by decide) ?_
  refine lv_isub hx hb dX6_readDigit_6 ?_
  obtain ⟨u3, eu3, h⟩ := letS_n h
  refine lv_topE eu3 ?_
  refine lv_istore_n (lv' := [(2, .int u3), (0, .ref (a 49)), (1, .int p0)]) hx hb dX6_readDigit_7 rfl hl (by decide) rfl (fun ls hl => ?_)
  refine lv_aload_n hx hb dX6_readDigit_8 rfl (lv_at hl 1 rfl) ?_
  refine lv_iload_n hx hb dX6_readDigit_9 rfl (lv_at hl 0 rfl) ?_
  refine lv_iload_n hx hb dX6_readDigit_10 rfl (lv_at hl 2 rfl) ?_
  refine lv_icmp_lt (tgt := 24) hx hb dX6_readDigit_11 (by decide) (fun c4 => ?_) (fun c4 => ?_)
  · have h := ifT c4 h
    exact tX6_readDigit_24 C hA hxt h hP hD hS (lv_sub hl [1, 0] rfl)
  · have h := ifF c4 h
    refine lv_iload_n hx hb dX6_readDigit_14 rfl (lv_at hl 0 rfl) ?_
    refine lv_bipush (v := (9 : Int32)) hx hb dX6_readDigit_15 (by decide) ?_
    refine lv_icmp_gt (tgt := 24) hx hb dX6_readDigit_17 (by decide) (fun c5 => ?_) (fun c5 => ?_)
    · have h := ifT c5 h
      exact tX6_readDigit_24 C hA hxt h hP hD hS (lv_sub hl [1, 0] rfl)
    · have h := ifF c5 h
      refine lv_iconst (v := (1 : Int32)) hx hb dX6_readDigit_20 (by decide) ?_
      refine lv_goto (tgt := 25) hx hb dX6_readDigit_21 (by decide) ?_
      exact tX6_readDigit_25 C hA hxt h hP hD hS (lv_sub hl [1, 0] rfl)
set_option maxRecDepth 100000 in
theorem kX6_readDigit {l : Launch} (hl0 : l.stackTraces = false) (sz : Nat) {st : Nat → Nat} {D : va_G} {a : Nat → Nat} {cc : Nat → ClassId} {N : Nat} {x r : Int32} {σr : St} {σ : St} {p0 : Int32} (h : fX6_readDigit N σ p0 = some (x, r, σr)) : vy_Met l yX6_readDigit ((Cond.code yX6_readDigit cX6_readDigit 3 (some .int) :: WT)) rmX6_readDigit (T_Pc st D a cc [.ref (a 49), .int p0] σ sz) (T_Rxi D a cc (va_A (wT a cc σ) sz) x r σr) (T_X D a cc (va_A (wT a cc σ) sz) x σr) (va_A (wT a cc σ) sz) := by
  refine vy_ofW (cc := cX6_readDigit) (maxL := 3) (ret := (some .int)) (by decide) rfl ?_
  intro p e s m args below meth c s₁ B hml hxt hv
  obtain ⟨rfl, hsz, hP, hK, hD0, hTS⟩ := hv
  subst hsz
  have hl := lv_entry ([.ref (a 49), .int p0]) (n := 3) (Nat.le_of_ble_eq_true rfl)
  rw [lg_entry_eq]
  generalize (lg_sl ([.ref (a 49), .int p0]) ++ List.replicate (3 - (lg_sl ([.ref (a 49), .int p0])).length) Slot.unset).toArray = ls at hl ⊢
  exact tX6_readDigit ⟨B.exec, B.bytes, B.returns, hml, findClass_of_methodNamed B.named, atoms_spec (ws := (Cond.code yX6_readDigit cX6_readDigit 3 (some .int) :: WT)) B.pre, (fun w h => List.mem_cons_of_mem _ h), hK, B.notSynchronized, hTS, hl0⟩ (fun q h => Or.inr h) hxt h hP hD0.self va_S.rf hl
set_option maxHeartbeats 4000000 in
set_option maxRecDepth 100000 in
theorem tX6_repeat_107 {st : Nat → Nat} {p : Program} {l : Launch} {e : Env} {s : State} {m : MethodId} {args : Array Value} {below : List Frame} {meth : Method} {c : Code} {D : va_G} {a : Nat → Nat} {cc : Nat → ClassId} {A : Nat → Prop} {N : Nat} {σr : St} {k49 : St → Int32 → Int32 → Int32 → Int32 → Int32 → Option St} (C : T_Cx st l A RX6 p s m args meth c D cc cX6_repeat (Cond.code yX6_repeat cX6_repeat 7 none :: WT) 7 none) (hA : ∀ q, s.heap.size ≤ q → A q) (hk49 : ∀ {σ : St} {x2 : Int32} {x3 : Int32} {x4 : Int32} {x5 : Int32} {x6 : Int32} {H : Heap} {locs : List Loc} {ls : Array Slot}, k49 σ x2 x3 x4 x5 x6 = some σr → va_P D vwCl (wT a cc σ) H → va_D A (wT a cc σ) → va_S A s.heap H locs → lv_has ls 7 [(0, .ref (a 49)), (2, .int x2), (3, .int x3), (4, .int x4), (5, .int x5), (6, .int x6)] → W p l e rmX6_repeat s m args below meth c H locs 0 0 (T_Mv D a cc A below args s σr) (F0 m 49 ls [])) {σ : St} {x2 : Int32} {x3 : Int32} {x4 : Int32} {x5 : Int32} {x6 : Int32} {H : Heap} {locs : List Loc} {ls : Array Slot} (h : fX6_repeat_107 N k49 σ x2 x3 x4 x5 x6 = some σr) : va_P D vwCl (wT a cc σ) H → va_D A (wT a cc σ) → va_S A s.heap H locs → lv_has ls 7 [(0, .ref (a 49)), (2, .int x2), (3, .int x3), (4, .int x4), (5, .int x5), (6, .int x6)] → W p l e rmX6_repeat s m args below meth c H locs 0 0 (T_Mv D a cc A below args s σr) (F0 m 107 ls []) := by
  obtain ⟨hx, hb, hr, hml, hown, hts, hin, hK, hlocks, hTS, hl0⟩ := id C
  intro hP hD hS hl
  obtain ⟨u10, eu10, h⟩ := letS_n h
  refine lv_iinc (v := u10) (lv' := [(6, .int u10), (0, .ref (a 49)), (2, .int x2), (3, .int x3), (4, .int x4), (5, .int x5)]) hx hb dX6_repeat_107 hl (k := 5) rfl (by rw [eu10]; rfl) (by decide) rfl (fun ls hl => ?_)
  refine lv_goto (tgt := 49) hx hb dX6_repeat_110 (by decide) ?_
  exact hk49 h hP hD hS (lv_sub hl [1, 2, 3, 4, 5, 0] rfl)
set_option maxHeartbeats 4000000 in
set_option maxRecDepth 100000 in
theorem tX6_repeat_49 {st : Nat → Nat} {p : Program} {l : Launch} {e : Env} {s : State} {m : MethodId} {args : Array Value} {below : List Frame} {meth : Method} {c : Code} {D : va_G} {a : Nat → Nat} {cc : Nat → ClassId} {A : Nat → Prop} {N : Nat} {σr : St} (C : T_Cx st l A RX6 p s m args meth c D cc cX6_repeat (Cond.code yX6_repeat cX6_repeat 7 none :: WT) 7 none) (hA : ∀ q, s.heap.size ≤ q → A q) : ∀ (n : Nat) {σ : St} {x2 : Int32} {x3 : Int32} {x4 : Int32} {x5 : Int32} {x6 : Int32} {H : Heap} {locs : List Loc} {ls : Array Slot}, fX6_repeat_49 N n σ x2 x3 x4 x5 x6 = some σr → va_P D vwCl (wT a cc σ) H → va_D A (wT a cc σ) → va_S A s.heap H locs → lv_has ls 7 [(0, .ref (a 49)), (2, .int x2), (3, .int x3), (4, .int x4), (5, .int x5), (6, .int x6)] → W p l e rmX6_repeat s m args below meth c H locs 0 0 (T_Mv D a cc A below args s σr) (F0 m 49 ls []) := by
  obtain ⟨hx, hb, hr, hml, hown, hts, hin, hK, hlocks, hTS, hl0⟩ := id C
  intro n
  induction n with
  | zero => intro σ x2 x3 x4 x5 x6 H locs ls h; exact none_s h
  | succ n ih =>
    intro σ x2 x3 x4 x5 x6 H locs ls h hP hD hS hl
    refine lv_iload hx hb dX6_repeat_49 (lv_at hl 5 rfl) ?_
    refine lv_iload_n hx hb dX6_repeat_51 rfl (lv_at hl 2 rfl) ?_
    refine lv_icmp_ge (tgt := 113) hx hb dX6_repeat_52 (by decide) (fun c5 => ?_) (fun c5 => ?_)
    · have h := ifT c5 h
      refine lv_aload_n hx hb dX6_repeat_113 rfl (lv_at hl 0 rfl) ?_
      refine lv_iload hx hb dX6_repeat_114 (lv_at hl 4 rfl) ?_
      obtain ⟨σ6, eσ6, h⟩ := letS_n h
      refine T_pfX6_92 C hP hD hS eσ6 dX6_repeat_116 (fun H locs hP hD hS => ?_)
      exact T_vret C h hP hD hS dX6_repeat_119
    · have h := ifF c5 h
      refine lv_aload_n hx hb dX6_repeat_55 rfl (lv_at hl 0 rfl) ?_
      refine T_gfX6_15 C hP dX6_repeat_56 ?_
      refine lv_aload_n hx hb dX6_repeat_59 rfl (lv_at hl 0 rfl) ?_
      refine T_gfX6_92 C hP dX6_repeat_60 ?_
      refine lv_iload hx hb dX6_repeat_63 (lv_at hl 3 rfl) ?_
      refine lv_iload hx hb dX6_repeat_65 (lv_at hl 5 rfl) ?_
      refine lv_iconst (v := (1 : Int32)) hx hb dX6_repeat_67 (by decide) ?_
      refine lv_isub hx hb dX6_repeat_68 ?_
      refine lv_imul hx hb dX6_repeat_69 ?_
      refine lv_ishl hx hb dX6_repeat_70 ?_
      refine lv_aload_n hx hb dX6_repeat_71 rfl (lv_at hl 0 rfl) ?_
      refine T_gfX6_89 C hP dX6_repeat_72 ?_
      refine lv_iload hx hb dX6_repeat_75 (lv_at hl 3 rfl) ?_
      refine lv_iload hx hb dX6_repeat_77 (lv_at hl 5 rfl) ?_
      refine lv_imul hx hb dX6_repeat_79 ?_
      refine lv_ishl hx hb dX6_repeat_80 ?_
      obtain ⟨σ7, hc, h⟩ := bnd1_s h
      refine T_callNv (q0 := 2) (ci := 5) (As := [.int ((gI σ 46 0) <<< ((x4 * (x6 - (1 : Int32))) &&& 31)), .int ((gI σ 45 0) <<< ((x4 * x6) &&& 31))]) (rest := []) C hA (fun sz => kX1_link hl0 sz hc) gX6_116 hP hD hS rfl rfl ⟨by decide, by decide⟩ ⟨rfl, rfl⟩ rfl hl.1 rfl (lv_room (Nat.le_of_ble_eq_true rfl)) dX6_repeat_81 (fun H locs hP hD hS => ?_)
      refine lv_iload hx hb dX6_repeat_84 (lv_at hl 5 rfl) ?_
      refine lv_iconst (v := (1 : Int32)) hx hb dX6_repeat_86 (by decide) ?_
      refine lv_iadd hx hb dX6_repeat_87 ?_
      refine lv_iload_n hx hb dX6_repeat_88 rfl (lv_at hl 1 rfl) ?_
      refine lv_icmp_lt (tgt := 107) hx hb dX6_repeat_89 (by decide) (fun c8 => ?_) (fun c8 => ?_)
      · have h := ifT c8 h
        exact tX6_repeat_107 C hA ih h hP hD hS (lv_sub hl [0, 1, 2, 3, 4, 5] rfl)
      · have h := ifF c8 h
        refine lv_iload hx hb dX6_repeat_92 (lv_at hl 4 rfl) ?_
        refine lv_aload_n hx hb dX6_repeat_94 rfl (lv_at hl 0 rfl) ?_
        refine T_gfX6_92 C hP dX6_repeat_95 ?_
        refine lv_iload hx hb dX6_repeat_98 (lv_at hl 3 rfl) ?_
        refine lv_iload hx hb dX6_repeat_100 (lv_at hl 5 rfl) ?_
        refine lv_imul hx hb dX6_repeat_102 ?_
        refine lv_ishl hx hb dX6_repeat_103 ?_
        refine lv_ior hx hb dX6_repeat_104 ?_
        obtain ⟨u9, eu9, h⟩ := letS_n h
        refine lv_topE eu9 ?_
        refine lv_istore (lv' := [(5, .int u9), (0, .ref (a 49)), (2, .int x2), (3, .int x3), (4, .int x4), (6, .int x6)]) hx hb dX6_repeat_105 hl (by decide) rfl (fun ls hl => ?_)
        exact tX6_repeat_107 C hA ih h hP hD hS (lv_sub hl [1, 2, 3, 4, 0, 5] rfl)
set_option maxHeartbeats 4000000 in
set_option maxRecDepth 100000 in
theorem tX6_repeat_44 {st : Nat → Nat} {p : Program} {l : Launch} {e : Env} {s : State} {m : MethodId} {args : Array Value} {below : List Frame} {meth : Method} {c : Code} {D : va_G} {a : Nat → Nat} {cc : Nat → ClassId} {A : Nat → Prop} {N : Nat} {σr : St} (C : T_Cx st l A RX6 p s m args meth c D cc cX6_repeat (Cond.code yX6_repeat cX6_repeat 7 none :: WT) 7 none) (hA : ∀ q, s.heap.size ≤ q → A q) {σ : St} {x2 : Int32} {x3 : Int32} {x4 : Int32} {y0 : Int32} {H : Heap} {locs : List Loc} {ls : Array Slot} (h : fX6_repeat_44 N σ x2 x3 x4 y0 = some σr) : va_P D vwCl (wT a cc σ) H → va_D A (wT a cc σ) → va_S A s.heap H locs → lv_has ls 7 [(0, .ref (a 49)), (2, .int x2), (3, .int x3), (4, .int x4)] → W p l e rmX6_repeat s m args below meth c H locs 0 0 (T_Mv D a cc A below args s σr) (F0 m 44 ls [.int y0]) := by
  obtain ⟨hx, hb, hr, hml, hown, hts, hin, hK, hlocks, hTS, hl0⟩ := id C
  intro hP hD hS hl
  refine lv_istore (lv' := [(5, .int y0), (0, .ref (a 49)), (2, .int x2), (3, .int x3), (4, .int x4)]) hx hb dX6_repeat_44 hl (by decide) rfl (fun ls hl => ?_)
  refine lv_iconst (v := (1 : Int32)) hx hb dX6_repeat_46 (by decide) ?_
  refine lv_istore (lv' := [(6, .int (1 : Int32)), (5, .int y0), (0, .ref (a 49)), (2, .int x2), (3, .int x3), (4, .int x4)]) hx hb dX6_repeat_47 hl (by decide) rfl (fun ls hl => ?_)
  exact tX6_repeat_49 C hA N h hP hD hS (lv_sub hl [2, 3, 4, 5, 1, 0] rfl)
set_option maxHeartbeats 4000000 in
set_option maxRecDepth 100000 in
theorem tX6_repeat {st : Nat → Nat} {p : Program} {l : Launch} {e : Env} {s : State} {m : MethodId} {args : Array Value} {below : List Frame} {meth : Method} {c : Code} {D : va_G} {a : Nat → Nat} {cc : Nat → ClassId} {A : Nat → Prop} {N : Nat} {σr : St} (C : T_Cx st l A RX6 p s m args meth c D cc cX6_repeat (Cond.code yX6_repeat cX6_repeat 7 none :: WT) 7 none) (hA : ∀ q, s.heap.size ≤ q → A q) {σ : St} {p0 : Int32} {p1 : Int32} {p2 : Int32} {H : Heap} {locs : List Loc} {ls : Array Slot} (h : fX6_repeat N σ p0 p1 p2 = some σr) : va_P D vwCl (wT a cc σ) H → va_D A (wT a cc σ) → va_S A s.heap H locs → lv_has ls 7 [(0, .ref (a 49)), (1, .int p0), (2, .int p1), (3, .int p2)] → W p l e rmX6_repeat s m args below meth c H locs 0 0 (T_Mv D a cc A below args s σr) (F0 m 0 ls []) := by
  obtain ⟨hx, hb, hr, hml, hown, hts, hin, hK, hlocks, hTS, hl0⟩ := id C
  intro hP hD hS hl
  refine lv_aload_n hx hb dX6_repeat_0 rfl (lv_at hl 0 rfl) ?_
  refine T_gfX6_15 C hP dX6_repeat_1 ?_
  refine T_gfX6_83 C hP dX6_repeat_4 ?_
  refine lv_iload_n hx hb dX6_repeat_7 rfl (lv_at hl 1 rfl) ?_
  refine lv_isub hx hb dX6_repeat_8 ?_
  obtain ⟨u1, eu1, h⟩ := letS_n h
  refine lv_topE eu1 ?_
  refine lv_istore (lv' := [(4, .int u1), (0, .ref (a 49)), (1, .int p0), (2, .int p1), (3, .int p2)]) hx hb dX6_repeat_9 hl (by decide) rfl (fun ls hl => ?_)
  refine lv_aload_n hx hb dX6_repeat_11 rfl (lv_at hl 1 rfl) ?_
  refine T_gfX6_15 C hP dX6_repeat_12 ?_
  refine lv_iload_n hx hb dX6_repeat_15 rfl (lv_at hl 2 rfl) ?_
  refine lv_iload_n hx hb dX6_repeat_16 rfl (lv_at hl 4 rfl) ?_
  obtain ⟨σ2, hc, h⟩ := bnd1_s h
  refine T_callNv (q0 := 2) (ci := 5) (As := [.int p0, .int p2]) (rest := []) C hA (fun sz => kX1_copyPlaces hl0 sz hc) gX6_133 hP hD hS rfl rfl ⟨by decide, by decide⟩ ⟨rfl, rfl⟩ rfl hl.1 rfl (lv_room (Nat.le_of_ble_eq_true rfl)) dX6_repeat_17 (fun H locs hP hD hS => ?_)
  refine lv_aload_n hx hb dX6_repeat_20 rfl (lv_at hl 1 rfl) ?_
  refine T_gfX6_15 C hP dX6_repeat_21 ?_
  refine T_gfX6_136 C hP dX6_repeat_24 ?_
  refine lv_if_ne (tgt := 31) hx hb dX6_repeat_27 (by decide) (fun c3 => ?_) (fun c3 => ?_)
  · have h := ifF c3 h
    refine lv_iload_n hx hb dX6_repeat_31 rfl (lv_at hl 3 rfl) ?_
    refine lv_iconst (v := (1 : Int32)) hx hb dX6_repeat_32 (by decide) ?_
    refine lv_icmp_ne (tgt := 43) hx hb dX6_repeat_33 (by decide) (fun c4 => ?_) (fun c4 => ?_)
    · have h := ifF c4 h
      refine lv_iconst (v := (0 : Int32)) hx hb dX6_repeat_43 (by decide) ?_
      exact tX6_repeat_44 C hA h hP hD hS (lv_sub hl [1, 3, 4, 0] rfl)
    · have h := ifT c4 h
      refine lv_aload_n hx hb dX6_repeat_36 rfl (lv_at hl 1 rfl) ?_
      refine T_gfX6_92 C hP dX6_repeat_37 ?_
      refine lv_goto (tgt := 44) hx hb dX6_repeat_40 (by decide) ?_
      exact tX6_repeat_44 C hA h hP hD hS (lv_sub hl [1, 3, 4, 0] rfl)
  · have h := ifT c3 h
    exact T_vret C h hP hD hS dX6_repeat_30
set_option maxRecDepth 100000 in
theorem kX6_repeat {l : Launch} (hl0 : l.stackTraces = false) (sz : Nat) {st : Nat → Nat} {D : va_G} {a : Nat → Nat} {cc : Nat → ClassId} {N : Nat} {σr : St} {σ : St} {p0 : Int32} {p1 : Int32} {p2 : Int32} (h : fX6_repeat N σ p0 p1 p2 = some σr) : Met l yX6_repeat ((Cond.code yX6_repeat cX6_repeat 7 none :: WT)) rmX6_repeat (T_Pc st D a cc [.ref (a 49), .int p0, .int p1, .int p2] σ sz) (T_Qv D a cc σ sz σr) 0 0 (va_A (wT a cc σ) sz) := by
  refine Met.ofW (cc := cX6_repeat) (maxL := 7) (ret := none) (by decide) rfl ?_
  intro p e s m args below meth c s₁ B hml hv
  obtain ⟨rfl, hsz, hP, hK, hD0, hTS⟩ := hv
  subst hsz
  have hl := lv_entry ([.ref (a 49), .int p0, .int p1, .int p2]) (n := 7) (Nat.le_of_ble_eq_true rfl)
  rw [lg_entry_eq]
  generalize (lg_sl ([.ref (a 49), .int p0, .int p1, .int p2]) ++ List.replicate (7 - (lg_sl ([.ref (a 49), .int p0, .int p1, .int p2])).length) Slot.unset).toArray = ls at hl ⊢
  exact tX6_repeat ⟨B.exec, B.bytes, B.returns, hml, findClass_of_methodNamed B.named, atoms_spec (ws := (Cond.code yX6_repeat cX6_repeat 7 none :: WT)) B.pre, (fun w h => List.mem_cons_of_mem _ h), hK, B.notSynchronized, hTS, hl0⟩ (fun q h => Or.inr h) h hP hD0.self va_S.rf hl
set_option maxHeartbeats 4000000 in
set_option maxRecDepth 100000 in
theorem tX6_readTerm_92 {st : Nat → Nat} {p : Program} {l : Launch} {e : Env} {s : State} {m : MethodId} {args : Array Value} {below : List Frame} {meth : Method} {c : Code} {D : va_G} {a : Nat → Nat} {cc : Nat → ClassId} {A : Nat → Prop} {N : Nat} {rec : Nat → St → Int32 → Option (Int32 × Int32 × St)} {d : Nat} {x r : Int32} {σr : St} (C : T_Cx st l A RX6 p s m args meth c D cc cX6_readTerm (Cond.code yX6_readTerm cX6_readTerm 5 none :: WT) 5 none) (hA : ∀ q, s.heap.size ≤ q → A q) (hxt : ∀ x ∈ c.exceptionTable.toList, False) (hrec : T_rec st l D a cc rec d) {σ : St} {x2 : Int32} {x3 : Int32} {x4 : Int32} {H : Heap} {locs : List Loc} {ls : Array Slot} (h : fX6_readTerm_92 N rec σ x2 x3 x4 = some (x, r, σr)) : va_P D vwCl (wT a cc σ) H → va_D A (wT a cc σ) → va_S A s.heap H locs → lv_has ls 5 [(0, .ref (a 49)), (2, .int x2), (3, .int x3), (4, .int x4)] → W p l e (RMd (d + 1)) s m args below meth c H locs 0 0 (T_Mxv D a cc A below args s x r σr) (F0 m 92 ls []) := by
  obtain ⟨hx, hb, hr, hml, hown, hts, hin, hK, hlocks, hTS, hl0⟩ := id C
  intro hP hD hS hl
  refine lv_aload_n hx hb dX6_readTerm_92 rfl (lv_at hl 0 rfl) ?_
  refine lv_iload_n hx hb dX6_readTerm_93 rfl (lv_at hl 1 rfl) ?_
  refine lv_iload_n hx hb dX6_readTerm_94 rfl (lv_at hl 2 rfl) ?_
  refine lv_iload hx hb dX6_readTerm_95 (lv_at hl 3 rfl) ?_
  obtain ⟨σ30, hc, h⟩ := bnd1_s h
  refine T_callVv (q0 := 6) (ci := 10) (As := [.int x2, .int x3, .int x4]) (rest := []) C hA (fun sz => kX6_repeat hl0 sz hc) gX6_126 hP hD hS rfl rfl ⟨by show 2 + 1 ≤ 20 + (d + 1); omega, by show 8 + (7 + 11) + 44 ≤ 400 + 45 * (d + 1); omega⟩ ⟨rfl, rfl⟩ rfl hl.1 rfl (lv_room (Nat.le_of_ble_eq_true rfl)) dX6_readTerm_97 (fun H locs hP hD hS => ?_)
  exact T_xvret C h hP hD hS dX6_readTerm_100
set_option maxHeartbeats 4000000 in
set_option maxRecDepth 100000 in
theorem tX6_readTerm {st : Nat → Nat} {p : Program} {l : Launch} {e : Env} {s : State} {m : MethodId} {args : Array Value} {below : List Frame} {meth : Method} {c : Code} {D : va_G} {a : Nat → Nat} {cc : Nat → ClassId} {A : Nat → Prop} {N : Nat} {rec : Nat → St → Int32 → Option (Int32 × Int32 × St)} {d : Nat} {x r : Int32} {σr : St} (C : T_Cx st l A RX6 p s m args meth c D cc cX6_readTerm (Cond.code yX6_readTerm cX6_readTerm 5 none :: WT) 5 none) (hA : ∀ q, s.heap.size ≤ q → A q) (hxt : ∀ x ∈ c.exceptionTable.toList, False) (hrec : T_rec st l D a cc rec d) {σ : St} {p0 : Int32} {H : Heap} {locs : List Loc} {ls : Array Slot} (h : fX6_readTerm N rec σ p0 = some (x, r, σr)) : va_P D vwCl (wT a cc σ) H → va_D A (wT a cc σ) → va_S A s.heap H locs → lv_has ls 5 [(0, .ref (a 49)), (1, .int p0)] → W p l e (RMd (d + 1)) s m args below meth c H locs 0 0 (T_Mxv D a cc A below args s x r σr) (F0 m 0 ls []) := by
  obtain ⟨hx, hb, hr, hml, hown, hts, hin, hK, hlocks, hTS, hl0⟩ := id C
  intro hP hD hS hl
  refine lv_aload_n hx hb dX6_readTerm_0 rfl (lv_at hl 0 rfl) ?_
  refine T_gfX6_15 C hP dX6_readTerm_1 ?_
  refine T_gfX6_83 C hP dX6_readTerm_4 ?_
  obtain ⟨u1, eu1, h⟩ := letS_n h
  refine lv_topE eu1 ?_
  refine lv_istore_n (lv' := [(2, .int u1), (0, .ref (a 49)), (1, .int p0)]) hx hb dX6_readTerm_7 rfl hl (by decide) rfl (fun ls hl => ?_)
  refine lv_aload_n hx hb dX6_readTerm_8 rfl (lv_at hl 1 rfl) ?_
  refine lv_iload_n hx hb dX6_readTerm_9 rfl (lv_at hl 2 rfl) ?_
  obtain ⟨v3, r4, σ2, hc, h1, h2⟩ := bndX_s h
  refine T_callXVv (q0 := 6) (ci := 10) (As := [.int p0]) (rest := []) C hA hxt (fun sz => hrec.2.2.2.2.2.2.2.1 sz hc) gX6_120 hP hD hS h2 rfl rfl ⟨by simp only [RMd]; omega, by simp only [RMd]; omega⟩ ⟨by simp [RMd], by simp [RMd]⟩ ⟨rfl, rfl⟩ rfl hl.1 rfl (lv_room (Nat.le_of_ble_eq_true rfl)) dX6_readTerm_10 (fun ev3 H locs hP hD hS => ?_)
  have h := h1 ev3
  refine lv_aload_n hx hb dX6_readTerm_13 rfl (lv_at hl 1 rfl) ?_
  obtain ⟨r6, σ5, hc, h⟩ := bnd_s h
  refine T_callVi (q0 := 6) (ci := 10) (As := []) (rest := []) C hA (fun sz => kX6_peek hl0 sz hc) gX6_53 hP hD hS rfl rfl ⟨by show 0 + 1 ≤ 20 + (d + 1); omega, by show 8 + (1 + 11) + 0 ≤ 400 + 45 * (d + 1); omega⟩ ⟨rfl, rfl⟩ rfl hl.1 rfl (lv_room (Nat.le_of_ble_eq_true rfl)) dX6_readTerm_14 (fun H locs hP hD hS => ?_)
  refine lv_bipush (v := (43 : Int32)) hx hb dX6_readTerm_17 (by decide) ?_
  refine lv_icmp_ne (tgt := 46) hx hb dX6_readTerm_19 (by decide) (fun c7 => ?_) (fun c7 => ?_)
  · have h := ifF c7 h
    refine lv_aload_n hx hb dX6_readTerm_46 rfl (lv_at hl 1 rfl) ?_
    obtain ⟨r9, σ8, hc, h⟩ := bnd_s h
    refine T_callVi (q0 := 6) (ci := 10) (As := []) (rest := []) C hA (fun sz => kX6_peek hl0 sz hc) gX6_53 hP hD hS rfl rfl ⟨by show 0 + 1 ≤ 20 + (d + 1); omega, by show 8 + (1 + 11) + 0 ≤ 400 + 45 * (d + 1); omega⟩ ⟨rfl, rfl⟩ rfl hl.1 rfl (lv_room (Nat.le_of_ble_eq_true rfl)) dX6_readTerm_47 (fun H locs hP hD hS => ?_)
    refine lv_bipush (v := (42 : Int32)) hx hb dX6_readTerm_50 (by decide) ?_
    refine lv_icmp_ne (tgt := 100) hx hb dX6_readTerm_52 (by decide) (fun c10 => ?_) (fun c10 => ?_)
    · have h := ifF c10 h
      exact T_xvret C h hP hD hS dX6_readTerm_100
    · have h := ifT c10 h
      refine lv_aload_n hx hb dX6_readTerm_55 rfl (lv_at hl 1 rfl) ?_
      refine lv_bipush (v := (42 : Int32)) hx hb dX6_readTerm_56 (by decide) ?_
      obtain ⟨v12, r13, σ11, hc, h1, h2⟩ := bndX_s h
      refine T_callXVv (q0 := 6) (ci := 10) (As := [.int (42 : Int32)]) (rest := []) C hA hxt (fun sz => kX6_pass hl0 sz hc) gX6_75 hP hD hS h2 rfl rfl ⟨by show 8 + 1 ≤ 20 + (d + 1); omega, by show 8 + (2 + 11) + 131 ≤ 400 + 45 * (d + 1); omega⟩ ⟨by simp [RMd], by simp [RMd]⟩ ⟨rfl, rfl⟩ rfl hl.1 rfl (lv_room (Nat.le_of_ble_eq_true rfl)) dX6_readTerm_58 (fun ev12 H locs hP hD hS => ?_)
      have h := h1 ev12
      refine lv_aload_n hx hb dX6_readTerm_61 rfl (lv_at hl 1 rfl) ?_
      refine lv_iconst (v := (1 : Int32)) hx hb dX6_readTerm_62 (by decide) ?_
      obtain ⟨v16, r15, σ14, hc, h1, h2⟩ := bndX_s h
      refine T_callXVi (q0 := 6) (ci := 10) (As := [.int (1 : Int32)]) (rest := []) C hA hxt (fun sz => kX6_readDigit hl0 sz hc) gX6_123 hP hD hS h2 rfl rfl ⟨by show 8 + 1 ≤ 20 + (d + 1); omega, by show 8 + (3 + 11) + 131 ≤ 400 + 45 * (d + 1); omega⟩ ⟨by simp [RMd], by simp [RMd]⟩ ⟨rfl, rfl⟩ rfl hl.1 rfl (lv_room (Nat.le_of_ble_eq_true rfl)) dX6_readTerm_63 (fun ev16 H locs hP hD hS => ?_)
      have h := h1 ev16
      refine lv_istore_n (lv' := [(3, .int r15), (2, .int u1), (0, .ref (a 49)), (1, .int p0)]) hx hb dX6_readTerm_66 rfl hl (by decide) rfl (fun ls hl => ?_)
      refine lv_iload_n hx hb dX6_readTerm_67 rfl (lv_at hl 0 rfl) ?_
      refine lv_istore (lv' := [(4, .int r15), (3, .int r15), (2, .int u1), (0, .ref (a 49)), (1, .int p0)]) hx hb dX6_readTerm_68 hl (by decide) rfl (fun ls hl => ?_)
      refine lv_aload_n hx hb dX6_readTerm_70 rfl (lv_at hl 3 rfl) ?_
      obtain ⟨r18, σ17, hc, h⟩ := bnd_s h
      refine T_callVi (q0 := 6) (ci := 10) (As := []) (rest := []) C hA (fun sz => kX6_peek hl0 sz hc) gX6_53 hP hD hS rfl rfl ⟨by show 0 + 1 ≤ 20 + (d + 1); omega, by show 8 + (1 + 11) + 0 ≤ 400 + 45 * (d + 1); omega⟩ ⟨rfl, rfl⟩ rfl hl.1 rfl (lv_room (Nat.le_of_ble_eq_true rfl)) dX6_readTerm_71 (fun H locs hP hD hS => ?_)
      refine lv_bipush (v := (45 : Int32)) hx hb dX6_readTerm_74 (by decide) ?_
      refine lv_icmp_ne (tgt := 92) hx hb dX6_readTerm_76 (by decide) (fun c19 => ?_) (fun c19 => ?_)
      · have h := ifF c19 h
        exact tX6_readTerm_92 C hA hxt hrec h hP hD hS (lv_sub hl [3, 2, 1, 0] rfl)
      · have h := ifT c19 h
        refine lv_aload_n hx hb dX6_readTerm_79 rfl (lv_at hl 3 rfl) ?_
        refine lv_bipush (v := (45 : Int32)) hx hb dX6_readTerm_80 (by decide) ?_
        obtain ⟨v21, r22, σ20, hc, h1, h2⟩ := bndX_s h
        refine T_callXVv (q0 := 6) (ci := 10) (As := [.int (45 : Int32)]) (rest := []) C hA hxt (fun sz => kX6_pass hl0 sz hc) gX6_75 hP hD hS h2 rfl rfl ⟨by show 8 + 1 ≤ 20 + (d + 1); omega, by show 8 + (2 + 11) + 131 ≤ 400 + 45 * (d + 1); omega⟩ ⟨by simp [RMd], by simp [RMd]⟩ ⟨rfl, rfl⟩ rfl hl.1 rfl (lv_room (Nat.le_of_ble_eq_true rfl)) dX6_readTerm_82 (fun ev21 H locs hP hD hS => ?_)
        have h := h1 ev21
        refine lv_aload_n hx hb dX6_readTerm_85 rfl (lv_at hl 3 rfl) ?_
        refine lv_iload_n hx hb dX6_readTerm_86 rfl (lv_at hl 1 rfl) ?_
        obtain ⟨v25, r24, σ23, hc, h1, h2⟩ := bndX_s h
        refine T_callXVi (q0 := 6) (ci := 10) (As := [.int r15]) (rest := []) C hA hxt (fun sz => kX6_readDigit hl0 sz hc) gX6_123 hP hD hS h2 rfl rfl ⟨by show 8 + 1 ≤ 20 + (d + 1); omega, by show 8 + (3 + 11) + 131 ≤ 400 + 45 * (d + 1); omega⟩ ⟨by simp [RMd], by simp [RMd]⟩ ⟨rfl, rfl⟩ rfl hl.1 rfl (lv_room (Nat.le_of_ble_eq_true rfl)) dX6_readTerm_87 (fun ev25 H locs hP hD hS => ?_)
        have h := h1 ev25
        refine lv_istore (lv' := [(4, .int r24), (3, .int r15), (2, .int u1), (0, .ref (a 49)), (1, .int p0)]) hx hb dX6_readTerm_90 hl (by decide) rfl (fun ls hl => ?_)
        exact tX6_readTerm_92 C hA hxt hrec h hP hD hS (lv_sub hl [3, 2, 1, 0] rfl)
  · have h := ifT c7 h
    refine lv_aload_n hx hb dX6_readTerm_22 rfl (lv_at hl 1 rfl) ?_
    refine lv_bipush (v := (43 : Int32)) hx hb dX6_readTerm_23 (by decide) ?_
    obtain ⟨v27, r28, σ26, hc, h1, h2⟩ := bndX_s h
    refine T_callXVv (q0 := 6) (ci := 10) (As := [.int (43 : Int32)]) (rest := []) C hA hxt (fun sz => kX6_pass hl0 sz hc) gX6_75 hP hD hS h2 rfl rfl ⟨by show 8 + 1 ≤ 20 + (d + 1); omega, by show 8 + (2 + 11) + 131 ≤ 400 + 45 * (d + 1); omega⟩ ⟨by simp [RMd], by simp [RMd]⟩ ⟨rfl, rfl⟩ rfl hl.1 rfl (lv_room (Nat.le_of_ble_eq_true rfl)) dX6_readTerm_25 (fun ev27 H locs hP hD hS => ?_)
    have h := h1 ev27
    refine lv_aload_n hx hb dX6_readTerm_28 rfl (lv_at hl 1 rfl) ?_
    refine T_gfX6_15 C hP dX6_readTerm_29 ?_
    refine lv_aload_n hx hb dX6_readTerm_32 rfl (lv_at hl 1 rfl) ?_
    refine T_gfX6_92 C hP dX6_readTerm_33 ?_
    refine lv_aload_n hx hb dX6_readTerm_36 rfl (lv_at hl 1 rfl) ?_
    refine T_gfX6_89 C hP dX6_readTerm_37 ?_
    obtain ⟨σ29, hc, h⟩ := bnd1_s h
    refine T_callNv (q0 := 2) (ci := 5) (As := [.int (gI σ26 46 0), .int (gI σ26 45 0)]) (rest := []) C hA (fun sz => kX1_link hl0 sz hc) gX6_116 hP hD hS rfl rfl ⟨by show 1 + 1 ≤ 20 + (d + 1); omega, by show 8 + (4 + 11) + 21 ≤ 400 + 45 * (d + 1); omega⟩ ⟨rfl, rfl⟩ rfl hl.1 rfl (lv_room (Nat.le_of_ble_eq_true rfl)) dX6_readTerm_40 (fun H locs hP hD hS => ?_)
    refine lv_goto (tgt := 100) hx hb dX6_readTerm_43 (by decide) ?_
    exact T_xvret C h hP hD hS dX6_readTerm_100
set_option maxRecDepth 100000 in
theorem kX6_readTerm {l : Launch} (hl0 : l.stackTraces = false) (sz : Nat) {st : Nat → Nat} {D : va_G} {a : Nat → Nat} {cc : Nat → ClassId} {N : Nat} {rec : Nat → St → Int32 → Option (Int32 × Int32 × St)} {d : Nat} {x r : Int32} {σr : St} (hrec : T_rec st l D a cc rec d) {σ : St} {p0 : Int32} (h : fX6_readTerm N rec σ p0 = some (x, r, σr)) : vy_Met l yX6_readTerm ((Cond.code yX6_readTerm cX6_readTerm 5 none :: WT)) (RMd (d + 1)) (T_Pc st D a cc [.ref (a 49), .int p0] σ sz) (T_Rxv D a cc (va_A (wT a cc σ) sz) x r σr) (T_X D a cc (va_A (wT a cc σ) sz) x σr) (va_A (wT a cc σ) sz) := by
  refine vy_ofW (cc := cX6_readTerm) (maxL := 5) (ret := none) (by decide) rfl ?_
  intro p e s m args below meth c s₁ B hml hxt hv
  obtain ⟨rfl, hsz, hP, hK, hD0, hTS⟩ := hv
  subst hsz
  have hl := lv_entry ([.ref (a 49), .int p0]) (n := 5) (Nat.le_of_ble_eq_true rfl)
  rw [lg_entry_eq]
  generalize (lg_sl ([.ref (a 49), .int p0]) ++ List.replicate (5 - (lg_sl ([.ref (a 49), .int p0])).length) Slot.unset).toArray = ls at hl ⊢
  exact tX6_readTerm ⟨B.exec, B.bytes, B.returns, hml, findClass_of_methodNamed B.named, atoms_spec (ws := (Cond.code yX6_readTerm cX6_readTerm 5 none :: WT)) B.pre, (fun w h => List.mem_cons_of_mem _ h), hK, B.notSynchronized, hTS, hl0⟩ (fun q h => Or.inr h) hxt hrec h hP hD0.self va_S.rf hl
set_option maxHeartbeats 4000000 in
set_option maxRecDepth 100000 in
theorem tX6_readSequence_80 {st : Nat → Nat} {p : Program} {l : Launch} {e : Env} {s : State} {m : MethodId} {args : Array Value} {below : List Frame} {meth : Method} {c : Code} {D : va_G} {a : Nat → Nat} {cc : Nat → ClassId} {A : Nat → Prop} {N : Nat} {rec : Nat → St → Int32 → Option (Int32 × Int32 × St)} {d : Nat} {x r : Int32} {σr : St} (C : T_Cx st l A RX6 p s m args meth c D cc cX6_readSequence (Cond.code yX6_readSequence cX6_readSequence 5 none :: WT) 5 none) (hA : ∀ q, s.heap.size ≤ q → A q) (hxt : ∀ x ∈ c.exceptionTable.toList, False) (hrec : T_rec st l D a cc rec d) {σ : St} {x2 : Int32} {H : Heap} {locs : List Loc} {ls : Array Slot} (h : fX6_readSequence_80 N rec σ x2 = some (x, r, σr)) : va_P D vwCl (wT a cc σ) H → va_D A (wT a cc σ) → va_S A s.heap H locs → lv_has ls 5 [(0, .ref (a 49)), (2, .int x2)] → W p l e (RMd (d + 1)) s m args below meth c H locs 0 0 (T_Mxv D a cc A below args s x r σr) (F0 m 80 ls []) := by
  obtain ⟨hx, hb, hr, hml, hown, hts, hin, hK, hlocks, hTS, hl0⟩ := id C
  intro hP hD hS hl
  refine lv_aload_n hx hb dX6_readSequence_80 rfl (lv_at hl 0 rfl) ?_
  refine lv_iload_n hx hb dX6_readSequence_81 rfl (lv_at hl 1 rfl) ?_
  obtain ⟨σ22, eσ22, h⟩ := letS_n h
  refine T_pfX6_89 C hP hD hS eσ22 dX6_readSequence_82 (fun H locs hP hD hS => ?_)
  exact T_xvret C h hP hD hS dX6_readSequence_85
set_option maxHeartbeats 4000000 in
set_option maxRecDepth 100000 in
theorem tX6_readSequence_27 {st : Nat → Nat} {p : Program} {l : Launch} {e : Env} {s : State} {m : MethodId} {args : Array Value} {below : List Frame} {meth : Method} {c : Code} {D : va_G} {a : Nat → Nat} {cc : Nat → ClassId} {A : Nat → Prop} {N : Nat} {rec : Nat → St → Int32 → Option (Int32 × Int32 × St)} {d : Nat} {x r : Int32} {σr : St} (C : T_Cx st l A RX6 p s m args meth c D cc cX6_readSequence (Cond.code yX6_readSequence cX6_readSequence 5 none :: WT) 5 none) (hA : ∀ q, s.heap.size ≤ q → A q) (hxt : ∀ x ∈ c.exceptionTable.toList, False) (hrec : T_rec st l D a cc rec d) : ∀ (n : Nat) {σ : St} {x1 : Int32} {x2 : Int32} {x3 : Int32} {H : Heap} {locs : List Loc} {ls : Array Slot}, fX6_readSequence_27 N rec n σ x1 x2 x3 = some (x, r, σr) → va_P D vwCl (wT a cc σ) H → va_D A (wT a cc σ) → va_S A s.heap H locs → lv_has ls 5 [(0, .ref (a 49)), (1, .int x1), (2, .int x2), (3, .int x3)] → W p l e (RMd (d + 1)) s m args below meth c H locs 0 0 (T_Mxv D a cc A below args s x r σr) (F0 m 27 ls []) := by
  obtain ⟨hx, hb, hr, hml, hown, hts, hin, hK, hlocks, hTS, hl0⟩ := id C
  intro n
  induction n with
  | zero => intro σ x1 x2 x3 H locs ls h; exact none_s h
  | succ n ih =>
    intro σ x1 x2 x3 H locs ls h hP hD hS hl
    refine lv_iload_n hx hb dX6_readSequence_27 rfl (lv_at hl 3 rfl) ?_
    refine lv_aload_n hx hb dX6_readSequence_28 rfl (lv_at hl 0 rfl) ?_
    refine T_gfX6_19 C hP dX6_readSequence_29 ?_
    refine lv_icmp_ge (tgt := 80) hx hb dX6_readSequence_32 (by decide) (fun c9 => ?_) (fun c9 => ?_)
    · have h := ifT c9 h
      exact tX6_readSequence_80 C hA hxt hrec h hP hD hS (lv_sub hl [0, 2] rfl)
    · have h := ifF c9 h
      refine lv_aload_n hx hb dX6_readSequence_35 rfl (lv_at hl 0 rfl) ?_
      obtain ⟨r11, σ10, hc, h⟩ := bnd_s h
      refine T_callVi (q0 := 6) (ci := 10) (As := []) (rest := []) C hA (fun sz => kX6_peek hl0 sz hc) gX6_53 hP hD hS rfl rfl ⟨by show 0 + 1 ≤ 20 + (d + 1); omega, by show 8 + (1 + 11) + 0 ≤ 400 + 45 * (d + 1); omega⟩ ⟨rfl, rfl⟩ rfl hl.1 rfl (lv_room (Nat.le_of_ble_eq_true rfl)) dX6_readSequence_36 (fun H locs hP hD hS => ?_)
      refine lv_bipush (v := (44 : Int32)) hx hb dX6_readSequence_39 (by decide) ?_
      refine lv_icmp_ne (tgt := 80) hx hb dX6_readSequence_41 (by decide) (fun c12 => ?_) (fun c12 => ?_)
      · have h := ifF c12 h
        exact tX6_readSequence_80 C hA hxt hrec h hP hD hS (lv_sub hl [0, 2] rfl)
      · have h := ifT c12 h
        refine lv_aload_n hx hb dX6_readSequence_44 rfl (lv_at hl 0 rfl) ?_
        refine lv_bipush (v := (44 : Int32)) hx hb dX6_readSequence_45 (by decide) ?_
        obtain ⟨v14, r15, σ13, hc, h1, h2⟩ := bndX_s h
        refine T_callXVv (q0 := 6) (ci := 10) (As := [.int (44 : Int32)]) (rest := []) C hA hxt (fun sz => kX6_pass hl0 sz hc) gX6_75 hP hD hS h2 rfl rfl ⟨by show 8 + 1 ≤ 20 + (d + 1); omega, by show 8 + (2 + 11) + 131 ≤ 400 + 45 * (d + 1); omega⟩ ⟨by simp [RMd], by simp [RMd]⟩ ⟨rfl, rfl⟩ rfl hl.1 rfl (lv_room (Nat.le_of_ble_eq_true rfl)) dX6_readSequence_47 (fun ev14 H locs hP hD hS => ?_)
        have h := h1 ev14
        refine lv_aload_n hx hb dX6_readSequence_50 rfl (lv_at hl 0 rfl) ?_
        refine T_gfX6_92 C hP dX6_readSequence_51 ?_
        obtain ⟨u16, eu16, h⟩ := letS_n h
        refine lv_topE eu16 ?_
        refine lv_istore (lv' := [(4, .int u16), (0, .ref (a 49)), (1, .int x1), (2, .int x2), (3, .int x3)]) hx hb dX6_readSequence_54 hl (by decide) rfl (fun ls hl => ?_)
        refine lv_aload_n hx hb dX6_readSequence_56 rfl (lv_at hl 1 rfl) ?_
        refine lv_iload_n hx hb dX6_readSequence_57 rfl (lv_at hl 2 rfl) ?_
        obtain ⟨v18, r19, σ17, hc, h1, h2⟩ := bndX_s h
        refine T_callXVv (q0 := 6) (ci := 10) (As := [.int x1]) (rest := []) C hA hxt (fun sz => hrec.2.2.2.2.2.2.1 sz hc) gX6_113 hP hD hS h2 rfl rfl ⟨by simp only [RMd]; omega, by simp only [RMd]; omega⟩ ⟨by simp [RMd], by simp [RMd]⟩ ⟨rfl, rfl⟩ rfl hl.1 rfl (lv_room (Nat.le_of_ble_eq_true rfl)) dX6_readSequence_58 (fun ev18 H locs hP hD hS => ?_)
        have h := h1 ev18
        refine lv_aload_n hx hb dX6_readSequence_61 rfl (lv_at hl 1 rfl) ?_
        refine T_gfX6_15 C hP dX6_readSequence_62 ?_
        refine lv_iload hx hb dX6_readSequence_65 (lv_at hl 0 rfl) ?_
        refine lv_aload_n hx hb dX6_readSequence_67 rfl (lv_at hl 1 rfl) ?_
        refine T_gfX6_89 C hP dX6_readSequence_68 ?_
        obtain ⟨σ20, hc, h⟩ := bnd1_s h
        refine T_callNv (q0 := 2) (ci := 5) (As := [.int u16, .int (gI σ17 45 0)]) (rest := []) C hA (fun sz => kX1_link hl0 sz hc) gX6_116 hP hD hS rfl rfl ⟨by show 1 + 1 ≤ 20 + (d + 1); omega, by show 8 + (4 + 11) + 21 ≤ 400 + 45 * (d + 1); omega⟩ ⟨rfl, rfl⟩ rfl hl.1 rfl (lv_room (Nat.le_of_ble_eq_true rfl)) dX6_readSequence_71 (fun H locs hP hD hS => ?_)
        obtain ⟨u21, eu21, h⟩ := letS_n h
        refine lv_iinc (v := u21) (lv' := [(3, .int u21), (4, .int u16), (0, .ref (a 49)), (1, .int x1), (2, .int x2)]) hx hb dX6_readSequence_74 hl (k := 4) rfl (by rw [eu21]; rfl) (by decide) rfl (fun ls hl => ?_)
        refine lv_goto (tgt := 27) hx hb dX6_readSequence_77 (by decide) ?_
        exact ih h hP hD hS (lv_sub hl [2, 3, 4, 0] rfl)
set_option maxHeartbeats 4000000 in
set_option maxRecDepth 100000 in
theorem tX6_readSequence_12 {st : Nat → Nat} {p : Program} {l : Launch} {e : Env} {s : State} {m : MethodId} {args : Array Value} {below : List Frame} {meth : Method} {c : Code} {D : va_G} {a : Nat → Nat} {cc : Nat → ClassId} {A : Nat → Prop} {N : Nat} {rec : Nat → St → Int32 → Option (Int32 × Int32 × St)} {d : Nat} {x r : Int32} {σr : St} (C : T_Cx st l A RX6 p s m args meth c D cc cX6_readSequence (Cond.code yX6_readSequence cX6_readSequence 5 none :: WT) 5 none) (hA : ∀ q, s.heap.size ≤ q → A q) (hxt : ∀ x ∈ c.exceptionTable.toList, False) (hrec : T_rec st l D a cc rec d) {σ : St} {x1 : Int32} {y0 : Int32} {H : Heap} {locs : List Loc} {ls : Array Slot} (h : fX6_readSequence_12 N rec σ x1 y0 = some (x, r, σr)) : va_P D vwCl (wT a cc σ) H → va_D A (wT a cc σ) → va_S A s.heap H locs → lv_has ls 5 [(0, .ref (a 49)), (1, .int x1)] → W p l e (RMd (d + 1)) s m args below meth c H locs 0 0 (T_Mxv D a cc A below args s x r σr) (F0 m 12 ls [.int y0, .ref (a 49)]) := by
  obtain ⟨hx, hb, hr, hml, hown, hts, hin, hK, hlocks, hTS, hl0⟩ := id C
  intro hP hD hS hl
  obtain ⟨v3, r4, σ2, hc, h1, h2⟩ := bndX_s h
  refine T_callXVv (q0 := 6) (ci := 10) (As := [.int y0]) (rest := []) C hA hxt (fun sz => kX6_require hl0 sz hc) gX6_38 hP hD hS h2 rfl rfl ⟨by show 7 + 1 ≤ 20 + (d + 1); omega, by show 8 + (2 + 11) + 110 ≤ 400 + 45 * (d + 1); omega⟩ ⟨by simp [RMd], by simp [RMd]⟩ ⟨rfl, rfl⟩ rfl hl.1 rfl (lv_room (Nat.le_of_ble_eq_true rfl)) dX6_readSequence_12 (fun ev3 H locs hP hD hS => ?_)
  have h := h1 ev3
  refine lv_aload_n hx hb dX6_readSequence_15 rfl (lv_at hl 0 rfl) ?_
  refine lv_iload_n hx hb dX6_readSequence_16 rfl (lv_at hl 1 rfl) ?_
  obtain ⟨v6, r7, σ5, hc, h1, h2⟩ := bndX_s h
  refine T_callXVv (q0 := 6) (ci := 10) (As := [.int x1]) (rest := []) C hA hxt (fun sz => hrec.2.2.2.2.2.2.1 sz hc) gX6_113 hP hD hS h2 rfl rfl ⟨by simp only [RMd]; omega, by simp only [RMd]; omega⟩ ⟨by simp [RMd], by simp [RMd]⟩ ⟨rfl, rfl⟩ rfl hl.1 rfl (lv_room (Nat.le_of_ble_eq_true rfl)) dX6_readSequence_17 (fun ev6 H locs hP hD hS => ?_)
  have h := h1 ev6
  refine lv_aload_n hx hb dX6_readSequence_20 rfl (lv_at hl 0 rfl) ?_
  refine T_gfX6_89 C hP dX6_readSequence_21 ?_
  obtain ⟨u8, eu8, h⟩ := letS_n h
  refine lv_topE eu8 ?_
  refine lv_istore_n (lv' := [(2, .int u8), (0, .ref (a 49)), (1, .int x1)]) hx hb dX6_readSequence_24 rfl hl (by decide) rfl (fun ls hl => ?_)
  refine lv_iconst (v := (0 : Int32)) hx hb dX6_readSequence_25 (by decide) ?_
  refine lv_istore_n (lv' := [(3, .int (0 : Int32)), (2, .int u8), (0, .ref (a 49)), (1, .int x1)]) hx hb dX6_readSequence_26 rfl hl (by decide) rfl (fun ls hl => ?_)
  exact tX6_readSequence_27 C hA hxt hrec N h hP hD hS (lv_sub hl [2, 3, 1, 0] rfl)
set_option maxHeartbeats 4000000 in
set_option maxRecDepth 100000 in
theorem tX6_readSequence {st : Nat → Nat} {p : Program} {l : Launch} {e : Env} {s : State} {m : MethodId} {args : Array Value} {below : List Frame} {meth : Method} {c : Code} {D : va_G} {a : Nat → Nat} {cc : Nat → ClassId} {A : Nat → Prop} {N : Nat} {rec : Nat → St → Int32 → Option (Int32 × Int32 × St)} {d : Nat} {x r : Int32} {σr : St} (C : T_Cx st l A RX6 p s m args meth c D cc cX6_readSequence (Cond.code yX6_readSequence cX6_readSequence 5 none :: WT) 5 none) (hA : ∀ q, s.heap.size ≤ q → A q) (hxt : ∀ x ∈ c.exceptionTable.toList, False) (hrec : T_rec st l D a cc rec d) {σ : St} {p0 : Int32} {H : Heap} {locs : List Loc} {ls : Array Slot} (h : fX6_readSequence N rec σ p0 = some (x, r, σr)) : va_P D vwCl (wT a cc σ) H → va_D A (wT a cc σ) → va_S A s.heap H locs → lv_has ls 5 [(0, .ref (a 49)), (1, .int p0)] → W p l e (RMd (d + 1)) s m args below meth c H locs 0 0 (T_Mxv D a cc A below args s x r σr) (F0 m 0 ls []) := by
  obtain ⟨hx, hb, hr, hml, hown, hts, hin, hK, hlocks, hTS, hl0⟩ := id C
  intro hP hD hS hl
  refine lv_aload_n hx hb dX6_readSequence_0 rfl (lv_at hl 0 rfl) ?_
  refine lv_iload_n hx hb dX6_readSequence_1 rfl (lv_at hl 1 rfl) ?_
  refine lv_bipush (v := (12 : Int32)) hx hb dX6_readSequence_2 (by decide) ?_
  refine lv_icmp_gt (tgt := 11) hx hb dX6_readSequence_4 (by decide) (fun c1 => ?_) (fun c1 => ?_)
  · have h := ifT c1 h
    refine lv_iconst (v := (0 : Int32)) hx hb dX6_readSequence_11 (by decide) ?_
    exact tX6_readSequence_12 C hA hxt hrec h hP hD hS (lv_sub hl [0, 1] rfl)
  · have h := ifF c1 h
    refine lv_iconst (v := (1 : Int32)) hx hb dX6_readSequence_7 (by decide) ?_
    refine lv_goto (tgt := 12) hx hb dX6_readSequence_8 (by decide) ?_
    exact tX6_readSequence_12 C hA hxt hrec h hP hD hS (lv_sub hl [0, 1] rfl)
set_option maxRecDepth 100000 in
theorem kX6_readSequence {l : Launch} (hl0 : l.stackTraces = false) (sz : Nat) {st : Nat → Nat} {D : va_G} {a : Nat → Nat} {cc : Nat → ClassId} {N : Nat} {rec : Nat → St → Int32 → Option (Int32 × Int32 × St)} {d : Nat} {x r : Int32} {σr : St} (hrec : T_rec st l D a cc rec d) {σ : St} {p0 : Int32} (h : fX6_readSequence N rec σ p0 = some (x, r, σr)) : vy_Met l yX6_readSequence ((Cond.code yX6_readSequence cX6_readSequence 5 none :: WT)) (RMd (d + 1)) (T_Pc st D a cc [.ref (a 49), .int p0] σ sz) (T_Rxv D a cc (va_A (wT a cc σ) sz) x r σr) (T_X D a cc (va_A (wT a cc σ) sz) x σr) (va_A (wT a cc σ) sz) := by
  refine vy_ofW (cc := cX6_readSequence) (maxL := 5) (ret := none) (by decide) rfl ?_
  intro p e s m args below meth c s₁ B hml hxt hv
  obtain ⟨rfl, hsz, hP, hK, hD0, hTS⟩ := hv
  subst hsz
  have hl := lv_entry ([.ref (a 49), .int p0]) (n := 5) (Nat.le_of_ble_eq_true rfl)
  rw [lg_entry_eq]
  generalize (lg_sl ([.ref (a 49), .int p0]) ++ List.replicate (5 - (lg_sl ([.ref (a 49), .int p0])).length) Slot.unset).toArray = ls at hl ⊢
  exact tX6_readSequence ⟨B.exec, B.bytes, B.returns, hml, findClass_of_methodNamed B.named, atoms_spec (ws := (Cond.code yX6_readSequence cX6_readSequence 5 none :: WT)) B.pre, (fun w h => List.mem_cons_of_mem _ h), hK, B.notSynchronized, hTS, hl0⟩ (fun q h => Or.inr h) hxt hrec h hP hD0.self va_S.rf hl
set_option maxHeartbeats 4000000 in
set_option maxRecDepth 100000 in
theorem tX6_readRule_111 {st : Nat → Nat} {p : Program} {l : Launch} {e : Env} {s : State} {m : MethodId} {args : Array Value} {below : List Frame} {meth : Method} {c : Code} {D : va_G} {a : Nat → Nat} {cc : Nat → ClassId} {A : Nat → Prop} {N : Nat} {rec : Nat → St → Int32 → Option (Int32 × Int32 × St)} {d : Nat} {x r : Int32} {σr : St} (C : T_Cx st l A RX6 p s m args meth c D cc cX6_readRule (Cond.code yX6_readRule cX6_readRule 10 (some .int) :: WT) 10 (some .int)) (hA : ∀ q, s.heap.size ≤ q → A q) (hxt : ∀ x ∈ c.exceptionTable.toList, False) (hrec : T_rec st l D a cc rec d) {σ : St} {x2 : Int32} {x3 : Int32} {x4 : Int32} {x5 : Int32} {x6 : Int32} {x7 : Int32} {H : Heap} {locs : List Loc} {ls : Array Slot} (h : fX6_readRule_111 N rec σ x2 x3 x4 x5 x6 x7 = some (x, r, σr)) : va_P D vwCl (wT a cc σ) H → va_D A (wT a cc σ) → va_S A s.heap H locs → lv_has ls 10 [(0, .ref (a 49)), (2, .int x2), (3, .int x3), (4, .int x4), (5, .int x5), (6, .int x6), (7, .int x7)] → W p l e (RMd (d + 1)) s m args below meth c H locs 0 0 (T_Mxi D a cc A below args s x r σr) (F0 m 111 ls []) := by
  obtain ⟨hx, hb, hr, hml, hown, hts, hin, hK, hlocks, hTS, hl0⟩ := id C
  intro hP hD hS hl
  refine lv_aload_n hx hb dX6_readRule_111 rfl (lv_at hl 0 rfl) ?_
  refine T_gfX6_15 C hP dX6_readRule_112 ?_
  refine lv_iload hx hb dX6_readRule_115 (lv_at hl 5 rfl) ?_
  refine lv_iload hx hb dX6_readRule_117 (lv_at hl 6 rfl) ?_
  refine lv_iconst (v := (-1 : Int32)) hx hb dX6_readRule_119 (by decide) ?_
  obtain ⟨r28, σ27, hc, h⟩ := bnd_s h
  refine T_callNi (q0 := 2) (ci := 5) (As := [.int x6, .int x7, .int (-1 : Int32)]) (rest := []) C hA (fun sz => kX1_add hl0 sz hc) gX6_79 hP hD hS rfl rfl ⟨by show 0 + 1 ≤ 20 + (d + 1); omega, by show 8 + (5 + 11) + 0 ≤ 400 + 45 * (d + 1); omega⟩ ⟨rfl, rfl⟩ rfl hl.1 rfl (lv_room (Nat.le_of_ble_eq_true rfl)) dX6_readRule_120 (fun H locs hP hD hS => ?_)
  refine lv_istore (lv' := [(8, .int r28), (0, .ref (a 49)), (2, .int x2), (3, .int x3), (4, .int x4), (5, .int x5), (6, .int x6), (7, .int x7)]) hx hb dX6_readRule_123 hl (by decide) rfl (fun ls hl => ?_)
  refine lv_aload_n hx hb dX6_readRule_125 rfl (lv_at hl 1 rfl) ?_
  refine T_gfX6_15 C hP dX6_readRule_126 ?_
  refine T_gfX6_95 C hP dX6_readRule_129 ?_
  refine lv_iload hx hb dX6_readRule_132 (lv_at hl 0 rfl) ?_
  obtain ⟨g29, h⟩ := grd_s h
  refine T_ldN C hP g29 dX6_readRule_134 ?_
  obtain ⟨w30, ew30, h⟩ := letS_n h
  refine lv_topR ew30 ?_
  refine lv_astore (lv' := [(9, .ref (a (200 + w30))), (8, .int r28), (0, .ref (a 49)), (2, .int x2), (3, .int x3), (4, .int x4), (5, .int x5), (6, .int x6), (7, .int x7)]) hx hb dX6_readRule_135 hl (by decide) rfl (fun ls hl => ?_)
  refine lv_aload hx hb dX6_readRule_137 (lv_at hl 0 rfl) ?_
  refine lv_iload_n hx hb dX6_readRule_139 rfl (lv_at hl 3 rfl) ?_
  obtain ⟨g32, h⟩ := grd_s h
  obtain ⟨σ31, eσ31, h⟩ := letS_n h
  refine T_pfX6_99 C hP hD hS g32 eσ31 dX6_readRule_140 (fun H locs hP hD hS => ?_)
  refine lv_aload hx hb dX6_readRule_143 (lv_at hl 0 rfl) ?_
  refine lv_iload_n hx hb dX6_readRule_145 rfl (lv_at hl 4 rfl) ?_
  obtain ⟨g34, h⟩ := grd_s h
  obtain ⟨σ33, eσ33, h⟩ := letS_n h
  refine T_pfX6_104 C hP hD hS g34 eσ33 dX6_readRule_146 (fun H locs hP hD hS => ?_)
  refine lv_aload hx hb dX6_readRule_149 (lv_at hl 0 rfl) ?_
  refine lv_iload hx hb dX6_readRule_151 (lv_at hl 5 rfl) ?_
  obtain ⟨g36, h⟩ := grd_s h
  obtain ⟨σ35, eσ35, h⟩ := letS_n h
  refine T_pfX6_107 C hP hD hS g36 eσ35 dX6_readRule_153 (fun H locs hP hD hS => ?_)
  refine lv_aload hx hb dX6_readRule_156 (lv_at hl 0 rfl) ?_
  refine lv_iload hx hb dX6_readRule_158 (lv_at hl 6 rfl) ?_
  obtain ⟨g38, h⟩ := grd_s h
  obtain ⟨σ37, eσ37, h⟩ := letS_n h
  refine T_pfX6_110 C hP hD hS g38 eσ37 dX6_readRule_160 (fun H locs hP hD hS => ?_)
  refine lv_iload hx hb dX6_readRule_163 (lv_at hl 1 rfl) ?_
  exact T_xiret C h hP hD hS dX6_readRule_165
set_option maxHeartbeats 4000000 in
set_option maxRecDepth 100000 in
theorem tX6_readRule_73 {st : Nat → Nat} {p : Program} {l : Launch} {e : Env} {s : State} {m : MethodId} {args : Array Value} {below : List Frame} {meth : Method} {c : Code} {D : va_G} {a : Nat → Nat} {cc : Nat → ClassId} {A : Nat → Prop} {N : Nat} {rec : Nat → St → Int32 → Option (Int32 × Int32 × St)} {d : Nat} {x r : Int32} {σr : St} (C : T_Cx st l A RX6 p s m args meth c D cc cX6_readRule (Cond.code yX6_readRule cX6_readRule 10 (some .int) :: WT) 10 (some .int)) (hA : ∀ q, s.heap.size ≤ q → A q) (hxt : ∀ x ∈ c.exceptionTable.toList, False) (hrec : T_rec st l D a cc rec d) {σ : St} {x1 : Int32} {x2 : Int32} {x3 : Int32} {x4 : Int32} {x5 : Int32} {x6 : Int32} {y0 : Int32} {H : Heap} {locs : List Loc} {ls : Array Slot} (h : fX6_readRule_73 N rec σ x1 x2 x3 x4 x5 x6 y0 = some (x, r, σr)) : va_P D vwCl (wT a cc σ) H → va_D A (wT a cc σ) → va_S A s.heap H locs → lv_has ls 10 [(0, .ref (a 49)), (1, .int x1), (2, .int x2), (3, .int x3), (4, .int x4), (5, .int x5), (6, .int x6)] → W p l e (RMd (d + 1)) s m args below meth c H locs 0 0 (T_Mxi D a cc A below args s x r σr) (F0 m 73 ls [.int y0, .ref (a 49)]) := by
  obtain ⟨hx, hb, hr, hml, hown, hts, hin, hK, hlocks, hTS, hl0⟩ := id C
  intro hP hD hS hl
  obtain ⟨v19, r20, σ18, hc, h1, h2⟩ := bndX_s h
  refine T_callXVv (q0 := 6) (ci := 10) (As := [.int y0]) (rest := []) C hA hxt (fun sz => kX6_require hl0 sz hc) gX6_38 hP hD hS h2 rfl rfl ⟨by show 7 + 1 ≤ 20 + (d + 1); omega, by show 8 + (2 + 11) + 110 ≤ 400 + 45 * (d + 1); omega⟩ ⟨by simp [RMd], by simp [RMd]⟩ ⟨rfl, rfl⟩ rfl hl.1 rfl (lv_room (Nat.le_of_ble_eq_true rfl)) dX6_readRule_73 (fun ev19 H locs hP hD hS => ?_)
  have h := h1 ev19
  refine lv_aload_n hx hb dX6_readRule_76 rfl (lv_at hl 0 rfl) ?_
  refine lv_dup hx hb dX6_readRule_77 rfl ?_
  refine T_gfX6_23 C hP dX6_readRule_78 ?_
  refine lv_iconst (v := (1 : Int32)) hx hb dX6_readRule_81 (by decide) ?_
  refine lv_iadd hx hb dX6_readRule_82 ?_
  obtain ⟨σ21, eσ21, h⟩ := letS_n h
  refine T_pfX6_23 C hP hD hS eσ21 dX6_readRule_83 (fun H locs hP hD hS => ?_)
  refine lv_aload_n hx hb dX6_readRule_86 rfl (lv_at hl 0 rfl) ?_
  refine lv_iload_n hx hb dX6_readRule_87 rfl (lv_at hl 1 rfl) ?_
  refine lv_iconst (v := (1 : Int32)) hx hb dX6_readRule_88 (by decide) ?_
  refine lv_iadd hx hb dX6_readRule_89 ?_
  obtain ⟨v24, r23, σ22, hc, h1, h2⟩ := bndX_s h
  refine T_callXVi (q0 := 6) (ci := 10) (As := [.int (x1 + (1 : Int32))]) (rest := []) C hA hxt (fun sz => hrec.1 sz hc) gX6_34 hP hD hS h2 rfl rfl ⟨by simp only [RMd]; omega, by simp only [RMd]; omega⟩ ⟨by simp [RMd], by simp [RMd]⟩ ⟨rfl, rfl⟩ rfl hl.1 rfl (lv_room (Nat.le_of_ble_eq_true rfl)) dX6_readRule_90 (fun ev24 H locs hP hD hS => ?_)
  have h := h1 ev24
  refine lv_istore (lv' := [(7, .int r23), (0, .ref (a 49)), (1, .int x1), (2, .int x2), (3, .int x3), (4, .int x4), (5, .int x5), (6, .int x6)]) hx hb dX6_readRule_93 hl (by decide) rfl (fun ls hl => ?_)
  refine lv_iload hx hb dX6_readRule_95 (lv_at hl 7 rfl) ?_
  refine lv_bipush (v := (58 : Int32)) hx hb dX6_readRule_97 (by decide) ?_
  refine lv_icmp_ne (tgt := 111) hx hb dX6_readRule_99 (by decide) (fun c25 => ?_) (fun c25 => ?_)
  · have h := ifF c25 h
    exact tX6_readRule_111 C hA hxt hrec h hP hD hS (lv_sub hl [1, 3, 4, 5, 6, 7, 0] rfl)
  · have h := ifT c25 h
    refine lv_aload_n hx hb dX6_readRule_102 rfl (lv_at hl 1 rfl) ?_
    refine T_gfX6_15 C hP dX6_readRule_103 ?_
    refine lv_iload hx hb dX6_readRule_106 (lv_at hl 0 rfl) ?_
    obtain ⟨σ26, hc, h⟩ := bnd1_s h
    refine T_callNv (q0 := 2) (ci := 5) (As := [.int r23]) (rest := []) C hA (fun sz => kX1_oblige hl0 sz hc) gX6_42 hP hD hS rfl rfl ⟨by show 1 + 1 ≤ 20 + (d + 1); omega, by show 8 + (2 + 11) + 20 ≤ 400 + 45 * (d + 1); omega⟩ ⟨rfl, rfl⟩ rfl hl.1 rfl (lv_room (Nat.le_of_ble_eq_true rfl)) dX6_readRule_108 (fun H locs hP hD hS => ?_)
    exact tX6_readRule_111 C hA hxt hrec h hP hD hS (lv_sub hl [1, 3, 4, 5, 6, 7, 0] rfl)
set_option maxHeartbeats 4000000 in
set_option maxRecDepth 100000 in
theorem tX6_readRule_68 {st : Nat → Nat} {p : Program} {l : Launch} {e : Env} {s : State} {m : MethodId} {args : Array Value} {below : List Frame} {meth : Method} {c : Code} {D : va_G} {a : Nat → Nat} {cc : Nat → ClassId} {A : Nat → Prop} {N : Nat} {rec : Nat → St → Int32 → Option (Int32 × Int32 × St)} {d : Nat} {x r : Int32} {σr : St} (C : T_Cx st l A RX6 p s m args meth c D cc cX6_readRule (Cond.code yX6_readRule cX6_readRule 10 (some .int) :: WT) 10 (some .int)) (hA : ∀ q, s.heap.size ≤ q → A q) (hxt : ∀ x ∈ c.exceptionTable.toList, False) (hrec : T_rec st l D a cc rec d) {σ : St} {x1 : Int32} {x2 : Int32} {x3 : Int32} {x4 : Int32} {x5 : Int32} {x6 : Int32} {H : Heap} {locs : List Loc} {ls : Array Slot} (h : fX6_readRule_68 N rec σ x1 x2 x3 x4 x5 x6 = some (x, r, σr)) : va_P D vwCl (wT a cc σ) H → va_D A (wT a cc σ) → va_S A s.heap H locs → lv_has ls 10 [(0, .ref (a 49)), (1, .int x1), (2, .int x2), (3, .int x3), (4, .int x4), (5, .int x5), (6, .int x6)] → W p l e (RMd (d + 1)) s m args below meth c H locs 0 0 (T_Mxi D a cc A below args s x r σr) (F0 m 68 ls [.ref (a 49)]) := by
  obtain ⟨hx, hb, hr, hml, hown, hts, hin, hK, hlocks, hTS, hl0⟩ := id C
  intro hP hD hS hl
  refine lv_iconst (v := (1 : Int32)) hx hb dX6_readRule_68 (by decide) ?_
  refine lv_goto (tgt := 73) hx hb dX6_readRule_69 (by decide) ?_
  exact tX6_readRule_73 C hA hxt hrec h hP hD hS (lv_sub hl [0, 1, 2, 3, 4, 5, 6] rfl)
set_option maxHeartbeats 4000000 in
set_option maxRecDepth 100000 in
theorem tX6_readRule {st : Nat → Nat} {p : Program} {l : Launch} {e : Env} {s : State} {m : MethodId} {args : Array Value} {below : List Frame} {meth : Method} {c : Code} {D : va_G} {a : Nat → Nat} {cc : Nat → ClassId} {A : Nat → Prop} {N : Nat} {rec : Nat → St → Int32 → Option (Int32 × Int32 × St)} {d : Nat} {x r : Int32} {σr : St} (C : T_Cx st l A RX6 p s m args meth c D cc cX6_readRule (Cond.code yX6_readRule cX6_readRule 10 (some .int) :: WT) 10 (some .int)) (hA : ∀ q, s.heap.size ≤ q → A q) (hxt : ∀ x ∈ c.exceptionTable.toList, False) (hrec : T_rec st l D a cc rec d) {σ : St} {p0 : Int32} {H : Heap} {locs : List Loc} {ls : Array Slot} (h : fX6_readRule N rec σ p0 = some (x, r, σr)) : va_P D vwCl (wT a cc σ) H → va_D A (wT a cc σ) → va_S A s.heap H locs → lv_has ls 10 [(0, .ref (a 49)), (1, .int p0)] → W p l e (RMd (d + 1)) s m args below meth c H locs 0 0 (T_Mxi D a cc A below args s x r σr) (F0 m 0 ls []) := by
  obtain ⟨hx, hb, hr, hml, hown, hts, hin, hK, hlocks, hTS, hl0⟩ := id C
  intro hP hD hS hl
  refine lv_aload_n hx hb dX6_readRule_0 rfl (lv_at hl 0 rfl) ?_
  refine lv_bipush (v := (123 : Int32)) hx hb dX6_readRule_1 (by decide) ?_
  obtain ⟨v2, r3, σ1, hc, h1, h2⟩ := bndX_s h
  refine T_callXVv (q0 := 6) (ci := 10) (As := [.int (123 : Int32)]) (rest := []) C hA hxt (fun sz => kX6_pass hl0 sz hc) gX6_75 hP hD hS h2 rfl rfl ⟨by show 8 + 1 ≤ 20 + (d + 1); omega, by show 8 + (2 + 11) + 131 ≤ 400 + 45 * (d + 1); omega⟩ ⟨by simp [RMd], by simp [RMd]⟩ ⟨rfl, rfl⟩ rfl hl.1 rfl (lv_room (Nat.le_of_ble_eq_true rfl)) dX6_readRule_3 (fun ev2 H locs hP hD hS => ?_)
  have h := h1 ev2
  refine lv_aload_n hx hb dX6_readRule_6 rfl (lv_at hl 0 rfl) ?_
  refine T_gfX6_15 C hP dX6_readRule_7 ?_
  refine T_gfX6_83 C hP dX6_readRule_10 ?_
  obtain ⟨u4, eu4, h⟩ := letS_n h
  refine lv_topE eu4 ?_
  refine lv_istore_n (lv' := [(2, .int u4), (0, .ref (a 49)), (1, .int p0)]) hx hb dX6_readRule_13 rfl hl (by decide) rfl (fun ls hl => ?_)
  refine lv_aload_n hx hb dX6_readRule_14 rfl (lv_at hl 1 rfl) ?_
  refine lv_iload_n hx hb dX6_readRule_15 rfl (lv_at hl 2 rfl) ?_
  refine lv_iconst (v := (1 : Int32)) hx hb dX6_readRule_16 (by decide) ?_
  refine lv_iadd hx hb dX6_readRule_17 ?_
  obtain ⟨v6, r7, σ5, hc, h1, h2⟩ := bndX_s h
  refine T_callXVv (q0 := 6) (ci := 10) (As := [.int (p0 + (1 : Int32))]) (rest := []) C hA hxt (fun sz => hrec.2.2.2.2.2.1 sz hc) gX6_86 hP hD hS h2 rfl rfl ⟨by simp only [RMd]; omega, by simp only [RMd]; omega⟩ ⟨by simp [RMd], by simp [RMd]⟩ ⟨rfl, rfl⟩ rfl hl.1 rfl (lv_room (Nat.le_of_ble_eq_true rfl)) dX6_readRule_18 (fun ev6 H locs hP hD hS => ?_)
  have h := h1 ev6
  refine lv_aload_n hx hb dX6_readRule_21 rfl (lv_at hl 1 rfl) ?_
  refine T_gfX6_15 C hP dX6_readRule_22 ?_
  refine T_gfX6_83 C hP dX6_readRule_25 ?_
  obtain ⟨u8, eu8, h⟩ := letS_n h
  refine lv_topE eu8 ?_
  refine lv_istore_n (lv' := [(3, .int u8), (2, .int u4), (0, .ref (a 49)), (1, .int p0)]) hx hb dX6_readRule_28 rfl hl (by decide) rfl (fun ls hl => ?_)
  refine lv_aload_n hx hb dX6_readRule_29 rfl (lv_at hl 2 rfl) ?_
  refine T_gfX6_89 C hP dX6_readRule_30 ?_
  obtain ⟨u9, eu9, h⟩ := letS_n h
  refine lv_topE eu9 ?_
  refine lv_istore (lv' := [(4, .int u9), (3, .int u8), (2, .int u4), (0, .ref (a 49)), (1, .int p0)]) hx hb dX6_readRule_33 hl (by decide) rfl (fun ls hl => ?_)
  refine lv_aload_n hx hb dX6_readRule_35 rfl (lv_at hl 3 rfl) ?_
  refine T_gfX6_92 C hP dX6_readRule_36 ?_
  obtain ⟨u10, eu10, h⟩ := letS_n h
  refine lv_topE eu10 ?_
  refine lv_istore (lv' := [(5, .int u10), (4, .int u9), (3, .int u8), (2, .int u4), (0, .ref (a 49)), (1, .int p0)]) hx hb dX6_readRule_39 hl (by decide) rfl (fun ls hl => ?_)
  refine lv_aload_n hx hb dX6_readRule_41 rfl (lv_at hl 4 rfl) ?_
  refine lv_bipush (v := (125 : Int32)) hx hb dX6_readRule_42 (by decide) ?_
  obtain ⟨v12, r13, σ11, hc, h1, h2⟩ := bndX_s h
  refine T_callXVv (q0 := 6) (ci := 10) (As := [.int (125 : Int32)]) (rest := []) C hA hxt (fun sz => kX6_pass hl0 sz hc) gX6_75 hP hD hS h2 rfl rfl ⟨by show 8 + 1 ≤ 20 + (d + 1); omega, by show 8 + (2 + 11) + 131 ≤ 400 + 45 * (d + 1); omega⟩ ⟨by simp [RMd], by simp [RMd]⟩ ⟨rfl, rfl⟩ rfl hl.1 rfl (lv_room (Nat.le_of_ble_eq_true rfl)) dX6_readRule_44 (fun ev12 H locs hP hD hS => ?_)
  have h := h1 ev12
  refine lv_aload_n hx hb dX6_readRule_47 rfl (lv_at hl 4 rfl) ?_
  obtain ⟨r15, σ14, hc, h⟩ := bnd_s h
  refine T_callVi (q0 := 6) (ci := 10) (As := []) (rest := []) C hA (fun sz => kX6_peek hl0 sz hc) gX6_53 hP hD hS rfl rfl ⟨by show 0 + 1 ≤ 20 + (d + 1); omega, by show 8 + (1 + 11) + 0 ≤ 400 + 45 * (d + 1); omega⟩ ⟨rfl, rfl⟩ rfl hl.1 rfl (lv_room (Nat.le_of_ble_eq_true rfl)) dX6_readRule_48 (fun H locs hP hD hS => ?_)
  refine lv_istore (lv' := [(6, .int r15), (5, .int u10), (4, .int u9), (3, .int u8), (2, .int u4), (0, .ref (a 49)), (1, .int p0)]) hx hb dX6_readRule_51 hl (by decide) rfl (fun ls hl => ?_)
  refine lv_aload_n hx hb dX6_readRule_53 rfl (lv_at hl 5 rfl) ?_
  refine lv_iload hx hb dX6_readRule_54 (lv_at hl 0 rfl) ?_
  refine lv_bipush (v := (62 : Int32)) hx hb dX6_readRule_56 (by decide) ?_
  refine lv_icmp_eq (tgt := 68) hx hb dX6_readRule_58 (by decide) (fun c16 => ?_) (fun c16 => ?_)
  · have h := ifT c16 h
    exact tX6_readRule_68 C hA hxt hrec h hP hD hS (lv_sub hl [5, 6, 4, 3, 2, 1, 0] rfl)
  · have h := ifF c16 h
    refine lv_iload hx hb dX6_readRule_61 (lv_at hl 0 rfl) ?_
    refine lv_bipush (v := (58 : Int32)) hx hb dX6_readRule_63 (by decide) ?_
    refine lv_icmp_ne (tgt := 72) hx hb dX6_readRule_65 (by decide) (fun c17 => ?_) (fun c17 => ?_)
    · have h := ifF c17 h
      refine lv_iconst (v := (0 : Int32)) hx hb dX6_readRule_72 (by decide) ?_
      exact tX6_readRule_73 C hA hxt hrec h hP hD hS (lv_sub hl [5, 6, 4, 3, 2, 1, 0] rfl)
    · have h := ifT c17 h
      exact tX6_readRule_68 C hA hxt hrec h hP hD hS (lv_sub hl [5, 6, 4, 3, 2, 1, 0] rfl)
set_option maxRecDepth 100000 in
theorem kX6_readRule {l : Launch} (hl0 : l.stackTraces = false) (sz : Nat) {st : Nat → Nat} {D : va_G} {a : Nat → Nat} {cc : Nat → ClassId} {N : Nat} {rec : Nat → St → Int32 → Option (Int32 × Int32 × St)} {d : Nat} {x r : Int32} {σr : St} (hrec : T_rec st l D a cc rec d) {σ : St} {p0 : Int32} (h : fX6_readRule N rec σ p0 = some (x, r, σr)) : vy_Met l yX6_readRule ((Cond.code yX6_readRule cX6_readRule 10 (some .int) :: WT)) (RMd (d + 1)) (T_Pc st D a cc [.ref (a 49), .int p0] σ sz) (T_Rxi D a cc (va_A (wT a cc σ) sz) x r σr) (T_X D a cc (va_A (wT a cc σ) sz) x σr) (va_A (wT a cc σ) sz) := by
  refine vy_ofW (cc := cX6_readRule) (maxL := 10) (ret := (some .int)) (by decide) rfl ?_
  intro p e s m args below meth c s₁ B hml hxt hv
  obtain ⟨rfl, hsz, hP, hK, hD0, hTS⟩ := hv
  subst hsz
  have hl := lv_entry ([.ref (a 49), .int p0]) (n := 10) (Nat.le_of_ble_eq_true rfl)
  rw [lg_entry_eq]
  generalize (lg_sl ([.ref (a 49), .int p0]) ++ List.replicate (10 - (lg_sl ([.ref (a 49), .int p0])).length) Slot.unset).toArray = ls at hl ⊢
  exact tX6_readRule ⟨B.exec, B.bytes, B.returns, hml, findClass_of_methodNamed B.named, atoms_spec (ws := (Cond.code yX6_readRule cX6_readRule 10 (some .int) :: WT)) B.pre, (fun w h => List.mem_cons_of_mem _ h), hK, B.notSynchronized, hTS, hl0⟩ (fun q h => Or.inr h) hxt hrec h hP hD0.self va_S.rf hl
set_option maxHeartbeats 4000000 in
set_option maxRecDepth 100000 in
theorem tX6_readPair_99 {st : Nat → Nat} {p : Program} {l : Launch} {e : Env} {s : State} {m : MethodId} {args : Array Value} {below : List Frame} {meth : Method} {c : Code} {D : va_G} {a : Nat → Nat} {cc : Nat → ClassId} {A : Nat → Prop} {N : Nat} {rec : Nat → St → Int32 → Option (Int32 × Int32 × St)} {d : Nat} {x r : Int32} {σr : St} (C : T_Cx st l A RX6 p s m args meth c D cc cX6_readPair (Cond.code yX6_readPair cX6_readPair 6 (some .int) :: WT) 6 (some .int)) (hA : ∀ q, s.heap.size ≤ q → A q) (hxt : ∀ x ∈ c.exceptionTable.toList, False) (hrec : T_rec st l D a cc rec d) {σ : St} {x5 : Int32} {H : Heap} {locs : List Loc} {ls : Array Slot} (h : fX6_readPair_99 N rec σ x5 = some (x, r, σr)) : va_P D vwCl (wT a cc σ) H → va_D A (wT a cc σ) → va_S A s.heap H locs → lv_has ls 6 [(5, .int x5)] → W p l e (RMd (d + 1)) s m args below meth c H locs 0 0 (T_Mxi D a cc A below args s x r σr) (F0 m 99 ls []) := by
  obtain ⟨hx, hb, hr, hml, hown, hts, hin, hK, hlocks, hTS, hl0⟩ := id C
  intro hP hD hS hl
  refine lv_iload hx hb dX6_readPair_99 (lv_at hl 0 rfl) ?_
  exact T_xiret C h hP hD hS dX6_readPair_101
set_option maxHeartbeats 4000000 in
set_option maxRecDepth 100000 in
theorem tX6_readPair_43 {st : Nat → Nat} {p : Program} {l : Launch} {e : Env} {s : State} {m : MethodId} {args : Array Value} {below : List Frame} {meth : Method} {c : Code} {D : va_G} {a : Nat → Nat} {cc : Nat → ClassId} {A : Nat → Prop} {N : Nat} {rec : Nat → St → Int32 → Option (Int32 × Int32 × St)} {d : Nat} {x r : Int32} {σr : St} (C : T_Cx st l A RX6 p s m args meth c D cc cX6_readPair (Cond.code yX6_readPair cX6_readPair 6 (some .int) :: WT) 6 (some .int)) (hA : ∀ q, s.heap.size ≤ q → A q) (hxt : ∀ x ∈ c.exceptionTable.toList, False) (hrec : T_rec st l D a cc rec d) {σ : St} {x1 : Int32} {x2 : Int32} {x3 : Int32} {y0 : Int32} {H : Heap} {locs : List Loc} {ls : Array Slot} (h : fX6_readPair_43 N rec σ x1 x2 x3 y0 = some (x, r, σr)) : va_P D vwCl (wT a cc σ) H → va_D A (wT a cc σ) → va_S A s.heap H locs → lv_has ls 6 [(0, .ref (a 49)), (1, .int x1), (2, .int x2), (3, .int x3)] → W p l e (RMd (d + 1)) s m args below meth c H locs 0 0 (T_Mxi D a cc A below args s x r σr) (F0 m 43 ls [.int y0, .ref (a 49)]) := by
  obtain ⟨hx, hb, hr, hml, hown, hts, hin, hK, hlocks, hTS, hl0⟩ := id C
  intro hP hD hS hl
  obtain ⟨v13, r14, σ12, hc, h1, h2⟩ := bndX_s h
  refine T_callXVv (q0 := 6) (ci := 10) (As := [.int y0]) (rest := []) C hA hxt (fun sz => kX6_require hl0 sz hc) gX6_38 hP hD hS h2 rfl rfl ⟨by show 7 + 1 ≤ 20 + (d + 1); omega, by show 8 + (2 + 11) + 110 ≤ 400 + 45 * (d + 1); omega⟩ ⟨by simp [RMd], by simp [RMd]⟩ ⟨rfl, rfl⟩ rfl hl.1 rfl (lv_room (Nat.le_of_ble_eq_true rfl)) dX6_readPair_43 (fun ev13 H locs hP hD hS => ?_)
  have h := h1 ev13
  refine lv_aload_n hx hb dX6_readPair_46 rfl (lv_at hl 0 rfl) ?_
  refine lv_dup hx hb dX6_readPair_47 rfl ?_
  refine T_gfX6_23 C hP dX6_readPair_48 ?_
  refine lv_iconst (v := (1 : Int32)) hx hb dX6_readPair_51 (by decide) ?_
  refine lv_iadd hx hb dX6_readPair_52 ?_
  obtain ⟨σ15, eσ15, h⟩ := letS_n h
  refine T_pfX6_23 C hP hD hS eσ15 dX6_readPair_53 (fun H locs hP hD hS => ?_)
  refine lv_aload_n hx hb dX6_readPair_56 rfl (lv_at hl 0 rfl) ?_
  refine lv_iload_n hx hb dX6_readPair_57 rfl (lv_at hl 1 rfl) ?_
  refine lv_iconst (v := (1 : Int32)) hx hb dX6_readPair_58 (by decide) ?_
  refine lv_iadd hx hb dX6_readPair_59 ?_
  obtain ⟨v18, r17, σ16, hc, h1, h2⟩ := bndX_s h
  refine T_callXVi (q0 := 6) (ci := 10) (As := [.int (x1 + (1 : Int32))]) (rest := []) C hA hxt (fun sz => hrec.1 sz hc) gX6_34 hP hD hS h2 rfl rfl ⟨by simp only [RMd]; omega, by simp only [RMd]; omega⟩ ⟨by simp [RMd], by simp [RMd]⟩ ⟨rfl, rfl⟩ rfl hl.1 rfl (lv_room (Nat.le_of_ble_eq_true rfl)) dX6_readPair_60 (fun ev18 H locs hP hD hS => ?_)
  have h := h1 ev18
  refine lv_istore (lv' := [(4, .int r17), (0, .ref (a 49)), (1, .int x1), (2, .int x2), (3, .int x3)]) hx hb dX6_readPair_63 hl (by decide) rfl (fun ls hl => ?_)
  refine lv_aload_n hx hb dX6_readPair_65 rfl (lv_at hl 1 rfl) ?_
  refine lv_bipush (v := (41 : Int32)) hx hb dX6_readPair_66 (by decide) ?_
  obtain ⟨v20, r21, σ19, hc, h1, h2⟩ := bndX_s h
  refine T_callXVv (q0 := 6) (ci := 10) (As := [.int (41 : Int32)]) (rest := []) C hA hxt (fun sz => kX6_pass hl0 sz hc) gX6_75 hP hD hS h2 rfl rfl ⟨by show 8 + 1 ≤ 20 + (d + 1); omega, by show 8 + (2 + 11) + 131 ≤ 400 + 45 * (d + 1); omega⟩ ⟨by simp [RMd], by simp [RMd]⟩ ⟨rfl, rfl⟩ rfl hl.1 rfl (lv_room (Nat.le_of_ble_eq_true rfl)) dX6_readPair_68 (fun ev20 H locs hP hD hS => ?_)
  have h := h1 ev20
  refine lv_aload_n hx hb dX6_readPair_71 rfl (lv_at hl 1 rfl) ?_
  refine T_gfX6_15 C hP dX6_readPair_72 ?_
  refine lv_iload_n hx hb dX6_readPair_75 rfl (lv_at hl 4 rfl) ?_
  refine lv_iload_n hx hb dX6_readPair_76 rfl (lv_at hl 3 rfl) ?_
  refine lv_iload hx hb dX6_readPair_77 (lv_at hl 0 rfl) ?_
  obtain ⟨r23, σ22, hc, h⟩ := bnd_s h
  refine T_callNi (q0 := 2) (ci := 5) (As := [.int x3, .int x2, .int r17]) (rest := []) C hA (fun sz => kX1_add hl0 sz hc) gX6_79 hP hD hS rfl rfl ⟨by show 0 + 1 ≤ 20 + (d + 1); omega, by show 8 + (5 + 11) + 0 ≤ 400 + 45 * (d + 1); omega⟩ ⟨rfl, rfl⟩ rfl hl.1 rfl (lv_room (Nat.le_of_ble_eq_true rfl)) dX6_readPair_79 (fun H locs hP hD hS => ?_)
  refine lv_istore (lv' := [(5, .int r23), (4, .int r17), (0, .ref (a 49)), (1, .int x1), (2, .int x2), (3, .int x3)]) hx hb dX6_readPair_82 hl (by decide) rfl (fun ls hl => ?_)
  refine lv_iload_n hx hb dX6_readPair_84 rfl (lv_at hl 5 rfl) ?_
  refine lv_bipush (v := (87 : Int32)) hx hb dX6_readPair_85 (by decide) ?_
  refine lv_icmp_ne (tgt := 99) hx hb dX6_readPair_87 (by decide) (fun c24 => ?_) (fun c24 => ?_)
  · have h := ifF c24 h
    exact tX6_readPair_99 C hA hxt hrec h hP hD hS (lv_sub hl [0] rfl)
  · have h := ifT c24 h
    refine lv_aload_n hx hb dX6_readPair_90 rfl (lv_at hl 2 rfl) ?_
    refine T_gfX6_15 C hP dX6_readPair_91 ?_
    refine lv_iload hx hb dX6_readPair_94 (lv_at hl 0 rfl) ?_
    obtain ⟨σ25, hc, h⟩ := bnd1_s h
    refine T_callNv (q0 := 2) (ci := 5) (As := [.int r23]) (rest := []) C hA (fun sz => kX1_oblige hl0 sz hc) gX6_42 hP hD hS rfl rfl ⟨by show 1 + 1 ≤ 20 + (d + 1); omega, by show 8 + (2 + 11) + 20 ≤ 400 + 45 * (d + 1); omega⟩ ⟨rfl, rfl⟩ rfl hl.1 rfl (lv_room (Nat.le_of_ble_eq_true rfl)) dX6_readPair_96 (fun H locs hP hD hS => ?_)
    exact tX6_readPair_99 C hA hxt hrec h hP hD hS (lv_sub hl [0] rfl)
set_option maxHeartbeats 4000000 in
set_option maxRecDepth 100000 in
theorem tX6_readPair_38 {st : Nat → Nat} {p : Program} {l : Launch} {e : Env} {s : State} {m : MethodId} {args : Array Value} {below : List Frame} {meth : Method} {c : Code} {D : va_G} {a : Nat → Nat} {cc : Nat → ClassId} {A : Nat → Prop} {N : Nat} {rec : Nat → St → Int32 → Option (Int32 × Int32 × St)} {d : Nat} {x r : Int32} {σr : St} (C : T_Cx st l A RX6 p s m args meth c D cc cX6_readPair (Cond.code yX6_readPair cX6_readPair 6 (some .int) :: WT) 6 (some .int)) (hA : ∀ q, s.heap.size ≤ q → A q) (hxt : ∀ x ∈ c.exceptionTable.toList, False) (hrec : T_rec st l D a cc rec d) {σ : St} {x1 : Int32} {x2 : Int32} {x3 : Int32} {H : Heap} {locs : List Loc} {ls : Array Slot} (h : fX6_readPair_38 N rec σ x1 x2 x3 = some (x, r, σr)) : va_P D vwCl (wT a cc σ) H → va_D A (wT a cc σ) → va_S A s.heap H locs → lv_has ls 6 [(0, .ref (a 49)), (1, .int x1), (2, .int x2), (3, .int x3)] → W p l e (RMd (d + 1)) s m args below meth c H locs 0 0 (T_Mxi D a cc A below args s x r σr) (F0 m 38 ls [.ref (a 49)]) := by
  obtain ⟨hx, hb, hr, hml, hown, hts, hin, hK, hlocks, hTS, hl0⟩ := id C
  intro hP hD hS hl
  refine lv_iconst (v := (1 : Int32)) hx hb dX6_readPair_38 (by decide) ?_
  refine lv_goto (tgt := 43) hx hb dX6_readPair_39 (by decide) ?_
  exact tX6_readPair_43 C hA hxt hrec h hP hD hS (lv_sub hl [0, 1, 2, 3] rfl)
set_option maxHeartbeats 4000000 in
set_option maxRecDepth 100000 in
theorem tX6_readPair {st : Nat → Nat} {p : Program} {l : Launch} {e : Env} {s : State} {m : MethodId} {args : Array Value} {below : List Frame} {meth : Method} {c : Code} {D : va_G} {a : Nat → Nat} {cc : Nat → ClassId} {A : Nat → Prop} {N : Nat} {rec : Nat → St → Int32 → Option (Int32 × Int32 × St)} {d : Nat} {x r : Int32} {σr : St} (C : T_Cx st l A RX6 p s m args meth c D cc cX6_readPair (Cond.code yX6_readPair cX6_readPair 6 (some .int) :: WT) 6 (some .int)) (hA : ∀ q, s.heap.size ≤ q → A q) (hxt : ∀ x ∈ c.exceptionTable.toList, False) (hrec : T_rec st l D a cc rec d) {σ : St} {p0 : Int32} {H : Heap} {locs : List Loc} {ls : Array Slot} (h : fX6_readPair N rec σ p0 = some (x, r, σr)) : va_P D vwCl (wT a cc σ) H → va_D A (wT a cc σ) → va_S A s.heap H locs → lv_has ls 6 [(0, .ref (a 49)), (1, .int p0)] → W p l e (RMd (d + 1)) s m args below meth c H locs 0 0 (T_Mxi D a cc A below args s x r σr) (F0 m 0 ls []) := by
  obtain ⟨hx, hb, hr, hml, hown, hts, hin, hK, hlocks, hTS, hl0⟩ := id C
  intro hP hD hS hl
  refine lv_aload_n hx hb dX6_readPair_0 rfl (lv_at hl 0 rfl) ?_
  refine lv_bipush (v := (40 : Int32)) hx hb dX6_readPair_1 (by decide) ?_
  obtain ⟨v2, r3, σ1, hc, h1, h2⟩ := bndX_s h
  refine T_callXVv (q0 := 6) (ci := 10) (As := [.int (40 : Int32)]) (rest := []) C hA hxt (fun sz => kX6_pass hl0 sz hc) gX6_75 hP hD hS h2 rfl rfl ⟨by show 8 + 1 ≤ 20 + (d + 1); omega, by show 8 + (2 + 11) + 131 ≤ 400 + 45 * (d + 1); omega⟩ ⟨by simp [RMd], by simp [RMd]⟩ ⟨rfl, rfl⟩ rfl hl.1 rfl (lv_room (Nat.le_of_ble_eq_true rfl)) dX6_readPair_3 (fun ev2 H locs hP hD hS => ?_)
  have h := h1 ev2
  refine lv_aload_n hx hb dX6_readPair_6 rfl (lv_at hl 0 rfl) ?_
  refine lv_iload_n hx hb dX6_readPair_7 rfl (lv_at hl 1 rfl) ?_
  refine lv_iconst (v := (1 : Int32)) hx hb dX6_readPair_8 (by decide) ?_
  refine lv_iadd hx hb dX6_readPair_9 ?_
  obtain ⟨v6, r5, σ4, hc, h1, h2⟩ := bndX_s h
  refine T_callXVi (q0 := 6) (ci := 10) (As := [.int (p0 + (1 : Int32))]) (rest := []) C hA hxt (fun sz => hrec.1 sz hc) gX6_34 hP hD hS h2 rfl rfl ⟨by simp only [RMd]; omega, by simp only [RMd]; omega⟩ ⟨by simp [RMd], by simp [RMd]⟩ ⟨rfl, rfl⟩ rfl hl.1 rfl (lv_room (Nat.le_of_ble_eq_true rfl)) dX6_readPair_10 (fun ev6 H locs hP hD hS => ?_)
  have h := h1 ev6
  refine lv_istore_n (lv' := [(2, .int r5), (0, .ref (a 49)), (1, .int p0)]) hx hb dX6_readPair_13 rfl hl (by decide) rfl (fun ls hl => ?_)
  refine lv_aload_n hx hb dX6_readPair_14 rfl (lv_at hl 1 rfl) ?_
  obtain ⟨r8, σ7, hc, h⟩ := bnd_s h
  refine T_callVi (q0 := 6) (ci := 10) (As := []) (rest := []) C hA (fun sz => kX6_peek hl0 sz hc) gX6_53 hP hD hS rfl rfl ⟨by show 0 + 1 ≤ 20 + (d + 1); omega, by show 8 + (1 + 11) + 0 ≤ 400 + 45 * (d + 1); omega⟩ ⟨rfl, rfl⟩ rfl hl.1 rfl (lv_room (Nat.le_of_ble_eq_true rfl)) dX6_readPair_15 (fun H locs hP hD hS => ?_)
  refine lv_istore_n (lv' := [(3, .int r8), (2, .int r5), (0, .ref (a 49)), (1, .int p0)]) hx hb dX6_readPair_18 rfl hl (by decide) rfl (fun ls hl => ?_)
  refine lv_aload_n hx hb dX6_readPair_19 rfl (lv_at hl 2 rfl) ?_
  refine lv_iload_n hx hb dX6_readPair_20 rfl (lv_at hl 0 rfl) ?_
  refine lv_bipush (v := (38 : Int32)) hx hb dX6_readPair_21 (by decide) ?_
  refine lv_icmp_eq (tgt := 38) hx hb dX6_readPair_23 (by decide) (fun c9 => ?_) (fun c9 => ?_)
  · have h := ifT c9 h
    exact tX6_readPair_38 C hA hxt hrec h hP hD hS (lv_sub hl [2, 3, 1, 0] rfl)
  · have h := ifF c9 h
    refine lv_iload_n hx hb dX6_readPair_26 rfl (lv_at hl 0 rfl) ?_
    refine lv_bipush (v := (124 : Int32)) hx hb dX6_readPair_27 (by decide) ?_
    refine lv_icmp_eq (tgt := 38) hx hb dX6_readPair_29 (by decide) (fun c10 => ?_) (fun c10 => ?_)
    · have h := ifT c10 h
      exact tX6_readPair_38 C hA hxt hrec h hP hD hS (lv_sub hl [2, 3, 1, 0] rfl)
    · have h := ifF c10 h
      refine lv_iload_n hx hb dX6_readPair_32 rfl (lv_at hl 0 rfl) ?_
      refine lv_bipush (v := (87 : Int32)) hx hb dX6_readPair_33 (by decide) ?_
      refine lv_icmp_ne (tgt := 42) hx hb dX6_readPair_35 (by decide) (fun c11 => ?_) (fun c11 => ?_)
      · have h := ifF c11 h
        refine lv_iconst (v := (0 : Int32)) hx hb dX6_readPair_42 (by decide) ?_
        exact tX6_readPair_43 C hA hxt hrec h hP hD hS (lv_sub hl [2, 3, 1, 0] rfl)
      · have h := ifT c11 h
        exact tX6_readPair_38 C hA hxt hrec h hP hD hS (lv_sub hl [2, 3, 1, 0] rfl)
set_option maxRecDepth 100000 in
theorem kX6_readPair {l : Launch} (hl0 : l.stackTraces = false) (sz : Nat) {st : Nat → Nat} {D : va_G} {a : Nat → Nat} {cc : Nat → ClassId} {N : Nat} {rec : Nat → St → Int32 → Option (Int32 × Int32 × St)} {d : Nat} {x r : Int32} {σr : St} (hrec : T_rec st l D a cc rec d) {σ : St} {p0 : Int32} (h : fX6_readPair N rec σ p0 = some (x, r, σr)) : vy_Met l yX6_readPair ((Cond.code yX6_readPair cX6_readPair 6 (some .int) :: WT)) (RMd (d + 1)) (T_Pc st D a cc [.ref (a 49), .int p0] σ sz) (T_Rxi D a cc (va_A (wT a cc σ) sz) x r σr) (T_X D a cc (va_A (wT a cc σ) sz) x σr) (va_A (wT a cc σ) sz) := by
  refine vy_ofW (cc := cX6_readPair) (maxL := 6) (ret := (some .int)) (by decide) rfl ?_
  intro p e s m args below meth c s₁ B hml hxt hv
  obtain ⟨rfl, hsz, hP, hK, hD0, hTS⟩ := hv
  subst hsz
  have hl := lv_entry ([.ref (a 49), .int p0]) (n := 6) (Nat.le_of_ble_eq_true rfl)
  rw [lg_entry_eq]
  generalize (lg_sl ([.ref (a 49), .int p0]) ++ List.replicate (6 - (lg_sl ([.ref (a 49), .int p0])).length) Slot.unset).toArray = ls at hl ⊢
  exact tX6_readPair ⟨B.exec, B.bytes, B.returns, hml, findClass_of_methodNamed B.named, atoms_spec (ws := (Cond.code yX6_readPair cX6_readPair 6 (some .int) :: WT)) B.pre, (fun w h => List.mem_cons_of_mem _ h), hK, B.notSynchronized, hTS, hl0⟩ (fun q h => Or.inr h) hxt hrec h hP hD0.self va_S.rf hl
set_option maxHeartbeats 4000000 in
set_option maxRecDepth 100000 in
theorem tX6_readProperty_12 {st : Nat → Nat} {p : Program} {l : Launch} {e : Env} {s : State} {m : MethodId} {args : Array Value} {below : List Frame} {meth : Method} {c : Code} {D : va_G} {a : Nat → Nat} {cc : Nat → ClassId} {A : Nat → Prop} {N : Nat} {rec : Nat → St → Int32 → Option (Int32 × Int32 × St)} {d : Nat} {x r : Int32} {σr : St} (C : T_Cx st l A RX6 p s m args meth c D cc cX6_readProperty (Cond.code yX6_readProperty cX6_readProperty 2 (some .int) :: WT) 2 (some .int)) (hA : ∀ q, s.heap.size ≤ q → A q) (hxt : ∀ x ∈ c.exceptionTable.toList, False) (hrec : T_rec st l D a cc rec d) {σ : St} {x1 : Int32} {y0 : Int32} {H : Heap} {locs : List Loc} {ls : Array Slot} (h : fX6_readProperty_12 N rec σ x1 y0 = some (x, r, σr)) : va_P D vwCl (wT a cc σ) H → va_D A (wT a cc σ) → va_S A s.heap H locs → lv_has ls 2 [(0, .ref (a 49)), (1, .int x1)] → W p l e (RMd (d + 1)) s m args below meth c H locs 0 0 (T_Mxi D a cc A below args s x r σr) (F0 m 12 ls [.int y0, .ref (a 49)]) := by
  obtain ⟨hx, hb, hr, hml, hown, hts, hin, hK, hlocks, hTS, hl0⟩ := id C
  intro hP hD hS hl
  obtain ⟨v3, r4, σ2, hc, h1, h2⟩ := bndX_s h
  refine T_callXVv (q0 := 6) (ci := 10) (As := [.int y0]) (rest := []) C hA hxt (fun sz => kX6_require hl0 sz hc) gX6_38 hP hD hS h2 rfl rfl ⟨by show 7 + 1 ≤ 20 + (d + 1); omega, by show 8 + (2 + 11) + 110 ≤ 400 + 45 * (d + 1); omega⟩ ⟨by simp [RMd], by simp [RMd]⟩ ⟨rfl, rfl⟩ rfl hl.1 rfl (lv_room (Nat.le_of_ble_eq_true rfl)) dX6_readProperty_12 (fun ev3 H locs hP hD hS => ?_)
  have h := h1 ev3
  refine lv_aload_n hx hb dX6_readProperty_15 rfl (lv_at hl 0 rfl) ?_
  obtain ⟨r6, σ5, hc, h⟩ := bnd_s h
  refine T_callVi (q0 := 6) (ci := 10) (As := []) (rest := []) C hA (fun sz => kX6_peek hl0 sz hc) gX6_53 hP hD hS rfl rfl ⟨by show 0 + 1 ≤ 20 + (d + 1); omega, by show 8 + (1 + 11) + 0 ≤ 400 + 45 * (d + 1); omega⟩ ⟨rfl, rfl⟩ rfl hl.1 rfl (lv_room (Nat.le_of_ble_eq_true rfl)) dX6_readProperty_16 (fun H locs hP hD hS => ?_)
  by_cases c7 : r6 = (40 : Int32)
  · have h := ifT c7 h
    refine lv_lookup (tgt := 78) hx hb dX6_readProperty_19 (by decide) (by rw [c7] <;> rfl) (by decide) ?_
    refine lv_aload_n hx hb dX6_readProperty_78 rfl (lv_at hl 0 rfl) ?_
    refine lv_iload_n hx hb dX6_readProperty_79 rfl (lv_at hl 1 rfl) ?_
    obtain ⟨v10, r9, σ8, hc, h1, h2⟩ := bndX_s h
    refine T_callXVi (q0 := 6) (ci := 10) (As := [.int x1]) (rest := []) C hA hxt (fun sz => hrec.2.2.2.1 sz hc) gX6_66 hP hD hS h2 rfl rfl ⟨by simp only [RMd]; omega, by simp only [RMd]; omega⟩ ⟨by simp [RMd], by simp [RMd]⟩ ⟨rfl, rfl⟩ rfl hl.1 rfl (lv_room (Nat.le_of_ble_eq_true rfl)) dX6_readProperty_80 (fun ev10 H locs hP hD hS => ?_)
    have h := h1 ev10
    exact T_xiret C h hP hD hS dX6_readProperty_83
  · have h := ifF c7 h
    by_cases c11 : r6 = (71 : Int32)
    · have h := ifT c11 h
      refine lv_lookup (tgt := 60) hx hb dX6_readProperty_19 (by decide) (by rw [c11] <;> rfl) (by decide) ?_
      refine lv_aload_n hx hb dX6_readProperty_60 rfl (lv_at hl 0 rfl) ?_
      refine lv_iload_n hx hb dX6_readProperty_61 rfl (lv_at hl 1 rfl) ?_
      obtain ⟨v14, r13, σ12, hc, h1, h2⟩ := bndX_s h
      refine T_callXVi (q0 := 6) (ci := 10) (As := [.int x1]) (rest := []) C hA hxt (fun sz => hrec.2.1 sz hc) gX6_57 hP hD hS h2 rfl rfl ⟨by simp only [RMd]; omega, by simp only [RMd]; omega⟩ ⟨by simp [RMd], by simp [RMd]⟩ ⟨rfl, rfl⟩ rfl hl.1 rfl (lv_room (Nat.le_of_ble_eq_true rfl)) dX6_readProperty_62 (fun ev14 H locs hP hD hS => ?_)
      have h := h1 ev14
      exact T_xiret C h hP hD hS dX6_readProperty_65
    · have h := ifF c11 h
      by_cases c15 : r6 = (88 : Int32)
      · have h := ifT c15 h
        refine lv_lookup (tgt := 66) hx hb dX6_readProperty_19 (by decide) (by rw [c15] <;> rfl) (by decide) ?_
        refine lv_aload_n hx hb dX6_readProperty_66 rfl (lv_at hl 0 rfl) ?_
        refine lv_iload_n hx hb dX6_readProperty_67 rfl (lv_at hl 1 rfl) ?_
        obtain ⟨v18, r17, σ16, hc, h1, h2⟩ := bndX_s h
        refine T_callXVi (q0 := 6) (ci := 10) (As := [.int x1]) (rest := []) C hA hxt (fun sz => hrec.2.2.1 sz hc) gX6_60 hP hD hS h2 rfl rfl ⟨by simp only [RMd]; omega, by simp only [RMd]; omega⟩ ⟨by simp [RMd], by simp [RMd]⟩ ⟨rfl, rfl⟩ rfl hl.1 rfl (lv_room (Nat.le_of_ble_eq_true rfl)) dX6_readProperty_68 (fun ev18 H locs hP hD hS => ?_)
        have h := h1 ev18
        exact T_xiret C h hP hD hS dX6_readProperty_71
      · have h := ifF c15 h
        by_cases c19 : r6 = (123 : Int32)
        · have h := ifT c19 h
          refine lv_lookup (tgt := 72) hx hb dX6_readProperty_19 (by decide) (by rw [c19] <;> rfl) (by decide) ?_
          refine lv_aload_n hx hb dX6_readProperty_72 rfl (lv_at hl 0 rfl) ?_
          refine lv_iload_n hx hb dX6_readProperty_73 rfl (lv_at hl 1 rfl) ?_
          obtain ⟨v22, r21, σ20, hc, h1, h2⟩ := bndX_s h
          refine T_callXVi (q0 := 6) (ci := 10) (As := [.int x1]) (rest := []) C hA hxt (fun sz => hrec.2.2.2.2.1 sz hc) gX6_63 hP hD hS h2 rfl rfl ⟨by simp only [RMd]; omega, by simp only [RMd]; omega⟩ ⟨by simp [RMd], by simp [RMd]⟩ ⟨rfl, rfl⟩ rfl hl.1 rfl (lv_room (Nat.le_of_ble_eq_true rfl)) dX6_readProperty_74 (fun ev22 H locs hP hD hS => ?_)
          have h := h1 ev22
          exact T_xiret C h hP hD hS dX6_readProperty_77
        · have h := ifF c19 h
          have qc7 := i32_ne (v := 40) c7 (by decide)
          have qc11 := i32_ne (v := 71) c11 (by decide)
          have qc15 := i32_ne (v := 88) c15 (by decide)
          have qc19 := i32_ne (v := 123) c19 (by decide)
          refine lv_lookup (tgt := 84) (off := 65) hx hb dX6_readProperty_19 (by decide) (by simp [Op.lookupswitch.offset, qc7, (qc7).symm, qc11, (qc11).symm, qc15, (qc15).symm, qc19, (qc19).symm]) (by decide) ?_
          refine lv_aload_n hx hb dX6_readProperty_84 rfl (lv_at hl 0 rfl) ?_
          refine T_gfX6_15 C hP dX6_readProperty_85 ?_
          refine lv_aload_n hx hb dX6_readProperty_88 rfl (lv_at hl 0 rfl) ?_
          refine lv_iload_n hx hb dX6_readProperty_89 rfl (lv_at hl 1 rfl) ?_
          obtain ⟨v25, r24, σ23, hc, h1, h2⟩ := bndX_s h
          refine T_callXVi (q0 := 6) (ci := 10) (As := [.int x1]) (rest := [.ref (a 29)]) C hA hxt (fun sz => hrec.2.2.2.2.2.2.2.2.1 sz hc) gX6_69 hP hD hS h2 rfl rfl ⟨by simp only [RMd]; omega, by simp only [RMd]; omega⟩ ⟨by simp [RMd], by simp [RMd]⟩ ⟨rfl, rfl⟩ rfl hl.1 rfl (lv_room (Nat.le_of_ble_eq_true rfl)) dX6_readProperty_90 (fun ev25 H locs hP hD hS => ?_)
          have h := h1 ev25
          obtain ⟨r27, σ26, hc, h⟩ := bnd_s h
          refine T_callNi (q0 := 2) (ci := 5) (As := [.int r24]) (rest := []) C hA (fun sz => kX1_addBoolean hl0 sz hc) gX6_72 hP hD hS rfl rfl ⟨by show 1 + 1 ≤ 20 + (d + 1); omega, by show 8 + (3 + 11) + 24 ≤ 400 + 45 * (d + 1); omega⟩ ⟨rfl, rfl⟩ rfl hl.1 rfl (lv_room (Nat.le_of_ble_eq_true rfl)) dX6_readProperty_93 (fun H locs hP hD hS => ?_)
          exact T_xiret C h hP hD hS dX6_readProperty_96
set_option maxHeartbeats 4000000 in
set_option maxRecDepth 100000 in
theorem tX6_readProperty {st : Nat → Nat} {p : Program} {l : Launch} {e : Env} {s : State} {m : MethodId} {args : Array Value} {below : List Frame} {meth : Method} {c : Code} {D : va_G} {a : Nat → Nat} {cc : Nat → ClassId} {A : Nat → Prop} {N : Nat} {rec : Nat → St → Int32 → Option (Int32 × Int32 × St)} {d : Nat} {x r : Int32} {σr : St} (C : T_Cx st l A RX6 p s m args meth c D cc cX6_readProperty (Cond.code yX6_readProperty cX6_readProperty 2 (some .int) :: WT) 2 (some .int)) (hA : ∀ q, s.heap.size ≤ q → A q) (hxt : ∀ x ∈ c.exceptionTable.toList, False) (hrec : T_rec st l D a cc rec d) {σ : St} {p0 : Int32} {H : Heap} {locs : List Loc} {ls : Array Slot} (h : fX6_readProperty N rec σ p0 = some (x, r, σr)) : va_P D vwCl (wT a cc σ) H → va_D A (wT a cc σ) → va_S A s.heap H locs → lv_has ls 2 [(0, .ref (a 49)), (1, .int p0)] → W p l e (RMd (d + 1)) s m args below meth c H locs 0 0 (T_Mxi D a cc A below args s x r σr) (F0 m 0 ls []) := by
  obtain ⟨hx, hb, hr, hml, hown, hts, hin, hK, hlocks, hTS, hl0⟩ := id C
  intro hP hD hS hl
  refine lv_aload_n hx hb dX6_readProperty_0 rfl (lv_at hl 0 rfl) ?_
  refine lv_iload_n hx hb dX6_readProperty_1 rfl (lv_at hl 1 rfl) ?_
  refine lv_bipush (v := (12 : Int32)) hx hb dX6_readProperty_2 (by decide) ?_
  refine lv_icmp_gt (tgt := 11) hx hb dX6_readProperty_4 (by decide) (fun c1 => ?_) (fun c1 => ?_)
  · have h := ifT c1 h
    refine lv_iconst (v := (0 : Int32)) hx hb dX6_readProperty_11 (by decide) ?_
    exact tX6_readProperty_12 C hA hxt hrec h hP hD hS (lv_sub hl [0, 1] rfl)
  · have h := ifF c1 h
    refine lv_iconst (v := (1 : Int32)) hx hb dX6_readProperty_7 (by decide) ?_
    refine lv_goto (tgt := 12) hx hb dX6_readProperty_8 (by decide) ?_
    exact tX6_readProperty_12 C hA hxt hrec h hP hD hS (lv_sub hl [0, 1] rfl)
set_option maxRecDepth 100000 in
theorem kX6_readProperty {l : Launch} (hl0 : l.stackTraces = false) (sz : Nat) {st : Nat → Nat} {D : va_G} {a : Nat → Nat} {cc : Nat → ClassId} {N : Nat} {rec : Nat → St → Int32 → Option (Int32 × Int32 × St)} {d : Nat} {x r : Int32} {σr : St} (hrec : T_rec st l D a cc rec d) {σ : St} {p0 : Int32} (h : fX6_readProperty N rec σ p0 = some (x, r, σr)) : vy_Met l yX6_readProperty ((Cond.code yX6_readProperty cX6_readProperty 2 (some .int) :: WT)) (RMd (d + 1)) (T_Pc st D a cc [.ref (a 49), .int p0] σ sz) (T_Rxi D a cc (va_A (wT a cc σ) sz) x r σr) (T_X D a cc (va_A (wT a cc σ) sz) x σr) (va_A (wT a cc σ) sz) := by
  refine vy_ofW (cc := cX6_readProperty) (maxL := 2) (ret := (some .int)) (by decide) rfl ?_
  intro p e s m args below meth c s₁ B hml hxt hv
  obtain ⟨rfl, hsz, hP, hK, hD0, hTS⟩ := hv
  subst hsz
  have hl := lv_entry ([.ref (a 49), .int p0]) (n := 2) (Nat.le_of_ble_eq_true rfl)
  rw [lg_entry_eq]
  generalize (lg_sl ([.ref (a 49), .int p0]) ++ List.replicate (2 - (lg_sl ([.ref (a 49), .int p0])).length) Slot.unset).toArray = ls at hl ⊢
  exact tX6_readProperty ⟨B.exec, B.bytes, B.returns, hml, findClass_of_methodNamed B.named, atoms_spec (ws := (Cond.code yX6_readProperty cX6_readProperty 2 (some .int) :: WT)) B.pre, (fun w h => List.mem_cons_of_mem _ h), hK, B.notSynchronized, hTS, hl0⟩ (fun q h => Or.inr h) hxt hrec h hP hD0.self va_S.rf hl
theorem T_rec_all {l : Launch} (hl0 : l.stackTraces = false) {st : Nat → Nat} {D : va_G} {a : Nat → Nat} {cc : Nat → ClassId} {N : Nat} : ∀ d, T_rec st l D a cc (fX6_rec N d) d := by
  intro d
  induction d with
  | zero => exact ⟨fun _ _ _ _ _ _ h => none_s h, fun _ _ _ _ _ _ h => none_s h, fun _ _ _ _ _ _ h => none_s h, fun _ _ _ _ _ _ h => none_s h, fun _ _ _ _ _ _ h => none_s h, fun _ _ _ _ _ _ h => none_s h, fun _ _ _ _ _ _ h => none_s h, fun _ _ _ _ _ _ h => none_s h, fun _ _ _ _ _ _ h => none_s h, fun _ _ _ _ _ _ h => none_s h⟩
  | succ d ih => exact ⟨fun sz _ _ _ _ _ h => kX6_readProperty hl0 sz ih h, fun sz _ _ _ _ _ h => kX6_readAlways hl0 sz ih h, fun sz _ _ _ _ _ h => kX6_readBehind hl0 sz ih h, fun sz _ _ _ _ _ h => kX6_readPair hl0 sz ih h, fun sz _ _ _ _ _ h => kX6_readRule hl0 sz ih h, fun sz _ _ _ _ _ h => kX6_readSequence hl0 sz ih h, fun sz _ _ _ _ _ h => kX6_readTerm hl0 sz ih h, fun sz _ _ _ _ _ h => kX6_readUnit hl0 sz ih h, fun sz _ _ _ _ _ h => kX6_readBoolean hl0 sz ih h, fun sz _ _ _ _ _ h => kX6_readBooleanPair hl0 sz ih h⟩
set_option maxHeartbeats 4000000 in
set_option maxRecDepth 100000 in
theorem tX6_readAll_40 {st : Nat → Nat} {p : Program} {l : Launch} {e : Env} {s : State} {m : MethodId} {args : Array Value} {below : List Frame} {meth : Method} {c : Code} {D : va_G} {a : Nat → Nat} {cc : Nat → ClassId} {A : Nat → Prop} {N : Nat} {x r : Int32} {σr : St} (C : T_Cx st l A RX6 p s m args meth c D cc cX6_readAll (Cond.code yX6_readAll cX6_readAll 3 none :: WT) 3 none) (hA : ∀ q, s.heap.size ≤ q → A q) (hxt : ∀ x ∈ c.exceptionTable.toList, False) {σ : St} {x2 : Int32} {y0 : Int32} {H : Heap} {locs : List Loc} {ls : Array Slot} (h : fX6_readAll_40 N σ x2 y0 = some (x, r, σr)) : va_P D vwCl (wT a cc σ) H → va_D A (wT a cc σ) → va_S A s.heap H locs → lv_has ls 3 [(0, .ref (a 49)), (2, .int x2)] → W p l e rmX6_readAll s m args below meth c H locs 0 0 (T_Mxv D a cc A below args s x r σr) (F0 m 40 ls [.int y0, .ref (a 49)]) := by
  obtain ⟨hx, hb, hr, hml, hown, hts, hin, hK, hlocks, hTS, hl0⟩ := id C
  intro hP hD hS hl
  obtain ⟨v9, r10, σ8, hc, h1, h2⟩ := bndX_s h
  refine T_callXVv (q0 := 6) (ci := 10) (As := [.int y0]) (rest := []) C hA hxt (fun sz => kX6_require hl0 sz hc) gX6_38 hP hD hS h2 rfl rfl ⟨by decide, by decide⟩ ⟨by decide, by decide⟩ ⟨rfl, rfl⟩ rfl hl.1 rfl (lv_room (Nat.le_of_ble_eq_true rfl)) dX6_readAll_40 (fun ev9 H locs hP hD hS => ?_)
  have h := h1 ev9
  refine lv_aload_n hx hb dX6_readAll_43 rfl (lv_at hl 0 rfl) ?_
  refine T_gfX6_15 C hP dX6_readAll_44 ?_
  refine lv_iload_n hx hb dX6_readAll_47 rfl (lv_at hl 1 rfl) ?_
  obtain ⟨σ11, hc, h⟩ := bnd1_s h
  refine T_callNv (q0 := 2) (ci := 5) (As := [.int x2]) (rest := []) C hA (fun sz => kX1_oblige hl0 sz hc) gX6_42 hP hD hS rfl rfl ⟨by decide, by decide⟩ ⟨rfl, rfl⟩ rfl hl.1 rfl (lv_room (Nat.le_of_ble_eq_true rfl)) dX6_readAll_48 (fun H locs hP hD hS => ?_)
  exact T_xvret C h hP hD hS dX6_readAll_51
set_option maxHeartbeats 4000000 in
set_option maxRecDepth 100000 in
theorem tX6_readAll {st : Nat → Nat} {p : Program} {l : Launch} {e : Env} {s : State} {m : MethodId} {args : Array Value} {below : List Frame} {meth : Method} {c : Code} {D : va_G} {a : Nat → Nat} {cc : Nat → ClassId} {A : Nat → Prop} {N : Nat} {x r : Int32} {σr : St} (C : T_Cx st l A RX6 p s m args meth c D cc cX6_readAll (Cond.code yX6_readAll cX6_readAll 3 none :: WT) 3 none) (hA : ∀ q, s.heap.size ≤ q → A q) (hxt : ∀ x ∈ c.exceptionTable.toList, False) {σ : St} {p0 : Int32} {H : Heap} {locs : List Loc} {ls : Array Slot} (h : fX6_readAll N σ p0 = some (x, r, σr)) : va_P D vwCl (wT a cc σ) H → va_D A (wT a cc σ) → va_S A s.heap H locs → lv_has ls 3 [(0, .ref (a 49)), (1, .int p0)] → W p l e rmX6_readAll s m args below meth c H locs 0 0 (T_Mxv D a cc A below args s x r σr) (F0 m 0 ls []) := by
  obtain ⟨hx, hb, hr, hml, hown, hts, hin, hK, hlocks, hTS, hl0⟩ := id C
  intro hP hD hS hl
  refine lv_aload_n hx hb dX6_readAll_0 rfl (lv_at hl 0 rfl) ?_
  refine lv_iload_n hx hb dX6_readAll_1 rfl (lv_at hl 1 rfl) ?_
  obtain ⟨σ1, eσ1, h⟩ := letS_n h
  refine T_pfX6_19 C hP hD hS eσ1 dX6_readAll_2 (fun H locs hP hD hS => ?_)
  refine lv_aload_n hx hb dX6_readAll_5 rfl (lv_at hl 0 rfl) ?_
  refine lv_iconst (v := (0 : Int32)) hx hb dX6_readAll_6 (by decide) ?_
  obtain ⟨σ2, eσ2, h⟩ := letS_n h
  refine T_pfX6_23 C hP hD hS eσ2 dX6_readAll_7 (fun H locs hP hD hS => ?_)
  refine lv_aload_n hx hb dX6_readAll_10 rfl (lv_at hl 0 rfl) ?_
  refine T_gfX6_15 C hP dX6_readAll_11 ?_
  obtain ⟨σ3, hc, h⟩ := bnd1_s h
  refine T_callNv (q0 := 2) (ci := 5) (As := []) (rest := []) C hA (fun sz => kX1_clear hl0 sz hc) gX6_29 hP hD hS rfl rfl ⟨by decide, by decide⟩ ⟨rfl, rfl⟩ rfl hl.1 rfl (lv_room (Nat.le_of_ble_eq_true rfl)) dX6_readAll_14 (fun H locs hP hD hS => ?_)
  refine lv_aload_n hx hb dX6_readAll_17 rfl (lv_at hl 0 rfl) ?_
  refine lv_iconst (v := (0 : Int32)) hx hb dX6_readAll_18 (by decide) ?_
  obtain ⟨v6, r5, σ4, hc, h1, h2⟩ := bndX_s h
  refine T_callXVi (q0 := 6) (ci := 10) (As := [.int (0 : Int32)]) (rest := []) C hA hxt (fun sz => (T_rec_all hl0 100).1 sz hc) gX6_34 hP hD hS h2 rfl rfl ⟨by decide, by decide⟩ ⟨by decide, by decide⟩ ⟨rfl, rfl⟩ rfl hl.1 rfl (lv_room (Nat.le_of_ble_eq_true rfl)) dX6_readAll_19 (fun ev6 H locs hP hD hS => ?_)
  have h := h1 ev6
  refine lv_istore_n (lv' := [(2, .int r5), (0, .ref (a 49)), (1, .int p0)]) hx hb dX6_readAll_22 rfl hl (by decide) rfl (fun ls hl => ?_)
  refine lv_aload_n hx hb dX6_readAll_23 rfl (lv_at hl 1 rfl) ?_
  refine lv_aload_n hx hb dX6_readAll_24 rfl (lv_at hl 1 rfl) ?_
  refine T_gfX6_23 C hP dX6_readAll_25 ?_
  refine lv_aload_n hx hb dX6_readAll_28 rfl (lv_at hl 1 rfl) ?_
  refine T_gfX6_19 C hP dX6_readAll_29 ?_
  refine lv_icmp_ne (tgt := 39) hx hb dX6_readAll_32 (by decide) (fun c7 => ?_) (fun c7 => ?_)
  · have h := ifF c7 h
    refine lv_iconst (v := (0 : Int32)) hx hb dX6_readAll_39 (by decide) ?_
    exact tX6_readAll_40 C hA hxt h hP hD hS (lv_sub hl [1, 0] rfl)
  · have h := ifT c7 h
    refine lv_iconst (v := (1 : Int32)) hx hb dX6_readAll_35 (by decide) ?_
    refine lv_goto (tgt := 40) hx hb dX6_readAll_36 (by decide) ?_
    exact tX6_readAll_40 C hA hxt h hP hD hS (lv_sub hl [1, 0] rfl)
set_option maxRecDepth 100000 in
theorem kX6_readAll {l : Launch} (hl0 : l.stackTraces = false) (sz : Nat) {st : Nat → Nat} {D : va_G} {a : Nat → Nat} {cc : Nat → ClassId} {N : Nat} {x r : Int32} {σr : St} {σ : St} {p0 : Int32} (h : fX6_readAll N σ p0 = some (x, r, σr)) : vy_Met l yX6_readAll ((Cond.code yX6_readAll cX6_readAll 3 none :: WT)) rmX6_readAll (T_Pc st D a cc [.ref (a 49), .int p0] σ sz) (T_Rxv D a cc (va_A (wT a cc σ) sz) x r σr) (T_X D a cc (va_A (wT a cc σ) sz) x σr) (va_A (wT a cc σ) sz) := by
  refine vy_ofW (cc := cX6_readAll) (maxL := 3) (ret := none) (by decide) rfl ?_
  intro p e s m args below meth c s₁ B hml hxt hv
  obtain ⟨rfl, hsz, hP, hK, hD0, hTS⟩ := hv
  subst hsz
  have hl := lv_entry ([.ref (a 49), .int p0]) (n := 3) (Nat.le_of_ble_eq_true rfl)
  rw [lg_entry_eq]
  generalize (lg_sl ([.ref (a 49), .int p0]) ++ List.replicate (3 - (lg_sl ([.ref (a 49), .int p0])).length) Slot.unset).toArray = ls at hl ⊢
  exact tX6_readAll ⟨B.exec, B.bytes, B.returns, hml, findClass_of_methodNamed B.named, atoms_spec (ws := (Cond.code yX6_readAll cX6_readAll 3 none :: WT)) B.pre, (fun w h => List.mem_cons_of_mem _ h), hK, B.notSynchronized, hTS, hl0⟩ (fun q h => Or.inr h) hxt h hP hD0.self va_S.rf hl
set_option maxHeartbeats 4000000 in
set_option maxRecDepth 100000 in
theorem tX7_start {st : Nat → Nat} {p : Program} {l : Launch} {e : Env} {s : State} {m : MethodId} {args : Array Value} {below : List Frame} {meth : Method} {c : Code} {D : va_G} {a : Nat → Nat} {cc : Nat → ClassId} {A : Nat → Prop} {N : Nat} {σr : St} (C : T_Cx st l A RX7 p s m args meth c D cc cX7_start (Cond.code yX7_start cX7_start 1 none :: WT) 1 none) (hA : ∀ q, s.heap.size ≤ q → A q) {σ : St} {H : Heap} {locs : List Loc} {ls : Array Slot} (h : fX7_start N σ = some σr) : va_P D vwCl (wT a cc σ) H → va_D A (wT a cc σ) → va_S A s.heap H locs → lv_has ls 1 [(0, .ref (a 99))] → W p l e rmX7_start s m args below meth c H locs 0 0 (T_Mv D a cc A below args s σr) (F0 m 0 ls []) := by
  obtain ⟨hx, hb, hr, hml, hown, hts, hin, hK, hlocks, hTS, hl0⟩ := id C
  intro hP hD hS hl
  refine lv_aload_n hx hb dX7_start_0 rfl (lv_at hl 0 rfl) ?_
  refine lv_iconst (v := (1 : Int32)) hx hb dX7_start_1 (by decide) ?_
  obtain ⟨g2, h⟩ := grd_s h
  obtain ⟨σ1, eσ1, h⟩ := letS_n h
  refine T_pfX7_19 C hP hD hS g2 eσ1 dX7_start_2 (fun H locs hP hD hS => ?_)
  refine lv_aload_n hx hb dX7_start_5 rfl (lv_at hl 0 rfl) ?_
  refine lv_iconst (v := (0 : Int32)) hx hb dX7_start_6 (by decide) ?_
  obtain ⟨σ3, eσ3, h⟩ := letS_n h
  refine T_pfX7_23 C hP hD hS eσ3 dX7_start_7 (fun H locs hP hD hS => ?_)
  refine lv_aload_n hx hb dX7_start_10 rfl (lv_at hl 0 rfl) ?_
  refine lv_aload_n hx hb dX7_start_11 rfl (lv_at hl 0 rfl) ?_
  refine T_gfX7_9 C hP dX7_start_12 ?_
  obtain ⟨r5, σ4, hc, h⟩ := bnd_s h
  refine T_callNi (q0 := 14) (ci := 8) (As := []) (rest := [.ref (a 99)]) C hA (fun sz => kX4_firstState hl0 sz hc) gX7_30 hP hD hS rfl rfl ⟨by decide, by decide⟩ ⟨rfl, rfl⟩ rfl hl.1 rfl (lv_room (Nat.le_of_ble_eq_true rfl)) dX7_start_15 (fun H locs hP hD hS => ?_)
  obtain ⟨σ6, eσ6, h⟩ := letS_n h
  refine T_pfX7_27 C hP hD hS eσ6 dX7_start_18 (fun H locs hP hD hS => ?_)
  exact T_vret C h hP hD hS dX7_start_21
set_option maxRecDepth 100000 in
theorem kX7_start {l : Launch} (hl0 : l.stackTraces = false) (sz : Nat) {st : Nat → Nat} {D : va_G} {a : Nat → Nat} {cc : Nat → ClassId} {N : Nat} {σr : St} {σ : St} (h : fX7_start N σ = some σr) : Met l yX7_start ((Cond.code yX7_start cX7_start 1 none :: WT)) rmX7_start (T_Pc st D a cc [.ref (a 99)] σ sz) (T_Qv D a cc σ sz σr) 0 0 (va_A (wT a cc σ) sz) := by
  refine Met.ofW (cc := cX7_start) (maxL := 1) (ret := none) (by decide) rfl ?_
  intro p e s m args below meth c s₁ B hml hv
  obtain ⟨rfl, hsz, hP, hK, hD0, hTS⟩ := hv
  subst hsz
  have hl := lv_entry ([.ref (a 99)]) (n := 1) (Nat.le_of_ble_eq_true rfl)
  rw [lg_entry_eq]
  generalize (lg_sl ([.ref (a 99)]) ++ List.replicate (1 - (lg_sl ([.ref (a 99)])).length) Slot.unset).toArray = ls at hl ⊢
  exact tX7_start ⟨B.exec, B.bytes, B.returns, hml, findClass_of_methodNamed B.named, atoms_spec (ws := (Cond.code yX7_start cX7_start 1 none :: WT)) B.pre, (fun w h => List.mem_cons_of_mem _ h), hK, B.notSynchronized, hTS, hl0⟩ (fun q h => Or.inr h) h hP hD0.self va_S.rf hl
set_option maxHeartbeats 4000000 in
set_option maxRecDepth 100000 in
theorem tX7_end {st : Nat → Nat} {p : Program} {l : Launch} {e : Env} {s : State} {m : MethodId} {args : Array Value} {below : List Frame} {meth : Method} {c : Code} {D : va_G} {a : Nat → Nat} {cc : Nat → ClassId} {A : Nat → Prop} {N : Nat} {σr : St} (C : T_Cx st l A RX7 p s m args meth c D cc cX7_end (Cond.code yX7_end cX7_end 1 none :: WT) 1 none) (hA : ∀ q, s.heap.size ≤ q → A q) {σ : St} {H : Heap} {locs : List Loc} {ls : Array Slot} (h : fX7_end N σ = some σr) : va_P D vwCl (wT a cc σ) H → va_D A (wT a cc σ) → va_S A s.heap H locs → lv_has ls 1 [(0, .ref (a 99))] → W p l e rmX7_end s m args below meth c H locs 0 0 (T_Mv D a cc A below args s σr) (F0 m 0 ls []) := by
  obtain ⟨hx, hb, hr, hml, hown, hts, hin, hK, hlocks, hTS, hl0⟩ := id C
  intro hP hD hS hl
  refine lv_aload_n hx hb dX7_end_0 rfl (lv_at hl 0 rfl) ?_
  refine lv_iconst (v := (0 : Int32)) hx hb dX7_end_1 (by decide) ?_
  obtain ⟨g2, h⟩ := grd_s h
  obtain ⟨σ1, eσ1, h⟩ := letS_n h
  refine T_pfX7_19 C hP hD hS g2 eσ1 dX7_end_2 (fun H locs hP hD hS => ?_)
  exact T_vret C h hP hD hS dX7_end_5
set_option maxRecDepth 100000 in
theorem kX7_end {l : Launch} (hl0 : l.stackTraces = false) (sz : Nat) {st : Nat → Nat} {D : va_G} {a : Nat → Nat} {cc : Nat → ClassId} {N : Nat} {σr : St} {σ : St} (h : fX7_end N σ = some σr) : Met l yX7_end ((Cond.code yX7_end cX7_end 1 none :: WT)) rmX7_end (T_Pc st D a cc [.ref (a 99)] σ sz) (T_Qv D a cc σ sz σr) 0 0 (va_A (wT a cc σ) sz) := by
  refine Met.ofW (cc := cX7_end) (maxL := 1) (ret := none) (by decide) rfl ?_
  intro p e s m args below meth c s₁ B hml hv
  obtain ⟨rfl, hsz, hP, hK, hD0, hTS⟩ := hv
  subst hsz
  have hl := lv_entry ([.ref (a 99)]) (n := 1) (Nat.le_of_ble_eq_true rfl)
  rw [lg_entry_eq]
  generalize (lg_sl ([.ref (a 99)]) ++ List.replicate (1 - (lg_sl ([.ref (a 99)])).length) Slot.unset).toArray = ls at hl ⊢
  exact tX7_end ⟨B.exec, B.bytes, B.returns, hml, findClass_of_methodNamed B.named, atoms_spec (ws := (Cond.code yX7_end cX7_end 1 none :: WT)) B.pre, (fun w h => List.mem_cons_of_mem _ h), hK, B.notSynchronized, hTS, hl0⟩ (fun q h => Or.inr h) h hP hD0.self va_S.rf hl
set_option maxHeartbeats 4000000 in
set_option maxRecDepth 100000 in
theorem tX7_hasFailed_19 {st : Nat → Nat} {p : Program} {l : Launch} {e : Env} {s : State} {m : MethodId} {args : Array Value} {below : List Frame} {meth : Method} {c : Code} {D : va_G} {a : Nat → Nat} {cc : Nat → ClassId} {A : Nat → Prop} {N : Nat} {r : Int32} {σr : St} (C : T_Cx st l A RX7 p s m args meth c D cc cX7_hasFailed (Cond.code yX7_hasFailed cX7_hasFailed 1 (some .boolean) :: WT) 1 (some .boolean)) (hA : ∀ q, s.heap.size ≤ q → A q) {σ : St} {H : Heap} {locs : List Loc} {ls : Array Slot} (h : fX7_hasFailed_19 N σ = some (r, σr)) : va_P D vwCl (wT a cc σ) H → va_D A (wT a cc σ) → va_S A s.heap H locs → lv_has ls 1 [] → W p l e rmX7_hasFailed s m args below meth c H locs 0 0 (T_Mi D a cc A below args s r σr) (F0 m 19 ls []) := by
  obtain ⟨hx, hb, hr, hml, hown, hts, hin, hK, hlocks, hTS, hl0⟩ := id C
  intro hP hD hS hl
  refine lv_iconst (v := (0 : Int32)) hx hb dX7_hasFailed_19 (by decide) ?_
  exact T_zretZ C h hP hD hS dX7_hasFailed_20
set_option maxHeartbeats 4000000 in
set_option maxRecDepth 100000 in
theorem tX7_hasFailed {st : Nat → Nat} {p : Program} {l : Launch} {e : Env} {s : State} {m : MethodId} {args : Array Value} {below : List Frame} {meth : Method} {c : Code} {D : va_G} {a : Nat → Nat} {cc : Nat → ClassId} {A : Nat → Prop} {N : Nat} {r : Int32} {σr : St} (C : T_Cx st l A RX7 p s m args meth c D cc cX7_hasFailed (Cond.code yX7_hasFailed cX7_hasFailed 1 (some .boolean) :: WT) 1 (some .boolean)) (hA : ∀ q, s.heap.size ≤ q → A q) {σ : St} {H : Heap} {locs : List Loc} {ls : Array Slot} (h : fX7_hasFailed N σ = some (r, σr)) : va_P D vwCl (wT a cc σ) H → va_D A (wT a cc σ) → va_S A s.heap H locs → lv_has ls 1 [(0, .ref (a 99))] → W p l e rmX7_hasFailed s m args below meth c H locs 0 0 (T_Mi D a cc A below args s r σr) (F0 m 0 ls []) := by
  obtain ⟨hx, hb, hr, hml, hown, hts, hin, hK, hlocks, hTS, hl0⟩ := id C
  intro hP hD hS hl
  refine lv_aload_n hx hb dX7_hasFailed_0 rfl (lv_at hl 0 rfl) ?_
  refine T_gfX7_19 C hP dX7_hasFailed_1 ?_
  refine lv_if_eq (tgt := 19) hx hb dX7_hasFailed_4 (by decide) (fun c1 => ?_) (fun c1 => ?_)
  · have h := ifT c1 h
    exact tX7_hasFailed_19 C hA h hP hD hS (lv_sub hl [] rfl)
  · have h := ifF c1 h
    refine lv_aload_n hx hb dX7_hasFailed_7 rfl (lv_at hl 0 rfl) ?_
    refine T_gfX7_27 C hP dX7_hasFailed_8 ?_
    refine lv_iconst (v := (-1 : Int32)) hx hb dX7_hasFailed_11 (by decide) ?_
    refine lv_icmp_ne (tgt := 19) hx hb dX7_hasFailed_12 (by decide) (fun c2 => ?_) (fun c2 => ?_)
    · have h := ifF c2 h
      exact tX7_hasFailed_19 C hA h hP hD hS (lv_sub hl [] rfl)
    · have h := ifT c2 h
      refine lv_iconst (v := (1 : Int32)) hx hb dX7_hasFailed_15 (by decide) ?_
      refine lv_goto (tgt := 20) hx hb dX7_hasFailed_16 (by decide) ?_
      exact T_zretZ C h hP hD hS dX7_hasFailed_20
set_option maxRecDepth 100000 in
theorem kX7_hasFailed {l : Launch} (hl0 : l.stackTraces = false) (sz : Nat) {st : Nat → Nat} {D : va_G} {a : Nat → Nat} {cc : Nat → ClassId} {N : Nat} {r : Int32} {σr : St} {σ : St} (h : fX7_hasFailed N σ = some (r, σr)) : Met l yX7_hasFailed ((Cond.code yX7_hasFailed cX7_hasFailed 1 (some .boolean) :: WT)) rmX7_hasFailed (T_Pc st D a cc [.ref (a 99)] σ sz) (T_Qi D a cc σ sz r σr) 0 0 (va_A (wT a cc σ) sz) := by
  refine Met.ofW (cc := cX7_hasFailed) (maxL := 1) (ret := (some .boolean)) (by decide) rfl ?_
  intro p e s m args below meth c s₁ B hml hv
  obtain ⟨rfl, hsz, hP, hK, hD0, hTS⟩ := hv
  subst hsz
  have hl := lv_entry ([.ref (a 99)]) (n := 1) (Nat.le_of_ble_eq_true rfl)
  rw [lg_entry_eq]
  generalize (lg_sl ([.ref (a 99)]) ++ List.replicate (1 - (lg_sl ([.ref (a 99)])).length) Slot.unset).toArray = ls at hl ⊢
  exact tX7_hasFailed ⟨B.exec, B.bytes, B.returns, hml, findClass_of_methodNamed B.named, atoms_spec (ws := (Cond.code yX7_hasFailed cX7_hasFailed 1 (some .boolean) :: WT)) B.pre, (fun w h => List.mem_cons_of_mem _ h), hK, B.notSynchronized, hTS, hl0⟩ (fun q h => Or.inr h) h hP hD0.self va_S.rf hl
set_option maxHeartbeats 4000000 in
set_option maxRecDepth 100000 in
theorem tX7_canGoOn_28 {st : Nat → Nat} {p : Program} {l : Launch} {e : Env} {s : State} {m : MethodId} {args : Array Value} {below : List Frame} {meth : Method} {c : Code} {D : va_G} {a : Nat → Nat} {cc : Nat → ClassId} {A : Nat → Prop} {N : Nat} {r : Int32} {σr : St} (C : T_Cx st l A RX7 p s m args meth c D cc cX7_canGoOn (Cond.code yX7_canGoOn cX7_canGoOn 1 (some .boolean) :: WT) 1 (some .boolean)) (hA : ∀ q, s.heap.size ≤ q → A q) {σ : St} {H : Heap} {locs : List Loc} {ls : Array Slot} (h : fX7_canGoOn_28 N σ = some (r, σr)) : va_P D vwCl (wT a cc σ) H → va_D A (wT a cc σ) → va_S A s.heap H locs → lv_has ls 1 [] → W p l e rmX7_canGoOn s m args below meth c H locs 0 0 (T_Mi D a cc A below args s r σr) (F0 m 28 ls []) := by
  obtain ⟨hx, hb, hr, hml, hown, hts, hin, hK, hlocks, hTS, hl0⟩ := id C
  intro hP hD hS hl
  refine lv_iconst (v := (0 : Int32)) hx hb dX7_canGoOn_28 (by decide) ?_
  exact T_zretZ C h hP hD hS dX7_canGoOn_29
set_option maxHeartbeats 4000000 in
set_option maxRecDepth 100000 in
theorem tX7_canGoOn {st : Nat → Nat} {p : Program} {l : Launch} {e : Env} {s : State} {m : MethodId} {args : Array Value} {below : List Frame} {meth : Method} {c : Code} {D : va_G} {a : Nat → Nat} {cc : Nat → ClassId} {A : Nat → Prop} {N : Nat} {r : Int32} {σr : St} (C : T_Cx st l A RX7 p s m args meth c D cc cX7_canGoOn (Cond.code yX7_canGoOn cX7_canGoOn 1 (some .boolean) :: WT) 1 (some .boolean)) (hA : ∀ q, s.heap.size ≤ q → A q) {σ : St} {H : Heap} {locs : List Loc} {ls : Array Slot} (h : fX7_canGoOn N σ = some (r, σr)) : va_P D vwCl (wT a cc σ) H → va_D A (wT a cc σ) → va_S A s.heap H locs → lv_has ls 1 [(0, .ref (a 99))] → W p l e rmX7_canGoOn s m args below meth c H locs 0 0 (T_Mi D a cc A below args s r σr) (F0 m 0 ls []) := by
  obtain ⟨hx, hb, hr, hml, hown, hts, hin, hK, hlocks, hTS, hl0⟩ := id C
  intro hP hD hS hl
  refine lv_aload_n hx hb dX7_canGoOn_0 rfl (lv_at hl 0 rfl) ?_
  refine T_gfX7_19 C hP dX7_canGoOn_1 ?_
  refine lv_if_eq (tgt := 28) hx hb dX7_canGoOn_4 (by decide) (fun c1 => ?_) (fun c1 => ?_)
  · have h := ifT c1 h
    exact tX7_canGoOn_28 C hA h hP hD hS (lv_sub hl [] rfl)
  · have h := ifF c1 h
    refine lv_aload_n hx hb dX7_canGoOn_7 rfl (lv_at hl 0 rfl) ?_
    refine T_gfX7_27 C hP dX7_canGoOn_8 ?_
    refine lv_iconst (v := (-1 : Int32)) hx hb dX7_canGoOn_11 (by decide) ?_
    refine lv_icmp_eq (tgt := 28) hx hb dX7_canGoOn_12 (by decide) (fun c2 => ?_) (fun c2 => ?_)
    · have h := ifT c2 h
      exact tX7_canGoOn_28 C hA h hP hD hS (lv_sub hl [] rfl)
    · have h := ifF c2 h
      refine lv_aload_n hx hb dX7_canGoOn_15 rfl (lv_at hl 0 rfl) ?_
      refine T_gfX7_23 C hP dX7_canGoOn_16 ?_
      refine lv_bipush (v := (60 : Int32)) hx hb dX7_canGoOn_19 (by decide) ?_
      refine lv_icmp_ge (tgt := 28) hx hb dX7_canGoOn_21 (by decide) (fun c3 => ?_) (fun c3 => ?_)
      · have h := ifT c3 h
        exact tX7_canGoOn_28 C hA h hP hD hS (lv_sub hl [] rfl)
      · have h := ifF c3 h
        refine lv_iconst (v := (1 : Int32)) hx hb dX7_canGoOn_24 (by decide) ?_
        refine lv_goto (tgt := 29) hx hb dX7_canGoOn_25 (by decide) ?_
        exact T_zretZ C h hP hD hS dX7_canGoOn_29
set_option maxRecDepth 100000 in
theorem kX7_canGoOn {l : Launch} (hl0 : l.stackTraces = false) (sz : Nat) {st : Nat → Nat} {D : va_G} {a : Nat → Nat} {cc : Nat → ClassId} {N : Nat} {r : Int32} {σr : St} {σ : St} (h : fX7_canGoOn N σ = some (r, σr)) : Met l yX7_canGoOn ((Cond.code yX7_canGoOn cX7_canGoOn 1 (some .boolean) :: WT)) rmX7_canGoOn (T_Pc st D a cc [.ref (a 99)] σ sz) (T_Qi D a cc σ sz r σr) 0 0 (va_A (wT a cc σ) sz) := by
  refine Met.ofW (cc := cX7_canGoOn) (maxL := 1) (ret := (some .boolean)) (by decide) rfl ?_
  intro p e s m args below meth c s₁ B hml hv
  obtain ⟨rfl, hsz, hP, hK, hD0, hTS⟩ := hv
  subst hsz
  have hl := lv_entry ([.ref (a 99)]) (n := 1) (Nat.le_of_ble_eq_true rfl)
  rw [lg_entry_eq]
  generalize (lg_sl ([.ref (a 99)]) ++ List.replicate (1 - (lg_sl ([.ref (a 99)])).length) Slot.unset).toArray = ls at hl ⊢
  exact tX7_canGoOn ⟨B.exec, B.bytes, B.returns, hml, findClass_of_methodNamed B.named, atoms_spec (ws := (Cond.code yX7_canGoOn cX7_canGoOn 1 (some .boolean) :: WT)) B.pre, (fun w h => List.mem_cons_of_mem _ h), hK, B.notSynchronized, hTS, hl0⟩ (fun q h => Or.inr h) h hP hD0.self va_S.rf hl
set_option maxHeartbeats 4000000 in
set_option maxRecDepth 100000 in
theorem tX7_take {st : Nat → Nat} {p : Program} {l : Launch} {e : Env} {s : State} {m : MethodId} {args : Array Value} {below : List Frame} {meth : Method} {c : Code} {D : va_G} {a : Nat → Nat} {cc : Nat → ClassId} {A : Nat → Prop} {N : Nat} {σr : St} (C : T_Cx st l A RX7 p s m args meth c D cc cX7_take (Cond.code yX7_take cX7_take 2 none :: WT) 2 none) (hA : ∀ q, s.heap.size ≤ q → A q) {σ : St} {p0 : Int32} {H : Heap} {locs : List Loc} {ls : Array Slot} (h : fX7_take N σ p0 = some σr) : va_P D vwCl (wT a cc σ) H → va_D A (wT a cc σ) → va_S A s.heap H locs → lv_has ls 2 [(0, .ref (a 99)), (1, .int p0)] → W p l e rmX7_take s m args below meth c H locs 0 0 (T_Mv D a cc A below args s σr) (F0 m 0 ls []) := by
  obtain ⟨hx, hb, hr, hml, hown, hts, hin, hK, hlocks, hTS, hl0⟩ := id C
  intro hP hD hS hl
  refine lv_aload_n hx hb dX7_take_0 rfl (lv_at hl 0 rfl) ?_
  refine T_gfX7_23 C hP dX7_take_1 ?_
  refine lv_bipush (v := (60 : Int32)) hx hb dX7_take_4 (by decide) ?_
  refine lv_icmp_lt (tgt := 10) hx hb dX7_take_6 (by decide) (fun c1 => ?_) (fun c1 => ?_)
  · have h := ifT c1 h
    refine lv_aload_n hx hb dX7_take_10 rfl (lv_at hl 0 rfl) ?_
    refine T_gfX7_15 C hP dX7_take_11 ?_
    refine lv_aload_n hx hb dX7_take_14 rfl (lv_at hl 0 rfl) ?_
    refine T_gfX7_23 C hP dX7_take_15 ?_
    refine lv_iload_n hx hb dX7_take_18 rfl (lv_at hl 1 rfl) ?_
    obtain ⟨g2, h⟩ := grd_s h
    obtain ⟨σ3, eσ3, h⟩ := letS_n h
    refine T_st91 C hP hD hS g2 eσ3 dX7_take_19 (fun H locs hP hD hS => ?_)
    refine lv_aload_n hx hb dX7_take_20 rfl (lv_at hl 0 rfl) ?_
    refine lv_dup hx hb dX7_take_21 rfl ?_
    refine T_gfX7_23 C hP dX7_take_22 ?_
    refine lv_iconst (v := (1 : Int32)) hx hb dX7_take_25 (by decide) ?_
    refine lv_iadd hx hb dX7_take_26 ?_
    obtain ⟨σ4, eσ4, h⟩ := letS_n h
    refine T_pfX7_23 C hP hD hS eσ4 dX7_take_27 (fun H locs hP hD hS => ?_)
    refine lv_aload_n hx hb dX7_take_30 rfl (lv_at hl 0 rfl) ?_
    refine lv_aload_n hx hb dX7_take_31 rfl (lv_at hl 0 rfl) ?_
    refine T_gfX7_9 C hP dX7_take_32 ?_
    refine lv_aload_n hx hb dX7_take_35 rfl (lv_at hl 0 rfl) ?_
    refine T_gfX7_27 C hP dX7_take_36 ?_
    refine lv_iload_n hx hb dX7_take_39 rfl (lv_at hl 1 rfl) ?_
    obtain ⟨r6, σ5, hc, h⟩ := bnd_s h
    refine T_callNi (q0 := 14) (ci := 8) (As := [.int (gI σ4 94 0), .int p0]) (rest := [.ref (a 99)]) C hA (fun sz => kX4_after hl0 sz hc) gX7_36 hP hD hS rfl rfl ⟨by decide, by decide⟩ ⟨rfl, rfl⟩ rfl hl.1 rfl (lv_room (Nat.le_of_ble_eq_true rfl)) dX7_take_40 (fun H locs hP hD hS => ?_)
    obtain ⟨σ7, eσ7, h⟩ := letS_n h
    refine T_pfX7_27 C hP hD hS eσ7 dX7_take_43 (fun H locs hP hD hS => ?_)
    exact T_vret C h hP hD hS dX7_take_46
  · have h := ifF c1 h
    exact T_vret C h hP hD hS dX7_take_9
set_option maxRecDepth 100000 in
theorem kX7_take {l : Launch} (hl0 : l.stackTraces = false) (sz : Nat) {st : Nat → Nat} {D : va_G} {a : Nat → Nat} {cc : Nat → ClassId} {N : Nat} {σr : St} {σ : St} {p0 : Int32} (h : fX7_take N σ p0 = some σr) : Met l yX7_take ((Cond.code yX7_take cX7_take 2 none :: WT)) rmX7_take (T_Pc st D a cc [.ref (a 99), .int p0] σ sz) (T_Qv D a cc σ sz σr) 0 0 (va_A (wT a cc σ) sz) := by
  refine Met.ofW (cc := cX7_take) (maxL := 2) (ret := none) (by decide) rfl ?_
  intro p e s m args below meth c s₁ B hml hv
  obtain ⟨rfl, hsz, hP, hK, hD0, hTS⟩ := hv
  subst hsz
  have hl := lv_entry ([.ref (a 99), .int p0]) (n := 2) (Nat.le_of_ble_eq_true rfl)
  rw [lg_entry_eq]
  generalize (lg_sl ([.ref (a 99), .int p0]) ++ List.replicate (2 - (lg_sl ([.ref (a 99), .int p0])).length) Slot.unset).toArray = ls at hl ⊢
  exact tX7_take ⟨B.exec, B.bytes, B.returns, hml, findClass_of_methodNamed B.named, atoms_spec (ws := (Cond.code yX7_take cX7_take 2 none :: WT)) B.pre, (fun w h => List.mem_cons_of_mem _ h), hK, B.notSynchronized, hTS, hl0⟩ (fun q h => Or.inr h) h hP hD0.self va_S.rf hl
set_option maxHeartbeats 4000000 in
set_option maxRecDepth 100000 in
theorem tX7_walk_5 {st : Nat → Nat} {p : Program} {l : Launch} {e : Env} {s : State} {m : MethodId} {args : Array Value} {below : List Frame} {meth : Method} {c : Code} {D : va_G} {a : Nat → Nat} {cc : Nat → ClassId} {A : Nat → Prop} {N : Nat} {r : Int32} {σr : St} (C : T_Cx st l A RX7 p s m args meth c D cc cX7_walk (Cond.code yX7_walk cX7_walk 5 (some .int) :: WT) 5 (some .int)) (hA : ∀ q, s.heap.size ≤ q → A q) : ∀ (n : Nat) {σ : St} {x3 : Int32} {x4 : Int32} {H : Heap} {locs : List Loc} {ls : Array Slot}, fX7_walk_5 N n σ x3 x4 = some (r, σr) → va_P D vwCl (wT a cc σ) H → va_D A (wT a cc σ) → va_S A s.heap H locs → lv_has ls 5 [(0, .ref (a 99)), (3, .int x3), (4, .int x4)] → W p l e rmX7_walk s m args below meth c H locs 0 0 (T_Mi D a cc A below args s r σr) (F0 m 5 ls []) := by
  obtain ⟨hx, hb, hr, hml, hown, hts, hin, hK, hlocks, hTS, hl0⟩ := id C
  intro n
  induction n with
  | zero => intro σ x3 x4 H locs ls h; exact none_s h
  | succ n ih =>
    intro σ x3 x4 H locs ls h hP hD hS hl
    refine lv_iload hx hb dX7_walk_5 (lv_at hl 2 rfl) ?_
    refine lv_aload_n hx hb dX7_walk_7 rfl (lv_at hl 0 rfl) ?_
    refine T_gfX7_23 C hP dX7_walk_8 ?_
    refine lv_icmp_ge (tgt := 36) hx hb dX7_walk_11 (by decide) (fun c1 => ?_) (fun c1 => ?_)
    · have h := ifT c1 h
      refine lv_iload_n hx hb dX7_walk_36 rfl (lv_at hl 1 rfl) ?_
      exact T_iret C h hP hD hS dX7_walk_37
    · have h := ifF c1 h
      refine lv_aload_n hx hb dX7_walk_14 rfl (lv_at hl 0 rfl) ?_
      refine T_gfX7_9 C hP dX7_walk_15 ?_
      refine lv_iload_n hx hb dX7_walk_18 rfl (lv_at hl 1 rfl) ?_
      refine lv_aload_n hx hb dX7_walk_19 rfl (lv_at hl 0 rfl) ?_
      refine T_gfX7_15 C hP dX7_walk_20 ?_
      refine lv_iload hx hb dX7_walk_23 (lv_at hl 2 rfl) ?_
      obtain ⟨g2, h⟩ := grd_s h
      refine T_ld91 C hP g2 dX7_walk_25 ?_
      obtain ⟨r4, σ3, hc, h⟩ := bnd_s h
      refine T_callNi (q0 := 14) (ci := 8) (As := [.int x3, .int (gI σ 91 x4.toNatClampNeg)]) (rest := []) C hA (fun sz => kX4_after hl0 sz hc) gX7_36 hP hD hS rfl rfl ⟨by decide, by decide⟩ ⟨rfl, rfl⟩ rfl hl.1 rfl (lv_room (Nat.le_of_ble_eq_true rfl)) dX7_walk_26 (fun H locs hP hD hS => ?_)
      refine lv_istore_n (lv' := [(3, .int r4), (0, .ref (a 99)), (4, .int x4)]) hx hb dX7_walk_29 rfl hl (by decide) rfl (fun ls hl => ?_)
      obtain ⟨u5, eu5, h⟩ := letS_n h
      refine lv_iinc (v := u5) (lv' := [(4, .int u5), (3, .int r4), (0, .ref (a 99))]) hx hb dX7_walk_30 hl (k := 2) rfl (by rw [eu5]; rfl) (by decide) rfl (fun ls hl => ?_)
      refine lv_goto (tgt := 5) hx hb dX7_walk_33 (by decide) ?_
      exact ih h hP hD hS (lv_sub hl [2, 1, 0] rfl)
set_option maxHeartbeats 4000000 in
set_option maxRecDepth 100000 in
theorem tX7_walk {st : Nat → Nat} {p : Program} {l : Launch} {e : Env} {s : State} {m : MethodId} {args : Array Value} {below : List Frame} {meth : Method} {c : Code} {D : va_G} {a : Nat → Nat} {cc : Nat → ClassId} {A : Nat → Prop} {N : Nat} {r : Int32} {σr : St} (C : T_Cx st l A RX7 p s m args meth c D cc cX7_walk (Cond.code yX7_walk cX7_walk 5 (some .int) :: WT) 5 (some .int)) (hA : ∀ q, s.heap.size ≤ q → A q) {σ : St} {p0 : Int32} {p1 : Int32} {H : Heap} {locs : List Loc} {ls : Array Slot} (h : fX7_walk N σ p0 p1 = some (r, σr)) : va_P D vwCl (wT a cc σ) H → va_D A (wT a cc σ) → va_S A s.heap H locs → lv_has ls 5 [(0, .ref (a 99)), (1, .int p0), (2, .int p1)] → W p l e rmX7_walk s m args below meth c H locs 0 0 (T_Mi D a cc A below args s r σr) (F0 m 0 ls []) := by
  obtain ⟨hx, hb, hr, hml, hown, hts, hin, hK, hlocks, hTS, hl0⟩ := id C
  intro hP hD hS hl
  refine lv_iload_n hx hb dX7_walk_0 rfl (lv_at hl 1 rfl) ?_
  refine lv_istore_n (lv' := [(3, .int p0), (0, .ref (a 99)), (1, .int p0), (2, .int p1)]) hx hb dX7_walk_1 rfl hl (by decide) rfl (fun ls hl => ?_)
  refine lv_iload_n hx hb dX7_walk_2 rfl (lv_at hl 3 rfl) ?_
  refine lv_istore (lv' := [(4, .int p1), (3, .int p0), (0, .ref (a 99)), (1, .int p0), (2, .int p1)]) hx hb dX7_walk_3 hl (by decide) rfl (fun ls hl => ?_)
  exact tX7_walk_5 C hA N h hP hD hS (lv_sub hl [2, 1, 0] rfl)
set_option maxRecDepth 100000 in
theorem kX7_walk {l : Launch} (hl0 : l.stackTraces = false) (sz : Nat) {st : Nat → Nat} {D : va_G} {a : Nat → Nat} {cc : Nat → ClassId} {N : Nat} {r : Int32} {σr : St} {σ : St} {p0 : Int32} {p1 : Int32} (h : fX7_walk N σ p0 p1 = some (r, σr)) : Met l yX7_walk ((Cond.code yX7_walk cX7_walk 5 (some .int) :: WT)) rmX7_walk (T_Pc st D a cc [.ref (a 99), .int p0, .int p1] σ sz) (T_Qi D a cc σ sz r σr) 0 0 (va_A (wT a cc σ) sz) := by
  refine Met.ofW (cc := cX7_walk) (maxL := 5) (ret := (some .int)) (by decide) rfl ?_
  intro p e s m args below meth c s₁ B hml hv
  obtain ⟨rfl, hsz, hP, hK, hD0, hTS⟩ := hv
  subst hsz
  have hl := lv_entry ([.ref (a 99), .int p0, .int p1]) (n := 5) (Nat.le_of_ble_eq_true rfl)
  rw [lg_entry_eq]
  generalize (lg_sl ([.ref (a 99), .int p0, .int p1]) ++ List.replicate (5 - (lg_sl ([.ref (a 99), .int p0, .int p1])).length) Slot.unset).toArray = ls at hl ⊢
  exact tX7_walk ⟨B.exec, B.bytes, B.returns, hml, findClass_of_methodNamed B.named, atoms_spec (ws := (Cond.code yX7_walk cX7_walk 5 (some .int) :: WT)) B.pre, (fun w h => List.mem_cons_of_mem _ h), hK, B.notSynchronized, hTS, hl0⟩ (fun q h => Or.inr h) h hP hD0.self va_S.rf hl
set_option maxHeartbeats 4000000 in
set_option maxRecDepth 100000 in
theorem tX7_shortestFailingEnd_2 {st : Nat → Nat} {p : Program} {l : Launch} {e : Env} {s : State} {m : MethodId} {args : Array Value} {below : List Frame} {meth : Method} {c : Code} {D : va_G} {a : Nat → Nat} {cc : Nat → ClassId} {A : Nat → Prop} {N : Nat} {r : Int32} {σr : St} (C : T_Cx st l A RX7 p s m args meth c D cc cX7_shortestFailingEnd (Cond.code yX7_shortestFailingEnd cX7_shortestFailingEnd 2 (some .int) :: WT) 2 (some .int)) (hA : ∀ q, s.heap.size ≤ q → A q) : ∀ (n : Nat) {σ : St} {x1 : Int32} {H : Heap} {locs : List Loc} {ls : Array Slot}, fX7_shortestFailingEnd_2 N n σ x1 = some (r, σr) → va_P D vwCl (wT a cc σ) H → va_D A (wT a cc σ) → va_S A s.heap H locs → lv_has ls 2 [(0, .ref (a 99)), (1, .int x1)] → W p l e rmX7_shortestFailingEnd s m args below meth c H locs 0 0 (T_Mi D a cc A below args s r σr) (F0 m 2 ls []) := by
  obtain ⟨hx, hb, hr, hml, hown, hts, hin, hK, hlocks, hTS, hl0⟩ := id C
  intro n
  induction n with
  | zero => intro σ x1 H locs ls h; exact none_s h
  | succ n ih =>
    intro σ x1 H locs ls h hP hD hS hl
    refine lv_iload_n hx hb dX7_shortestFailingEnd_2 rfl (lv_at hl 1 rfl) ?_
    refine lv_aload_n hx hb dX7_shortestFailingEnd_3 rfl (lv_at hl 0 rfl) ?_
    refine T_gfX7_23 C hP dX7_shortestFailingEnd_4 ?_
    refine lv_icmp_ge (tgt := 39) hx hb dX7_shortestFailingEnd_7 (by decide) (fun c1 => ?_) (fun c1 => ?_)
    · have h := ifT c1 h
      refine lv_aload_n hx hb dX7_shortestFailingEnd_39 rfl (lv_at hl 0 rfl) ?_
      refine T_gfX7_23 C hP dX7_shortestFailingEnd_40 ?_
      exact T_iret C h hP hD hS dX7_shortestFailingEnd_43
    · have h := ifF c1 h
      refine lv_aload_n hx hb dX7_shortestFailingEnd_10 rfl (lv_at hl 0 rfl) ?_
      refine lv_aload_n hx hb dX7_shortestFailingEnd_11 rfl (lv_at hl 0 rfl) ?_
      refine T_gfX7_9 C hP dX7_shortestFailingEnd_12 ?_
      obtain ⟨r3, σ2, hc, h⟩ := bnd_s h
      refine T_callNi (q0 := 14) (ci := 8) (As := []) (rest := [.ref (a 99)]) C hA (fun sz => kX4_firstState hl0 sz hc) gX7_30 hP hD hS rfl rfl ⟨by decide, by decide⟩ ⟨rfl, rfl⟩ rfl hl.1 rfl (lv_room (Nat.le_of_ble_eq_true rfl)) dX7_shortestFailingEnd_15 (fun H locs hP hD hS => ?_)
      refine lv_aload_n hx hb dX7_shortestFailingEnd_18 rfl (lv_at hl 0 rfl) ?_
      refine T_gfX7_23 C hP dX7_shortestFailingEnd_19 ?_
      refine lv_iload_n hx hb dX7_shortestFailingEnd_22 rfl (lv_at hl 1 rfl) ?_
      refine lv_isub hx hb dX7_shortestFailingEnd_23 ?_
      obtain ⟨r5, σ4, hc, h⟩ := bnd_s h
      refine T_callVi (q0 := 24) (ci := 11) (As := [.int r3, .int ((gI σ2 93 0) - x1)]) (rest := []) C hA (fun sz => kX7_walk hl0 sz hc) gX7_40 hP hD hS rfl rfl ⟨by decide, by decide⟩ ⟨rfl, rfl⟩ rfl hl.1 rfl (lv_room (Nat.le_of_ble_eq_true rfl)) dX7_shortestFailingEnd_24 (fun H locs hP hD hS => ?_)
      refine lv_iconst (v := (-1 : Int32)) hx hb dX7_shortestFailingEnd_27 (by decide) ?_
      refine lv_icmp_ne (tgt := 33) hx hb dX7_shortestFailingEnd_28 (by decide) (fun c6 => ?_) (fun c6 => ?_)
      · have h := ifF c6 h
        obtain ⟨u7, eu7, h⟩ := letS_n h
        refine lv_iinc (v := u7) (lv' := [(1, .int u7), (0, .ref (a 99))]) hx hb dX7_shortestFailingEnd_33 hl (k := 1) rfl (by rw [eu7]; rfl) (by decide) rfl (fun ls hl => ?_)
        refine lv_goto (tgt := 2) hx hb dX7_shortestFailingEnd_36 (by decide) ?_
        exact ih h hP hD hS (lv_sub hl [1, 0] rfl)
      · have h := ifT c6 h
        refine lv_iload_n hx hb dX7_shortestFailingEnd_31 rfl (lv_at hl 1 rfl) ?_
        exact T_iret C h hP hD hS dX7_shortestFailingEnd_32
set_option maxHeartbeats 4000000 in
set_option maxRecDepth 100000 in
theorem tX7_shortestFailingEnd {st : Nat → Nat} {p : Program} {l : Launch} {e : Env} {s : State} {m : MethodId} {args : Array Value} {below : List Frame} {meth : Method} {c : Code} {D : va_G} {a : Nat → Nat} {cc : Nat → ClassId} {A : Nat → Prop} {N : Nat} {r : Int32} {σr : St} (C : T_Cx st l A RX7 p s m args meth c D cc cX7_shortestFailingEnd (Cond.code yX7_shortestFailingEnd cX7_shortestFailingEnd 2 (some .int) :: WT) 2 (some .int)) (hA : ∀ q, s.heap.size ≤ q → A q) {σ : St} {H : Heap} {locs : List Loc} {ls : Array Slot} (h : fX7_shortestFailingEnd N σ = some (r, σr)) : va_P D vwCl (wT a cc σ) H → va_D A (wT a cc σ) → va_S A s.heap H locs → lv_has ls 2 [(0, .ref (a 99))] → W p l e rmX7_shortestFailingEnd s m args below meth c H locs 0 0 (T_Mi D a cc A below args s r σr) (F0 m 0 ls []) := by
  obtain ⟨hx, hb, hr, hml, hown, hts, hin, hK, hlocks, hTS, hl0⟩ := id C
  intro hP hD hS hl
  refine lv_iconst (v := (0 : Int32)) hx hb dX7_shortestFailingEnd_0 (by decide) ?_
  refine lv_istore_n (lv' := [(1, .int (0 : Int32)), (0, .ref (a 99))]) hx hb dX7_shortestFailingEnd_1 rfl hl (by decide) rfl (fun ls hl => ?_)
  exact tX7_shortestFailingEnd_2 C hA N h hP hD hS (lv_sub hl [1, 0] rfl)
set_option maxRecDepth 100000 in
theorem kX7_shortestFailingEnd {l : Launch} (hl0 : l.stackTraces = false) (sz : Nat) {st : Nat → Nat} {D : va_G} {a : Nat → Nat} {cc : Nat → ClassId} {N : Nat} {r : Int32} {σr : St} {σ : St} (h : fX7_shortestFailingEnd N σ = some (r, σr)) : Met l yX7_shortestFailingEnd ((Cond.code yX7_shortestFailingEnd cX7_shortestFailingEnd 2 (some .int) :: WT)) rmX7_shortestFailingEnd (T_Pc st D a cc [.ref (a 99)] σ sz) (T_Qi D a cc σ sz r σr) 0 0 (va_A (wT a cc σ) sz) := by
  refine Met.ofW (cc := cX7_shortestFailingEnd) (maxL := 2) (ret := (some .int)) (by decide) rfl ?_
  intro p e s m args below meth c s₁ B hml hv
  obtain ⟨rfl, hsz, hP, hK, hD0, hTS⟩ := hv
  subst hsz
  have hl := lv_entry ([.ref (a 99)]) (n := 2) (Nat.le_of_ble_eq_true rfl)
  rw [lg_entry_eq]
  generalize (lg_sl ([.ref (a 99)]) ++ List.replicate (2 - (lg_sl ([.ref (a 99)])).length) Slot.unset).toArray = ls at hl ⊢
  exact tX7_shortestFailingEnd ⟨B.exec, B.bytes, B.returns, hml, findClass_of_methodNamed B.named, atoms_spec (ws := (Cond.code yX7_shortestFailingEnd cX7_shortestFailingEnd 2 (some .int) :: WT)) B.pre, (fun w h => List.mem_cons_of_mem _ h), hK, B.notSynchronized, hTS, hl0⟩ (fun q h => Or.inr h) h hP hD0.self va_S.rf hl
set_option maxHeartbeats 4000000 in
set_option maxRecDepth 100000 in
theorem tX7_holdsRepeating_36 {st : Nat → Nat} {p : Program} {l : Launch} {e : Env} {s : State} {m : MethodId} {args : Array Value} {below : List Frame} {meth : Method} {c : Code} {D : va_G} {a : Nat → Nat} {cc : Nat → ClassId} {A : Nat → Prop} {N : Nat} {r : Int32} {σr : St} (C : T_Cx st l A RX7 p s m args meth c D cc cX7_holdsRepeating (Cond.code yX7_holdsRepeating cX7_holdsRepeating 4 (some .boolean) :: WT) 4 (some .boolean)) (hA : ∀ q, s.heap.size ≤ q → A q) {σ : St} {x2 : Int32} {H : Heap} {locs : List Loc} {ls : Array Slot} (h : fX7_holdsRepeating_36 N σ x2 = some (r, σr)) : va_P D vwCl (wT a cc σ) H → va_D A (wT a cc σ) → va_S A s.heap H locs → lv_has ls 4 [(2, .int x2)] → W p l e rmX7_holdsRepeating s m args below meth c H locs 0 0 (T_Mi D a cc A below args s r σr) (F0 m 36 ls []) := by
  obtain ⟨hx, hb, hr, hml, hown, hts, hin, hK, hlocks, hTS, hl0⟩ := id C
  intro hP hD hS hl
  refine lv_iload_n hx hb dX7_holdsRepeating_36 rfl (lv_at hl 0 rfl) ?_
  refine lv_iconst (v := (-1 : Int32)) hx hb dX7_holdsRepeating_37 (by decide) ?_
  refine lv_icmp_eq (tgt := 45) hx hb dX7_holdsRepeating_38 (by decide) (fun c7 => ?_) (fun c7 => ?_)
  · have h := ifT c7 h
    refine lv_iconst (v := (0 : Int32)) hx hb dX7_holdsRepeating_45 (by decide) ?_
    exact T_zretZ C h hP hD hS dX7_holdsRepeating_46
  · have h := ifF c7 h
    refine lv_iconst (v := (1 : Int32)) hx hb dX7_holdsRepeating_41 (by decide) ?_
    refine lv_goto (tgt := 46) hx hb dX7_holdsRepeating_42 (by decide) ?_
    exact T_zretZ C h hP hD hS dX7_holdsRepeating_46
set_option maxHeartbeats 4000000 in
set_option maxRecDepth 100000 in
theorem tX7_holdsRepeating_7 {st : Nat → Nat} {p : Program} {l : Launch} {e : Env} {s : State} {m : MethodId} {args : Array Value} {below : List Frame} {meth : Method} {c : Code} {D : va_G} {a : Nat → Nat} {cc : Nat → ClassId} {A : Nat → Prop} {N : Nat} {r : Int32} {σr : St} (C : T_Cx st l A RX7 p s m args meth c D cc cX7_holdsRepeating (Cond.code yX7_holdsRepeating cX7_holdsRepeating 4 (some .boolean) :: WT) 4 (some .boolean)) (hA : ∀ q, s.heap.size ≤ q → A q) : ∀ (n : Nat) {σ : St} {x1 : Int32} {x2 : Int32} {x3 : Int32} {H : Heap} {locs : List Loc} {ls : Array Slot}, fX7_holdsRepeating_7 N n σ x1 x2 x3 = some (r, σr) → va_P D vwCl (wT a cc σ) H → va_D A (wT a cc σ) → va_S A s.heap H locs → lv_has ls 4 [(0, .ref (a 99)), (1, .int x1), (2, .int x2), (3, .int x3)] → W p l e rmX7_holdsRepeating s m args below meth c H locs 0 0 (T_Mi D a cc A below args s r σr) (F0 m 7 ls []) := by
  obtain ⟨hx, hb, hr, hml, hown, hts, hin, hK, hlocks, hTS, hl0⟩ := id C
  intro n
  induction n with
  | zero => intro σ x1 x2 x3 H locs ls h; exact none_s h
  | succ n ih =>
    intro σ x1 x2 x3 H locs ls h hP hD hS hl
    refine lv_iload_n hx hb dX7_holdsRepeating_7 rfl (lv_at hl 3 rfl) ?_
    refine lv_aload_n hx hb dX7_holdsRepeating_8 rfl (lv_at hl 0 rfl) ?_
    refine T_gfX7_9 C hP dX7_holdsRepeating_9 ?_
    refine T_gfX7_43 C hP dX7_holdsRepeating_12 ?_
    refine lv_icmp_ge (tgt := 36) hx hb dX7_holdsRepeating_15 (by decide) (fun c2 => ?_) (fun c2 => ?_)
    · have h := ifT c2 h
      exact tX7_holdsRepeating_36 C hA h hP hD hS (lv_sub hl [2] rfl)
    · have h := ifF c2 h
      refine lv_iload_n hx hb dX7_holdsRepeating_18 rfl (lv_at hl 2 rfl) ?_
      refine lv_iconst (v := (-1 : Int32)) hx hb dX7_holdsRepeating_19 (by decide) ?_
      refine lv_icmp_eq (tgt := 36) hx hb dX7_holdsRepeating_20 (by decide) (fun c3 => ?_) (fun c3 => ?_)
      · have h := ifT c3 h
        exact tX7_holdsRepeating_36 C hA h hP hD hS (lv_sub hl [2] rfl)
      · have h := ifF c3 h
        refine lv_aload_n hx hb dX7_holdsRepeating_23 rfl (lv_at hl 0 rfl) ?_
        refine lv_iload_n hx hb dX7_holdsRepeating_24 rfl (lv_at hl 2 rfl) ?_
        refine lv_iload_n hx hb dX7_holdsRepeating_25 rfl (lv_at hl 1 rfl) ?_
        obtain ⟨r5, σ4, hc, h⟩ := bnd_s h
        refine T_callVi (q0 := 24) (ci := 11) (As := [.int x2, .int x1]) (rest := []) C hA (fun sz => kX7_walk hl0 sz hc) gX7_40 hP hD hS rfl rfl ⟨by decide, by decide⟩ ⟨rfl, rfl⟩ rfl hl.1 rfl (lv_room (Nat.le_of_ble_eq_true rfl)) dX7_holdsRepeating_26 (fun H locs hP hD hS => ?_)
        refine lv_istore_n (lv' := [(2, .int r5), (0, .ref (a 99)), (1, .int x1), (3, .int x3)]) hx hb dX7_holdsRepeating_29 rfl hl (by decide) rfl (fun ls hl => ?_)
        obtain ⟨u6, eu6, h⟩ := letS_n h
        refine lv_iinc (v := u6) (lv' := [(3, .int u6), (2, .int r5), (0, .ref (a 99)), (1, .int x1)]) hx hb dX7_holdsRepeating_30 hl (k := 3) rfl (by rw [eu6]; rfl) (by decide) rfl (fun ls hl => ?_)
        refine lv_goto (tgt := 7) hx hb dX7_holdsRepeating_33 (by decide) ?_
        exact ih h hP hD hS (lv_sub hl [2, 3, 1, 0] rfl)
set_option maxHeartbeats 4000000 in
set_option maxRecDepth 100000 in
theorem tX7_holdsRepeating {st : Nat → Nat} {p : Program} {l : Launch} {e : Env} {s : State} {m : MethodId} {args : Array Value} {below : List Frame} {meth : Method} {c : Code} {D : va_G} {a : Nat → Nat} {cc : Nat → ClassId} {A : Nat → Prop} {N : Nat} {r : Int32} {σr : St} (C : T_Cx st l A RX7 p s m args meth c D cc cX7_holdsRepeating (Cond.code yX7_holdsRepeating cX7_holdsRepeating 4 (some .boolean) :: WT) 4 (some .boolean)) (hA : ∀ q, s.heap.size ≤ q → A q) {σ : St} {p0 : Int32} {H : Heap} {locs : List Loc} {ls : Array Slot} (h : fX7_holdsRepeating N σ p0 = some (r, σr)) : va_P D vwCl (wT a cc σ) H → va_D A (wT a cc σ) → va_S A s.heap H locs → lv_has ls 4 [(0, .ref (a 99)), (1, .int p0)] → W p l e rmX7_holdsRepeating s m args below meth c H locs 0 0 (T_Mi D a cc A below args s r σr) (F0 m 0 ls []) := by
  obtain ⟨hx, hb, hr, hml, hown, hts, hin, hK, hlocks, hTS, hl0⟩ := id C
  intro hP hD hS hl
  refine lv_aload_n hx hb dX7_holdsRepeating_0 rfl (lv_at hl 0 rfl) ?_
  refine T_gfX7_27 C hP dX7_holdsRepeating_1 ?_
  obtain ⟨u1, eu1, h⟩ := letS_n h
  refine lv_topE eu1 ?_
  refine lv_istore_n (lv' := [(2, .int u1), (0, .ref (a 99)), (1, .int p0)]) hx hb dX7_holdsRepeating_4 rfl hl (by decide) rfl (fun ls hl => ?_)
  refine lv_iconst (v := (0 : Int32)) hx hb dX7_holdsRepeating_5 (by decide) ?_
  refine lv_istore_n (lv' := [(3, .int (0 : Int32)), (2, .int u1), (0, .ref (a 99)), (1, .int p0)]) hx hb dX7_holdsRepeating_6 rfl hl (by decide) rfl (fun ls hl => ?_)
  exact tX7_holdsRepeating_7 C hA N h hP hD hS (lv_sub hl [2, 3, 1, 0] rfl)
set_option maxRecDepth 100000 in
theorem kX7_holdsRepeating {l : Launch} (hl0 : l.stackTraces = false) (sz : Nat) {st : Nat → Nat} {D : va_G} {a : Nat → Nat} {cc : Nat → ClassId} {N : Nat} {r : Int32} {σr : St} {σ : St} {p0 : Int32} (h : fX7_holdsRepeating N σ p0 = some (r, σr)) : Met l yX7_holdsRepeating ((Cond.code yX7_holdsRepeating cX7_holdsRepeating 4 (some .boolean) :: WT)) rmX7_holdsRepeating (T_Pc st D a cc [.ref (a 99), .int p0] σ sz) (T_Qi D a cc σ sz r σr) 0 0 (va_A (wT a cc σ) sz) := by
  refine Met.ofW (cc := cX7_holdsRepeating) (maxL := 4) (ret := (some .boolean)) (by decide) rfl ?_
  intro p e s m args below meth c s₁ B hml hv
  obtain ⟨rfl, hsz, hP, hK, hD0, hTS⟩ := hv
  subst hsz
  have hl := lv_entry ([.ref (a 99), .int p0]) (n := 4) (Nat.le_of_ble_eq_true rfl)
  rw [lg_entry_eq]
  generalize (lg_sl ([.ref (a 99), .int p0]) ++ List.replicate (4 - (lg_sl ([.ref (a 99), .int p0])).length) Slot.unset).toArray = ls at hl ⊢
  exact tX7_holdsRepeating ⟨B.exec, B.bytes, B.returns, hml, findClass_of_methodNamed B.named, atoms_spec (ws := (Cond.code yX7_holdsRepeating cX7_holdsRepeating 4 (some .boolean) :: WT)) B.pre, (fun w h => List.mem_cons_of_mem _ h), hK, B.notSynchronized, hTS, hl0⟩ (fun q h => Or.inr h) h hP hD0.self va_S.rf hl
set_option maxHeartbeats 4000000 in
set_option maxRecDepth 100000 in
theorem tX8_byteOf {st : Nat → Nat} {p : Program} {l : Launch} {e : Env} {s : State} {m : MethodId} {args : Array Value} {below : List Frame} {meth : Method} {c : Code} {D : va_G} {a : Nat → Nat} {cc : Nat → ClassId} {A : Nat → Prop} {N : Nat} {r : Int32} {σr : St} (C : T_Cx st l A RX8 p s m args meth c D cc cX8_byteOf (Cond.code yX8_byteOf cX8_byteOf 3 (some .int) :: WT) 3 (some .int)) (hA : ∀ q, s.heap.size ≤ q → A q) {σ : St} {p0 : Int64} {p1 : Int32} {H : Heap} {locs : List Loc} {ls : Array Slot} (h : fX8_byteOf N σ p0 p1 = some (r, σr)) : va_P D vwCl (wT a cc σ) H → va_D A (wT a cc σ) → va_S A s.heap H locs → lv_has ls 3 [(0, .long p0), (2, .int p1)] → W p l e rmX8_byteOf s m args below meth c H locs 0 0 (T_Mi D a cc A below args s r σr) (F0 m 0 ls []) := by
  obtain ⟨hx, hb, hr, hml, hown, hts, hin, hK, hlocks, hTS, hl0⟩ := id C
  intro hP hD hS hl
  refine lv_lload_n hx hb dX8_byteOf_0 rfl (lv_at hl 0 rfl) ?_
  refine lv_bipush (v := (8 : Int32)) hx hb dX8_byteOf_1 (by decide) ?_
  refine lv_iload_n hx hb dX8_byteOf_3 rfl (lv_at hl 1 rfl) ?_
  refine lv_imul hx hb dX8_byteOf_4 ?_
  refine lv_lushr hx hb dX8_byteOf_5 rfl ?_
  refine lv_l2i hx hb dX8_byteOf_6 rfl ?_
  refine lv_sipush (v := (255 : Int32)) hx hb dX8_byteOf_7 (by decide) ?_
  refine lv_iand hx hb dX8_byteOf_10 ?_
  exact T_iret C h hP hD hS dX8_byteOf_11
set_option maxRecDepth 100000 in
theorem kX8_byteOf {l : Launch} (hl0 : l.stackTraces = false) (sz : Nat) {st : Nat → Nat} {D : va_G} {a : Nat → Nat} {cc : Nat → ClassId} {N : Nat} {r : Int32} {σr : St} {σ : St} {p0 : Int64} {p1 : Int32} (h : fX8_byteOf N σ p0 p1 = some (r, σr)) : Met l yX8_byteOf ((Cond.code yX8_byteOf cX8_byteOf 3 (some .int) :: WT)) rmX8_byteOf (T_Pc st D a cc [.long p0, .int p1] σ sz) (T_Qi D a cc σ sz r σr) 0 0 (va_A (wT a cc σ) sz) := by
  refine Met.ofW (cc := cX8_byteOf) (maxL := 3) (ret := (some .int)) (by decide) rfl ?_
  intro p e s m args below meth c s₁ B hml hv
  obtain ⟨rfl, hsz, hP, hK, hD0, hTS⟩ := hv
  subst hsz
  have hl := lv_entry ([.long p0, .int p1]) (n := 3) (Nat.le_of_ble_eq_true rfl)
  rw [lg_entry_eq]
  generalize (lg_sl ([.long p0, .int p1]) ++ List.replicate (3 - (lg_sl ([.long p0, .int p1])).length) Slot.unset).toArray = ls at hl ⊢
  exact tX8_byteOf ⟨B.exec, B.bytes, B.returns, hml, findClass_of_methodNamed B.named, atoms_spec (ws := (Cond.code yX8_byteOf cX8_byteOf 3 (some .int) :: WT)) B.pre, (fun w h => List.mem_cons_of_mem _ h), hK, B.notSynchronized, hTS, hl0⟩ (fun q h => Or.inr h) h hP hD0.self va_S.rf hl
set_option maxHeartbeats 4000000 in
set_option maxRecDepth 100000 in
theorem tX8_charactersIn_32 {st : Nat → Nat} {p : Program} {l : Launch} {e : Env} {s : State} {m : MethodId} {args : Array Value} {below : List Frame} {meth : Method} {c : Code} {D : va_G} {a : Nat → Nat} {cc : Nat → ClassId} {A : Nat → Prop} {N : Nat} {r : Int32} {σr : St} (C : T_Cx st l A RX8 p s m args meth c D cc cX8_charactersIn (Cond.code yX8_charactersIn cX8_charactersIn 4 (some .int) :: WT) 4 (some .int)) (hA : ∀ q, s.heap.size ≤ q → A q) {σ : St} {H : Heap} {locs : List Loc} {ls : Array Slot} (h : fX8_charactersIn_32 N σ = some (r, σr)) : va_P D vwCl (wT a cc σ) H → va_D A (wT a cc σ) → va_S A s.heap H locs → lv_has ls 4 [] → W p l e rmX8_charactersIn s m args below meth c H locs 0 0 (T_Mi D a cc A below args s r σr) (F0 m 32 ls []) := by
  obtain ⟨hx, hb, hr, hml, hown, hts, hin, hK, hlocks, hTS, hl0⟩ := id C
  intro hP hD hS hl
  refine lv_iconst (v := (-1 : Int32)) hx hb dX8_charactersIn_32 (by decide) ?_
  exact T_iret C h hP hD hS dX8_charactersIn_33
set_option maxHeartbeats 4000000 in
set_option maxRecDepth 100000 in
theorem tX8_charactersIn_2 {st : Nat → Nat} {p : Program} {l : Launch} {e : Env} {s : State} {m : MethodId} {args : Array Value} {below : List Frame} {meth : Method} {c : Code} {D : va_G} {a : Nat → Nat} {cc : Nat → ClassId} {A : Nat → Prop} {N : Nat} {r : Int32} {σr : St} (C : T_Cx st l A RX8 p s m args meth c D cc cX8_charactersIn (Cond.code yX8_charactersIn cX8_charactersIn 4 (some .int) :: WT) 4 (some .int)) (hA : ∀ q, s.heap.size ≤ q → A q) : ∀ (n : Nat) {σ : St} {x0 : Int64} {x2 : Int32} {H : Heap} {locs : List Loc} {ls : Array Slot}, fX8_charactersIn_2 N n σ x0 x2 = some (r, σr) → va_P D vwCl (wT a cc σ) H → va_D A (wT a cc σ) → va_S A s.heap H locs → lv_has ls 4 [(0, .long x0), (2, .int x2)] → W p l e rmX8_charactersIn s m args below meth c H locs 0 0 (T_Mi D a cc A below args s r σr) (F0 m 2 ls []) := by
  obtain ⟨hx, hb, hr, hml, hown, hts, hin, hK, hlocks, hTS, hl0⟩ := id C
  intro n
  induction n with
  | zero => intro σ x0 x2 H locs ls h; exact none_s h
  | succ n ih =>
    intro σ x0 x2 H locs ls h hP hD hS hl
    refine lv_iload_n hx hb dX8_charactersIn_2 rfl (lv_at hl 1 rfl) ?_
    refine lv_bipush (v := (8 : Int32)) hx hb dX8_charactersIn_3 (by decide) ?_
    refine lv_icmp_ge (tgt := 40) hx hb dX8_charactersIn_5 (by decide) (fun c1 => ?_) (fun c1 => ?_)
    · have h := ifT c1 h
      refine lv_bipush (v := (8 : Int32)) hx hb dX8_charactersIn_40 (by decide) ?_
      exact T_iret C h hP hD hS dX8_charactersIn_42
    · have h := ifF c1 h
      refine lv_lload_n hx hb dX8_charactersIn_8 rfl (lv_at hl 0 rfl) ?_
      refine lv_iload_n hx hb dX8_charactersIn_9 rfl (lv_at hl 1 rfl) ?_
      obtain ⟨r3, σ2, hc, h⟩ := bnd_s h
      refine T_callSi (As := [.long x0, .int x2]) (rest := []) C hA (fun sz => kX8_byteOf hl0 sz hc) gX8_97 hP hD hS ⟨by decide, by decide⟩ ⟨rfl, rfl⟩ rfl hl.1 rfl (lv_room (Nat.le_of_ble_eq_true rfl)) dX8_charactersIn_10 (fun H locs hP hD hS => ?_)
      refine lv_istore_n (lv' := [(3, .int r3), (0, .long x0), (2, .int x2)]) hx hb dX8_charactersIn_13 rfl hl (by decide) rfl (fun ls hl => ?_)
      refine lv_iload_n hx hb dX8_charactersIn_14 rfl (lv_at hl 0 rfl) ?_
      refine lv_if_ne (tgt := 20) hx hb dX8_charactersIn_15 (by decide) (fun c4 => ?_) (fun c4 => ?_)
      · have h := ifF c4 h
        refine lv_iload_n hx hb dX8_charactersIn_20 rfl (lv_at hl 0 rfl) ?_
        refine lv_bipush (v := (33 : Int32)) hx hb dX8_charactersIn_21 (by decide) ?_
        refine lv_icmp_lt (tgt := 32) hx hb dX8_charactersIn_23 (by decide) (fun c5 => ?_) (fun c5 => ?_)
        · have h := ifT c5 h
          exact tX8_charactersIn_32 C hA h hP hD hS (lv_sub hl [] rfl)
        · have h := ifF c5 h
          refine lv_iload_n hx hb dX8_charactersIn_26 rfl (lv_at hl 0 rfl) ?_
          refine lv_bipush (v := (126 : Int32)) hx hb dX8_charactersIn_27 (by decide) ?_
          refine lv_icmp_le (tgt := 34) hx hb dX8_charactersIn_29 (by decide) (fun c6 => ?_) (fun c6 => ?_)
          · have h := ifT c6 h
            obtain ⟨u7, eu7, h⟩ := letS_n h
            refine lv_iinc (v := u7) (lv' := [(2, .int u7), (3, .int r3), (0, .long x0)]) hx hb dX8_charactersIn_34 hl (k := 2) rfl (by rw [eu7]; rfl) (by decide) rfl (fun ls hl => ?_)
            refine lv_goto (tgt := 2) hx hb dX8_charactersIn_37 (by decide) ?_
            exact ih h hP hD hS (lv_sub hl [2, 0] rfl)
          · have h := ifF c6 h
            exact tX8_charactersIn_32 C hA h hP hD hS (lv_sub hl [] rfl)
      · have h := ifT c4 h
        refine lv_iload_n hx hb dX8_charactersIn_18 rfl (lv_at hl 2 rfl) ?_
        exact T_iret C h hP hD hS dX8_charactersIn_19
set_option maxHeartbeats 4000000 in
set_option maxRecDepth 100000 in
theorem tX8_charactersIn {st : Nat → Nat} {p : Program} {l : Launch} {e : Env} {s : State} {m : MethodId} {args : Array Value} {below : List Frame} {meth : Method} {c : Code} {D : va_G} {a : Nat → Nat} {cc : Nat → ClassId} {A : Nat → Prop} {N : Nat} {r : Int32} {σr : St} (C : T_Cx st l A RX8 p s m args meth c D cc cX8_charactersIn (Cond.code yX8_charactersIn cX8_charactersIn 4 (some .int) :: WT) 4 (some .int)) (hA : ∀ q, s.heap.size ≤ q → A q) {σ : St} {p0 : Int64} {H : Heap} {locs : List Loc} {ls : Array Slot} (h : fX8_charactersIn N σ p0 = some (r, σr)) : va_P D vwCl (wT a cc σ) H → va_D A (wT a cc σ) → va_S A s.heap H locs → lv_has ls 4 [(0, .long p0)] → W p l e rmX8_charactersIn s m args below meth c H locs 0 0 (T_Mi D a cc A below args s r σr) (F0 m 0 ls []) := by
  obtain ⟨hx, hb, hr, hml, hown, hts, hin, hK, hlocks, hTS, hl0⟩ := id C
  intro hP hD hS hl
  refine lv_iconst (v := (0 : Int32)) hx hb dX8_charactersIn_0 (by decide) ?_
  refine lv_istore_n (lv' := [(2, .int (0 : Int32)), (0, .long p0)]) hx hb dX8_charactersIn_1 rfl hl (by decide) rfl (fun ls hl => ?_)
  exact tX8_charactersIn_2 C hA N h hP hD hS (lv_sub hl [1, 0] rfl)
set_option maxRecDepth 100000 in
theorem kX8_charactersIn {l : Launch} (hl0 : l.stackTraces = false) (sz : Nat) {st : Nat → Nat} {D : va_G} {a : Nat → Nat} {cc : Nat → ClassId} {N : Nat} {r : Int32} {σr : St} {σ : St} {p0 : Int64} (h : fX8_charactersIn N σ p0 = some (r, σr)) : Met l yX8_charactersIn ((Cond.code yX8_charactersIn cX8_charactersIn 4 (some .int) :: WT)) rmX8_charactersIn (T_Pc st D a cc [.long p0] σ sz) (T_Qi D a cc σ sz r σr) 0 0 (va_A (wT a cc σ) sz) := by
  refine Met.ofW (cc := cX8_charactersIn) (maxL := 4) (ret := (some .int)) (by decide) rfl ?_
  intro p e s m args below meth c s₁ B hml hv
  obtain ⟨rfl, hsz, hP, hK, hD0, hTS⟩ := hv
  subst hsz
  have hl := lv_entry ([.long p0]) (n := 4) (Nat.le_of_ble_eq_true rfl)
  rw [lg_entry_eq]
  generalize (lg_sl ([.long p0]) ++ List.replicate (4 - (lg_sl ([.long p0])).length) Slot.unset).toArray = ls at hl ⊢
  exact tX8_charactersIn ⟨B.exec, B.bytes, B.returns, hml, findClass_of_methodNamed B.named, atoms_spec (ws := (Cond.code yX8_charactersIn cX8_charactersIn 4 (some .int) :: WT)) B.pre, (fun w h => List.mem_cons_of_mem _ h), hK, B.notSynchronized, hTS, hl0⟩ (fun q h => Or.inr h) h hP hD0.self va_S.rf hl
set_option maxHeartbeats 4000000 in
set_option maxRecDepth 100000 in
theorem tX8_text_21 {st : Nat → Nat} {p : Program} {l : Launch} {e : Env} {s : State} {m : MethodId} {args : Array Value} {below : List Frame} {meth : Method} {c : Code} {D : va_G} {a : Nat → Nat} {cc : Nat → ClassId} {A : Nat → Prop} {N : Nat} {r : Int32} {σr : St} (C : T_Cx st l A RX8 p s m args meth c D cc cX8_text (Cond.code yX8_text cX8_text 5 (some .int) :: WT) 5 (some .int)) (hA : ∀ q, s.heap.size ≤ q → A q) {σ : St} {H : Heap} {locs : List Loc} {ls : Array Slot} (h : fX8_text_21 N σ = some (r, σr)) : va_P D vwCl (wT a cc σ) H → va_D A (wT a cc σ) → va_S A s.heap H locs → lv_has ls 5 [] → W p l e rmX8_text s m args below meth c H locs 0 0 (T_Mi D a cc A below args s r σr) (F0 m 21 ls []) := by
  obtain ⟨hx, hb, hr, hml, hown, hts, hin, hK, hlocks, hTS, hl0⟩ := id C
  intro hP hD hS hl
  refine lv_iconst (v := (-1 : Int32)) hx hb dX8_text_21 (by decide) ?_
  exact T_iret C h hP hD hS dX8_text_22
set_option maxHeartbeats 4000000 in
set_option maxRecDepth 100000 in
theorem tX8_text_26 {st : Nat → Nat} {p : Program} {l : Launch} {e : Env} {s : State} {m : MethodId} {args : Array Value} {below : List Frame} {meth : Method} {c : Code} {D : va_G} {a : Nat → Nat} {cc : Nat → ClassId} {A : Nat → Prop} {N : Nat} {r : Int32} {σr : St} (C : T_Cx st l A RX8 p s m args meth c D cc cX8_text (Cond.code yX8_text cX8_text 5 (some .int) :: WT) 5 (some .int)) (hA : ∀ q, s.heap.size ≤ q → A q) : ∀ (n : Nat) {σ : St} {x1 : Int64} {x3 : Int32} {x4 : Int32} {H : Heap} {locs : List Loc} {ls : Array Slot}, fX8_text_26 N n σ x1 x3 x4 = some (r, σr) → va_P D vwCl (wT a cc σ) H → va_D A (wT a cc σ) → va_S A s.heap H locs → lv_has ls 5 [(0, .ref (a 19)), (1, .long x1), (3, .int x3), (4, .int x4)] → W p l e rmX8_text s m args below meth c H locs 0 0 (T_Mi D a cc A below args s r σr) (F0 m 26 ls []) := by
  obtain ⟨hx, hb, hr, hml, hown, hts, hin, hK, hlocks, hTS, hl0⟩ := id C
  intro n
  induction n with
  | zero => intro σ x1 x3 x4 H locs ls h; exact none_s h
  | succ n ih =>
    intro σ x1 x3 x4 H locs ls h hP hD hS hl
    refine lv_iload hx hb dX8_text_26 (lv_at hl 3 rfl) ?_
    refine lv_iload_n hx hb dX8_text_28 rfl (lv_at hl 2 rfl) ?_
    refine lv_icmp_ge (tgt := 57) hx hb dX8_text_29 (by decide) (fun c5 => ?_) (fun c5 => ?_)
    · have h := ifT c5 h
      refine lv_aload_n hx hb dX8_text_57 rfl (lv_at hl 0 rfl) ?_
      refine lv_dup hx hb dX8_text_58 rfl ?_
      refine T_gfX8_13 C hP dX8_text_59 ?_
      refine lv_iload_n hx hb dX8_text_62 rfl (lv_at hl 2 rfl) ?_
      refine lv_iadd hx hb dX8_text_63 ?_
      obtain ⟨σ6, eσ6, h⟩ := letS_n h
      refine T_pfX8_13 C hP hD hS eσ6 dX8_text_64 (fun H locs hP hD hS => ?_)
      refine lv_aload_n hx hb dX8_text_67 rfl (lv_at hl 0 rfl) ?_
      refine T_gfX8_13 C hP dX8_text_68 ?_
      exact T_iret C h hP hD hS dX8_text_71
    · have h := ifF c5 h
      refine lv_aload_n hx hb dX8_text_32 rfl (lv_at hl 0 rfl) ?_
      refine T_gfX8_9 C hP dX8_text_33 ?_
      refine lv_aload_n hx hb dX8_text_36 rfl (lv_at hl 0 rfl) ?_
      refine T_gfX8_13 C hP dX8_text_37 ?_
      refine lv_iload hx hb dX8_text_40 (lv_at hl 3 rfl) ?_
      refine lv_iadd hx hb dX8_text_42 ?_
      refine lv_lload_n hx hb dX8_text_43 rfl (lv_at hl 1 rfl) ?_
      refine lv_iload hx hb dX8_text_44 (lv_at hl 3 rfl) ?_
      obtain ⟨r8, σ7, hc, h⟩ := bnd_s h
      refine T_callSi (As := [.long x1, .int x4]) (rest := [.int ((gI σ 1 0) + x4), .ref (a 0)]) C hA (fun sz => kX8_byteOf hl0 sz hc) gX8_97 hP hD hS ⟨by decide, by decide⟩ ⟨rfl, rfl⟩ rfl hl.1 rfl (lv_room (Nat.le_of_ble_eq_true rfl)) dX8_text_46 (fun H locs hP hD hS => ?_)
      refine lv_i2c hx hb dX8_text_49 rfl ?_
      obtain ⟨g9, h⟩ := grd_s h
      obtain ⟨σ10, eσ10, h⟩ := letS_n h
      refine T_st0 C hP hD hS g9 eσ10 dX8_text_50 (fun H locs hP hD hS => ?_)
      obtain ⟨u11, eu11, h⟩ := letS_n h
      refine lv_iinc (v := u11) (lv' := [(4, .int u11), (0, .ref (a 19)), (1, .long x1), (3, .int x3)]) hx hb dX8_text_51 hl (k := 3) rfl (by rw [eu11]; rfl) (by decide) rfl (fun ls hl => ?_)
      refine lv_goto (tgt := 26) hx hb dX8_text_54 (by decide) ?_
      exact ih h hP hD hS (lv_sub hl [1, 2, 3, 0] rfl)
set_option maxHeartbeats 4000000 in
set_option maxRecDepth 100000 in
theorem tX8_text {st : Nat → Nat} {p : Program} {l : Launch} {e : Env} {s : State} {m : MethodId} {args : Array Value} {below : List Frame} {meth : Method} {c : Code} {D : va_G} {a : Nat → Nat} {cc : Nat → ClassId} {A : Nat → Prop} {N : Nat} {r : Int32} {σr : St} (C : T_Cx st l A RX8 p s m args meth c D cc cX8_text (Cond.code yX8_text cX8_text 5 (some .int) :: WT) 5 (some .int)) (hA : ∀ q, s.heap.size ≤ q → A q) {σ : St} {p0 : Int64} {H : Heap} {locs : List Loc} {ls : Array Slot} (h : fX8_text N σ p0 = some (r, σr)) : va_P D vwCl (wT a cc σ) H → va_D A (wT a cc σ) → va_S A s.heap H locs → lv_has ls 5 [(0, .ref (a 19)), (1, .long p0)] → W p l e rmX8_text s m args below meth c H locs 0 0 (T_Mi D a cc A below args s r σr) (F0 m 0 ls []) := by
  obtain ⟨hx, hb, hr, hml, hown, hts, hin, hK, hlocks, hTS, hl0⟩ := id C
  intro hP hD hS hl
  refine lv_lload_n hx hb dX8_text_0 rfl (lv_at hl 1 rfl) ?_
  obtain ⟨r2, σ1, hc, h⟩ := bnd_s h
  refine T_callSi (As := [.long p0]) (rest := []) C hA (fun sz => kX8_charactersIn hl0 sz hc) gX8_93 hP hD hS ⟨by decide, by decide⟩ ⟨rfl, rfl⟩ rfl hl.1 rfl (lv_room (Nat.le_of_ble_eq_true rfl)) dX8_text_1 (fun H locs hP hD hS => ?_)
  refine lv_istore_n (lv' := [(3, .int r2), (0, .ref (a 19)), (1, .long p0)]) hx hb dX8_text_4 rfl hl (by decide) rfl (fun ls hl => ?_)
  refine lv_iload_n hx hb dX8_text_5 rfl (lv_at hl 0 rfl) ?_
  refine lv_iconst (v := (1 : Int32)) hx hb dX8_text_6 (by decide) ?_
  refine lv_icmp_lt (tgt := 21) hx hb dX8_text_7 (by decide) (fun c3 => ?_) (fun c3 => ?_)
  · have h := ifT c3 h
    exact tX8_text_21 C hA h hP hD hS (lv_sub hl [] rfl)
  · have h := ifF c3 h
    refine lv_aload_n hx hb dX8_text_10 rfl (lv_at hl 1 rfl) ?_
    refine T_gfX8_13 C hP dX8_text_11 ?_
    refine lv_iload_n hx hb dX8_text_14 rfl (lv_at hl 0 rfl) ?_
    refine lv_iadd hx hb dX8_text_15 ?_
    refine lv_bipush (v := (40 : Int32)) hx hb dX8_text_16 (by decide) ?_
    refine lv_icmp_le (tgt := 23) hx hb dX8_text_18 (by decide) (fun c4 => ?_) (fun c4 => ?_)
    · have h := ifT c4 h
      refine lv_iconst (v := (0 : Int32)) hx hb dX8_text_23 (by decide) ?_
      refine lv_istore (lv' := [(4, .int (0 : Int32)), (3, .int r2), (0, .ref (a 19)), (1, .long p0)]) hx hb dX8_text_24 hl (by decide) rfl (fun ls hl => ?_)
      exact tX8_text_26 C hA N h hP hD hS (lv_sub hl [2, 3, 1, 0] rfl)
    · have h := ifF c4 h
      exact tX8_text_21 C hA h hP hD hS (lv_sub hl [] rfl)
set_option maxRecDepth 100000 in
theorem kX8_text {l : Launch} (hl0 : l.stackTraces = false) (sz : Nat) {st : Nat → Nat} {D : va_G} {a : Nat → Nat} {cc : Nat → ClassId} {N : Nat} {r : Int32} {σr : St} {σ : St} {p0 : Int64} (h : fX8_text N σ p0 = some (r, σr)) : Met l yX8_text ((Cond.code yX8_text cX8_text 5 (some .int) :: WT)) rmX8_text (T_Pc st D a cc [.ref (a 19), .long p0] σ sz) (T_Qi D a cc σ sz r σr) 0 0 (va_A (wT a cc σ) sz) := by
  refine Met.ofW (cc := cX8_text) (maxL := 5) (ret := (some .int)) (by decide) rfl ?_
  intro p e s m args below meth c s₁ B hml hv
  obtain ⟨rfl, hsz, hP, hK, hD0, hTS⟩ := hv
  subst hsz
  have hl := lv_entry ([.ref (a 19), .long p0]) (n := 5) (Nat.le_of_ble_eq_true rfl)
  rw [lg_entry_eq]
  generalize (lg_sl ([.ref (a 19), .long p0]) ++ List.replicate (5 - (lg_sl ([.ref (a 19), .long p0])).length) Slot.unset).toArray = ls at hl ⊢
  exact tX8_text ⟨B.exec, B.bytes, B.returns, hml, findClass_of_methodNamed B.named, atoms_spec (ws := (Cond.code yX8_text cX8_text 5 (some .int) :: WT)) B.pre, (fun w h => List.mem_cons_of_mem _ h), hK, B.notSynchronized, hTS, hl0⟩ (fun q h => Or.inr h) h hP hD0.self va_S.rf hl
set_option maxHeartbeats 4000000 in
set_option maxRecDepth 100000 in
theorem tX8_wipe {st : Nat → Nat} {p : Program} {l : Launch} {e : Env} {s : State} {m : MethodId} {args : Array Value} {below : List Frame} {meth : Method} {c : Code} {D : va_G} {a : Nat → Nat} {cc : Nat → ClassId} {A : Nat → Prop} {N : Nat} {σr : St} (C : T_Cx st l A RX8 p s m args meth c D cc cX8_wipe (Cond.code yX8_wipe cX8_wipe 1 none :: WT) 1 none) (hA : ∀ q, s.heap.size ≤ q → A q) {σ : St} {H : Heap} {locs : List Loc} {ls : Array Slot} (h : fX8_wipe N σ = some σr) : va_P D vwCl (wT a cc σ) H → va_D A (wT a cc σ) → va_S A s.heap H locs → lv_has ls 1 [(0, .ref (a 19))] → W p l e rmX8_wipe s m args below meth c H locs 0 0 (T_Mv D a cc A below args s σr) (F0 m 0 ls []) := by
  obtain ⟨hx, hb, hr, hml, hown, hts, hin, hK, hlocks, hTS, hl0⟩ := id C
  intro hP hD hS hl
  refine lv_aload_n hx hb dX8_wipe_0 rfl (lv_at hl 0 rfl) ?_
  refine lv_iconst (v := (0 : Int32)) hx hb dX8_wipe_1 (by decide) ?_
  obtain ⟨σ1, eσ1, h⟩ := letS_n h
  refine T_pfX8_13 C hP hD hS eσ1 dX8_wipe_2 (fun H locs hP hD hS => ?_)
  exact T_vret C h hP hD hS dX8_wipe_5
set_option maxRecDepth 100000 in
theorem kX8_wipe {l : Launch} (hl0 : l.stackTraces = false) (sz : Nat) {st : Nat → Nat} {D : va_G} {a : Nat → Nat} {cc : Nat → ClassId} {N : Nat} {σr : St} {σ : St} (h : fX8_wipe N σ = some σr) : Met l yX8_wipe ((Cond.code yX8_wipe cX8_wipe 1 none :: WT)) rmX8_wipe (T_Pc st D a cc [.ref (a 19)] σ sz) (T_Qv D a cc σ sz σr) 0 0 (va_A (wT a cc σ) sz) := by
  refine Met.ofW (cc := cX8_wipe) (maxL := 1) (ret := none) (by decide) rfl ?_
  intro p e s m args below meth c s₁ B hml hv
  obtain ⟨rfl, hsz, hP, hK, hD0, hTS⟩ := hv
  subst hsz
  have hl := lv_entry ([.ref (a 19)]) (n := 1) (Nat.le_of_ble_eq_true rfl)
  rw [lg_entry_eq]
  generalize (lg_sl ([.ref (a 19)]) ++ List.replicate (1 - (lg_sl ([.ref (a 19)])).length) Slot.unset).toArray = ls at hl ⊢
  exact tX8_wipe ⟨B.exec, B.bytes, B.returns, hml, findClass_of_methodNamed B.named, atoms_spec (ws := (Cond.code yX8_wipe cX8_wipe 1 none :: WT)) B.pre, (fun w h => List.mem_cons_of_mem _ h), hK, B.notSynchronized, hTS, hl0⟩ (fun q h => Or.inr h) h hP hD0.self va_S.rf hl
set_option maxHeartbeats 4000000 in
set_option maxRecDepth 100000 in
theorem tX8_compile {st : Nat → Nat} {p : Program} {l : Launch} {e : Env} {s : State} {m : MethodId} {args : Array Value} {below : List Frame} {meth : Method} {c : Code} {D : va_G} {a : Nat → Nat} {cc : Nat → ClassId} {A : Nat → Prop} {N : Nat} {x r : Int32} {σr : St} (C : T_Cx st l A RX8 p s m args meth c D cc cX8_compile (Cond.code yX8_compile cX8_compile 1 (some .int) :: WT) 1 (some .int)) (hA : ∀ q, s.heap.size ≤ q → A q) (hxt : ∀ x ∈ c.exceptionTable.toList, False) {σ : St} {H : Heap} {locs : List Loc} {ls : Array Slot} (h : fX8_compile N σ = some (x, r, σr)) : va_P D vwCl (wT a cc σ) H → va_D A (wT a cc σ) → va_S A s.heap H locs → lv_has ls 1 [(0, .ref (a 19))] → W p l e rmX8_compile s m args below meth c H locs 0 0 (T_Mxi D a cc A below args s x r σr) (F0 m 0 ls []) := by
  obtain ⟨hx, hb, hr, hml, hown, hts, hin, hK, hlocks, hTS, hl0⟩ := id C
  intro hP hD hS hl
  refine lv_aload_n hx hb dX8_compile_0 rfl (lv_at hl 0 rfl) ?_
  refine T_gfX8_29 C hP dX8_compile_1 ?_
  refine lv_aload_n hx hb dX8_compile_4 rfl (lv_at hl 0 rfl) ?_
  refine T_gfX8_13 C hP dX8_compile_5 ?_
  obtain ⟨v2, r3, σ1, hc, h1, h2⟩ := bndX_s h
  refine T_callXNv (q0 := 6) (ci := 10) (As := [.int (gI σ 1 0)]) (rest := []) C hA hxt (fun sz => kX6_readAll hl0 sz hc) gX8_101 hP hD hS h2 rfl rfl ⟨by decide, by decide⟩ ⟨by decide, by decide⟩ ⟨rfl, rfl⟩ rfl hl.1 rfl (lv_room (Nat.le_of_ble_eq_true rfl)) dX8_compile_8 (fun ev2 H locs hP hD hS => ?_)
  have h := h1 ev2
  refine lv_aload_n hx hb dX8_compile_11 rfl (lv_at hl 0 rfl) ?_
  refine T_gfX8_20 C hP dX8_compile_12 ?_
  refine T_gfX8_105 C hP dX8_compile_15 ?_
  refine lv_if_ne (tgt := 31) hx hb dX8_compile_18 (by decide) (fun c4 => ?_) (fun c4 => ?_)
  · have h := ifF c4 h
    refine lv_aload_n hx hb dX8_compile_31 rfl (lv_at hl 0 rfl) ?_
    refine T_gfX8_38 C hP dX8_compile_32 ?_
    obtain ⟨σ5, hc, h⟩ := bnd1_s h
    refine T_callNv (q0 := 7) (ci := 4) (As := []) (rest := []) C hA (fun sz => kX0_fill hl0 sz hc) gX8_115 hP hD hS rfl rfl ⟨by decide, by decide⟩ ⟨rfl, rfl⟩ rfl hl.1 rfl (lv_room (Nat.le_of_ble_eq_true rfl)) dX8_compile_35 (fun H locs hP hD hS => ?_)
    refine lv_aload_n hx hb dX8_compile_38 rfl (lv_at hl 0 rfl) ?_
    refine T_gfX8_47 C hP dX8_compile_39 ?_
    refine lv_aload_n hx hb dX8_compile_42 rfl (lv_at hl 0 rfl) ?_
    refine T_gfX8_20 C hP dX8_compile_43 ?_
    obtain ⟨r7, σ6, hc, h⟩ := bnd_s h
    refine T_callNi (q0 := 2) (ci := 5) (As := []) (rest := [.ref (a 69)]) C hA (fun sz => kX1_wholeObligation hl0 sz hc) gX8_118 hP hD hS rfl rfl ⟨by decide, by decide⟩ ⟨rfl, rfl⟩ rfl hl.1 rfl (lv_room (Nat.le_of_ble_eq_true rfl)) dX8_compile_46 (fun H locs hP hD hS => ?_)
    obtain ⟨r9, σ8, hc, h⟩ := bnd_s h
    refine T_callNi (q0 := 10) (ci := 7) (As := [.int r7]) (rest := []) C hA (fun sz => kX3_explore hl0 sz hc) gX8_122 hP hD hS rfl rfl ⟨by decide, by decide⟩ ⟨rfl, rfl⟩ rfl hl.1 rfl (lv_room (Nat.le_of_ble_eq_true rfl)) dX8_compile_49 (fun H locs hP hD hS => ?_)
    refine lv_if_ne (tgt := 65) hx hb dX8_compile_52 (by decide) (fun c10 => ?_) (fun c10 => ?_)
    · have h := ifF c10 h
      refine lv_aload_n hx hb dX8_compile_65 rfl (lv_at hl 0 rfl) ?_
      refine lv_aload_n hx hb dX8_compile_66 rfl (lv_at hl 0 rfl) ?_
      refine T_gfX8_20 C hP dX8_compile_67 ?_
      refine T_gfX8_128 C hP dX8_compile_70 ?_
      obtain ⟨σ11, eσ11, h⟩ := letS_n h
      refine T_pfX8_87 C hP hD hS eσ11 dX8_compile_73 (fun H locs hP hD hS => ?_)
      refine lv_aload_n hx hb dX8_compile_76 rfl (lv_at hl 0 rfl) ?_
      refine lv_aload_n hx hb dX8_compile_77 rfl (lv_at hl 0 rfl) ?_
      refine T_gfX8_47 C hP dX8_compile_78 ?_
      refine T_gfX8_129 C hP dX8_compile_81 ?_
      obtain ⟨σ12, eσ12, h⟩ := letS_n h
      refine T_pfX8_90 C hP hD hS eσ12 dX8_compile_84 (fun H locs hP hD hS => ?_)
      refine lv_aload_n hx hb dX8_compile_87 rfl (lv_at hl 0 rfl) ?_
      refine T_gfX8_56 C hP dX8_compile_88 ?_
      obtain ⟨σ13, hc, h⟩ := bnd1_s h
      refine T_callNv (q0 := 14) (ci := 8) (As := []) (rest := []) C hA (fun sz => kX4_build hl0 sz hc) gX8_132 hP hD hS rfl rfl ⟨by decide, by decide⟩ ⟨rfl, rfl⟩ rfl hl.1 rfl (lv_room (Nat.le_of_ble_eq_true rfl)) dX8_compile_91 (fun H locs hP hD hS => ?_)
      refine lv_aload_n hx hb dX8_compile_94 rfl (lv_at hl 0 rfl) ?_
      refine T_gfX8_65 C hP dX8_compile_95 ?_
      obtain ⟨σ14, hc, h⟩ := bnd1_s h
      refine T_callNv (q0 := 21) (ci := 6) (As := []) (rest := []) C hA (fun sz => kX2_renew hl0 sz hc) gX8_135 hP hD hS rfl rfl ⟨by decide, by decide⟩ ⟨rfl, rfl⟩ rfl hl.1 rfl (lv_room (Nat.le_of_ble_eq_true rfl)) dX8_compile_98 (fun H locs hP hD hS => ?_)
      refine lv_aload_n hx hb dX8_compile_101 rfl (lv_at hl 0 rfl) ?_
      refine T_gfX8_72 C hP dX8_compile_102 ?_
      obtain ⟨σ15, hc, h⟩ := bnd1_s h
      refine T_callNv (q0 := 24) (ci := 11) (As := []) (rest := []) C hA (fun sz => kX7_end hl0 sz hc) gX8_138 hP hD hS rfl rfl ⟨by decide, by decide⟩ ⟨rfl, rfl⟩ rfl hl.1 rfl (lv_room (Nat.le_of_ble_eq_true rfl)) dX8_compile_105 (fun H locs hP hD hS => ?_)
      refine lv_aload_n hx hb dX8_compile_108 rfl (lv_at hl 0 rfl) ?_
      refine lv_iconst (v := (1 : Int32)) hx hb dX8_compile_109 (by decide) ?_
      obtain ⟨g17, h⟩ := grd_s h
      obtain ⟨σ16, eσ16, h⟩ := letS_n h
      refine T_pfX8_83 C hP hD hS g17 eσ16 dX8_compile_110 (fun H locs hP hD hS => ?_)
      refine lv_aload_n hx hb dX8_compile_113 rfl (lv_at hl 0 rfl) ?_
      refine T_gfX8_56 C hP dX8_compile_114 ?_
      refine T_gfX8_141 C hP dX8_compile_117 ?_
      exact T_xiret C h hP hD hS dX8_compile_120
    · have h := ifT c10 h
      exact T_throwX8_108_126 C hA hxt h hP hD hS hl.1 ⟨by decide, by decide, by decide, by decide⟩ dX8_compile_55 dX8_compile_58 dX8_compile_59 dX8_compile_61 dX8_compile_64
  · have h := ifT c4 h
    exact T_throwX8_108_110 C hA hxt h hP hD hS hl.1 ⟨by decide, by decide, by decide, by decide⟩ dX8_compile_21 dX8_compile_24 dX8_compile_25 dX8_compile_27 dX8_compile_30
set_option maxRecDepth 100000 in
theorem kX8_compile {l : Launch} (hl0 : l.stackTraces = false) (sz : Nat) {st : Nat → Nat} {D : va_G} {a : Nat → Nat} {cc : Nat → ClassId} {N : Nat} {x r : Int32} {σr : St} {σ : St} (h : fX8_compile N σ = some (x, r, σr)) : vy_Met l yX8_compile ((Cond.code yX8_compile cX8_compile 1 (some .int) :: WT)) rmX8_compile (T_Pc st D a cc [.ref (a 19)] σ sz) (T_Rxi D a cc (va_A (wT a cc σ) sz) x r σr) (T_X D a cc (va_A (wT a cc σ) sz) x σr) (va_A (wT a cc σ) sz) := by
  refine vy_ofW (cc := cX8_compile) (maxL := 1) (ret := (some .int)) (by decide) rfl ?_
  intro p e s m args below meth c s₁ B hml hxt hv
  obtain ⟨rfl, hsz, hP, hK, hD0, hTS⟩ := hv
  subst hsz
  have hl := lv_entry ([.ref (a 19)]) (n := 1) (Nat.le_of_ble_eq_true rfl)
  rw [lg_entry_eq]
  generalize (lg_sl ([.ref (a 19)]) ++ List.replicate (1 - (lg_sl ([.ref (a 19)])).length) Slot.unset).toArray = ls at hl ⊢
  exact tX8_compile ⟨B.exec, B.bytes, B.returns, hml, findClass_of_methodNamed B.named, atoms_spec (ws := (Cond.code yX8_compile cX8_compile 1 (some .int) :: WT)) B.pre, (fun w h => List.mem_cons_of_mem _ h), hK, B.notSynchronized, hTS, hl0⟩ (fun q h => Or.inr h) hxt h hP hD0.self va_S.rf hl
set_option maxHeartbeats 4000000 in
set_option maxRecDepth 100000 in
theorem tX8_fault {st : Nat → Nat} {p : Program} {l : Launch} {e : Env} {s : State} {m : MethodId} {args : Array Value} {below : List Frame} {meth : Method} {c : Code} {D : va_G} {a : Nat → Nat} {cc : Nat → ClassId} {A : Nat → Prop} {N : Nat} {r : Int32} {σr : St} (C : T_Cx st l A RX8 p s m args meth c D cc cX8_fault (Cond.code yX8_fault cX8_fault 1 (some .int) :: WT) 1 (some .int)) (hA : ∀ q, s.heap.size ≤ q → A q) {σ : St} {H : Heap} {locs : List Loc} {ls : Array Slot} (h : fX8_fault N σ = some (r, σr)) : va_P D vwCl (wT a cc σ) H → va_D A (wT a cc σ) → va_S A s.heap H locs → lv_has ls 1 [(0, .ref (a 19))] → W p l e rmX8_fault s m args below meth c H locs 0 0 (T_Mi D a cc A below args s r σr) (F0 m 0 ls []) := by
  obtain ⟨hx, hb, hr, hml, hown, hts, hin, hK, hlocks, hTS, hl0⟩ := id C
  intro hP hD hS hl
  refine lv_aload_n hx hb dX8_fault_0 rfl (lv_at hl 0 rfl) ?_
  refine T_gfX8_29 C hP dX8_fault_1 ?_
  refine T_gfX8_144 C hP dX8_fault_4 ?_
  exact T_iret C h hP hD hS dX8_fault_7
set_option maxRecDepth 100000 in
theorem kX8_fault {l : Launch} (hl0 : l.stackTraces = false) (sz : Nat) {st : Nat → Nat} {D : va_G} {a : Nat → Nat} {cc : Nat → ClassId} {N : Nat} {r : Int32} {σr : St} {σ : St} (h : fX8_fault N σ = some (r, σr)) : Met l yX8_fault ((Cond.code yX8_fault cX8_fault 1 (some .int) :: WT)) rmX8_fault (T_Pc st D a cc [.ref (a 19)] σ sz) (T_Qi D a cc σ sz r σr) 0 0 (va_A (wT a cc σ) sz) := by
  refine Met.ofW (cc := cX8_fault) (maxL := 1) (ret := (some .int)) (by decide) rfl ?_
  intro p e s m args below meth c s₁ B hml hv
  obtain ⟨rfl, hsz, hP, hK, hD0, hTS⟩ := hv
  subst hsz
  have hl := lv_entry ([.ref (a 19)]) (n := 1) (Nat.le_of_ble_eq_true rfl)
  rw [lg_entry_eq]
  generalize (lg_sl ([.ref (a 19)]) ++ List.replicate (1 - (lg_sl ([.ref (a 19)])).length) Slot.unset).toArray = ls at hl ⊢
  exact tX8_fault ⟨B.exec, B.bytes, B.returns, hml, findClass_of_methodNamed B.named, atoms_spec (ws := (Cond.code yX8_fault cX8_fault 1 (some .int) :: WT)) B.pre, (fun w h => List.mem_cons_of_mem _ h), hK, B.notSynchronized, hTS, hl0⟩ (fun q h => Or.inr h) h hP hD0.self va_S.rf hl
set_option maxHeartbeats 4000000 in
set_option maxRecDepth 100000 in
theorem tX8_requireCompiled {st : Nat → Nat} {p : Program} {l : Launch} {e : Env} {s : State} {m : MethodId} {args : Array Value} {below : List Frame} {meth : Method} {c : Code} {D : va_G} {a : Nat → Nat} {cc : Nat → ClassId} {A : Nat → Prop} {N : Nat} {x r : Int32} {σr : St} (C : T_Cx st l A RX8 p s m args meth c D cc cX8_requireCompiled (Cond.code yX8_requireCompiled cX8_requireCompiled 1 none :: WT) 1 none) (hA : ∀ q, s.heap.size ≤ q → A q) (hxt : ∀ x ∈ c.exceptionTable.toList, False) {σ : St} {H : Heap} {locs : List Loc} {ls : Array Slot} (h : fX8_requireCompiled N σ = some (x, r, σr)) : va_P D vwCl (wT a cc σ) H → va_D A (wT a cc σ) → va_S A s.heap H locs → lv_has ls 1 [(0, .ref (a 19))] → W p l e rmX8_requireCompiled s m args below meth c H locs 0 0 (T_Mxv D a cc A below args s x r σr) (F0 m 0 ls []) := by
  obtain ⟨hx, hb, hr, hml, hown, hts, hin, hK, hlocks, hTS, hl0⟩ := id C
  intro hP hD hS hl
  refine lv_aload_n hx hb dX8_requireCompiled_0 rfl (lv_at hl 0 rfl) ?_
  refine T_gfX8_83 C hP dX8_requireCompiled_1 ?_
  refine lv_if_ne (tgt := 18) hx hb dX8_requireCompiled_4 (by decide) (fun c1 => ?_) (fun c1 => ?_)
  · have h := ifF c1 h
    exact T_xvret C h hP hD hS dX8_requireCompiled_18
  · have h := ifT c1 h
    exact T_throwX8_195_256 C hA hxt h hP hD hS hl.1 ⟨by decide, by decide, by decide, by decide⟩ dX8_requireCompiled_7 dX8_requireCompiled_10 dX8_requireCompiled_11 dX8_requireCompiled_14 dX8_requireCompiled_17
set_option maxRecDepth 100000 in
theorem kX8_requireCompiled {l : Launch} (hl0 : l.stackTraces = false) (sz : Nat) {st : Nat → Nat} {D : va_G} {a : Nat → Nat} {cc : Nat → ClassId} {N : Nat} {x r : Int32} {σr : St} {σ : St} (h : fX8_requireCompiled N σ = some (x, r, σr)) : vy_Met l yX8_requireCompiled ((Cond.code yX8_requireCompiled cX8_requireCompiled 1 none :: WT)) rmX8_requireCompiled (T_Pc st D a cc [.ref (a 19)] σ sz) (T_Rxv D a cc (va_A (wT a cc σ) sz) x r σr) (T_X D a cc (va_A (wT a cc σ) sz) x σr) (va_A (wT a cc σ) sz) := by
  refine vy_ofW (cc := cX8_requireCompiled) (maxL := 1) (ret := none) (by decide) rfl ?_
  intro p e s m args below meth c s₁ B hml hxt hv
  obtain ⟨rfl, hsz, hP, hK, hD0, hTS⟩ := hv
  subst hsz
  have hl := lv_entry ([.ref (a 19)]) (n := 1) (Nat.le_of_ble_eq_true rfl)
  rw [lg_entry_eq]
  generalize (lg_sl ([.ref (a 19)]) ++ List.replicate (1 - (lg_sl ([.ref (a 19)])).length) Slot.unset).toArray = ls at hl ⊢
  exact tX8_requireCompiled ⟨B.exec, B.bytes, B.returns, hml, findClass_of_methodNamed B.named, atoms_spec (ws := (Cond.code yX8_requireCompiled cX8_requireCompiled 1 none :: WT)) B.pre, (fun w h => List.mem_cons_of_mem _ h), hK, B.notSynchronized, hTS, hl0⟩ (fun q h => Or.inr h) hxt h hP hD0.self va_S.rf hl
set_option maxHeartbeats 4000000 in
set_option maxRecDepth 100000 in
theorem tX8_size {st : Nat → Nat} {p : Program} {l : Launch} {e : Env} {s : State} {m : MethodId} {args : Array Value} {below : List Frame} {meth : Method} {c : Code} {D : va_G} {a : Nat → Nat} {cc : Nat → ClassId} {A : Nat → Prop} {N : Nat} {x r : Int32} {σr : St} (C : T_Cx st l A RX8 p s m args meth c D cc cX8_size (Cond.code yX8_size cX8_size 2 (some .int) :: WT) 2 (some .int)) (hA : ∀ q, s.heap.size ≤ q → A q) (hxt : ∀ x ∈ c.exceptionTable.toList, False) {σ : St} {p0 : Int32} {H : Heap} {locs : List Loc} {ls : Array Slot} (h : fX8_size N σ p0 = some (x, r, σr)) : va_P D vwCl (wT a cc σ) H → va_D A (wT a cc σ) → va_S A s.heap H locs → lv_has ls 2 [(0, .ref (a 19)), (1, .int p0)] → W p l e rmX8_size s m args below meth c H locs 0 0 (T_Mxi D a cc A below args s x r σr) (F0 m 0 ls []) := by
  obtain ⟨hx, hb, hr, hml, hown, hts, hin, hK, hlocks, hTS, hl0⟩ := id C
  intro hP hD hS hl
  refine lv_aload_n hx hb dX8_size_0 rfl (lv_at hl 0 rfl) ?_
  obtain ⟨v2, r3, σ1, hc, h1, h2⟩ := bndX_s h
  refine T_callXVv (q0 := 0) (ci := 12) (As := []) (rest := []) C hA hxt (fun sz => kX8_requireCompiled hl0 sz hc) gX8_147 hP hD hS h2 rfl rfl ⟨by decide, by decide⟩ ⟨by decide, by decide⟩ ⟨rfl, rfl⟩ rfl hl.1 rfl (lv_room (Nat.le_of_ble_eq_true rfl)) dX8_size_1 (fun ev2 H locs hP hD hS => ?_)
  have h := h1 ev2
  refine lv_iload_n hx hb dX8_size_4 rfl (lv_at hl 1 rfl) ?_
  by_cases c4 : p0 = (0 : Int32)
  · have h := ifT c4 h
    refine lv_tableIn (tgt := 40) hx hb dX8_size_5 (by rw [c4]; decide) (by rw [c4]; decide) (by rw [c4]; rfl) (by decide) ?_
    refine lv_aload_n hx hb dX8_size_40 rfl (lv_at hl 0 rfl) ?_
    refine T_gfX8_56 C hP dX8_size_41 ?_
    refine T_gfX8_141 C hP dX8_size_44 ?_
    exact T_xiret C h hP hD hS dX8_size_47
  · have h := ifF c4 h
    by_cases c5 : p0 = (1 : Int32)
    · have h := ifT c5 h
      refine lv_tableIn (tgt := 48) hx hb dX8_size_5 (by rw [c5]; decide) (by rw [c5]; decide) (by rw [c5]; rfl) (by decide) ?_
      refine lv_aload_n hx hb dX8_size_48 rfl (lv_at hl 0 rfl) ?_
      refine T_gfX8_87 C hP dX8_size_49 ?_
      exact T_xiret C h hP hD hS dX8_size_52
    · have h := ifF c5 h
      by_cases c6 : p0 = (2 : Int32)
      · have h := ifT c6 h
        refine lv_tableIn (tgt := 53) hx hb dX8_size_5 (by rw [c6]; decide) (by rw [c6]; decide) (by rw [c6]; rfl) (by decide) ?_
        refine lv_aload_n hx hb dX8_size_53 rfl (lv_at hl 0 rfl) ?_
        refine T_gfX8_90 C hP dX8_size_54 ?_
        exact T_xiret C h hP hD hS dX8_size_57
      · have h := ifF c6 h
        by_cases c7 : p0 = (3 : Int32)
        · have h := ifT c7 h
          refine lv_tableIn (tgt := 58) hx hb dX8_size_5 (by rw [c7]; decide) (by rw [c7]; decide) (by rw [c7]; rfl) (by decide) ?_
          refine lv_aload_n hx hb dX8_size_58 rfl (lv_at hl 0 rfl) ?_
          refine T_gfX8_65 C hP dX8_size_59 ?_
          refine T_gfX8_150 C hP dX8_size_62 ?_
          exact T_xiret C h hP hD hS dX8_size_65
        · have h := ifF c7 h
          by_cases c8 : p0 = (4 : Int32)
          · have h := ifT c8 h
            refine lv_tableIn (tgt := 66) hx hb dX8_size_5 (by rw [c8]; decide) (by rw [c8]; decide) (by rw [c8]; rfl) (by decide) ?_
            refine lv_aload_n hx hb dX8_size_66 rfl (lv_at hl 0 rfl) ?_
            refine T_gfX8_65 C hP dX8_size_67 ?_
            obtain ⟨r10, σ9, hc, h⟩ := bnd_s h
            refine T_callNi (q0 := 21) (ci := 6) (As := []) (rest := []) C hA (fun sz => kX2_gates hl0 sz hc) gX8_153 hP hD hS rfl rfl ⟨by decide, by decide⟩ ⟨rfl, rfl⟩ rfl hl.1 rfl (lv_room (Nat.le_of_ble_eq_true rfl)) dX8_size_70 (fun H locs hP hD hS => ?_)
            exact T_xiret C h hP hD hS dX8_size_73
          · have h := ifF c8 h
            have g11 : p0.toInt < 0 ∨ 4 < p0.toInt := by
              have qc4 := i32_ne (v := 0) c4 (by decide)
              have qc5 := i32_ne (v := 1) c5 (by decide)
              have qc6 := i32_ne (v := 2) c6 (by decide)
              have qc7 := i32_ne (v := 3) c7 (by decide)
              have qc8 := i32_ne (v := 4) c8 (by decide)
              omega
            refine lv_tableOut (tgt := 74) hx hb dX8_size_5 g11 (by decide) ?_
            exact T_throwX8_156_158 C hA hxt h hP hD hS hl.1 ⟨by decide, by decide, by decide, by decide⟩ dX8_size_74 dX8_size_77 dX8_size_78 dX8_size_80 dX8_size_83
set_option maxRecDepth 100000 in
theorem kX8_size {l : Launch} (hl0 : l.stackTraces = false) (sz : Nat) {st : Nat → Nat} {D : va_G} {a : Nat → Nat} {cc : Nat → ClassId} {N : Nat} {x r : Int32} {σr : St} {σ : St} {p0 : Int32} (h : fX8_size N σ p0 = some (x, r, σr)) : vy_Met l yX8_size ((Cond.code yX8_size cX8_size 2 (some .int) :: WT)) rmX8_size (T_Pc st D a cc [.ref (a 19), .int p0] σ sz) (T_Rxi D a cc (va_A (wT a cc σ) sz) x r σr) (T_X D a cc (va_A (wT a cc σ) sz) x σr) (va_A (wT a cc σ) sz) := by
  refine vy_ofW (cc := cX8_size) (maxL := 2) (ret := (some .int)) (by decide) rfl ?_
  intro p e s m args below meth c s₁ B hml hxt hv
  obtain ⟨rfl, hsz, hP, hK, hD0, hTS⟩ := hv
  subst hsz
  have hl := lv_entry ([.ref (a 19), .int p0]) (n := 2) (Nat.le_of_ble_eq_true rfl)
  rw [lg_entry_eq]
  generalize (lg_sl ([.ref (a 19), .int p0]) ++ List.replicate (2 - (lg_sl ([.ref (a 19), .int p0])).length) Slot.unset).toArray = ls at hl ⊢
  exact tX8_size ⟨B.exec, B.bytes, B.returns, hml, findClass_of_methodNamed B.named, atoms_spec (ws := (Cond.code yX8_size cX8_size 2 (some .int) :: WT)) B.pre, (fun w h => List.mem_cons_of_mem _ h), hK, B.notSynchronized, hTS, hl0⟩ (fun q h => Or.inr h) hxt h hP hD0.self va_S.rf hl
set_option maxHeartbeats 4000000 in
set_option maxRecDepth 100000 in
theorem tX8_isLetter_14 {st : Nat → Nat} {p : Program} {l : Launch} {e : Env} {s : State} {m : MethodId} {args : Array Value} {below : List Frame} {meth : Method} {c : Code} {D : va_G} {a : Nat → Nat} {cc : Nat → ClassId} {A : Nat → Prop} {N : Nat} {r : Int32} {σr : St} (C : T_Cx st l A RX8 p s m args meth c D cc cX8_isLetter (Cond.code yX8_isLetter cX8_isLetter 1 (some .boolean) :: WT) 1 (some .boolean)) (hA : ∀ q, s.heap.size ≤ q → A q) {σ : St} {H : Heap} {locs : List Loc} {ls : Array Slot} (h : fX8_isLetter_14 N σ = some (r, σr)) : va_P D vwCl (wT a cc σ) H → va_D A (wT a cc σ) → va_S A s.heap H locs → lv_has ls 1 [] → W p l e rmX8_isLetter s m args below meth c H locs 0 0 (T_Mi D a cc A below args s r σr) (F0 m 14 ls []) := by
  obtain ⟨hx, hb, hr, hml, hown, hts, hin, hK, hlocks, hTS, hl0⟩ := id C
  intro hP hD hS hl
  refine lv_iconst (v := (0 : Int32)) hx hb dX8_isLetter_14 (by decide) ?_
  exact T_zretZ C h hP hD hS dX8_isLetter_15
set_option maxHeartbeats 4000000 in
set_option maxRecDepth 100000 in
theorem tX8_isLetter {st : Nat → Nat} {p : Program} {l : Launch} {e : Env} {s : State} {m : MethodId} {args : Array Value} {below : List Frame} {meth : Method} {c : Code} {D : va_G} {a : Nat → Nat} {cc : Nat → ClassId} {A : Nat → Prop} {N : Nat} {r : Int32} {σr : St} (C : T_Cx st l A RX8 p s m args meth c D cc cX8_isLetter (Cond.code yX8_isLetter cX8_isLetter 1 (some .boolean) :: WT) 1 (some .boolean)) (hA : ∀ q, s.heap.size ≤ q → A q) {σ : St} {p0 : Int32} {H : Heap} {locs : List Loc} {ls : Array Slot} (h : fX8_isLetter N σ p0 = some (r, σr)) : va_P D vwCl (wT a cc σ) H → va_D A (wT a cc σ) → va_S A s.heap H locs → lv_has ls 1 [(0, .int p0)] → W p l e rmX8_isLetter s m args below meth c H locs 0 0 (T_Mi D a cc A below args s r σr) (F0 m 0 ls []) := by
  obtain ⟨hx, hb, hr, hml, hown, hts, hin, hK, hlocks, hTS, hl0⟩ := id C
  intro hP hD hS hl
  refine lv_iload_n hx hb dX8_isLetter_0 rfl (lv_at hl 0 rfl) ?_
  refine lv_if_lt (tgt := 14) hx hb dX8_isLetter_1 (by decide) (fun c1 => ?_) (fun c1 => ?_)
  · have h := ifT c1 h
    exact tX8_isLetter_14 C hA h hP hD hS (lv_sub hl [] rfl)
  · have h := ifF c1 h
    refine lv_iload_n hx hb dX8_isLetter_4 rfl (lv_at hl 0 rfl) ?_
    refine lv_bipush (v := (8 : Int32)) hx hb dX8_isLetter_5 (by decide) ?_
    refine lv_icmp_ge (tgt := 14) hx hb dX8_isLetter_7 (by decide) (fun c2 => ?_) (fun c2 => ?_)
    · have h := ifT c2 h
      exact tX8_isLetter_14 C hA h hP hD hS (lv_sub hl [] rfl)
    · have h := ifF c2 h
      refine lv_iconst (v := (1 : Int32)) hx hb dX8_isLetter_10 (by decide) ?_
      refine lv_goto (tgt := 15) hx hb dX8_isLetter_11 (by decide) ?_
      exact T_zretZ C h hP hD hS dX8_isLetter_15
set_option maxRecDepth 100000 in
theorem kX8_isLetter {l : Launch} (hl0 : l.stackTraces = false) (sz : Nat) {st : Nat → Nat} {D : va_G} {a : Nat → Nat} {cc : Nat → ClassId} {N : Nat} {r : Int32} {σr : St} {σ : St} {p0 : Int32} (h : fX8_isLetter N σ p0 = some (r, σr)) : Met l yX8_isLetter ((Cond.code yX8_isLetter cX8_isLetter 1 (some .boolean) :: WT)) rmX8_isLetter (T_Pc st D a cc [.int p0] σ sz) (T_Qi D a cc σ sz r σr) 0 0 (va_A (wT a cc σ) sz) := by
  refine Met.ofW (cc := cX8_isLetter) (maxL := 1) (ret := (some .boolean)) (by decide) rfl ?_
  intro p e s m args below meth c s₁ B hml hv
  obtain ⟨rfl, hsz, hP, hK, hD0, hTS⟩ := hv
  subst hsz
  have hl := lv_entry ([.int p0]) (n := 1) (Nat.le_of_ble_eq_true rfl)
  rw [lg_entry_eq]
  generalize (lg_sl ([.int p0]) ++ List.replicate (1 - (lg_sl ([.int p0])).length) Slot.unset).toArray = ls at hl ⊢
  exact tX8_isLetter ⟨B.exec, B.bytes, B.returns, hml, findClass_of_methodNamed B.named, atoms_spec (ws := (Cond.code yX8_isLetter cX8_isLetter 1 (some .boolean) :: WT)) B.pre, (fun w h => List.mem_cons_of_mem _ h), hK, B.notSynchronized, hTS, hl0⟩ (fun q h => Or.inr h) h hP hD0.self va_S.rf hl
set_option maxHeartbeats 4000000 in
set_option maxRecDepth 100000 in
theorem tX8_next_26 {st : Nat → Nat} {p : Program} {l : Launch} {e : Env} {s : State} {m : MethodId} {args : Array Value} {below : List Frame} {meth : Method} {c : Code} {D : va_G} {a : Nat → Nat} {cc : Nat → ClassId} {A : Nat → Prop} {N : Nat} {x r : Int32} {σr : St} (C : T_Cx st l A RX8 p s m args meth c D cc cX8_next (Cond.code yX8_next cX8_next 3 (some .int) :: WT) 3 (some .int)) (hA : ∀ q, s.heap.size ≤ q → A q) (hxt : ∀ x ∈ c.exceptionTable.toList, False) {σ : St} {H : Heap} {locs : List Loc} {ls : Array Slot} (h : fX8_next_26 N σ = some (x, r, σr)) : va_P D vwCl (wT a cc σ) H → va_D A (wT a cc σ) → va_S A s.heap H locs → lv_has ls 3 [] → W p l e rmX8_next s m args below meth c H locs 0 0 (T_Mxi D a cc A below args s x r σr) (F0 m 26 ls []) := by
  obtain ⟨hx, hb, hr, hml, hown, hts, hin, hK, hlocks, hTS, hl0⟩ := id C
  intro hP hD hS hl
  exact T_throwX8_164_166 C hA hxt h hP hD hS hl.1 ⟨by decide, by decide, by decide, by decide⟩ dX8_next_26 dX8_next_29 dX8_next_30 dX8_next_32 dX8_next_35
set_option maxHeartbeats 4000000 in
set_option maxRecDepth 100000 in
theorem tX8_next {st : Nat → Nat} {p : Program} {l : Launch} {e : Env} {s : State} {m : MethodId} {args : Array Value} {below : List Frame} {meth : Method} {c : Code} {D : va_G} {a : Nat → Nat} {cc : Nat → ClassId} {A : Nat → Prop} {N : Nat} {x r : Int32} {σr : St} (C : T_Cx st l A RX8 p s m args meth c D cc cX8_next (Cond.code yX8_next cX8_next 3 (some .int) :: WT) 3 (some .int)) (hA : ∀ q, s.heap.size ≤ q → A q) (hxt : ∀ x ∈ c.exceptionTable.toList, False) {σ : St} {p0 : Int32} {p1 : Int32} {H : Heap} {locs : List Loc} {ls : Array Slot} (h : fX8_next N σ p0 p1 = some (x, r, σr)) : va_P D vwCl (wT a cc σ) H → va_D A (wT a cc σ) → va_S A s.heap H locs → lv_has ls 3 [(0, .ref (a 19)), (1, .int p0), (2, .int p1)] → W p l e rmX8_next s m args below meth c H locs 0 0 (T_Mxi D a cc A below args s x r σr) (F0 m 0 ls []) := by
  obtain ⟨hx, hb, hr, hml, hown, hts, hin, hK, hlocks, hTS, hl0⟩ := id C
  intro hP hD hS hl
  refine lv_aload_n hx hb dX8_next_0 rfl (lv_at hl 0 rfl) ?_
  obtain ⟨v2, r3, σ1, hc, h1, h2⟩ := bndX_s h
  refine T_callXVv (q0 := 0) (ci := 12) (As := []) (rest := []) C hA hxt (fun sz => kX8_requireCompiled hl0 sz hc) gX8_147 hP hD hS h2 rfl rfl ⟨by decide, by decide⟩ ⟨by decide, by decide⟩ ⟨rfl, rfl⟩ rfl hl.1 rfl (lv_room (Nat.le_of_ble_eq_true rfl)) dX8_next_1 (fun ev2 H locs hP hD hS => ?_)
  have h := h1 ev2
  refine lv_iload_n hx hb dX8_next_4 rfl (lv_at hl 1 rfl) ?_
  refine lv_if_lt (tgt := 26) hx hb dX8_next_5 (by decide) (fun c4 => ?_) (fun c4 => ?_)
  · have h := ifT c4 h
    exact tX8_next_26 C hA hxt h hP hD hS (lv_sub hl [] rfl)
  · have h := ifF c4 h
    refine lv_iload_n hx hb dX8_next_8 rfl (lv_at hl 1 rfl) ?_
    refine lv_aload_n hx hb dX8_next_9 rfl (lv_at hl 0 rfl) ?_
    refine T_gfX8_56 C hP dX8_next_10 ?_
    refine T_gfX8_141 C hP dX8_next_13 ?_
    refine lv_icmp_ge (tgt := 26) hx hb dX8_next_16 (by decide) (fun c5 => ?_) (fun c5 => ?_)
    · have h := ifT c5 h
      exact tX8_next_26 C hA hxt h hP hD hS (lv_sub hl [] rfl)
    · have h := ifF c5 h
      refine lv_iload_n hx hb dX8_next_19 rfl (lv_at hl 2 rfl) ?_
      obtain ⟨r7, σ6, hc, h⟩ := bnd_s h
      refine T_callSi (As := [.int p1]) (rest := []) C hA (fun sz => kX8_isLetter hl0 sz hc) gX8_161 hP hD hS ⟨by decide, by decide⟩ ⟨rfl, rfl⟩ rfl hl.1 rfl (lv_room (Nat.le_of_ble_eq_true rfl)) dX8_next_20 (fun H locs hP hD hS => ?_)
      refine lv_if_ne (tgt := 36) hx hb dX8_next_23 (by decide) (fun c8 => ?_) (fun c8 => ?_)
      · have h := ifF c8 h
        refine lv_aload_n hx hb dX8_next_36 rfl (lv_at hl 0 rfl) ?_
        refine T_gfX8_56 C hP dX8_next_37 ?_
        refine lv_iload_n hx hb dX8_next_40 rfl (lv_at hl 1 rfl) ?_
        refine lv_iload_n hx hb dX8_next_41 rfl (lv_at hl 2 rfl) ?_
        obtain ⟨r10, σ9, hc, h⟩ := bnd_s h
        refine T_callNi (q0 := 14) (ci := 8) (As := [.int p0, .int p1]) (rest := []) C hA (fun sz => kX4_after hl0 sz hc) gX8_169 hP hD hS rfl rfl ⟨by decide, by decide⟩ ⟨rfl, rfl⟩ rfl hl.1 rfl (lv_room (Nat.le_of_ble_eq_true rfl)) dX8_next_42 (fun H locs hP hD hS => ?_)
        exact T_xiret C h hP hD hS dX8_next_45
      · have h := ifT c8 h
        exact tX8_next_26 C hA hxt h hP hD hS (lv_sub hl [] rfl)
set_option maxRecDepth 100000 in
theorem kX8_next {l : Launch} (hl0 : l.stackTraces = false) (sz : Nat) {st : Nat → Nat} {D : va_G} {a : Nat → Nat} {cc : Nat → ClassId} {N : Nat} {x r : Int32} {σr : St} {σ : St} {p0 : Int32} {p1 : Int32} (h : fX8_next N σ p0 p1 = some (x, r, σr)) : vy_Met l yX8_next ((Cond.code yX8_next cX8_next 3 (some .int) :: WT)) rmX8_next (T_Pc st D a cc [.ref (a 19), .int p0, .int p1] σ sz) (T_Rxi D a cc (va_A (wT a cc σ) sz) x r σr) (T_X D a cc (va_A (wT a cc σ) sz) x σr) (va_A (wT a cc σ) sz) := by
  refine vy_ofW (cc := cX8_next) (maxL := 3) (ret := (some .int)) (by decide) rfl ?_
  intro p e s m args below meth c s₁ B hml hxt hv
  obtain ⟨rfl, hsz, hP, hK, hD0, hTS⟩ := hv
  subst hsz
  have hl := lv_entry ([.ref (a 19), .int p0, .int p1]) (n := 3) (Nat.le_of_ble_eq_true rfl)
  rw [lg_entry_eq]
  generalize (lg_sl ([.ref (a 19), .int p0, .int p1]) ++ List.replicate (3 - (lg_sl ([.ref (a 19), .int p0, .int p1])).length) Slot.unset).toArray = ls at hl ⊢
  exact tX8_next ⟨B.exec, B.bytes, B.returns, hml, findClass_of_methodNamed B.named, atoms_spec (ws := (Cond.code yX8_next cX8_next 3 (some .int) :: WT)) B.pre, (fun w h => List.mem_cons_of_mem _ h), hK, B.notSynchronized, hTS, hl0⟩ (fun q h => Or.inr h) hxt h hP hD0.self va_S.rf hl
set_option maxHeartbeats 4000000 in
set_option maxRecDepth 100000 in
theorem tX8_output_41 {st : Nat → Nat} {p : Program} {l : Launch} {e : Env} {s : State} {m : MethodId} {args : Array Value} {below : List Frame} {meth : Method} {c : Code} {D : va_G} {a : Nat → Nat} {cc : Nat → ClassId} {A : Nat → Prop} {N : Nat} {x r : Int32} {σr : St} (C : T_Cx st l A RX8 p s m args meth c D cc cX8_output (Cond.code yX8_output cX8_output 4 (some .boolean) :: WT) 4 (some .boolean)) (hA : ∀ q, s.heap.size ≤ q → A q) (hxt : ∀ x ∈ c.exceptionTable.toList, False) {σ : St} {H : Heap} {locs : List Loc} {ls : Array Slot} (h : fX8_output_41 N σ = some (x, r, σr)) : va_P D vwCl (wT a cc σ) H → va_D A (wT a cc σ) → va_S A s.heap H locs → lv_has ls 4 [] → W p l e rmX8_output s m args below meth c H locs 0 0 (T_Mxi D a cc A below args s x r σr) (F0 m 41 ls []) := by
  obtain ⟨hx, hb, hr, hml, hown, hts, hin, hK, hlocks, hTS, hl0⟩ := id C
  intro hP hD hS hl
  exact T_throwX8_176_178 C hA hxt h hP hD hS hl.1 ⟨by decide, by decide, by decide, by decide⟩ dX8_output_41 dX8_output_44 dX8_output_45 dX8_output_47 dX8_output_50
set_option maxHeartbeats 4000000 in
set_option maxRecDepth 100000 in
theorem tX8_output {st : Nat → Nat} {p : Program} {l : Launch} {e : Env} {s : State} {m : MethodId} {args : Array Value} {below : List Frame} {meth : Method} {c : Code} {D : va_G} {a : Nat → Nat} {cc : Nat → ClassId} {A : Nat → Prop} {N : Nat} {x r : Int32} {σr : St} (C : T_Cx st l A RX8 p s m args meth c D cc cX8_output (Cond.code yX8_output cX8_output 4 (some .boolean) :: WT) 4 (some .boolean)) (hA : ∀ q, s.heap.size ≤ q → A q) (hxt : ∀ x ∈ c.exceptionTable.toList, False) {σ : St} {p0 : Int32} {p1 : Int32} {p2 : Int32} {H : Heap} {locs : List Loc} {ls : Array Slot} (h : fX8_output N σ p0 p1 p2 = some (x, r, σr)) : va_P D vwCl (wT a cc σ) H → va_D A (wT a cc σ) → va_S A s.heap H locs → lv_has ls 4 [(0, .ref (a 19)), (1, .int p0), (2, .int p1), (3, .int p2)] → W p l e rmX8_output s m args below meth c H locs 0 0 (T_Mxi D a cc A below args s x r σr) (F0 m 0 ls []) := by
  obtain ⟨hx, hb, hr, hml, hown, hts, hin, hK, hlocks, hTS, hl0⟩ := id C
  intro hP hD hS hl
  refine lv_aload_n hx hb dX8_output_0 rfl (lv_at hl 0 rfl) ?_
  obtain ⟨v2, r3, σ1, hc, h1, h2⟩ := bndX_s h
  refine T_callXVv (q0 := 0) (ci := 12) (As := []) (rest := []) C hA hxt (fun sz => kX8_requireCompiled hl0 sz hc) gX8_147 hP hD hS h2 rfl rfl ⟨by decide, by decide⟩ ⟨by decide, by decide⟩ ⟨rfl, rfl⟩ rfl hl.1 rfl (lv_room (Nat.le_of_ble_eq_true rfl)) dX8_output_1 (fun ev2 H locs hP hD hS => ?_)
  have h := h1 ev2
  refine lv_iload_n hx hb dX8_output_4 rfl (lv_at hl 1 rfl) ?_
  refine lv_if_lt (tgt := 41) hx hb dX8_output_5 (by decide) (fun c4 => ?_) (fun c4 => ?_)
  · have h := ifT c4 h
    exact tX8_output_41 C hA hxt h hP hD hS (lv_sub hl [] rfl)
  · have h := ifF c4 h
    refine lv_iload_n hx hb dX8_output_8 rfl (lv_at hl 1 rfl) ?_
    refine lv_aload_n hx hb dX8_output_9 rfl (lv_at hl 0 rfl) ?_
    refine T_gfX8_65 C hP dX8_output_10 ?_
    refine T_gfX8_150 C hP dX8_output_13 ?_
    refine lv_icmp_gt (tgt := 41) hx hb dX8_output_16 (by decide) (fun c5 => ?_) (fun c5 => ?_)
    · have h := ifT c5 h
      exact tX8_output_41 C hA hxt h hP hD hS (lv_sub hl [] rfl)
    · have h := ifF c5 h
      refine lv_iload_n hx hb dX8_output_19 rfl (lv_at hl 2 rfl) ?_
      refine lv_if_lt (tgt := 41) hx hb dX8_output_20 (by decide) (fun c6 => ?_) (fun c6 => ?_)
      · have h := ifT c6 h
        exact tX8_output_41 C hA hxt h hP hD hS (lv_sub hl [] rfl)
      · have h := ifF c6 h
        refine lv_iload_n hx hb dX8_output_23 rfl (lv_at hl 2 rfl) ?_
        refine lv_aload_n hx hb dX8_output_24 rfl (lv_at hl 0 rfl) ?_
        refine T_gfX8_65 C hP dX8_output_25 ?_
        obtain ⟨r8, σ7, hc, h⟩ := bnd_s h
        refine T_callNi (q0 := 21) (ci := 6) (As := []) (rest := [.int p1]) C hA (fun sz => kX2_codes hl0 sz hc) gX8_173 hP hD hS rfl rfl ⟨by decide, by decide⟩ ⟨rfl, rfl⟩ rfl hl.1 rfl (lv_room (Nat.le_of_ble_eq_true rfl)) dX8_output_28 (fun H locs hP hD hS => ?_)
        refine lv_icmp_ge (tgt := 41) hx hb dX8_output_31 (by decide) (fun c9 => ?_) (fun c9 => ?_)
        · have h := ifT c9 h
          exact tX8_output_41 C hA hxt h hP hD hS (lv_sub hl [] rfl)
        · have h := ifF c9 h
          refine lv_iload_n hx hb dX8_output_34 rfl (lv_at hl 3 rfl) ?_
          obtain ⟨r11, σ10, hc, h⟩ := bnd_s h
          refine T_callSi (As := [.int p2]) (rest := []) C hA (fun sz => kX8_isLetter hl0 sz hc) gX8_161 hP hD hS ⟨by decide, by decide⟩ ⟨rfl, rfl⟩ rfl hl.1 rfl (lv_room (Nat.le_of_ble_eq_true rfl)) dX8_output_35 (fun H locs hP hD hS => ?_)
          refine lv_if_ne (tgt := 51) hx hb dX8_output_38 (by decide) (fun c12 => ?_) (fun c12 => ?_)
          · have h := ifF c12 h
            refine lv_aload_n hx hb dX8_output_51 rfl (lv_at hl 0 rfl) ?_
            refine T_gfX8_65 C hP dX8_output_52 ?_
            refine lv_iload_n hx hb dX8_output_55 rfl (lv_at hl 1 rfl) ?_
            refine lv_iload_n hx hb dX8_output_56 rfl (lv_at hl 2 rfl) ?_
            refine lv_iload_n hx hb dX8_output_57 rfl (lv_at hl 3 rfl) ?_
            obtain ⟨r14, σ13, hc, h⟩ := bnd_s h
            refine T_callNi (q0 := 21) (ci := 6) (As := [.int p0, .int p1, .int p2]) (rest := []) C hA (fun sz => kX2_isOn hl0 sz hc) gX8_181 hP hD hS rfl rfl ⟨by decide, by decide⟩ ⟨rfl, rfl⟩ rfl hl.1 rfl (lv_room (Nat.le_of_ble_eq_true rfl)) dX8_output_58 (fun H locs hP hD hS => ?_)
            exact T_xzret C h hP hD hS dX8_output_61
          · have h := ifT c12 h
            exact tX8_output_41 C hA hxt h hP hD hS (lv_sub hl [] rfl)
set_option maxRecDepth 100000 in
theorem kX8_output {l : Launch} (hl0 : l.stackTraces = false) (sz : Nat) {st : Nat → Nat} {D : va_G} {a : Nat → Nat} {cc : Nat → ClassId} {N : Nat} {x r : Int32} {σr : St} {σ : St} {p0 : Int32} {p1 : Int32} {p2 : Int32} (h : fX8_output N σ p0 p1 p2 = some (x, r, σr)) : vy_Met l yX8_output ((Cond.code yX8_output cX8_output 4 (some .boolean) :: WT)) rmX8_output (T_Pc st D a cc [.ref (a 19), .int p0, .int p1, .int p2] σ sz) (T_Rxi D a cc (va_A (wT a cc σ) sz) x r σr) (T_X D a cc (va_A (wT a cc σ) sz) x σr) (va_A (wT a cc σ) sz) := by
  refine vy_ofW (cc := cX8_output) (maxL := 4) (ret := (some .boolean)) (by decide) rfl ?_
  intro p e s m args below meth c s₁ B hml hxt hv
  obtain ⟨rfl, hsz, hP, hK, hD0, hTS⟩ := hv
  subst hsz
  have hl := lv_entry ([.ref (a 19), .int p0, .int p1, .int p2]) (n := 4) (Nat.le_of_ble_eq_true rfl)
  rw [lg_entry_eq]
  generalize (lg_sl ([.ref (a 19), .int p0, .int p1, .int p2]) ++ List.replicate (4 - (lg_sl ([.ref (a 19), .int p0, .int p1, .int p2])).length) Slot.unset).toArray = ls at hl ⊢
  exact tX8_output ⟨B.exec, B.bytes, B.returns, hml, findClass_of_methodNamed B.named, atoms_spec (ws := (Cond.code yX8_output cX8_output 4 (some .boolean) :: WT)) B.pre, (fun w h => List.mem_cons_of_mem _ h), hK, B.notSynchronized, hTS, hl0⟩ (fun q h => Or.inr h) hxt h hP hD0.self va_S.rf hl
set_option maxHeartbeats 4000000 in
set_option maxRecDepth 100000 in
theorem tX8_begin {st : Nat → Nat} {p : Program} {l : Launch} {e : Env} {s : State} {m : MethodId} {args : Array Value} {below : List Frame} {meth : Method} {c : Code} {D : va_G} {a : Nat → Nat} {cc : Nat → ClassId} {A : Nat → Prop} {N : Nat} {x r : Int32} {σr : St} (C : T_Cx st l A RX8 p s m args meth c D cc cX8_begin (Cond.code yX8_begin cX8_begin 1 (some .boolean) :: WT) 1 (some .boolean)) (hA : ∀ q, s.heap.size ≤ q → A q) (hxt : ∀ x ∈ c.exceptionTable.toList, False) {σ : St} {H : Heap} {locs : List Loc} {ls : Array Slot} (h : fX8_begin N σ = some (x, r, σr)) : va_P D vwCl (wT a cc σ) H → va_D A (wT a cc σ) → va_S A s.heap H locs → lv_has ls 1 [(0, .ref (a 19))] → W p l e rmX8_begin s m args below meth c H locs 0 0 (T_Mxi D a cc A below args s x r σr) (F0 m 0 ls []) := by
  obtain ⟨hx, hb, hr, hml, hown, hts, hin, hK, hlocks, hTS, hl0⟩ := id C
  intro hP hD hS hl
  refine lv_aload_n hx hb dX8_begin_0 rfl (lv_at hl 0 rfl) ?_
  obtain ⟨v2, r3, σ1, hc, h1, h2⟩ := bndX_s h
  refine T_callXVv (q0 := 0) (ci := 12) (As := []) (rest := []) C hA hxt (fun sz => kX8_requireCompiled hl0 sz hc) gX8_147 hP hD hS h2 rfl rfl ⟨by decide, by decide⟩ ⟨by decide, by decide⟩ ⟨rfl, rfl⟩ rfl hl.1 rfl (lv_room (Nat.le_of_ble_eq_true rfl)) dX8_begin_1 (fun ev2 H locs hP hD hS => ?_)
  have h := h1 ev2
  refine lv_aload_n hx hb dX8_begin_4 rfl (lv_at hl 0 rfl) ?_
  refine T_gfX8_72 C hP dX8_begin_5 ?_
  obtain ⟨σ4, hc, h⟩ := bnd1_s h
  refine T_callNv (q0 := 24) (ci := 11) (As := []) (rest := []) C hA (fun sz => kX7_start hl0 sz hc) gX8_185 hP hD hS rfl rfl ⟨by decide, by decide⟩ ⟨rfl, rfl⟩ rfl hl.1 rfl (lv_room (Nat.le_of_ble_eq_true rfl)) dX8_begin_8 (fun H locs hP hD hS => ?_)
  refine lv_aload_n hx hb dX8_begin_11 rfl (lv_at hl 0 rfl) ?_
  refine T_gfX8_72 C hP dX8_begin_12 ?_
  obtain ⟨r6, σ5, hc, h⟩ := bnd_s h
  refine T_callNi (q0 := 24) (ci := 11) (As := []) (rest := []) C hA (fun sz => kX7_hasFailed hl0 sz hc) gX8_188 hP hD hS rfl rfl ⟨by decide, by decide⟩ ⟨rfl, rfl⟩ rfl hl.1 rfl (lv_room (Nat.le_of_ble_eq_true rfl)) dX8_begin_15 (fun H locs hP hD hS => ?_)
  refine lv_if_ne (tgt := 25) hx hb dX8_begin_18 (by decide) (fun c7 => ?_) (fun c7 => ?_)
  · have h := ifF c7 h
    refine lv_iconst (v := (0 : Int32)) hx hb dX8_begin_25 (by decide) ?_
    exact T_xzret C h hP hD hS dX8_begin_26
  · have h := ifT c7 h
    refine lv_iconst (v := (1 : Int32)) hx hb dX8_begin_21 (by decide) ?_
    refine lv_goto (tgt := 26) hx hb dX8_begin_22 (by decide) ?_
    exact T_xzret C h hP hD hS dX8_begin_26
set_option maxRecDepth 100000 in
theorem kX8_begin {l : Launch} (hl0 : l.stackTraces = false) (sz : Nat) {st : Nat → Nat} {D : va_G} {a : Nat → Nat} {cc : Nat → ClassId} {N : Nat} {x r : Int32} {σr : St} {σ : St} (h : fX8_begin N σ = some (x, r, σr)) : vy_Met l yX8_begin ((Cond.code yX8_begin cX8_begin 1 (some .boolean) :: WT)) rmX8_begin (T_Pc st D a cc [.ref (a 19)] σ sz) (T_Rxi D a cc (va_A (wT a cc σ) sz) x r σr) (T_X D a cc (va_A (wT a cc σ) sz) x σr) (va_A (wT a cc σ) sz) := by
  refine vy_ofW (cc := cX8_begin) (maxL := 1) (ret := (some .boolean)) (by decide) rfl ?_
  intro p e s m args below meth c s₁ B hml hxt hv
  obtain ⟨rfl, hsz, hP, hK, hD0, hTS⟩ := hv
  subst hsz
  have hl := lv_entry ([.ref (a 19)]) (n := 1) (Nat.le_of_ble_eq_true rfl)
  rw [lg_entry_eq]
  generalize (lg_sl ([.ref (a 19)]) ++ List.replicate (1 - (lg_sl ([.ref (a 19)])).length) Slot.unset).toArray = ls at hl ⊢
  exact tX8_begin ⟨B.exec, B.bytes, B.returns, hml, findClass_of_methodNamed B.named, atoms_spec (ws := (Cond.code yX8_begin cX8_begin 1 (some .boolean) :: WT)) B.pre, (fun w h => List.mem_cons_of_mem _ h), hK, B.notSynchronized, hTS, hl0⟩ (fun q h => Or.inr h) hxt h hP hD0.self va_S.rf hl
set_option maxHeartbeats 4000000 in
set_option maxRecDepth 100000 in
theorem tX8_step {st : Nat → Nat} {p : Program} {l : Launch} {e : Env} {s : State} {m : MethodId} {args : Array Value} {below : List Frame} {meth : Method} {c : Code} {D : va_G} {a : Nat → Nat} {cc : Nat → ClassId} {A : Nat → Prop} {N : Nat} {x r : Int32} {σr : St} (C : T_Cx st l A RX8 p s m args meth c D cc cX8_step (Cond.code yX8_step cX8_step 2 (some .int) :: WT) 2 (some .int)) (hA : ∀ q, s.heap.size ≤ q → A q) (hxt : ∀ x ∈ c.exceptionTable.toList, False) {σ : St} {p0 : Int32} {H : Heap} {locs : List Loc} {ls : Array Slot} (h : fX8_step N σ p0 = some (x, r, σr)) : va_P D vwCl (wT a cc σ) H → va_D A (wT a cc σ) → va_S A s.heap H locs → lv_has ls 2 [(0, .ref (a 19)), (1, .int p0)] → W p l e rmX8_step s m args below meth c H locs 0 0 (T_Mxi D a cc A below args s x r σr) (F0 m 0 ls []) := by
  obtain ⟨hx, hb, hr, hml, hown, hts, hin, hK, hlocks, hTS, hl0⟩ := id C
  intro hP hD hS hl
  refine lv_aload_n hx hb dX8_step_0 rfl (lv_at hl 0 rfl) ?_
  refine T_gfX8_72 C hP dX8_step_1 ?_
  obtain ⟨r2, σ1, hc, h⟩ := bnd_s h
  refine T_callNi (q0 := 24) (ci := 11) (As := []) (rest := []) C hA (fun sz => kX7_canGoOn hl0 sz hc) gX8_192 hP hD hS rfl rfl ⟨by decide, by decide⟩ ⟨rfl, rfl⟩ rfl hl.1 rfl (lv_room (Nat.le_of_ble_eq_true rfl)) dX8_step_4 (fun H locs hP hD hS => ?_)
  refine lv_if_ne (tgt := 20) hx hb dX8_step_7 (by decide) (fun c3 => ?_) (fun c3 => ?_)
  · have h := ifF c3 h
    refine lv_iload_n hx hb dX8_step_20 rfl (lv_at hl 1 rfl) ?_
    obtain ⟨r5, σ4, hc, h⟩ := bnd_s h
    refine T_callSi (As := [.int p0]) (rest := []) C hA (fun sz => kX8_isLetter hl0 sz hc) gX8_161 hP hD hS ⟨by decide, by decide⟩ ⟨rfl, rfl⟩ rfl hl.1 rfl (lv_room (Nat.le_of_ble_eq_true rfl)) dX8_step_21 (fun H locs hP hD hS => ?_)
    refine lv_if_ne (tgt := 37) hx hb dX8_step_24 (by decide) (fun c6 => ?_) (fun c6 => ?_)
    · have h := ifF c6 h
      refine lv_aload_n hx hb dX8_step_37 rfl (lv_at hl 0 rfl) ?_
      refine T_gfX8_72 C hP dX8_step_38 ?_
      refine lv_iload_n hx hb dX8_step_41 rfl (lv_at hl 1 rfl) ?_
      obtain ⟨σ7, hc, h⟩ := bnd1_s h
      refine T_callNv (q0 := 24) (ci := 11) (As := [.int p0]) (rest := []) C hA (fun sz => kX7_take hl0 sz hc) gX8_202 hP hD hS rfl rfl ⟨by decide, by decide⟩ ⟨rfl, rfl⟩ rfl hl.1 rfl (lv_room (Nat.le_of_ble_eq_true rfl)) dX8_step_42 (fun H locs hP hD hS => ?_)
      refine lv_aload_n hx hb dX8_step_45 rfl (lv_at hl 0 rfl) ?_
      refine T_gfX8_72 C hP dX8_step_46 ?_
      refine T_gfX8_205 C hP dX8_step_49 ?_
      exact T_xiret C h hP hD hS dX8_step_52
    · have h := ifT c6 h
      exact T_throwX8_156_200 C hA hxt h hP hD hS hl.1 ⟨by decide, by decide, by decide, by decide⟩ dX8_step_27 dX8_step_30 dX8_step_31 dX8_step_33 dX8_step_36
  · have h := ifT c3 h
    exact T_throwX8_195_197 C hA hxt h hP hD hS hl.1 ⟨by decide, by decide, by decide, by decide⟩ dX8_step_10 dX8_step_13 dX8_step_14 dX8_step_16 dX8_step_19
set_option maxRecDepth 100000 in
theorem kX8_step {l : Launch} (hl0 : l.stackTraces = false) (sz : Nat) {st : Nat → Nat} {D : va_G} {a : Nat → Nat} {cc : Nat → ClassId} {N : Nat} {x r : Int32} {σr : St} {σ : St} {p0 : Int32} (h : fX8_step N σ p0 = some (x, r, σr)) : vy_Met l yX8_step ((Cond.code yX8_step cX8_step 2 (some .int) :: WT)) rmX8_step (T_Pc st D a cc [.ref (a 19), .int p0] σ sz) (T_Rxi D a cc (va_A (wT a cc σ) sz) x r σr) (T_X D a cc (va_A (wT a cc σ) sz) x σr) (va_A (wT a cc σ) sz) := by
  refine vy_ofW (cc := cX8_step) (maxL := 2) (ret := (some .int)) (by decide) rfl ?_
  intro p e s m args below meth c s₁ B hml hxt hv
  obtain ⟨rfl, hsz, hP, hK, hD0, hTS⟩ := hv
  subst hsz
  have hl := lv_entry ([.ref (a 19), .int p0]) (n := 2) (Nat.le_of_ble_eq_true rfl)
  rw [lg_entry_eq]
  generalize (lg_sl ([.ref (a 19), .int p0]) ++ List.replicate (2 - (lg_sl ([.ref (a 19), .int p0])).length) Slot.unset).toArray = ls at hl ⊢
  exact tX8_step ⟨B.exec, B.bytes, B.returns, hml, findClass_of_methodNamed B.named, atoms_spec (ws := (Cond.code yX8_step cX8_step 2 (some .int) :: WT)) B.pre, (fun w h => List.mem_cons_of_mem _ h), hK, B.notSynchronized, hTS, hl0⟩ (fun q h => Or.inr h) hxt h hP hD0.self va_S.rf hl
set_option maxHeartbeats 4000000 in
set_option maxRecDepth 100000 in
theorem tX8_time {st : Nat → Nat} {p : Program} {l : Launch} {e : Env} {s : State} {m : MethodId} {args : Array Value} {below : List Frame} {meth : Method} {c : Code} {D : va_G} {a : Nat → Nat} {cc : Nat → ClassId} {A : Nat → Prop} {N : Nat} {r : Int32} {σr : St} (C : T_Cx st l A RX8 p s m args meth c D cc cX8_time (Cond.code yX8_time cX8_time 1 (some .int) :: WT) 1 (some .int)) (hA : ∀ q, s.heap.size ≤ q → A q) {σ : St} {H : Heap} {locs : List Loc} {ls : Array Slot} (h : fX8_time N σ = some (r, σr)) : va_P D vwCl (wT a cc σ) H → va_D A (wT a cc σ) → va_S A s.heap H locs → lv_has ls 1 [(0, .ref (a 19))] → W p l e rmX8_time s m args below meth c H locs 0 0 (T_Mi D a cc A below args s r σr) (F0 m 0 ls []) := by
  obtain ⟨hx, hb, hr, hml, hown, hts, hin, hK, hlocks, hTS, hl0⟩ := id C
  intro hP hD hS hl
  refine lv_aload_n hx hb dX8_time_0 rfl (lv_at hl 0 rfl) ?_
  refine T_gfX8_72 C hP dX8_time_1 ?_
  refine T_gfX8_208 C hP dX8_time_4 ?_
  refine lv_if_eq (tgt := 20) hx hb dX8_time_7 (by decide) (fun c1 => ?_) (fun c1 => ?_)
  · have h := ifT c1 h
    refine lv_iconst (v := (-1 : Int32)) hx hb dX8_time_20 (by decide) ?_
    exact T_iret C h hP hD hS dX8_time_21
  · have h := ifF c1 h
    refine lv_aload_n hx hb dX8_time_10 rfl (lv_at hl 0 rfl) ?_
    refine T_gfX8_72 C hP dX8_time_11 ?_
    refine T_gfX8_211 C hP dX8_time_14 ?_
    refine lv_goto (tgt := 21) hx hb dX8_time_17 (by decide) ?_
    exact T_iret C h hP hD hS dX8_time_21
set_option maxRecDepth 100000 in
theorem kX8_time {l : Launch} (hl0 : l.stackTraces = false) (sz : Nat) {st : Nat → Nat} {D : va_G} {a : Nat → Nat} {cc : Nat → ClassId} {N : Nat} {r : Int32} {σr : St} {σ : St} (h : fX8_time N σ = some (r, σr)) : Met l yX8_time ((Cond.code yX8_time cX8_time 1 (some .int) :: WT)) rmX8_time (T_Pc st D a cc [.ref (a 19)] σ sz) (T_Qi D a cc σ sz r σr) 0 0 (va_A (wT a cc σ) sz) := by
  refine Met.ofW (cc := cX8_time) (maxL := 1) (ret := (some .int)) (by decide) rfl ?_
  intro p e s m args below meth c s₁ B hml hv
  obtain ⟨rfl, hsz, hP, hK, hD0, hTS⟩ := hv
  subst hsz
  have hl := lv_entry ([.ref (a 19)]) (n := 1) (Nat.le_of_ble_eq_true rfl)
  rw [lg_entry_eq]
  generalize (lg_sl ([.ref (a 19)]) ++ List.replicate (1 - (lg_sl ([.ref (a 19)])).length) Slot.unset).toArray = ls at hl ⊢
  exact tX8_time ⟨B.exec, B.bytes, B.returns, hml, findClass_of_methodNamed B.named, atoms_spec (ws := (Cond.code yX8_time cX8_time 1 (some .int) :: WT)) B.pre, (fun w h => List.mem_cons_of_mem _ h), hK, B.notSynchronized, hTS, hl0⟩ (fun q h => Or.inr h) h hP hD0.self va_S.rf hl
set_option maxHeartbeats 4000000 in
set_option maxRecDepth 100000 in
theorem tX8_window {st : Nat → Nat} {p : Program} {l : Launch} {e : Env} {s : State} {m : MethodId} {args : Array Value} {below : List Frame} {meth : Method} {c : Code} {D : va_G} {a : Nat → Nat} {cc : Nat → ClassId} {A : Nat → Prop} {N : Nat} {r : Int32} {σr : St} (C : T_Cx st l A RX8 p s m args meth c D cc cX8_window (Cond.code yX8_window cX8_window 1 (some .int) :: WT) 1 (some .int)) (hA : ∀ q, s.heap.size ≤ q → A q) {σ : St} {H : Heap} {locs : List Loc} {ls : Array Slot} (h : fX8_window N σ = some (r, σr)) : va_P D vwCl (wT a cc σ) H → va_D A (wT a cc σ) → va_S A s.heap H locs → lv_has ls 1 [(0, .ref (a 19))] → W p l e rmX8_window s m args below meth c H locs 0 0 (T_Mi D a cc A below args s r σr) (F0 m 0 ls []) := by
  obtain ⟨hx, hb, hr, hml, hown, hts, hin, hK, hlocks, hTS, hl0⟩ := id C
  intro hP hD hS hl
  refine lv_aload_n hx hb dX8_window_0 rfl (lv_at hl 0 rfl) ?_
  refine T_gfX8_72 C hP dX8_window_1 ?_
  obtain ⟨r2, σ1, hc, h⟩ := bnd_s h
  refine T_callNi (q0 := 24) (ci := 11) (As := []) (rest := []) C hA (fun sz => kX7_hasFailed hl0 sz hc) gX8_188 hP hD hS rfl rfl ⟨by decide, by decide⟩ ⟨rfl, rfl⟩ rfl hl.1 rfl (lv_room (Nat.le_of_ble_eq_true rfl)) dX8_window_4 (fun H locs hP hD hS => ?_)
  refine lv_if_eq (tgt := 20) hx hb dX8_window_7 (by decide) (fun c3 => ?_) (fun c3 => ?_)
  · have h := ifT c3 h
    refine lv_iconst (v := (-1 : Int32)) hx hb dX8_window_20 (by decide) ?_
    exact T_iret C h hP hD hS dX8_window_21
  · have h := ifF c3 h
    refine lv_aload_n hx hb dX8_window_10 rfl (lv_at hl 0 rfl) ?_
    refine T_gfX8_72 C hP dX8_window_11 ?_
    obtain ⟨r5, σ4, hc, h⟩ := bnd_s h
    refine T_callNi (q0 := 24) (ci := 11) (As := []) (rest := []) C hA (fun sz => kX7_shortestFailingEnd hl0 sz hc) gX8_214 hP hD hS rfl rfl ⟨by decide, by decide⟩ ⟨rfl, rfl⟩ rfl hl.1 rfl (lv_room (Nat.le_of_ble_eq_true rfl)) dX8_window_14 (fun H locs hP hD hS => ?_)
    refine lv_goto (tgt := 21) hx hb dX8_window_17 (by decide) ?_
    exact T_iret C h hP hD hS dX8_window_21
set_option maxRecDepth 100000 in
theorem kX8_window {l : Launch} (hl0 : l.stackTraces = false) (sz : Nat) {st : Nat → Nat} {D : va_G} {a : Nat → Nat} {cc : Nat → ClassId} {N : Nat} {r : Int32} {σr : St} {σ : St} (h : fX8_window N σ = some (r, σr)) : Met l yX8_window ((Cond.code yX8_window cX8_window 1 (some .int) :: WT)) rmX8_window (T_Pc st D a cc [.ref (a 19)] σ sz) (T_Qi D a cc σ sz r σr) 0 0 (va_A (wT a cc σ) sz) := by
  refine Met.ofW (cc := cX8_window) (maxL := 1) (ret := (some .int)) (by decide) rfl ?_
  intro p e s m args below meth c s₁ B hml hv
  obtain ⟨rfl, hsz, hP, hK, hD0, hTS⟩ := hv
  subst hsz
  have hl := lv_entry ([.ref (a 19)]) (n := 1) (Nat.le_of_ble_eq_true rfl)
  rw [lg_entry_eq]
  generalize (lg_sl ([.ref (a 19)]) ++ List.replicate (1 - (lg_sl ([.ref (a 19)])).length) Slot.unset).toArray = ls at hl ⊢
  exact tX8_window ⟨B.exec, B.bytes, B.returns, hml, findClass_of_methodNamed B.named, atoms_spec (ws := (Cond.code yX8_window cX8_window 1 (some .int) :: WT)) B.pre, (fun w h => List.mem_cons_of_mem _ h), hK, B.notSynchronized, hTS, hl0⟩ (fun q h => Or.inr h) h hP hD0.self va_S.rf hl
set_option maxHeartbeats 4000000 in
set_option maxRecDepth 100000 in
theorem tX8_loop_35 {st : Nat → Nat} {p : Program} {l : Launch} {e : Env} {s : State} {m : MethodId} {args : Array Value} {below : List Frame} {meth : Method} {c : Code} {D : va_G} {a : Nat → Nat} {cc : Nat → ClassId} {A : Nat → Prop} {N : Nat} {x r : Int32} {σr : St} (C : T_Cx st l A RX8 p s m args meth c D cc cX8_loop (Cond.code yX8_loop cX8_loop 2 (some .boolean) :: WT) 2 (some .boolean)) (hA : ∀ q, s.heap.size ≤ q → A q) (hxt : ∀ x ∈ c.exceptionTable.toList, False) {σ : St} {H : Heap} {locs : List Loc} {ls : Array Slot} (h : fX8_loop_35 N σ = some (x, r, σr)) : va_P D vwCl (wT a cc σ) H → va_D A (wT a cc σ) → va_S A s.heap H locs → lv_has ls 2 [] → W p l e rmX8_loop s m args below meth c H locs 0 0 (T_Mxi D a cc A below args s x r σr) (F0 m 35 ls []) := by
  obtain ⟨hx, hb, hr, hml, hown, hts, hin, hK, hlocks, hTS, hl0⟩ := id C
  intro hP hD hS hl
  exact T_throwX8_176_219 C hA hxt h hP hD hS hl.1 ⟨by decide, by decide, by decide, by decide⟩ dX8_loop_35 dX8_loop_38 dX8_loop_39 dX8_loop_41 dX8_loop_44
set_option maxHeartbeats 4000000 in
set_option maxRecDepth 100000 in
theorem tX8_loop {st : Nat → Nat} {p : Program} {l : Launch} {e : Env} {s : State} {m : MethodId} {args : Array Value} {below : List Frame} {meth : Method} {c : Code} {D : va_G} {a : Nat → Nat} {cc : Nat → ClassId} {A : Nat → Prop} {N : Nat} {x r : Int32} {σr : St} (C : T_Cx st l A RX8 p s m args meth c D cc cX8_loop (Cond.code yX8_loop cX8_loop 2 (some .boolean) :: WT) 2 (some .boolean)) (hA : ∀ q, s.heap.size ≤ q → A q) (hxt : ∀ x ∈ c.exceptionTable.toList, False) {σ : St} {p0 : Int32} {H : Heap} {locs : List Loc} {ls : Array Slot} (h : fX8_loop N σ p0 = some (x, r, σr)) : va_P D vwCl (wT a cc σ) H → va_D A (wT a cc σ) → va_S A s.heap H locs → lv_has ls 2 [(0, .ref (a 19)), (1, .int p0)] → W p l e rmX8_loop s m args below meth c H locs 0 0 (T_Mxi D a cc A below args s x r σr) (F0 m 0 ls []) := by
  obtain ⟨hx, hb, hr, hml, hown, hts, hin, hK, hlocks, hTS, hl0⟩ := id C
  intro hP hD hS hl
  refine lv_aload_n hx hb dX8_loop_0 rfl (lv_at hl 0 rfl) ?_
  refine T_gfX8_72 C hP dX8_loop_1 ?_
  refine T_gfX8_208 C hP dX8_loop_4 ?_
  refine lv_if_ne (tgt := 20) hx hb dX8_loop_7 (by decide) (fun c1 => ?_) (fun c1 => ?_)
  · have h := ifF c1 h
    refine lv_iload_n hx hb dX8_loop_20 rfl (lv_at hl 1 rfl) ?_
    refine lv_if_lt (tgt := 35) hx hb dX8_loop_21 (by decide) (fun c2 => ?_) (fun c2 => ?_)
    · have h := ifT c2 h
      exact tX8_loop_35 C hA hxt h hP hD hS (lv_sub hl [] rfl)
    · have h := ifF c2 h
      refine lv_iload_n hx hb dX8_loop_24 rfl (lv_at hl 1 rfl) ?_
      refine lv_aload_n hx hb dX8_loop_25 rfl (lv_at hl 0 rfl) ?_
      refine T_gfX8_72 C hP dX8_loop_26 ?_
      refine T_gfX8_211 C hP dX8_loop_29 ?_
      refine lv_icmp_lt (tgt := 45) hx hb dX8_loop_32 (by decide) (fun c3 => ?_) (fun c3 => ?_)
      · have h := ifT c3 h
        refine lv_aload_n hx hb dX8_loop_45 rfl (lv_at hl 0 rfl) ?_
        refine T_gfX8_72 C hP dX8_loop_46 ?_
        refine lv_iload_n hx hb dX8_loop_49 rfl (lv_at hl 1 rfl) ?_
        obtain ⟨r5, σ4, hc, h⟩ := bnd_s h
        refine T_callNi (q0 := 24) (ci := 11) (As := [.int p0]) (rest := []) C hA (fun sz => kX7_holdsRepeating hl0 sz hc) gX8_221 hP hD hS rfl rfl ⟨by decide, by decide⟩ ⟨rfl, rfl⟩ rfl hl.1 rfl (lv_room (Nat.le_of_ble_eq_true rfl)) dX8_loop_50 (fun H locs hP hD hS => ?_)
        exact T_xzret C h hP hD hS dX8_loop_53
      · have h := ifF c3 h
        exact tX8_loop_35 C hA hxt h hP hD hS (lv_sub hl [] rfl)
  · have h := ifT c1 h
    exact T_throwX8_195_217 C hA hxt h hP hD hS hl.1 ⟨by decide, by decide, by decide, by decide⟩ dX8_loop_10 dX8_loop_13 dX8_loop_14 dX8_loop_16 dX8_loop_19
set_option maxRecDepth 100000 in
theorem kX8_loop {l : Launch} (hl0 : l.stackTraces = false) (sz : Nat) {st : Nat → Nat} {D : va_G} {a : Nat → Nat} {cc : Nat → ClassId} {N : Nat} {x r : Int32} {σr : St} {σ : St} {p0 : Int32} (h : fX8_loop N σ p0 = some (x, r, σr)) : vy_Met l yX8_loop ((Cond.code yX8_loop cX8_loop 2 (some .boolean) :: WT)) rmX8_loop (T_Pc st D a cc [.ref (a 19), .int p0] σ sz) (T_Rxi D a cc (va_A (wT a cc σ) sz) x r σr) (T_X D a cc (va_A (wT a cc σ) sz) x σr) (va_A (wT a cc σ) sz) := by
  refine vy_ofW (cc := cX8_loop) (maxL := 2) (ret := (some .boolean)) (by decide) rfl ?_
  intro p e s m args below meth c s₁ B hml hxt hv
  obtain ⟨rfl, hsz, hP, hK, hD0, hTS⟩ := hv
  subst hsz
  have hl := lv_entry ([.ref (a 19), .int p0]) (n := 2) (Nat.le_of_ble_eq_true rfl)
  rw [lg_entry_eq]
  generalize (lg_sl ([.ref (a 19), .int p0]) ++ List.replicate (2 - (lg_sl ([.ref (a 19), .int p0])).length) Slot.unset).toArray = ls at hl ⊢
  exact tX8_loop ⟨B.exec, B.bytes, B.returns, hml, findClass_of_methodNamed B.named, atoms_spec (ws := (Cond.code yX8_loop cX8_loop 2 (some .boolean) :: WT)) B.pre, (fun w h => List.mem_cons_of_mem _ h), hK, B.notSynchronized, hTS, hl0⟩ (fun q h => Or.inr h) hxt h hP hD0.self va_S.rf hl
set_option maxHeartbeats 4000000 in
set_option maxRecDepth 100000 in
theorem tX8_write {st : Nat → Nat} {p : Program} {l : Launch} {e : Env} {s : State} {m : MethodId} {args : Array Value} {below : List Frame} {meth : Method} {c : Code} {D : va_G} {a : Nat → Nat} {cc : Nat → ClassId} {A : Nat → Prop} {N : Nat} {σr : St} (C : T_Cx st l A RX8 p s m args meth c D cc cX8_write (Cond.code yX8_write cX8_write 3 none :: WT) 3 none) (hA : ∀ q, s.heap.size ≤ q → A q) {σ : St} {p0 : Nat} {p1 : Int32} {H : Heap} {locs : List Loc} {ls : Array Slot} (h : fX8_write N σ p0 p1 = some σr) : va_P D vwCl (wT a cc σ) H → va_D A (wT a cc σ) → va_S A s.heap H locs → lv_has ls 3 [(0, .ref (a 19)), (1, .ref (st (10 + p0))), (2, .int p1)] → W p l e rmX8_write s m args below meth c H locs 0 0 (T_Mv D a cc A below args s σr) (F0 m 0 ls []) := by
  obtain ⟨hx, hb, hr, hml, hown, hts, hin, hK, hlocks, hTS, hl0⟩ := id C
  intro hP hD hS hl
  refine lv_aload_n hx hb dX8_write_0 rfl (lv_at hl 0 rfl) ?_
  refine T_gfX8_79 C hP dX8_write_1 ?_
  refine lv_aload_n hx hb dX8_write_4 rfl (lv_at hl 1 rfl) ?_
  obtain ⟨σ1, hc, h⟩ := bnd1_s h
  refine T_callVr (q0 := 26) (ci := 1) (As := [.ref (st (10 + p0))]) (rest := []) C hA (fun sz => kJ4_append_15ec4 hl0 sz hc) gX8_229 hP hD hS rfl rfl ⟨by decide, by decide⟩ ⟨rfl, rfl⟩ rfl hl.1 rfl (lv_room (Nat.le_of_ble_eq_true rfl)) dX8_write_5 (fun H locs hP hD hS => ?_)
  refine lv_pop hx hb dX8_write_8 rfl ?_
  refine lv_aload_n hx hb dX8_write_9 rfl (lv_at hl 0 rfl) ?_
  refine T_gfX8_79 C hP dX8_write_10 ?_
  refine lv_iload_n hx hb dX8_write_13 rfl (lv_at hl 2 rfl) ?_
  obtain ⟨σ2, hc, h⟩ := bnd1_s h
  refine T_callVr (q0 := 26) (ci := 1) (As := [.int p1]) (rest := []) C hA (fun sz => kJ4_append_bf812 hl0 sz hc) gX8_253 hP hD hS rfl rfl ⟨by decide, by decide⟩ ⟨rfl, rfl⟩ rfl hl.1 rfl (lv_room (Nat.le_of_ble_eq_true rfl)) dX8_write_14 (fun H locs hP hD hS => ?_)
  refine lv_pop hx hb dX8_write_17 rfl ?_
  exact T_vret C h hP hD hS dX8_write_18
set_option maxRecDepth 100000 in
theorem kX8_write {l : Launch} (hl0 : l.stackTraces = false) (sz : Nat) {st : Nat → Nat} {D : va_G} {a : Nat → Nat} {cc : Nat → ClassId} {N : Nat} {σr : St} {σ : St} {p0 : Nat} {p1 : Int32} (h : fX8_write N σ p0 p1 = some σr) : Met l yX8_write ((Cond.code yX8_write cX8_write 3 none :: WT)) rmX8_write (T_Pc st D a cc [.ref (a 19), .ref (st (10 + p0)), .int p1] σ sz) (T_Qv D a cc σ sz σr) 0 0 (va_A (wT a cc σ) sz) := by
  refine Met.ofW (cc := cX8_write) (maxL := 3) (ret := none) (by decide) rfl ?_
  intro p e s m args below meth c s₁ B hml hv
  obtain ⟨rfl, hsz, hP, hK, hD0, hTS⟩ := hv
  subst hsz
  have hl := lv_entry ([.ref (a 19), .ref (st (10 + p0)), .int p1]) (n := 3) (Nat.le_of_ble_eq_true rfl)
  rw [lg_entry_eq]
  generalize (lg_sl ([.ref (a 19), .ref (st (10 + p0)), .int p1]) ++ List.replicate (3 - (lg_sl ([.ref (a 19), .ref (st (10 + p0)), .int p1])).length) Slot.unset).toArray = ls at hl ⊢
  exact tX8_write ⟨B.exec, B.bytes, B.returns, hml, findClass_of_methodNamed B.named, atoms_spec (ws := (Cond.code yX8_write cX8_write 3 none :: WT)) B.pre, (fun w h => List.mem_cons_of_mem _ h), hK, B.notSynchronized, hTS, hl0⟩ (fun q h => Or.inr h) h hP hD0.self va_S.rf hl
set_option maxHeartbeats 4000000 in
set_option maxRecDepth 100000 in
theorem tX8_report_119 {st : Nat → Nat} {p : Program} {l : Launch} {e : Env} {s : State} {m : MethodId} {args : Array Value} {below : List Frame} {meth : Method} {c : Code} {D : va_G} {a : Nat → Nat} {cc : Nat → ClassId} {A : Nat → Prop} {N : Nat} {r : Int32} {σr : St} (C : T_Cx st l A RX8 p s m args meth c D cc cX8_report (Cond.code yX8_report cX8_report 1 (some .int) :: WT) 1 (some .int)) (hA : ∀ q, s.heap.size ≤ q → A q) {σ : St} {H : Heap} {locs : List Loc} {ls : Array Slot} (h : fX8_report_119 N σ = some (r, σr)) : va_P D vwCl (wT a cc σ) H → va_D A (wT a cc σ) → va_S A s.heap H locs → lv_has ls 1 [(0, .ref (a 19))] → W p l e rmX8_report s m args below meth c H locs 0 0 (T_Mi D a cc A below args s r σr) (F0 m 119 ls []) := by
  obtain ⟨hx, hb, hr, hml, hown, hts, hin, hK, hlocks, hTS, hl0⟩ := id C
  intro hP hD hS hl
  refine lv_aload_n hx hb dX8_report_119 rfl (lv_at hl 0 rfl) ?_
  refine T_gfX8_79 C hP dX8_report_120 ?_
  obtain ⟨r16, σ15, hc, h⟩ := bnd_s h
  refine T_callVi (q0 := 26) (ci := 1) (As := []) (rest := []) C hA (fun sz => kJ4_length_8abf5 hl0 sz hc) gX8_247 hP hD hS rfl rfl ⟨by decide, by decide⟩ ⟨rfl, rfl⟩ rfl hl.1 rfl (lv_room (Nat.le_of_ble_eq_true rfl)) dX8_report_123 (fun H locs hP hD hS => ?_)
  exact T_iret C h hP hD hS dX8_report_126
set_option maxHeartbeats 4000000 in
set_option maxRecDepth 100000 in
theorem tX8_report {st : Nat → Nat} {p : Program} {l : Launch} {e : Env} {s : State} {m : MethodId} {args : Array Value} {below : List Frame} {meth : Method} {c : Code} {D : va_G} {a : Nat → Nat} {cc : Nat → ClassId} {A : Nat → Prop} {N : Nat} {r : Int32} {σr : St} (C : T_Cx st l A RX8 p s m args meth c D cc cX8_report (Cond.code yX8_report cX8_report 1 (some .int) :: WT) 1 (some .int)) (hA : ∀ q, s.heap.size ≤ q → A q) {σ : St} {H : Heap} {locs : List Loc} {ls : Array Slot} (h : fX8_report N σ = some (r, σr)) : va_P D vwCl (wT a cc σ) H → va_D A (wT a cc σ) → va_S A s.heap H locs → lv_has ls 1 [(0, .ref (a 19))] → W p l e rmX8_report s m args below meth c H locs 0 0 (T_Mi D a cc A below args s r σr) (F0 m 0 ls []) := by
  obtain ⟨hx, hb, hr, hml, hown, hts, hin, hK, hlocks, hTS, hl0⟩ := id C
  intro hP hD hS hl
  refine lv_aload_n hx hb dX8_report_0 rfl (lv_at hl 0 rfl) ?_
  refine T_gfX8_79 C hP dX8_report_1 ?_
  refine lv_iconst (v := (0 : Int32)) hx hb dX8_report_4 (by decide) ?_
  obtain ⟨σ1, hc, h⟩ := bnd1_s h
  refine T_callVv (q0 := 26) (ci := 1) (As := [.int (0 : Int32)]) (rest := []) C hA (fun sz => kJ4_setLength_d00df hl0 sz hc) gX8_224 hP hD hS rfl rfl ⟨by decide, by decide⟩ ⟨rfl, rfl⟩ rfl hl.1 rfl (lv_room (Nat.le_of_ble_eq_true rfl)) dX8_report_5 (fun H locs hP hD hS => ?_)
  refine lv_aload_n hx hb dX8_report_8 rfl (lv_at hl 0 rfl) ?_
  refine T_gfX8_83 C hP dX8_report_9 ?_
  refine lv_if_ne (tgt := 28) hx hb dX8_report_12 (by decide) (fun c2 => ?_) (fun c2 => ?_)
  · have h := ifF c2 h
    refine lv_aload_n hx hb dX8_report_28 rfl (lv_at hl 0 rfl) ?_
    refine T_gfX8_72 C hP dX8_report_29 ?_
    refine T_gfX8_208 C hP dX8_report_32 ?_
    refine lv_if_ne (tgt := 54) hx hb dX8_report_35 (by decide) (fun c3 => ?_) (fun c3 => ?_)
    · have h := ifF c3 h
      refine lv_aload_n hx hb dX8_report_54 rfl (lv_at hl 0 rfl) ?_
      refine T_gfX8_72 C hP dX8_report_55 ?_
      obtain ⟨r5, σ4, hc, h⟩ := bnd_s h
      refine T_callNi (q0 := 24) (ci := 11) (As := []) (rest := []) C hA (fun sz => kX7_hasFailed hl0 sz hc) gX8_188 hP hD hS rfl rfl ⟨by decide, by decide⟩ ⟨rfl, rfl⟩ rfl hl.1 rfl (lv_room (Nat.le_of_ble_eq_true rfl)) dX8_report_58 (fun H locs hP hD hS => ?_)
      refine lv_if_eq (tgt := 93) hx hb dX8_report_61 (by decide) (fun c6 => ?_) (fun c6 => ?_)
      · have h := ifT c6 h
        refine lv_aload_n hx hb dX8_report_93 rfl (lv_at hl 0 rfl) ?_
        refine T_ldcS C (List.mem_of_getElem? (i := 5) rfl) dX8_report_94 ?_
        refine lv_aload_n hx hb dX8_report_96 rfl (lv_at hl 0 rfl) ?_
        refine T_gfX8_72 C hP dX8_report_97 ?_
        refine T_gfX8_211 C hP dX8_report_100 ?_
        obtain ⟨σ7, hc, h⟩ := bnd1_s h
        refine T_callVv (q0 := 0) (ci := 12) (As := [.ref (st (10 + 5)), .int (gI σ4 93 0)]) (rest := []) C hA (fun sz => kX8_write hl0 sz hc) gX8_235 hP hD hS rfl rfl ⟨by decide, by decide⟩ ⟨rfl, rfl⟩ rfl hl.1 rfl (lv_room (Nat.le_of_ble_eq_true rfl)) dX8_report_103 (fun H locs hP hD hS => ?_)
        refine lv_aload_n hx hb dX8_report_106 rfl (lv_at hl 0 rfl) ?_
        refine T_ldcS C (List.mem_of_getElem? (i := 6) rfl) dX8_report_107 ?_
        refine lv_aload_n hx hb dX8_report_109 rfl (lv_at hl 0 rfl) ?_
        refine T_gfX8_72 C hP dX8_report_110 ?_
        refine T_gfX8_205 C hP dX8_report_113 ?_
        obtain ⟨σ8, hc, h⟩ := bnd1_s h
        refine T_callVv (q0 := 0) (ci := 12) (As := [.ref (st (10 + 6)), .int (gI σ7 94 0)]) (rest := []) C hA (fun sz => kX8_write hl0 sz hc) gX8_235 hP hD hS rfl rfl ⟨by decide, by decide⟩ ⟨rfl, rfl⟩ rfl hl.1 rfl (lv_room (Nat.le_of_ble_eq_true rfl)) dX8_report_116 (fun H locs hP hD hS => ?_)
        exact tX8_report_119 C hA h hP hD hS (lv_sub hl [0] rfl)
      · have h := ifF c6 h
        refine lv_aload_n hx hb dX8_report_64 rfl (lv_at hl 0 rfl) ?_
        refine T_ldcS C (List.mem_of_getElem? (i := 3) rfl) dX8_report_65 ?_
        refine lv_aload_n hx hb dX8_report_67 rfl (lv_at hl 0 rfl) ?_
        refine T_gfX8_72 C hP dX8_report_68 ?_
        refine T_gfX8_211 C hP dX8_report_71 ?_
        obtain ⟨σ9, hc, h⟩ := bnd1_s h
        refine T_callVv (q0 := 0) (ci := 12) (As := [.ref (st (10 + 3)), .int (gI σ4 93 0)]) (rest := []) C hA (fun sz => kX8_write hl0 sz hc) gX8_235 hP hD hS rfl rfl ⟨by decide, by decide⟩ ⟨rfl, rfl⟩ rfl hl.1 rfl (lv_room (Nat.le_of_ble_eq_true rfl)) dX8_report_74 (fun H locs hP hD hS => ?_)
        refine lv_aload_n hx hb dX8_report_77 rfl (lv_at hl 0 rfl) ?_
        refine T_ldcS C (List.mem_of_getElem? (i := 4) rfl) dX8_report_78 ?_
        refine lv_aload_n hx hb dX8_report_80 rfl (lv_at hl 0 rfl) ?_
        refine T_gfX8_72 C hP dX8_report_81 ?_
        obtain ⟨r11, σ10, hc, h⟩ := bnd_s h
        refine T_callNi (q0 := 24) (ci := 11) (As := []) (rest := [.ref (st (10 + 4)), .ref (a 19)]) C hA (fun sz => kX7_shortestFailingEnd hl0 sz hc) gX8_214 hP hD hS rfl rfl ⟨by decide, by decide⟩ ⟨rfl, rfl⟩ rfl hl.1 rfl (lv_room (Nat.le_of_ble_eq_true rfl)) dX8_report_84 (fun H locs hP hD hS => ?_)
        obtain ⟨σ12, hc, h⟩ := bnd1_s h
        refine T_callVv (q0 := 0) (ci := 12) (As := [.ref (st (10 + 4)), .int r11]) (rest := []) C hA (fun sz => kX8_write hl0 sz hc) gX8_235 hP hD hS rfl rfl ⟨by decide, by decide⟩ ⟨rfl, rfl⟩ rfl hl.1 rfl (lv_room (Nat.le_of_ble_eq_true rfl)) dX8_report_87 (fun H locs hP hD hS => ?_)
        refine lv_goto (tgt := 119) hx hb dX8_report_90 (by decide) ?_
        exact tX8_report_119 C hA h hP hD hS (lv_sub hl [0] rfl)
    · have h := ifT c3 h
      refine lv_aload_n hx hb dX8_report_38 rfl (lv_at hl 0 rfl) ?_
      refine T_ldcS C (List.mem_of_getElem? (i := 2) rfl) dX8_report_39 ?_
      refine lv_aload_n hx hb dX8_report_41 rfl (lv_at hl 0 rfl) ?_
      refine T_gfX8_56 C hP dX8_report_42 ?_
      refine T_gfX8_141 C hP dX8_report_45 ?_
      obtain ⟨σ13, hc, h⟩ := bnd1_s h
      refine T_callVv (q0 := 0) (ci := 12) (As := [.ref (st (10 + 2)), .int (gI σ1 71 0)]) (rest := []) C hA (fun sz => kX8_write hl0 sz hc) gX8_235 hP hD hS rfl rfl ⟨by decide, by decide⟩ ⟨rfl, rfl⟩ rfl hl.1 rfl (lv_room (Nat.le_of_ble_eq_true rfl)) dX8_report_48 (fun H locs hP hD hS => ?_)
      refine lv_goto (tgt := 119) hx hb dX8_report_51 (by decide) ?_
      exact tX8_report_119 C hA h hP hD hS (lv_sub hl [0] rfl)
  · have h := ifT c2 h
    refine lv_aload_n hx hb dX8_report_15 rfl (lv_at hl 0 rfl) ?_
    refine T_gfX8_79 C hP dX8_report_16 ?_
    refine T_ldcS C (List.mem_of_getElem? (i := 1) rfl) dX8_report_19 ?_
    obtain ⟨σ14, hc, h⟩ := bnd1_s h
    refine T_callVr (q0 := 26) (ci := 1) (As := [.ref (st (10 + 1))]) (rest := []) C hA (fun sz => kJ4_append_15ec4 hl0 sz hc) gX8_229 hP hD hS rfl rfl ⟨by decide, by decide⟩ ⟨rfl, rfl⟩ rfl hl.1 rfl (lv_room (Nat.le_of_ble_eq_true rfl)) dX8_report_21 (fun H locs hP hD hS => ?_)
    refine lv_pop hx hb dX8_report_24 rfl ?_
    refine lv_goto (tgt := 119) hx hb dX8_report_25 (by decide) ?_
    exact tX8_report_119 C hA h hP hD hS (lv_sub hl [0] rfl)
set_option maxRecDepth 100000 in
theorem kX8_report {l : Launch} (hl0 : l.stackTraces = false) (sz : Nat) {st : Nat → Nat} {D : va_G} {a : Nat → Nat} {cc : Nat → ClassId} {N : Nat} {r : Int32} {σr : St} {σ : St} (h : fX8_report N σ = some (r, σr)) : Met l yX8_report ((Cond.code yX8_report cX8_report 1 (some .int) :: WT)) rmX8_report (T_Pc st D a cc [.ref (a 19)] σ sz) (T_Qi D a cc σ sz r σr) 0 0 (va_A (wT a cc σ) sz) := by
  refine Met.ofW (cc := cX8_report) (maxL := 1) (ret := (some .int)) (by decide) rfl ?_
  intro p e s m args below meth c s₁ B hml hv
  obtain ⟨rfl, hsz, hP, hK, hD0, hTS⟩ := hv
  subst hsz
  have hl := lv_entry ([.ref (a 19)]) (n := 1) (Nat.le_of_ble_eq_true rfl)
  rw [lg_entry_eq]
  generalize (lg_sl ([.ref (a 19)]) ++ List.replicate (1 - (lg_sl ([.ref (a 19)])).length) Slot.unset).toArray = ls at hl ⊢
  exact tX8_report ⟨B.exec, B.bytes, B.returns, hml, findClass_of_methodNamed B.named, atoms_spec (ws := (Cond.code yX8_report cX8_report 1 (some .int) :: WT)) B.pre, (fun w h => List.mem_cons_of_mem _ h), hK, B.notSynchronized, hTS, hl0⟩ (fun q h => Or.inr h) h hP hD0.self va_S.rf hl
set_option maxHeartbeats 4000000 in
set_option maxRecDepth 100000 in
theorem tX8_said_26 {st : Nat → Nat} {p : Program} {l : Launch} {e : Env} {s : State} {m : MethodId} {args : Array Value} {below : List Frame} {meth : Method} {c : Code} {D : va_G} {a : Nat → Nat} {cc : Nat → ClassId} {A : Nat → Prop} {N : Nat} {r : Int32} {σr : St} (C : T_Cx st l A RX8 p s m args meth c D cc cX8_said (Cond.code yX8_said cX8_said 2 (some .char) :: WT) 2 (some .char)) (hA : ∀ q, s.heap.size ≤ q → A q) {σ : St} {H : Heap} {locs : List Loc} {ls : Array Slot} (h : fX8_said_26 N σ = some (r, σr)) : va_P D vwCl (wT a cc σ) H → va_D A (wT a cc σ) → va_S A s.heap H locs → lv_has ls 2 [] → W p l e rmX8_said s m args below meth c H locs 0 0 (T_Mi D a cc A below args s r σr) (F0 m 26 ls []) := by
  obtain ⟨hx, hb, hr, hml, hown, hts, hin, hK, hlocks, hTS, hl0⟩ := id C
  intro hP hD hS hl
  refine lv_iconst (v := (0 : Int32)) hx hb dX8_said_26 (by decide) ?_
  exact T_zretC C h hP hD hS dX8_said_27
set_option maxHeartbeats 4000000 in
set_option maxRecDepth 100000 in
theorem tX8_said {st : Nat → Nat} {p : Program} {l : Launch} {e : Env} {s : State} {m : MethodId} {args : Array Value} {below : List Frame} {meth : Method} {c : Code} {D : va_G} {a : Nat → Nat} {cc : Nat → ClassId} {A : Nat → Prop} {N : Nat} {r : Int32} {σr : St} (C : T_Cx st l A RX8 p s m args meth c D cc cX8_said (Cond.code yX8_said cX8_said 2 (some .char) :: WT) 2 (some .char)) (hA : ∀ q, s.heap.size ≤ q → A q) {σ : St} {p0 : Int32} {H : Heap} {locs : List Loc} {ls : Array Slot} (h : fX8_said N σ p0 = some (r, σr)) : va_P D vwCl (wT a cc σ) H → va_D A (wT a cc σ) → va_S A s.heap H locs → lv_has ls 2 [(0, .ref (a 19)), (1, .int p0)] → W p l e rmX8_said s m args below meth c H locs 0 0 (T_Mi D a cc A below args s r σr) (F0 m 0 ls []) := by
  obtain ⟨hx, hb, hr, hml, hown, hts, hin, hK, hlocks, hTS, hl0⟩ := id C
  intro hP hD hS hl
  refine lv_iload_n hx hb dX8_said_0 rfl (lv_at hl 1 rfl) ?_
  refine lv_if_lt (tgt := 26) hx hb dX8_said_1 (by decide) (fun c1 => ?_) (fun c1 => ?_)
  · have h := ifT c1 h
    exact tX8_said_26 C hA h hP hD hS (lv_sub hl [] rfl)
  · have h := ifF c1 h
    refine lv_iload_n hx hb dX8_said_4 rfl (lv_at hl 1 rfl) ?_
    refine lv_aload_n hx hb dX8_said_5 rfl (lv_at hl 0 rfl) ?_
    refine T_gfX8_79 C hP dX8_said_6 ?_
    obtain ⟨r3, σ2, hc, h⟩ := bnd_s h
    refine T_callVi (q0 := 26) (ci := 1) (As := []) (rest := [.int p0]) C hA (fun sz => kJ4_length_8abf5 hl0 sz hc) gX8_247 hP hD hS rfl rfl ⟨by decide, by decide⟩ ⟨rfl, rfl⟩ rfl hl.1 rfl (lv_room (Nat.le_of_ble_eq_true rfl)) dX8_said_9 (fun H locs hP hD hS => ?_)
    refine lv_icmp_ge (tgt := 26) hx hb dX8_said_12 (by decide) (fun c4 => ?_) (fun c4 => ?_)
    · have h := ifT c4 h
      exact tX8_said_26 C hA h hP hD hS (lv_sub hl [] rfl)
    · have h := ifF c4 h
      refine lv_aload_n hx hb dX8_said_15 rfl (lv_at hl 0 rfl) ?_
      refine T_gfX8_79 C hP dX8_said_16 ?_
      refine lv_iload_n hx hb dX8_said_19 rfl (lv_at hl 1 rfl) ?_
      obtain ⟨r6, σ5, hc, h⟩ := bnd_s h
      refine T_callVi (q0 := 26) (ci := 1) (As := [.int p0]) (rest := []) C hA (fun sz => kJ4_charAt_5068e hl0 sz hc) gX8_249 hP hD hS rfl rfl ⟨by decide, by decide⟩ ⟨rfl, rfl⟩ rfl hl.1 rfl (lv_room (Nat.le_of_ble_eq_true rfl)) dX8_said_20 (fun H locs hP hD hS => ?_)
      refine lv_goto (tgt := 27) hx hb dX8_said_23 (by decide) ?_
      exact T_zretC C h hP hD hS dX8_said_27
set_option maxRecDepth 100000 in
theorem kX8_said {l : Launch} (hl0 : l.stackTraces = false) (sz : Nat) {st : Nat → Nat} {D : va_G} {a : Nat → Nat} {cc : Nat → ClassId} {N : Nat} {r : Int32} {σr : St} {σ : St} {p0 : Int32} (h : fX8_said N σ p0 = some (r, σr)) : Met l yX8_said ((Cond.code yX8_said cX8_said 2 (some .char) :: WT)) rmX8_said (T_Pc st D a cc [.ref (a 19), .int p0] σ sz) (T_Qi D a cc σ sz r σr) 0 0 (va_A (wT a cc σ) sz) := by
  refine Met.ofW (cc := cX8_said) (maxL := 2) (ret := (some .char)) (by decide) rfl ?_
  intro p e s m args below meth c s₁ B hml hv
  obtain ⟨rfl, hsz, hP, hK, hD0, hTS⟩ := hv
  subst hsz
  have hl := lv_entry ([.ref (a 19), .int p0]) (n := 2) (Nat.le_of_ble_eq_true rfl)
  rw [lg_entry_eq]
  generalize (lg_sl ([.ref (a 19), .int p0]) ++ List.replicate (2 - (lg_sl ([.ref (a 19), .int p0])).length) Slot.unset).toArray = ls at hl ⊢
  exact tX8_said ⟨B.exec, B.bytes, B.returns, hml, findClass_of_methodNamed B.named, atoms_spec (ws := (Cond.code yX8_said cX8_said 2 (some .char) :: WT)) B.pre, (fun w h => List.mem_cons_of_mem _ h), hK, B.notSynchronized, hTS, hl0⟩ (fun q h => Or.inr h) h hP hD0.self va_S.rf hl
