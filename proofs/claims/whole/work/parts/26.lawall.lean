set_option maxRecDepth 100000
theorem i15 (x : Int32) : 0 ≤ (x &&& 15).toInt ∧ (x &&& 15).toInt ≤ 15 := by
  have h : (x &&& 15).toInt = ((x.toBitVec &&& 15#32).toNat : Int) := by
    show (x.toBitVec &&& 15#32).toInt = _
    rw [BitVec.toInt_eq_toNat_of_lt]
    have : (x.toBitVec &&& 15#32).toNat ≤ 15 := by
      rw [BitVec.toNat_and]; exact Nat.and_le_right
    omega
  rw [h]
  have : (x.toBitVec &&& 15#32).toNat ≤ 15 := by
    rw [BitVec.toNat_and]; exact Nat.and_le_right
  omega
/-- what the law asks of one call: class and reference do it alike -/
abbrev wText (v1 v2 : Int32) : Int64 := v1.toInt64 <<< ((32 : Int32).toInt64 &&& 63) ||| v2.toInt64 &&& 4294967295
def LStep (N : Nat) (cw v1 v2 v3 : Int32) (τ σ τ1 σ1 : St) : Prop := match (cw &&& 15).toNatClampNeg with
  | 0 => ∃ r, fX8_text N τ (wText v1 v2) = some (r, τ1) ∧ fX9_text N σ (wText v1 v2) = some (r, σ1)
  | 1 => fX8_wipe N τ = some τ1 ∧ fX9_wipe N σ = some σ1
  | 2 => ∃ x v r σ2, fX8_compile N τ = some (x, v, τ1) ∧ (x = 0 ∨ x = 1 ∨ x = 2) ∧ fX9_compile N σ = some (r, σ2) ∧ fX9_thrown N σ2 = some (hL 1 x, σ1) ∧ (x = 0 → v = r)
  | 3 => ∃ r, fX8_fault N τ = some (r, τ1) ∧ fX9_fault N σ = some (r, σ1)
  | 4 => ∃ x v r σ2, fX8_size N τ v1 = some (x, v, τ1) ∧ (x = 0 ∨ x = 3 ∨ x = 1) ∧ fX9_size N σ v1 = some (r, σ2) ∧ fX9_thrown N σ2 = some (hL 3 x, σ1) ∧ (x = 0 → v = r)
  | 5 => ∃ x v r σ2, fX8_next N τ v1 v2 = some (x, v, τ1) ∧ (x = 0 ∨ x = 3 ∨ x = 4) ∧ fX9_next N σ v1 v2 = some (r, σ2) ∧ fX9_thrown N σ2 = some (hL 3 x, σ1) ∧ (x = 0 → v = r)
  | 6 => ∃ x v r σ2, fX8_output N τ v1 v2 v3 = some (x, v, τ1) ∧ (x = 0 ∨ x = 3 ∨ x = 5) ∧ fX9_output N σ v1 v2 v3 = some (r, σ2) ∧ fX9_thrown N σ2 = some (hL 3 x, σ1) ∧ (x = 0 → v = r)
  | 7 => ∃ x v r σ2, fX8_begin N τ = some (x, v, τ1) ∧ (x = 0 ∨ x = 3) ∧ fX9_begin N σ = some (r, σ2) ∧ fX9_thrown N σ2 = some (hL 3 x, σ1) ∧ (x = 0 → v = r)
  | 8 => ∃ x v r σ2, fX8_step N τ v1 = some (x, v, τ1) ∧ (x = 0 ∨ x = 3 ∨ x = 1) ∧ fX9_step N σ v1 = some (r, σ2) ∧ fX9_thrown N σ2 = some (hL 3 x, σ1) ∧ (x = 0 → v = r)
  | 9 => ∃ r, fX8_time N τ = some (r, τ1) ∧ fX9_time N σ = some (r, σ1)
  | 10 => ∃ r, fX8_window N τ = some (r, τ1) ∧ fX9_window N σ = some (r, σ1)
  | 11 => ∃ x v r σ2, fX8_loop N τ v1 = some (x, v, τ1) ∧ (x = 0 ∨ x = 3 ∨ x = 5) ∧ fX9_loop N σ v1 = some (r, σ2) ∧ fX9_thrown N σ2 = some (hL 3 x, σ1) ∧ (x = 0 → v = r)
  | 12 => ∃ r, fX8_report N τ = some (r, τ1) ∧ fX9_report N σ = some (r, σ1)
  | 13 => ∃ r, fX8_said N τ v1 = some (r, τ1) ∧ fX9_said N σ v1 = some (r, σ1)
  | _ => τ1 = τ ∧ σ1 = σ
theorem ofN_in {k j L : Nat} {z : Int32} (hz : z = Int32.ofNat j) (hj : j < 256) (h : 4 * k + j < L) (hL : L ≤ 256) : vp_in (Int32.ofNat (4 * k) + z) L := by
  subst hz
  rw [← Int32.ofNat_add]
  have h1 : (Int32.ofNat (4 * k + j)).toInt = ((4 * k + j : Nat) : Int) := Int32.toInt_ofNat_of_lt (by omega)
  have h2 : (Int32.ofNat (4 * k + j)).toNatClampNeg = 4 * k + j := by
    rw [← Int32.toNat_toInt, h1]
    rfl
  have h3 : ¬ (Int32.ofNat (4 * k + j) < 0) := by
    rw [Int32.lt_iff_toInt_lt, h1]
    have : (0 : Int32).toInt = 0 := rfl
    omega
  refine inB_in ?_
  unfold inB
  rw [h2, decide_eq_false h3, decide_eq_false (by omega)]
  rfl
theorem ofN_lt {k L : Nat} (hk : k ≤ 64) (hL : L ≤ 256) : (Int32.ofNat L - 4 < Int32.ofNat (4 * k)) ↔ L < 4 * k + 4 := by
  have h1 : (Int32.ofNat (4 * k)).toInt = ((4 * k : Nat) : Int) := Int32.toInt_ofNat_of_lt (by omega)
  have h0 : (Int32.ofNat L).toInt = ((L : Nat) : Int) := Int32.toInt_ofNat_of_lt (by omega)
  have h2 : (Int32.ofNat L - 4).toInt = (L : Int) - 4 := by
    rw [Int32.toInt_sub, h0]
    show ((L : Int) - 4).bmod (2 ^ 32) = _
    rw [Int.bmod_eq_of_le (by omega) (by omega)]
  rw [Int32.lt_iff_toInt_lt, h1, h2]
  omega
theorem P_front {D : va_G} {cl : List vw_C} {X : va_W} {y : Nat × va_E} {H : Heap} (h : va_P D cl (X ++ [y]) H) : va_P D cl (y :: X) H := P_iff.mpr fun q hq => P_iff.mp h q (by
  rcases List.mem_cons.mp hq with h | h
  · subst h; simp
  · exact List.mem_append_left _ h)
theorem D_front {A : Nat → Prop} {X : va_W} {y : Nat × va_E} (h : va_D A (X ++ [y])) : va_D A (y :: X) := by
  obtain ⟨h1, h2⟩ := D_iff.mp h
  refine D_iff.mpr ⟨?_, fun q hq => h2 q (by
    rcases List.mem_cons.mp hq with h | h
    · subst h; simp
    · exact List.mem_append_left _ h)⟩
  rw [List.map_append, List.pairwise_append] at h1
  rw [List.map_cons, List.pairwise_cons]
  exact ⟨fun z hz e => h1.2.2 z hz y.1 (by simp) e.symm, h1.1⟩
section LALL
variable {st : Nat → Nat} {p : Program} {l : Launch} {e : Env} {s : State} {m : MethodId} {below : List Frame} {meth : Method} {c : Code} {D : va_G} {a a2 : Nat → Nat} {cc : Nat → ClassId} {b L q : Nat} {xs : Nat → Int32} {N : Nat}
set_option maxHeartbeats 4000000 in
theorem law_loop (C : L_Cx st l D cc p s m meth c b L xs) (hL : L ≤ 256) (Inv : Nat → St → St → Prop) (hstep : ∀ k, 4 * k + 4 ≤ L → ∀ τ σ, Inv k τ σ → ∀ cw v1 v2 v3, ∃ τ1 σ1, LStep N cw v1 v2 v3 τ σ τ1 σ1 ∧ Inv (k + 1) τ1 σ1) :
    ∀ (n k : Nat), k + n = 64 → ∀ (τ σ : St) (o : Nat → Int64) (i : Int32), i = Int32.ofNat (4 * k) → Inv k τ σ → ∀ (H : Heap) (locs : List Loc) (ls : Array Slot), va_P D vwCl (wL cc a a2 q o τ σ) H → va_D (aNew s) (wL cc a a2 q o τ σ) → va_S (aNew s) s.heap H locs → lv_has ls 7 [(4, .int i), (3, .ref q), (2, .ref (a2 0)), (1, .ref (a 19)), (0, .ref b)] →
      W p l e room_1 s m #[Value.ref b] below meth c H locs (105 + k) (23262 + 6 * k) (lw_Z below #[Value.ref b] s) (F0 m 23 ls []) := by
  obtain ⟨hx, hb, hr, hml, hown, hts, hX, hbl, hlocks, hK, hTS, hLX, hl0⟩ := id C
  have hbA : ¬ aNew s b := Nat.not_le.mpr hbl
  intro n
  induction n with
  | zero =>
    intro k hkn τ σ o i hi hI H locs ls hP hD hS hl
    refine lv_iload hx hb dL_law_23 (lv_at hl 0 rfl) ?_
    refine lv_aload_n hx hb dL_law_25 rfl (lv_at hl 4 rfl) ?_
    refine va_slen hx hb hX hbl hbA hS dL_law_26 ?_
    refine lv_iconst (v := 4) hx hb dL_law_27 (by decide) ?_
    refine lv_isub hx hb dL_law_28 ?_
    refine lv_icmp_gt (tgt := 684) hx hb dL_law_29 (by decide) (fun c1 => ?_) (fun c1 => ?_)
    · refine lv_iconst (v := 1) hx hb dL_law_684 (by decide) ?_
      refine va_forget (fun q hq => hS.2.2 q hq) ?_
      refine W.widen (k := 600128) (n := 7301098) (by omega) (by omega) ?_
      exact lw_ret hx hb hr hlocks dL_law_685
    · subst hi
      exact absurd ((ofN_lt (k := k) (by omega) hL).mpr (by omega)) c1
  | succ n ih =>
    intro k hkn τ σ o i hi hI H locs ls hP hD hS hl
    refine lv_iload hx hb dL_law_23 (lv_at hl 0 rfl) ?_
    refine lv_aload_n hx hb dL_law_25 rfl (lv_at hl 4 rfl) ?_
    refine va_slen hx hb hX hbl hbA hS dL_law_26 ?_
    refine lv_iconst (v := 4) hx hb dL_law_27 (by decide) ?_
    refine lv_isub hx hb dL_law_28 ?_
    refine lv_icmp_gt (tgt := 684) hx hb dL_law_29 (by decide) (fun c1 => ?_) (fun c1 => ?_)
    · refine lv_iconst (v := 1) hx hb dL_law_684 (by decide) ?_
      refine va_forget (fun q hq => hS.2.2 q hq) ?_
      refine W.widen (k := 600128) (n := 7301098) (by omega) (by omega) ?_
      exact lw_ret hx hb hr hlocks dL_law_685
    · have hlt : 4 * k + 4 ≤ L := by
        subst hi
        rw [ofN_lt (by omega) hL] at c1
        omega
      have hi0 : vp_in i L := by
        have := ofN_in (k := k) (j := 0) (z := 0) rfl (by omega) (by omega) hL
        rw [hi]
        simpa using this
      have hi1 : vp_in (i + 1) L := by rw [hi]; exact ofN_in (j := 1) rfl (by omega) (by omega) hL
      have hi2 : vp_in (i + 2) L := by rw [hi]; exact ofN_in (j := 2) rfl (by omega) (by omega) hL
      have hi3 : vp_in (i + 3) L := by rw [hi]; exact ofN_in (j := 3) rfl (by omega) (by omega) hL
      obtain ⟨τ1, σ1, hst, hI1⟩ := hstep k hlt τ σ hI (xs i.toNatClampNeg) (xs (i + 1).toNatClampNeg) (xs (i + 2).toNatClampNeg) (xs (i + 3).toNatClampNeg)
      have kk : ∀ (o : Nat → Int64) (H : Heap) (locs : List Loc) (ls : Array Slot), va_P D vwCl (wL cc a a2 q o τ1 σ1) H → va_D (aNew s) (wL cc a a2 q o τ1 σ1) → va_S (aNew s) s.heap H locs → lv_has ls 7 [(4, .int i), (3, .ref q), (2, .ref (a2 0)), (1, .ref (a 19)), (0, .ref b)] → W p l e room_1 s m #[Value.ref b] below meth c H locs (105 + k + 1) (23262 + 6 * k + 6) (lw_Z below #[Value.ref b] s) (F0 m 678 ls []) := fun o H locs ls hP hD hS hl => by
        obtain ⟨i1, ei⟩ : ∃ y : Int32, y = i + 4 := ⟨_, rfl⟩
        refine lv_iinc (v := i1) (lv' := [(4, .int i1), (3, .ref q), (2, .ref (a2 0)), (1, .ref (a 19)), (0, .ref b)]) hx hb dL_law_678 hl (k := 0) rfl (by rw [ei]; rfl) (by decide) rfl (fun ls hl => ?_)
        refine lv_goto (tgt := 23) hx hb dL_law_681 (by decide) ?_
        exact ih (k + 1) (by omega) τ1 σ1 o i1 (by rw [ei, hi]; exact (Int32.ofNat_add _ _).symm) hI1 H locs ls hP hD hS hl
      refine lv_aload_n hx hb dL_law_32 rfl (lv_at hl 4 rfl) ?_
      refine lv_iload hx hb dL_law_33 (lv_at hl 0 rfl) ?_
      refine va_sld hx hb hX hbl hbA hS hi0 dL_law_35 ?_
      refine lv_bipush (v := 15) hx hb dL_law_36 (by decide) ?_
      refine lv_iand hx hb dL_law_38 ?_
      have hf : 105 + k + 1 ≤ room_1.cells ∧ 23262 + 6 * k + 6 ≤ room_1.slots := ⟨by show 105 + k + 1 ≤ 600128; omega, by show 23262 + 6 * k + 6 ≤ 7301098; omega⟩
      generalize hw : xs i.toNatClampNeg = cw at hst ⊢
      unfold LStep at hst
      have hr15 : 0 ≤ (cw &&& 15).toInt ∧ (cw &&& 15).toInt ≤ 15 := i15 cw
      have hn15 : (cw &&& 15).toInt = ((cw &&& 15).toNatClampNeg : Int) := by rw [← Int32.toNat_toInt]; omega
      generalize (cw &&& 15) = w at hst hr15 hn15 ⊢
      generalize w.toNatClampNeg = n15 at hst hn15
      split at hst
      · obtain ⟨r, h1, h2⟩ := hst
        exact lv_tableIn (tgt := 108) hx hb dL_law_39 (by omega) (by omega) (by rw [hn15]; rfl) (by decide) (lw_op0 C hi1 hi2 h1 h2 hf hP hD hS hl kk)
      · obtain ⟨h1, h2⟩ := hst
        exact lv_tableIn (tgt := 165) hx hb dL_law_39 (by omega) (by omega) (by rw [hn15]; rfl) (by decide) (lw_op1 C h1 h2 hf hP hD hS hl kk)
      · obtain ⟨x, v, r, σ2, h1, h2, h3, h4, h5⟩ := hst
        exact lv_tableIn (tgt := 176) hx hb dL_law_39 (by omega) (by omega) (by rw [hn15]; rfl) (by decide) (lw_op2 C h1 h2 h3 h4 h5 hf hP hD hS hl kk)
      · obtain ⟨r, h1, h2⟩ := hst
        exact lv_tableIn (tgt := 220) hx hb dL_law_39 (by omega) (by omega) (by rw [hn15]; rfl) (by decide) (lw_op3 C h1 h2 hf hP hD hS hl kk)
      · obtain ⟨x, v, r, σ2, h1, h2, h3, h4, h5⟩ := hst
        exact lv_tableIn (tgt := 233) hx hb dL_law_39 (by omega) (by omega) (by rw [hn15]; rfl) (by decide) (lw_op4 C hi1 h1 h2 h3 h4 h5 hf hP hD hS hl kk)
      · obtain ⟨x, v, r, σ2, h1, h2, h3, h4, h5⟩ := hst
        exact lv_tableIn (tgt := 289) hx hb dL_law_39 (by omega) (by omega) (by rw [hn15]; rfl) (by decide) (lw_op5 C hi1 hi2 h1 h2 h3 h4 h5 hf hP hD hS hl kk)
      · obtain ⟨x, v, r, σ2, h1, h2, h3, h4, h5⟩ := hst
        exact lv_tableIn (tgt := 357) hx hb dL_law_39 (by omega) (by omega) (by rw [hn15]; rfl) (by decide) (lw_op6 C hi1 hi2 hi3 h1 h2 h3 h4 h5 hf hP hD hS hl kk)
      · obtain ⟨x, v, r, σ2, h1, h2, h3, h4, h5⟩ := hst
        exact lv_tableIn (tgt := 444) hx hb dL_law_39 (by omega) (by omega) (by rw [hn15]; rfl) (by decide) (lw_op7 C h1 h2 h3 h4 h5 hf hP hD hS hl kk)
      · obtain ⟨x, v, r, σ2, h1, h2, h3, h4, h5⟩ := hst
        exact lv_tableIn (tgt := 495) hx hb dL_law_39 (by omega) (by omega) (by rw [hn15]; rfl) (by decide) (lw_op8 C hi1 h1 h2 h3 h4 h5 hf hP hD hS hl kk)
      · obtain ⟨r, h1, h2⟩ := hst
        exact lv_tableIn (tgt := 551) hx hb dL_law_39 (by omega) (by omega) (by rw [hn15]; rfl) (by decide) (lw_op9 C h1 h2 hf hP hD hS hl kk)
      · obtain ⟨r, h1, h2⟩ := hst
        exact lv_tableIn (tgt := 564) hx hb dL_law_39 (by omega) (by omega) (by rw [hn15]; rfl) (by decide) (lw_op10 C h1 h2 hf hP hD hS hl kk)
      · obtain ⟨x, v, r, σ2, h1, h2, h3, h4, h5⟩ := hst
        exact lv_tableIn (tgt := 577) hx hb dL_law_39 (by omega) (by omega) (by rw [hn15]; rfl) (by decide) (lw_op11 C hi1 h1 h2 h3 h4 h5 hf hP hD hS hl kk)
      · obtain ⟨r, h1, h2⟩ := hst
        exact lv_tableIn (tgt := 640) hx hb dL_law_39 (by omega) (by omega) (by rw [hn15]; rfl) (by decide) (lw_op12 C h1 h2 hf hP hD hS hl kk)
      · obtain ⟨r, h1, h2⟩ := hst
        exact lv_tableIn (tgt := 653) hx hb dL_law_39 (by omega) (by omega) (by rw [hn15]; rfl) (by decide) (lw_op13 C hi1 h1 h2 hf hP hD hS hl kk)
      · obtain ⟨rfl, rfl⟩ := hst
        refine lv_tableOut (tgt := 678) hx hb dL_law_39 (Or.inr ?_) (by decide) (W.widen (Nat.le_add_right _ _) (Nat.le_add_right _ _) (kk o H locs ls hP hD hS hl))
        rw [hn15]
        have h14 : 14 ≤ n15 := by
          rcases Nat.lt_or_ge n15 14 with h | h
          · exfalso
            match n15, h with
            | 0, _ | 1, _ | 2, _ | 3, _ | 4, _ | 5, _ | 6, _ | 7, _ | 8, _ | 9, _ | 10, _ | 11, _ | 12, _ | 13, _ => simp_all
          · exact h
        omega
set_option maxHeartbeats 4000000 in
/-- THE LAW, from its entry, over an invariant of class and reference that every call keeps -/
theorem whole_open (hl0 : l.stackTraces = false) (hL : L ≤ 256) (C0 : lw_At p s m meth c b L xs) (Inv : Nat → St → St → Prop) (h00 : Inv 0 τ0 σ0) (hstep : ∀ k, 4 * k + 4 ≤ L → ∀ τ σ, Inv k τ σ → ∀ cw v1 v2 v3, ∃ τ1 σ1, LStep N cw v1 v2 v3 τ σ τ1 σ1 ∧ Inv (k + 1) τ1 σ1) :
    W p l e room_1 s m #[Value.ref b] below meth c s.heap [] 0 0 (lw_Z below #[Value.ref b] s) (entryFrame m ([Value.ref b] : List Value).toArray 7) := by
  obtain ⟨hx, hb, hr, hml, hown, hts0, hX, hbl, hlocks, hgv⟩ := id C0
  obtain ⟨D, cc, hK⟩ := env_K hts0
  obtain ⟨st, hTS⟩ := env_TS hgv hts0
  have hcix := env_CIX hgv hts0
  have hLX := env_LX hgv hts0
  have hts := LA_ok hts0
  have hA : ∀ q : Nat, s.heap.size ≤ q → aNew s q := fun _ h => h
  have hKM : va_K D vwCl (tyM cc) s := hK.sub [0, 1, 2, 3] rfl
  have hla : ∀ w ∈ LA0, w.before #[Value.ref b] s = true := fun w h => hts w (List.mem_append_left _ h)
  have hS : va_S (aNew s) s.heap s.heap [] := va_S.rf
  have hP : va_P D vwCl [] s.heap := fun k q h => by simp at h
  have hD : va_D (aNew s) [] := ⟨fun i j p q h => by simp at h, fun k q h => by simp at h⟩
  have hl := lv_entry ([.ref b]) (n := 7) (Nat.le_of_ble_eq_true rfl)
  rw [lg_entry_eq]
  generalize (lg_sl ([.ref b]) ++ List.replicate (7 - (lg_sl ([.ref b])).length) Slot.unset).toArray = ls at hl ⊢
  have hl : lv_has ls 7 [(0, .ref b)] := hl
  refine va_new (ci := 12) (fs := [.null, .int 0, .null, .null, .null, .null, .null, .null, .null, .null, .int 0, .int 0, .int 0]) (C := RX8) (T := TX8) (N := 13) hx hb hts0 inX8_tbl tyX8 tyX8_ok hown (hla (.classLink RL 8 RX8) (by decide +kernel)) (hla (.instantiable RX8 13) (by decide +kernel)) (hla (.initialized RX8) (by decide +kernel)) hK hP hD hS hA rfl (by decide +kernel) (Nat.le_of_ble_eq_true rfl) (Nat.le_of_ble_eq_true rfl) dL_law_0 (fun q0 H hP hD hS => ?_)
  refine lv_dup hx hb dL_law_3 rfl ?_
  have hP : va_P D vwCl ([] ++ ([(q0, .inr (12, [.null, .int 0, .null, .null, .null, .null, .null, .null, .null, .null, .int 0, .int 0, .int 0]))] ++ [])) H := hP
  have hD : va_D (aNew s) ([] ++ ([(q0, .inr (12, [.null, .int 0, .null, .null, .null, .null, .null, .null, .null, .null, .int 0, .int 0, .int 0]))] ++ [])) := hD
  have hF := free_mid hA hD hS
  refine va_callv (va_runI (As := []) (rest := [.ref q0]) ⟨hx, hb, hml, hown, hts⟩ (kX8_init (l := l) q0 H.size) (cwI 0 hts (LA_gT (ws := [.code yX8_init cX8_init 1 none]) (by decide +kernel)) rfl rfl rfl (hla (.initialized RX8) (by decide +kernel)) (hla (.methodLink RL 46 yX8_init) (by decide +kernel)) (hla (.instanceMethod yX8_init) (by decide +kernel)) rfl (by decide +kernel) ⟨Nat.le_of_ble_eq_true rfl, Nat.le_of_ble_eq_true rfl⟩) ⟨CI_blind, fun U hU hW => ⟨rfl, by rw [hU], by rw [hU]; exact P_mid hP, va_K.moved hW.alike hK, (D_mid hD).weaken (fun _ _ _ _ => trivial), hcix.call hS hF hW hU⟩⟩ rfl rfl hl.1 rfl (lv_room (Nat.le_of_ble_eq_true rfl)) dL_law_4 ⟨Nat.le_of_ble_eq_true rfl, Nat.le_of_ble_eq_true rfl⟩) hS (fun q _ h => hF q h) hF (fun a t H1 locs ht hvm hw hB hz1 hk1 hS => ?_)
  obtain ⟨hP1, hK1, hD1⟩ := hB
  rw [ht] at hP1
  obtain ⟨hP2, hD2⟩ := join3 hP hD hk1 hF hP1 hD1
  clear hP hD hP1 hD1 hK1 hk1 hF
  rw [List.nil_append, List.append_nil] at hP2 hD2
  subst hw
  have hP := hP2
  have hD := hD2
  clear hP2 hD2
  refine lv_astore_n (lv' := [(1, .ref (a 19)), (0, .ref b)]) hx hb dL_law_7 rfl hl (by decide) rfl (fun ls hl => ?_)
  refine va_new (ci := 13) (fs := [.int 0, .null, .int 0, .int 0, .int 0, .null, .null, .null, .null, .null, .null, .int 0, .int 0, .int 0, .null, .null, .null, .int 0, .null, .null, .null, .null, .null, .null, .int 0, .null, .null, .int 0, .null, .null, .null, .null, .null, .null, .int 0, .null, .null, .null, .null, .null, .int 0, .int 0, .int 0, .int 0, .int 0, .null, .null, .null, .null, .int 0, .int 0, .null, .null, .int 0]) (C := RX9) (T := TX9) (N := 54) hx hb hts0 inX9_tbl tyX9 tyX9_ok hown (hla (.classLink RL 47 RX9) (by decide +kernel)) (hla (.instantiable RX9 54) (by decide +kernel)) (hla (.initialized RX9) (by decide +kernel)) hK hP hD hS hA rfl (by decide +kernel) (Nat.le_of_ble_eq_true rfl) (Nat.le_of_ble_eq_true rfl) dL_law_8 (fun q1 H hP hD hS => ?_)
  refine lv_dup hx hb dL_law_11 rfl ?_
  have hP : va_P D vwCl (wT a cc τ0 ++ ([(q1, .inr (13, [.int 0, .null, .int 0, .int 0, .int 0, .null, .null, .null, .null, .null, .null, .int 0, .int 0, .int 0, .null, .null, .null, .int 0, .null, .null, .null, .null, .null, .null, .int 0, .null, .null, .int 0, .null, .null, .null, .null, .null, .null, .int 0, .null, .null, .null, .null, .null, .int 0, .int 0, .int 0, .int 0, .int 0, .null, .null, .null, .null, .int 0, .int 0, .null, .null, .int 0]))] ++ [])) H := hP
  have hD : va_D (aNew s) (wT a cc τ0 ++ ([(q1, .inr (13, [.int 0, .null, .int 0, .int 0, .int 0, .null, .null, .null, .null, .null, .null, .int 0, .int 0, .int 0, .null, .null, .null, .int 0, .null, .null, .null, .null, .null, .null, .int 0, .null, .null, .int 0, .null, .null, .null, .null, .null, .null, .int 0, .null, .null, .null, .null, .null, .int 0, .int 0, .int 0, .int 0, .int 0, .null, .null, .null, .null, .int 0, .int 0, .null, .null, .int 0]))] ++ [])) := hD
  have hF := free_mid hA hD hS
  refine va_callv (va_runI (As := []) (rest := [.ref q1]) ⟨hx, hb, hml, hown, hts⟩ (kX9_init (l := l) q1 H.size) (cwI 0 hts (LA_gM (ws := [.code yX9_init cX9_init 1 none]) (by decide +kernel)) rfl rfl rfl (hla (.initialized RX9) (by decide +kernel)) (hla (.methodLink RL 49 yX9_init) (by decide +kernel)) (hla (.instanceMethod yX9_init) (by decide +kernel)) rfl (by decide +kernel) ⟨Nat.le_of_ble_eq_true rfl, Nat.le_of_ble_eq_true rfl⟩) ⟨fun a' U g mk h => by
    obtain ⟨z0, z1, zP, zK, zD⟩ := h
    exact ⟨z0, z1, zP, va_K.moved (u := U) (U := U.calling g mk a') (Vm.Alike.refl U.vm) zK, zD⟩, fun U hU hW => ⟨rfl, by rw [hU], by rw [hU]; exact P_mid hP, va_K.moved hW.alike hKM, (D_mid hD).weaken (fun _ _ _ _ => trivial)⟩⟩ rfl rfl hl.1 rfl (lv_room (Nat.le_of_ble_eq_true rfl)) dL_law_12 ⟨Nat.le_of_ble_eq_true rfl, Nat.le_of_ble_eq_true rfl⟩) hS (fun q _ h => hF q h) hF (fun a2 t H1 locs ht hvm hw hB hz1 hk1 hS => ?_)
  obtain ⟨hP1, hK1, hD1⟩ := hB
  rw [ht] at hP1
  obtain ⟨hP2, hD2⟩ := join3 hP hD hk1 hF hP1 hD1
  clear hP hD hP1 hD1 hK1 hk1 hF
  rw [List.append_nil] at hP2 hD2
  subst hw
  have hP := hP2
  have hD := hD2
  clear hP2 hD2
  refine lv_astore_n (lv' := [(2, .ref (a2 0)), (1, .ref (a 19)), (0, .ref b)]) hx hb dL_law_15 rfl hl (by decide) rfl (fun ls hl => ?_)
  refine lv_iconst (v := 1) hx hb dL_law_16 (by decide) ?_
  refine va_newa (atype := .long) (ty := .long) (N' := 1) (a0 := (1, .inr (.inl (fun _ => 0)))) hx hb (hla (.arrayClass .long) (by decide +kernel)) rfl hK hP hD hS hA (fun _ => rfl) (by decide) (by decide) (by decide) (Nat.le_of_ble_eq_true rfl) (Nat.le_of_ble_eq_true rfl) dL_law_17 (fun q cA H hK1 hP hD hS => ?_)
  obtain rfl := arrC hK hK1 3 rfl rfl
  have hP : va_P D vwCl (wL cc a a2 q (fun _ => 0) τ0 σ0) H := P_front hP
  have hD : va_D (aNew s) (wL cc a a2 q (fun _ => 0) τ0 σ0) := D_front hD
  refine lv_astore_n (lv' := [(3, .ref q), (2, .ref (a2 0)), (1, .ref (a 19)), (0, .ref b)]) hx hb dL_law_19 rfl hl (by decide) rfl (fun ls hl => ?_)
  refine lv_iconst (v := 0) hx hb dL_law_20 (by decide) ?_
  refine lv_istore (lv' := [(4, .int 0), (3, .ref q), (2, .ref (a2 0)), (1, .ref (a 19)), (0, .ref b)]) hx hb dL_law_21 hl (by decide) rfl (fun ls hl => ?_)
  exact law_loop ⟨hx, hb, hr, hml, hown, hts, hX, hbl, hlocks, hK, hTS, hLX, hl0⟩ hL Inv hstep 64 0 rfl τ0 σ0 (fun _ => 0) 0 rfl h00 H _ ls hP hD hS hl
end LALL
