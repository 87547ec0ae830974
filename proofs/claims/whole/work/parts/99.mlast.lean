/-! the end: every call alike, the start, the claim out of the walk of the law's body -/
section LAST
variable {N : Nat} {τ σ : St}
theorem hL_0 : hL 3 (J 0) = J 0 := by decide
theorem hL_3 : hL 3 (J 3) = J 1 := by decide
theorem hL_b {b : Nat} (hb : ¬ J b = 0) (hab : ¬ J b = 3) : hL 3 (J b) = J 2 := by
  unfold hL
  rw [if_neg hb, if_neg hab]
  rfl
theorem oc_fin {b : Nat} {x y r : Int32} (hb : ¬ J b = 0) (hab : ¬ J b = 3) (h : Oc 3 b x y r σ) : (x = 0 ∨ x = 3 ∨ x = J b) ∧ fX9_thrown N σ = some (hL 3 x, σ) ∧ (x = 0 → y = r) := by
  unfold fX9_thrown
  rcases h with ⟨h1, h2, h3⟩ | ⟨h1, h2⟩ | ⟨h1, h2⟩
  · subst h1
    exact ⟨Or.inl rfl, by rw [h2, hL_0], fun _ => h3⟩
  · subst h1
    exact ⟨Or.inr (Or.inl rfl), by rw [h2, hL_3], fun h => absurd h (by decide)⟩
  · subst h1
    exact ⟨Or.inr (Or.inr rfl), by rw [h2, hL_b hb hab], fun h => absurd h hb⟩
/-- begin throws nothing but the first -/
theorem begin_x (h : Inv N τ σ) {x y : Int32} {τ' : St} (e : fX8_begin N τ = some (x, y, τ')) : x = 0 ∨ x = 3 := by
  unfold fX8_begin at e
  rcases h.2.2.2 with ⟨h1, h2, h3, h4⟩ | ⟨h1, s, b, h2, h3, h4⟩
  · rw [rq_no h1, bndX_e J3n] at e
    injection e with e
    injection e with e1 e2
    exact Or.inr e1.symm
  · rw [rq_yes h1, bndX_d] at e
    obtain ⟨⟨m1, m2, m3, m4⟩, ⟨m5, m6, m7, m8⟩, ⟨m9, m10⟩, m11⟩ := id h2
    by_cases hs : s = 0
    · subst hs
      simp (decide := true) (disch := omega) only [letS_d, grd_t, bnd_d, bnd1_d, bndX_d, bndX_e, gI_sI, gI_sL, gL_sL, gL_sI, upd_at, updL_at, J_lit, J_add, J_mul, J_sub, J_lt, J_le, J_inj, J_ne, ne_J, m_lt, lt_m, m_le, le_m, J_cl, J_inB, if_true, if_false, ite_true, ite_false, reduceIte, isZ0, isZ1, J_and31, shrJ0, shlJ0, gI_sA, gL_sA, Nat.reduceEqDiff, Nat.reduceAdd, Nat.reduceMul, Nat.reduceLT, Nat.reduceLeDiff, fX7_start, fX4_firstState, m5, fX7_hasFailed, Nat.le_refl] at e
      injection e with e
      injection e with e1 e2
      exact Or.inl e1.symm
    · have hs' : ¬ s ≤ 0 := by omega
      simp (decide := true) (disch := omega) only [letS_d, grd_t, bnd_d, bnd1_d, bndX_d, bndX_e, gI_sI, gI_sL, gL_sL, gL_sI, upd_at, updL_at, J_lit, J_add, J_mul, J_sub, J_lt, J_le, J_inj, J_ne, ne_J, m_lt, lt_m, m_le, le_m, J_cl, J_inB, if_true, if_false, ite_true, ite_false, reduceIte, isZ0, isZ1, J_and31, shrJ0, shlJ0, gI_sA, gL_sA, Nat.reduceEqDiff, Nat.reduceAdd, Nat.reduceMul, Nat.reduceLT, Nat.reduceLeDiff, fX7_start, fX4_firstState, m5, hs', fX7_hasFailed, fX7_hasFailed_19] at e
      injection e with e
      injection e with e1 e2
      exact Or.inl e1.symm
/-- the law's step, at every word -/
theorem step_all (hN : 20 ^ 130 ≤ N) (h : Inv N τ σ) (cw v1 v2 v3 : Int32) : ∃ τ1 σ1, LStep N cw v1 v2 v3 τ σ τ1 σ1 ∧ Inv N τ1 σ1 := by
  have hN1 : 100 ≤ N := Nat.le_trans (by decide) hN
  unfold LStep
  generalize (cw &&& 15).toNatClampNeg = n
  match n with
  | 0 =>
    obtain ⟨r, τ', σ', a1, a2, f, f', a5⟩ := op_text hN1 h.1 (wText v1 v2)
    exact ⟨τ', σ', ⟨r, a1, a2⟩, a5, h.2.1.fr f f' (by decide) (by decide), h.2.2.1.fr f f' (by decide) (by decide), h.2.2.2.fr f f' (by decide) (by decide)⟩
  | 1 =>
    obtain ⟨τ', σ', a1, a2, a3⟩ := op_wipe h
    exact ⟨τ', σ', ⟨a1, a2⟩, a3⟩
  | 2 =>
    obtain ⟨x, v, r, τ', σ', a1, a2, a3, a4, a5, a6⟩ := both_compile hN h
    refine ⟨τ', σ', ⟨x, v, r, σ', a1, a2, a3, ?_, a5⟩, a6⟩
    show some (gI σ' 0 0, σ') = some (hL 1 x, σ')
    rw [a4]
    rfl
  | 3 =>
    obtain ⟨r, τ', σ', a1, a2, a3⟩ := op_fault h
    exact ⟨τ', σ', ⟨r, a1, a2⟩, a3⟩
  | 4 =>
    obtain ⟨x, y, r, τ', σ', a1, a2, a3, a4⟩ := op_size h v1
    obtain ⟨b1, b2, b3⟩ := oc_fin (N := N) (by decide) (by decide) a3
    exact ⟨τ', σ', ⟨x, y, r, σ', a1, b1, a2, b2, b3⟩, a4⟩
  | 5 =>
    obtain ⟨x, y, r, τ', σ', a1, a2, a3, a4⟩ := op_next h v1 v2
    obtain ⟨b1, b2, b3⟩ := oc_fin (N := N) (by decide) (by decide) a3
    exact ⟨τ', σ', ⟨x, y, r, σ', a1, b1, a2, b2, b3⟩, a4⟩
  | 6 =>
    obtain ⟨x, y, r, τ', σ', a1, a2, a3, a4⟩ := op_output h v1 v2 v3
    obtain ⟨b1, b2, b3⟩ := oc_fin (N := N) (by decide) (by decide) a3
    exact ⟨τ', σ', ⟨x, y, r, σ', a1, b1, a2, b2, b3⟩, a4⟩
  | 7 =>
    obtain ⟨x, y, r, τ', σ', a1, a2, a3, a4⟩ := op_begin h
    obtain ⟨b1, b2, b3⟩ := oc_fin (N := N) (by decide) (by decide) a3
    exact ⟨τ', σ', ⟨x, y, r, σ', a1, begin_x h a1, a2, b2, b3⟩, a4⟩
  | 8 =>
    obtain ⟨x, y, r, τ', σ', a1, a2, a3, a4⟩ := op_step h v1
    obtain ⟨b1, b2, b3⟩ := oc_fin (N := N) (by decide) (by decide) a3
    exact ⟨τ', σ', ⟨x, y, r, σ', a1, b1, a2, b2, b3⟩, a4⟩
  | 9 =>
    obtain ⟨r, τ', σ', a1, a2, a3⟩ := op_time h
    exact ⟨τ', σ', ⟨r, a1, a2⟩, a3⟩
  | 10 =>
    obtain ⟨r, τ', σ', a1, a2, a3⟩ := op_window hN1 h
    exact ⟨τ', σ', ⟨r, a1, a2⟩, a3⟩
  | 11 =>
    obtain ⟨x, y, r, τ', σ', a1, a2, a3, a4⟩ := op_loop hN1 h v1
    obtain ⟨b1, b2, b3⟩ := oc_fin (N := N) (by decide) (by decide) a3
    exact ⟨τ', σ', ⟨x, y, r, σ', a1, b1, a2, b2, b3⟩, a4⟩
  | 12 =>
    obtain ⟨r, τ', σ', a1, a2, a3⟩ := op_report hN1 h
    exact ⟨τ', σ', ⟨r, a1, a2⟩, a3⟩
  | 13 =>
    obtain ⟨r, τ', σ', a1, a2, a3⟩ := op_said h v1
    exact ⟨τ', σ', ⟨r, a1, a2⟩, a3⟩
  | n + 14 => exact ⟨τ, σ, ⟨rfl, rfl⟩, h⟩
/-- nothing compiled, no text, no run, no words -/
theorem inv0 : Inv N τ0 σ0 := ⟨⟨0, by omega, by decide, by decide, fun i hi => by omega⟩, by unfold IvF; decide, ⟨0, by omega, by decide, by decide, by decide, fun i hi => by omega⟩, Or.inl ⟨by decide, by decide, by decide, by decide⟩⟩
end LAST
/-- from the entry, for every script of at most 256 ints, the law comes to its end with true -/
theorem whole_start {p : Program} {e : Env} {s : State} {m : MethodId} {below : List Frame} {meth : Method} {c : Code} (l : Launch) (hl0 : l.stackTraces = false) {b L : Nat} {xs : Nat → Int32} (hL : L ≤ 256) (C0 : lw_At p s m meth c b L xs) : W p l e room_1 s m #[Value.ref b] below meth c s.heap [] 0 0 (lw_Z below #[Value.ref b] s) (entryFrame m ([Value.ref b] : List Value).toArray 7) := by
  obtain ⟨N, hN⟩ : ∃ N : Nat, 20 ^ 130 ≤ N := ⟨_, Nat.le_refl _⟩
  exact whole_open (N := N) hl0 hL C0 (fun _ τ σ => Inv N τ σ) inv0 (fun _ _ _ _ h cw v1 v2 v3 => step_all hN h cw v1 v2 v3)
set_option maxHeartbeats 4000000 in
theorem lw_walk (l : Launch) (hl0 : l.stackTraces = false) (b : Addr) (xs : List Int32) : MetFree l x (headSpec (Jvm.Cond.code x code maxLocals ret :: tables_1) room_1) (lw_P b xs) (fun _ _ _ _ _ => True) lw_Q := by
  refine MetFree.of_bodyS (code := code) (maxLocals := maxLocals) (ret := ret) (by decide) ?_ ?_
  · intro args s m h hn
    obtain ⟨meth, c, h1, h2, h3, h4, h5, h6, -, -⟩ := Cond.code_spec hn (atoms_spec (ws := Jvm.Cond.code x code maxLocals ret :: tables_1) h _ List.mem_cons_self)
    exact ⟨meth, c, h1, h2, h3, h4, h5, h6⟩
  · intro p e s m args below meth c s₁ B hml0 hP _
    obtain ⟨rfl, hx, hbd, hgv⟩ := hP
    obtain ⟨scr, harrAt, hlist, hof, hsmall⟩ := hx
    obtain ⟨hcb, hkn, -, -⟩ := State.arrayAt?_spec harrAt
    have hown : s.vm.findClass RL = some m.cls := findClass_of_methodNamed B.named
    have hts0 : ∀ c ∈ (Jvm.Cond.code x code maxLocals ret :: tables_1), c.before #[Value.ref b] s = true := atoms_spec (ws := Jvm.Cond.code x code maxLocals ret :: tables_1) B.pre
    have hts : ∀ w ∈ lw_tbl, w.before #[Value.ref b] s = true := k2_hts_sels lw_privs (fun w hw => hts0 w (List.mem_cons_of_mem _ hw)) lw_privs_ok
    have hml : c.maxLocals = 7 := B.maxLocals_eq (hts0 _ List.mem_cons_self)
    have X₀ : Stand p l e room_1 s m #[Value.ref b] below meth c s₁ [] 0 0 := Stand.of_body B
    have hh0 : s₁.heap = s.heap := by rw [B.state]; rfl
    have hsz : scr.slots.size = xs.length := by rw [← Array.length_toList, hlist, List.length_map]
    have hval : ∀ j : Nat, j < xs.length → scr.slots[j]? = some (.int (xs.getD j 0)) := fun j hj => by
      rw [← Array.getElem?_toList, hlist]
      simp [hj]
    have hbl : b < s.heap.size := (Array.getElem?_eq_some_iff.mp hcb).1
    have hX : va_X b xs.length (fun j => xs.getD j 0) s s.heap := ⟨scr, hcb, hof, hkn, hsz, hval⟩
    have K : W p l e room_1 s m #[Value.ref b] below meth c s₁.heap [] 0 0 (lw_Z below #[Value.ref b] s) (entryFrame m ([Value.ref b] : List Value).toArray 7) := by
      rw [hh0]
      exact whole_start l hl0 hbd ⟨B.exec, B.bytes, B.returns, hml, hown, hts, hX, hbl, B.notSynchronized, hgv⟩
    obtain ⟨t, a1, o, b1, b2, b3⟩ := K s₁ rfl X₀
    exact ⟨t, o, a1, b1, b2, b3⟩
theorem lw_pre_spec {args : Array Value} {s : State} (h : (Jvm.Cond.and given_1 narrow_1).before args s = true) (hr : rest_1_c.before args s = true) : ∃ (b : Addr) (xs : List Int32), lw_P b xs args s := by
  have hs := flat_of_before _ h
  have hq := flat_of_before _ hr
  have hc : (Cond.count 1).before args s = true := hs _ (by decide +kernel)
  have harr : (Cond.arrayOf (.arg 0) .int).before args s = true := hs _ (by decide +kernel)
  have hle : (Cond.le (.length (.arg 0)) (.int 256)).before args s = true := hs _ (by decide +kernel)
  have hlen : (Cond.isInt (.length (.arg 0))).before args s = true := hq _ (by decide +kernel)
  have hall : (Cond.all (.arg 0) (.isInt (.elem (.arg 0) (.index 0)))).before args s = true := hq _ (by decide +kernel)
  obtain ⟨b, xs, hb, hx⟩ := State.ints_of_pre rfl harr hlen hall
  have hsm : xs.length < 2 ^ 31 := hx.choose_spec.2.2.2
  have hev : (Term.length (.arg 0)).eval args s none [] s = some (.int xs.length.toInt32) := hx.length_eval hb
  have hv := Cond.le_ints hev (show (Term.int 256).eval args s none [] s = some (.int 256) from rfl)
  have hd : xs.length.toInt32 ≤ 256 := by
    simpa [Cond.before, Cond.holds, hv] using hle
  have hN : xs.length ≤ 256 := (Int32.ofNat_le_ofNat hsm (by decide)).mp (show Int32.ofNat xs.length ≤ Int32.ofNat 256 from hd)
  exact ⟨b, xs, Cond.one_arg hc (show args[0]? = some (.ref b) from hb), hx, hN, h⟩
theorem lw_comes (l : Launch) (hl0 : l.stackTraces = false) : Comes l x (Jvm.Cond.code x code maxLocals ret :: tables_1) room_1 (fun tb e args s => Calls_1 tb e args s ∧ rest_1 tb e args s ∧ Pre_1 tb e args s)
    (fun _ _ args s o t => lw_Q args s o t) := by
  intro p e ha hc hk s m args below hf hfit hheap happ hpre
  obtain ⟨b, xs, hP⟩ := lw_pre_spec hpre.2.2 hpre.2.1
  obtain ⟨k, o, h1, h2, h3, hQ⟩ := lw_walk l hl0 b xs p e ha hc hk s m args below hf ((Spec.applies_iff_loose hf).mp happ).1 hP trivial
  exact ⟨k, o, h1, h2, h3, hQ⟩
theorem lw_frame {s t : State} {o : Outcome} {args : Array Value} (h : Framed s o t [] 600128 7301098) :
    Framed s o t (fieldLocs frame_1_writes args s ++ arrayLocs frame_1_arrays args s ++ staticLocs frame_1_statics s) 600128 7301098 := h
theorem lw_quiet {l : Launch} (h : l.flags = flags0) : l.stackTraces = false := by
  unfold Launch.stackTraces
  rw [h]
  decide
theorem lw_limb (L : Cond) (hL : ∀ (args : Array Value) (s t : State), L.after args s (.returned (some (.int 1))) t = true) :
    ArmFor flags0 classFile x code maxLocals ret World_1 tables_1 room_1 Calls_1 rest_1 Pre_1
      (fun tb e a s o t => postC L tb e a s o t ∧ Framed s o t (fieldLocs frame_1_writes a s ++ arrayLocs frame_1_arrays a s ++ staticLocs frame_1_statics s) 600128 7301098) := by
  intro l hfl _ _ p e ha hc hk s m args below hf hfit hheap happ hpre
  obtain ⟨k, o, h1, h2, h3, rfl, hF⟩ := lw_comes l (lw_quiet hfl) p e ha hc hk s m args below hf hfit hheap happ hpre
  exact ⟨k, _, h1, h2, h3, hL args s _, lw_frame hF⟩
theorem i_vc : Claimed_1_1 ∧ Claimed_1_2 := ⟨lw_limb limb_1_1 (fun args s t => by simp [limb_1_1, Cond.after, Cond.holds, Cond.value]), lw_limb limb_1_2 (fun args s t => Cond.after_iff.mpr (by
  first | (rw [show limb_1_2 = Cond.eq .result (.int 1) from rfl, Cond.eq_ints (x := 1) (y := 1) rfl rfl]; simp; done) | (simp [limb_1_2, Cond.value, Term.eval]; done)))⟩
