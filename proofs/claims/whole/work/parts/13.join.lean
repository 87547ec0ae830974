
theorem arrC {D : va_G} {cl : List vw_C} {tys : List (ClassId × FieldType)} {s : State} {cA c0 : ClassId} {ty : FieldType} (hK : va_K D cl tys s) (hK1 : va_K D cl (tys ++ [(cA, ty)]) s) (t0 : Nat) (h0 : tys[t0]? = some (c0, ty)) (hp : refKind ty = false) : cA = c0 := by
  have h1 := (hK.2 t0 (c0, ty) h0).2
  have h2 := (hK1.2 tys.length (cA, ty) (by simp)).2
  cases ty <;> first | exact Option.some.inj (h2.symm.trans h1) | (simp [refKind] at hp)
theorem arrQ {D : va_G} {cl : List vw_C} {tys : List (ClassId × FieldType)} {s : State} {cA c0 : ClassId} {C : String} (hK : va_K D cl tys s) (hK1 : va_K D cl (tys ++ [(cA, .object C)]) s) (t0 : Nat) (h0 : tys[t0]? = some (c0, .object C)) : cA = c0 := by
  obtain ⟨k1, x1, a1, b1, d1, e1⟩ := (hK.2 t0 (c0, .object C) h0).2
  obtain ⟨k2, x2, a2, b2, d2, e2⟩ := (hK1.2 tys.length (cA, .object C) (by simp)).2
  exact Option.some.inj (e2.symm.trans e1)
theorem P_re {D : va_G} {cl : List vw_C} {ws ws' : va_W} {H : Heap} (f : Nat → Nat) (h : ∀ i, i < ws'.length → ws[f i]? = ws'[i]?) (hP : va_P D cl ws H) : va_P D cl ws' H := fun k q hk => hP (f k) q ((h k (List.getElem?_eq_some_iff.mp hk).1).trans hk)
theorem D_re {A : Nat → Prop} {ws ws' : va_W} (f : Nat → Nat) (hf : ∀ i j, i < ws'.length → j < ws'.length → f i = f j → i = j) (h : ∀ i, i < ws'.length → ws[f i]? = ws'[i]?) (hD : va_D A ws) : va_D A ws' :=
  ⟨fun i j p q hi hj e => by
    have li := (List.getElem?_eq_some_iff.mp hi).1
    have lj := (List.getElem?_eq_some_iff.mp hj).1
    exact hf i j li lj (hD.1 (f i) (f j) p q ((h i li).trans hi) ((h j lj).trans hj) e), fun k q hk => hD.2 (f k) q ((h k (List.getElem?_eq_some_iff.mp hk).1).trans hk)⟩
def mvF (x y z i : Nat) : Nat := if i < x then i else if i < x + z then i + y else i - z
theorem mv_at {X Y Z : va_W} (i : Nat) (hi : i < ((X ++ Z) ++ Y).length) : ((X ++ Y) ++ Z)[mvF X.length Y.length Z.length i]? = ((X ++ Z) ++ Y)[i]? := by
  simp only [List.length_append] at hi
  unfold mvF
  by_cases h1 : i < X.length
  · rw [if_pos h1, List.getElem?_append_left (by simp; omega), List.getElem?_append_left h1, List.getElem?_append_left (by simp; omega), List.getElem?_append_left h1]
  · rw [if_neg h1]
    by_cases h2 : i < X.length + Z.length
    · rw [if_pos h2, List.getElem?_append_right (by simp; omega), List.getElem?_append_left (l₁ := X ++ Z) (by simp; omega), List.getElem?_append_right (by omega)]
      congr 1
      simp
      omega
    · rw [if_neg h2, List.getElem?_append_left (l₁ := X ++ Y) (by simp; omega), List.getElem?_append_right (by omega), List.getElem?_append_right (by simp; omega)]
      congr 1
      simp
      omega
theorem P_mv {D : va_G} {cl : List vw_C} {X Y Z : va_W} {H : Heap} (hP : va_P D cl ((X ++ Y) ++ Z) H) : va_P D cl ((X ++ Z) ++ Y) H := P_re _ mv_at hP
theorem D_mv {A : Nat → Prop} {X Y Z : va_W} (hD : va_D A ((X ++ Y) ++ Z)) : va_D A ((X ++ Z) ++ Y) := D_re _ (fun i j hi hj e => by
  simp only [List.length_append] at hi hj
  unfold mvF at e
  split at e <;> split at e <;> (try split at e) <;> (try split at e) <;> omega) mv_at hD
theorem join1 {D : va_G} {cl : List vw_C} {A : Nat → Prop} {wr w1 : va_W} {b : Nat} {e : va_E} {H H1 : Heap} (hP : va_P D cl (wr ++ [(b, e)]) H) (hD : va_D A (wr ++ [(b, e)])) (hk : ∀ q : Nat, q < H.size → ¬ va_A [(b, e)] H.size q → H1[q]? = H[q]?) (hF : ∀ q, va_A [(b, e)] H.size q → A q) (hP1 : va_P D cl w1 H1) (hD1 : va_D (va_A [(b, e)] H.size) w1) : va_P D cl (wr ++ w1) H1 ∧ va_D A (wr ++ w1) := by
  have key : ∀ (k : Nat) (q : Nat × va_E), wr[k]? = some q → q.1 < H.size ∧ ¬ va_A [(b, e)] H.size q.1 := fun k q h => by
    have lk := (List.getElem?_eq_some_iff.mp h).1
    have h2 : (wr ++ [(b, e)])[k]? = some q := by rw [List.getElem?_append_left lk]; exact h
    have lt := (hP k q h2).lt
    refine ⟨lt, fun hv => ?_⟩
    rcases hv with ⟨k2, e2, h3⟩ | h3
    · have h4 : q.1 = b := by
        cases k2 with
        | zero => simp at h3; exact h3.1.symm
        | succ n => simp at h3
      have h5 : (wr ++ [(b, e)])[wr.length]? = some (b, e) := by simp
      have := hD.1 k wr.length q (b, e) h2 h5 h4
      omega
    · omega
  refine ⟨fun k q h => ?_, fun i j p q hi hj he => ?_, fun k q h => ?_⟩
  · by_cases lk : k < wr.length
    · rw [List.getElem?_append_left lk] at h
      have h2 : (wr ++ [(b, e)])[k]? = some q := by rw [List.getElem?_append_left lk]; exact h
      obtain ⟨k1, k2⟩ := key k q h
      exact (hP k q h2).kept (hk _ k1 k2)
    · rw [List.getElem?_append_right (by omega)] at h
      exact hP1 _ q h
  · by_cases li : i < wr.length
    · rw [List.getElem?_append_left li] at hi
      by_cases lj : j < wr.length
      · rw [List.getElem?_append_left lj] at hj
        exact hD.1 i j p q (by rw [List.getElem?_append_left li]; exact hi) (by rw [List.getElem?_append_left lj]; exact hj) he
      · rw [List.getElem?_append_right (by omega)] at hj
        have h1 := hD1.2 _ q hj
        rw [← he] at h1
        exact absurd h1 (key i p hi).2
    · rw [List.getElem?_append_right (by omega)] at hi
      by_cases lj : j < wr.length
      · rw [List.getElem?_append_left lj] at hj
        have h1 := hD1.2 _ p hi
        rw [he] at h1
        exact absurd h1 (key j q hj).2
      · rw [List.getElem?_append_right (by omega)] at hj
        have := hD1.1 _ _ p q hi hj he
        omega
  · by_cases lk : k < wr.length
    · rw [List.getElem?_append_left lk] at h
      exact hD.2 k q (by rw [List.getElem?_append_left lk]; exact h)
    · rw [List.getElem?_append_right (by omega)] at h
      exact hF _ (hD1.2 _ q h)
/-- what a constructor may take as given -/
def CIX (A : Nat → Prop) (U : State) (H : Heap) : Prop := (∀ w ∈ NW, va_Nw w U) ∧ va_AO "TraceWarden$Node" U ∧ va_Z "java/lang/String" "COMPACT_STRINGS" "Z" (.int 1) A U H
theorem CIX.call {A B : Nat → Prop} {s U : State} {H : Heap} {locs : List Loc} (h : CIX A s s.heap) (hS : va_S A s.heap H locs) (hAB : ∀ q, B q → A q) (hW : s.WarmedH U.vm) (hU : U.heap = H) : CIX B U U.heap := by
  obtain ⟨h1, h2, h3⟩ := h
  have ha := hW.alike
  exact ⟨NW_warm hW h1, h2.moved ha, ((h3.moved ha).kept (fun a h9 h10 => by rw [hU]; exact hS.2.1 a h9 h10)).narrow hAB⟩
theorem CIX.same {A : Nat → Prop} {s U : State} {H : Heap} (h : CIX A s H) (hv : U.vm = s.vm) : CIX A U H := by
  obtain ⟨h1, h2, h3⟩ := h
  have ha : s.vm.Alike U.vm := by rw [hv]; exact Vm.Alike.refl _
  exact ⟨fun w hw => va_Nw.same (by
      rcases NW_kind w hw with ⟨x1, x2, x3, x4, x5, x6, rfl⟩ | ⟨x1, x2, x3, x4, rfl⟩ <;> rfl) hv.symm (h1 w hw), h2.moved ha, h3.moved ha⟩
abbrev CI_Pc (D : va_G) (cc : Nat → ClassId) (av : List Value) (w : va_W) (sz : Nat) : Array Value → State → Prop := va_Pc av (fun U => U.heap.size = sz ∧ va_P D vwCl w U.heap ∧ va_K D vwCl (tyT cc) U ∧ va_D (fun _ => True) w ∧ CIX (va_A w sz) U U.heap)
abbrev CI_B (D : va_G) (cc : Nat → ClassId) (A : Nat → Prop) (w1 : List Nat → va_W) (u : List Nat) (t : State) : Prop := va_P D vwCl (w1 u) t.heap ∧ va_K D vwCl (tyT cc) t ∧ va_D A (w1 u)
abbrev CI_Q (D : va_G) (cc : Nat → ClassId) (w : va_W) (sz n : Nat) (w1 : List Nat → va_W) : Array Value → State → Outcome → State → Prop := va_Qv (fun (u : List Nat) => u.length = n) (CI_B D cc (va_A w sz) w1) (va_A w sz)
section CIR
variable {p : Program} {l : Launch} {e : Env} {R : Room} {s : State} {m : MethodId} {args : Array Value} {below : List Frame} {meth : Method} {c : Code} {H : Heap} {locs : List Loc} {cells slots : Nat} {Q : State → Prop} {D : va_G} {cc : Nat → ClassId} {A : Nat → Prop} {cb : ByteArray} {nL : Nat} {pc : Nat} {ls : Array Slot} {rest : List Value} {Ts : List Cond} {RX : String}
theorem CI_blind {av : List Value} {w : va_W} {sz : Nat} : FrameBlind (CI_Pc D cc av w sz) := fun a' U g mk q => by
  obtain ⟨q0, q1, qP, qK, qD, qT⟩ := q
  exact ⟨q0, q1, qP, va_K.moved (u := U) (U := U.calling g mk a') (Vm.Alike.refl U.vm) qK, qD, CIX.same (s := U) (U := U.calling g mk a') qT rfl⟩
theorem T_ciN {y : MethodName} {bytes : ByteArray} {maxL idx n mc ms nn b ci : Nat} {ws ws' : List Cond} {rm : Room} {fs : List Value} {w1 : List Nat → va_W} {wr : va_W} {As st0 : List Value} (S : CallFix p m c cb nL s args Ts RX) (hM : ∀ sz, Met l y ws rm (CI_Pc D cc (.ref b :: As) [(b, .inr (ci, fs))] sz) (CI_Q D cc [(b, .inr (ci, fs))] sz nn w1) mc ms (va_A [(b, .inr (ci, fs))] sz)) (hw : ws = Cond.code y bytes maxL none :: ws') (hG : GoodIn Ts ws) (hini : (Cond.initialized y.cls).before args s = true) (hlk : va_Nw (.methodLinkNest RX idx y "TraceWarden") s) (hin : (Cond.instanceMethod y).before args s = true) (hy1 : y.name = "<init>") (hd : T_hd y n) (hR : rm.frames + 1 ≤ R.frames ∧ 8 + (maxL + 11) + rm.locals ≤ R.locals) (hrm : rm.cells = mc ∧ rm.slots = ms) (hK : va_K D vwCl (tyT cc) s) (hP : va_P D vwCl (wr ++ [(b, .inr (ci, fs))]) H) (hD : va_D A (wr ++ [(b, .inr (ci, fs))])) (hS : va_S A s.heap H locs) (hA : ∀ q, s.heap.size ≤ q → A q) (hcix : CIX A s s.heap) (hn : As.length = n) (hsize : ls.size = nL) (hst : st0 = As.reverse ++ .ref b :: rest) (hW : 2 * (F0 m pc ls st0).monitorRoom + (rest.map fun v => v.category).sum ≤ 8) (hdg : decode cb pc = .ok (.invokespecial idx, 3)) (hf : cells + mc ≤ R.cells ∧ slots + ms ≤ R.slots) (kk : ∀ (u : List Nat), u.length = nn → ∀ (H : Heap) (locs : List Loc), va_P D vwCl (wr ++ w1 u) H → va_D A (wr ++ w1 u) → va_S A s.heap H locs → W p l e R s m args below meth c H locs (cells + mc) (slots + ms) Q (F0 m (pc + 3) ls rest)) : W p l e R s m args below meth c H locs cells slots Q (F0 m pc ls st0) := by
  have hb : (wr ++ [(b, .inr (ci, fs))])[wr.length]? = some (b, .inr (ci, fs)) := by simp
  have hF : ∀ q, va_A [(b, .inr (ci, fs))] H.size q → A q := fun q h => by
    rcases h with ⟨k2, e2, h3⟩ | h3
    · have h4 : b = q := by
        cases k2 with
        | zero => simp at h3; exact h3.1
        | succ n => simp at h3
      exact h4 ▸ hD.2 _ _ hb
    · exact hA q (Nat.le_trans hS.1 h3)
  have hPc : va_P D vwCl [(b, .inr (ci, fs))] H := fun k q h => by
    cases k with
    | zero => simp at h; subst h; exact hP _ _ hb
    | succ n => simp at h
  refine va_callv (va_runIN (As := As) (rest := rest) S (hM H.size) ⟨va_cnB n S.2.2.2.2 hG hw hrm.1 hrm.2 hlk hini hd hR, hy1, hin⟩ ⟨CI_blind, fun U hU hW => ⟨rfl, by rw [hU], by rw [hU]; exact hPc, va_K.moved hW.alike hK, ⟨fun i j p q hi hj _ => by
    have li := (List.getElem?_eq_some_iff.mp hi).1
    have lj := (List.getElem?_eq_some_iff.mp hj).1
    simp at li lj
    omega, fun _ _ _ => trivial⟩, hcix.call hS hF hW hU⟩⟩ rfl hn hsize hst hW hdg hf) hS (fun q _ h => hF q h) hF (fun u t H1 locs ht hvm hw hB hz1 hk1 hS => ?_)
  obtain ⟨hP1, hK1, hD1⟩ := hB
  rw [ht] at hP1
  obtain ⟨h1, h2⟩ := join1 hP hD hk1 hF hP1 hD1
  exact kk u hw H1 locs h1 h2 hS
theorem T_ciL {y : MethodName} {bytes : ByteArray} {maxL idx n mc ms nn b ci : Nat} {ws ws' : List Cond} {rm : Room} {fs : List Value} {w1 : List Nat → va_W} {wr : va_W} {As st0 : List Value} (S : CallFix p m c cb nL s args Ts RX) (hM : ∀ sz, Met l y ws rm (CI_Pc D cc (.ref b :: As) [(b, .inr (ci, fs))] sz) (CI_Q D cc [(b, .inr (ci, fs))] sz nn w1) mc ms (va_A [(b, .inr (ci, fs))] sz)) (hw : ws = Cond.code y bytes maxL none :: ws') (hG : GoodIn Ts ws) (hini : (Cond.initialized y.cls).before args s = true) (hlk : (Cond.methodLink RX idx y).before args s = true) (hin : (Cond.instanceMethod y).before args s = true) (hy1 : y.name = "<init>") (hd : T_hd y n) (hR : rm.frames + 1 ≤ R.frames ∧ 8 + (maxL + 11) + rm.locals ≤ R.locals) (hrm : rm.cells = mc ∧ rm.slots = ms) (hK : va_K D vwCl (tyT cc) s) (hP : va_P D vwCl (wr ++ [(b, .inr (ci, fs))]) H) (hD : va_D A (wr ++ [(b, .inr (ci, fs))])) (hS : va_S A s.heap H locs) (hA : ∀ q, s.heap.size ≤ q → A q) (hcix : CIX A s s.heap) (hn : As.length = n) (hsize : ls.size = nL) (hst : st0 = As.reverse ++ .ref b :: rest) (hW : 2 * (F0 m pc ls st0).monitorRoom + (rest.map fun v => v.category).sum ≤ 8) (hdg : decode cb pc = .ok (.invokespecial idx, 3)) (hf : cells + mc ≤ R.cells ∧ slots + ms ≤ R.slots) (kk : ∀ (u : List Nat), u.length = nn → ∀ (H : Heap) (locs : List Loc), va_P D vwCl (wr ++ w1 u) H → va_D A (wr ++ w1 u) → va_S A s.heap H locs → W p l e R s m args below meth c H locs (cells + mc) (slots + ms) Q (F0 m (pc + 3) ls rest)) : W p l e R s m args below meth c H locs cells slots Q (F0 m pc ls st0) := by
  have hb : (wr ++ [(b, .inr (ci, fs))])[wr.length]? = some (b, .inr (ci, fs)) := by simp
  have hF : ∀ q, va_A [(b, .inr (ci, fs))] H.size q → A q := fun q h => by
    rcases h with ⟨k2, e2, h3⟩ | h3
    · have h4 : b = q := by
        cases k2 with
        | zero => simp at h3; exact h3.1
        | succ n => simp at h3
      exact h4 ▸ hD.2 _ _ hb
    · exact hA q (Nat.le_trans hS.1 h3)
  have hPc : va_P D vwCl [(b, .inr (ci, fs))] H := fun k q h => by
    cases k with
    | zero => simp at h; subst h; exact hP _ _ hb
    | succ n => simp at h
  refine va_callv (va_runI (As := As) (rest := rest) S (hM H.size) (cwI n S.2.2.2.2 hG hw hrm.1 hrm.2 hini hlk hin hy1 hd hR) ⟨CI_blind, fun U hU hW => ⟨rfl, by rw [hU], by rw [hU]; exact hPc, va_K.moved hW.alike hK, ⟨fun i j p q hi hj _ => by
    have li := (List.getElem?_eq_some_iff.mp hi).1
    have lj := (List.getElem?_eq_some_iff.mp hj).1
    simp at li lj
    omega, fun _ _ _ => trivial⟩, hcix.call hS hF hW hU⟩⟩ rfl hn hsize hst hW hdg hf) hS (fun q _ h => hF q h) hF (fun u t H1 locs ht hvm hw hB hz1 hk1 hS => ?_)
  obtain ⟨hP1, hK1, hD1⟩ := hB
  rw [ht] at hP1
  obtain ⟨h1, h2⟩ := join1 hP hD hk1 hF hP1 hD1
  exact kk u hw H1 locs h1 h2 hS
end CIR
