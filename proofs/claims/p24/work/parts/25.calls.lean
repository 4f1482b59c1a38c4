/-! ===== contracts over the ghost map, and calls ===== -/
def Fz (σ : Sg) (sz : Nat) : Nat → Prop := fun q => σ q ≠ none ∨ sz ≤ q
def WdS (E : EX) (σ : Sg) (U : State) : Prop := (∀ (a : Nat) (i : Pid) (e : va_E), σ a = some (i, e) → va_at E.D vwCl (a, e) U.heap) ∧ va_K E.D vwCl (tysF E.cy) U
/-- a contract: from the map σ the method answers v and leaves σ', and P v σ' -/
def RetS (E : EX) (y : MethodName) (cc : ByteArray) (nL : Nat) (rt : Option FieldType) (fr lo mc ms : Nat) (args : List Value) (σ : Sg) (P : Option Value → Sg → Prop) : Prop :=
  ∀ sz : Nat, Met E.l y (Cond.code y cc nL rt :: ALL) { frames := fr, cells := mc, slots := ms, locals := lo } (va_Pc args (fun U => U.heap.size = sz ∧ WdS E σ U ∧ SX E (Fz σ sz) U)) (fun _ st oc t => (∃ (v : Option Value) (σ' : Sg), oc = .returned v ∧ P v σ' ∧ WdS E σ' t ∧ ∀ a, σ' a ≠ none → Fz σ sz a) ∧ va_F (Fz σ sz) st t) mc ms (Fz σ sz)
def EndsS (κ : KX) (σ0 : Sg) (P : Option Value → Sg → Prop) (mc ms : Nat) : Prop := κ.Q = MQ κ.below (fun _ st oc t => (∃ (v : Option Value) (σ' : Sg), oc = .returned v ∧ P v σ' ∧ WdS κ.E σ' t ∧ ∀ a, σ' a ≠ none → Fz σ0 κ.s.heap.size a) ∧ va_F (Fz σ0 κ.s.heap.size) st t) κ.args κ.s mc ms (Fz σ0 κ.s.heap.size) ∧ κ.A = Fz σ0 κ.s.heap.size ∧ mc ≤ κ.R.cells ∧ ms ≤ κ.R.slots
theorem SX.moved {E : EX} {A B : Nat → Prop} {s U : State} {H : Heap} {locs : List Loc} (h : SX E A s) (hS : va_S A s.heap H locs) (hU : U.heap = H) (hW : s.WarmedH U.vm) (hB : ∀ q, B q → A q) : SX E B U := by
  obtain ⟨h1, ⟨h2, h3, h4, h5⟩, h6⟩ := h
  refine ⟨h1.warm hW, ⟨?_, by rw [hU]; exact Nat.lt_of_lt_of_le h3 hS.1, fun q => h4 (hB _ q), h5⟩, h6⟩
  rw [hU]
  obtain ⟨scr, a1, a2, a3⟩ := va_X.moved (U := U) hW.alike h2
  exact ⟨scr, (hS.2.1 _ h3 h4).trans a1, a2, a3⟩
theorem WdS.calling {E : EX} {σ : Sg} {U : State} {g : JFrame} {mk : MethodId} {a : Array Value} (h : WdS E σ U) : WdS E σ (U.calling g mk a) := ⟨h.1, va_K.moved (u := U) (U := U.calling g mk a) (Vm.Alike.refl U.vm) h.2⟩
theorem SX.calling {E : EX} {A : Nat → Prop} {U : State} {g : JFrame} {mk : MethodId} {a : Array Value} (h : SX E A U) : SX E A (U.calling g mk a) := SX.moved (s := U) (U := U.calling g mk a) (H := U.heap) (locs := []) h va_S.rf rfl (State.WarmedH.refl U) (fun _ q => q)
theorem PS_blind {E : EX} {σ : Sg} {sz : Nat} {av : List Value} : FrameBlind (va_Pc av (fun U => U.heap.size = sz ∧ WdS E σ U ∧ SX E (Fz σ sz) U)) := fun a U g mk q => by
  obtain ⟨q0, q1, q2, q3⟩ := q
  exact ⟨q0, q1, q2.calling, q3.calling⟩
theorem RetS_of {E : EX} {y : MethodName} {cc : ByteArray} {nL : Nat} {rt : Option FieldType} {fr lo mc ms : Nat} {args : List Value} {σ : Sg} {P : Option Value → Sg → Prop} (own : String) (hy : plainName y.cls = true) (ho : y.cls = own) (l0 : LSt) (hl0 : entL args nL = l0) (hlen : (entA args).length ≤ nL)
    (body : ∀ κ : KX, κ.E = E → Gd κ cc nL own fr lo → EndsS κ σ P mc ms → κ.meth.sig.returnType = rt → HV κ nL σ 0 0 l0 [] 0) : RetS E y cc nL rt fr lo mc ms args σ P := by
  intro sz
  refine Met.ofW (cc := cc) (maxL := nL) (ret := rt) hy rfl ?_
  intro p e s m args9 below meth c s₁ B hml hv
  obtain ⟨rfl, hsz, hW, hX⟩ := hv
  have hts := atoms_spec (ws := Cond.code y cc nL rt :: ALL) B.pre
  have hown : s.vm.findClass own = some m.cls := by rw [← ho]; exact findClass_of_methodNamed B.named
  subst hsz
  subst hl0
  have hlg : (lg_sl args).length ≤ nL := by rw [← entA_len]; exact hlen
  have hl := lv_entry args hlg
  rw [lg_entry_eq]
  generalize hls9 : (lg_sl args ++ List.replicate (nL - (lg_sl args).length) Slot.unset).toArray = ls at hl ⊢
  have hLV : LV ls nL (entL args nL) := by
    refine ⟨_, hl, ?_, fun i v hi => ?_⟩
    · simp only [entL, List.length_append, List.length_replicate]
      omega
    · simp only [entL] at hi
      by_cases hi9 : i < (entA args).length
      · rw [List.getElem?_append_left hi9] at hi
        have := entA_mem args 0 i v hi
        simpa using this
      · rw [List.getElem?_append_right (by omega)] at hi
        have := List.eq_of_mem_replicate (List.mem_of_getElem? hi)
        cases this
  have hb := body ((p, E, e, (headSpec (Cond.code y cc nL rt :: ALL) { frames := fr, cells := mc, slots := ms, locals := lo }).room, s), (m, args.toArray, below, meth, c), MQ below (fun _ st oc t => (∃ (v : Option Value) (σ' : Sg), oc = .returned v ∧ P v σ' ∧ WdS E σ' t ∧ ∀ a, σ' a ≠ none → Fz σ s.heap.size a) ∧ va_F (Fz σ s.heap.size) st t) args.toArray s mc ms (Fz σ s.heap.size), Fz σ s.heap.size, (0, 0)) rfl
    ⟨B.exec, B.bytes, hml, hown, fun w hw => hts w (List.mem_cons_of_mem _ hw), hW.2, B.notSynchronized, Nat.le_refl _, Nat.le_refl _, fun q hq => Or.inr hq, hX⟩ ⟨rfl, rfl, Nat.le_refl _, Nat.le_refl _⟩ B.returns
  exact hb s.heap [] ls (fun a i e hs => ⟨Or.inl (by rw [hs]; exact fun q => by cases q), hW.1 a i e hs⟩) va_S.rf hLV
theorem RetS.weak {E : EX} {y : MethodName} {cc : ByteArray} {nL : Nat} {rt : Option FieldType} {fr lo mc ms : Nat} {args : List Value} {σ : Sg} {P P2 : Option Value → Sg → Prop} (h : RetS E y cc nL rt fr lo mc ms args σ P) (hp : ∀ v σ', P v σ' → P2 v σ') : RetS E y cc nL rt fr lo mc ms args σ P2 := by
  intro sz p e ha hc hk s m args below hf h1 h2 h3
  obtain ⟨k, o, a1, a2, a3, ⟨⟨⟨v, σ', b1, b2, b3⟩, b4⟩, b5⟩⟩ := h sz p e ha hc hk s m args below hf h1 h2 h3
  exact ⟨k, o, a1, a2, a3, ⟨⟨⟨v, σ', b1, hp v σ' b2, b3⟩, b4⟩, b5⟩⟩
/-- the class's pool in the map -/
def ClsP (E : EX) (σ : Sg) (M : Mem) : Prop := ∀ i, i ∈ idsC → σ (E.ad i) = some (i, E.cel M i)
def setC (E : EX) (σ : Sg) (M : Mem) : Sg := fun b => match idsC.find? (fun i => decide (E.ad i = b)) with
  | some i => some (i, E.cel M i)
  | none => σ b
/-- what is not the class's stays -/
def KpC (σ σ' : Sg) : Prop := ∀ (a : Nat) (i : Pid) (e : va_E), σ a = some (i, e) → 20 ≤ i.1 → σ' a = some (i, e)
theorem idsC_lt : ∀ i, i ∈ idsC → i.1 < 20 := by decide +kernel
theorem setC_in {E : EX} {σ : Sg} {M : Mem} (hi : Inj E idsC) {i : Pid} (h : i ∈ idsC) : setC E σ M (E.ad i) = some (i, E.cel M i) := by
  unfold setC
  cases hf : idsC.find? (fun j => decide (E.ad j = E.ad i)) with
  | none => exact ((List.find?_eq_none.mp hf) i h (decide_eq_true (rfl : E.ad i = E.ad i))).elim
  | some j =>
    have h0 := List.find?_some hf
    have h1 : E.ad j = E.ad i := of_decide_eq_true h0
    have h2 := hi j (List.mem_of_find?_eq_some hf) i h h1
    subst h2
    rfl
theorem setC_out {E : EX} {σ : Sg} {M : Mem} {b : Nat} (h : ∀ i, i ∈ idsC → E.ad i ≠ b) : setC E σ M b = σ b := by
  unfold setC
  have hf : idsC.find? (fun j => decide (E.ad j = b)) = none := List.find?_eq_none.mpr (fun j hj e => h j hj (of_decide_eq_true e))
  rw [hf]
theorem setC_cls {E : EX} {σ : Sg} {M : Mem} (hi : Inj E idsC) : ClsP E (setC E σ M) M := fun _ h => setC_in hi h
theorem setC_keep {E : EX} {σ : Sg} {M M' : Mem} (hc : ClsP E σ M) : KpC σ (setC E σ M') := fun a i e hs h20 => by
  rw [setC_out, hs]
  intro j hj e2
  have h1 := hc j hj
  rw [e2, hs] at h1
  cases h1
  have := idsC_lt _ hj
  omega
theorem setC_self {E : EX} {σ : Sg} {M : Mem} (hc : ClsP E σ M) : setC E σ M = σ := by
  funext b
  unfold setC
  cases hf : idsC.find? (fun j => decide (E.ad j = b)) with
  | none => rfl
  | some j =>
    have h0 := List.find?_some hf
    have h1 : E.ad j = b := of_decide_eq_true h0
    rw [← h1]
    exact (hc j (List.mem_of_find?_eq_some hf)).symm
section HCalls
variable {κ : KX} {cc : ByteArray} {nL fr lo : Nat} {own : String} {σ σ0 : Sg} {cN dN mc ms : Nat} {l : LSt} {st rest : List Value} {pc : Nat} {P0 : Option Value → Sg → Prop}
theorem Hd.dom {D : va_G} {A : Nat → Prop} {σ : Sg} {H : Heap} (h : Hd D A σ H) {a : Nat} (ha : σ a ≠ none) : A a := by
  cases hs : σ a with
  | none => exact absurd hs ha
  | some x => exact (h a x.1 x.2 hs).1
theorem h_iret (G : Gd κ cc nL own fr lo) (E9 : EndsS κ σ0 P0 mc ms) (hc : cN ≤ mc) (hd : dN ≤ ms) (hr : κ.meth.sig.returnType = some .int) {v : Int32} (d : decode cc pc = .ok (.ireturn, 1)) (hp : P0 (some (.int v)) σ) : HV κ nL σ cN dN l [.int v] pc := fun H locs ls hP hS hl => by
  obtain ⟨hQ, hA, h2, h3⟩ := E9
  rw [hQ]
  have hS' := hS
  rw [hA] at hS'
  refine W.widen (k := mc) (n := ms) hc hd ?_
  exact W.iret (v := v) G.hx G.hb hr (fun t ht hW => ⟨⟨some (.int v), σ, rfl, hp, ⟨fun a i e hs => by rw [ht]; exact (hP a i e hs).2, va_K.moved hW.alike G.hK⟩, fun a ha => by rw [← hA]; exact hP.dom ha⟩, hS'.F ht⟩) hS'.2.2 d G.hlk
theorem h_zret (G : Gd κ cc nL own fr lo) (E9 : EndsS κ σ0 P0 mc ms) (hc : cN ≤ mc) (hd : dN ≤ ms) (hr : κ.meth.sig.returnType = some .boolean) {v : Int32} (hv : v = 0 ∨ v = 1) (d : decode cc pc = .ok (.ireturn, 1)) (hp : P0 (some (.int v)) σ) : HV κ nL σ cN dN l [.int v] pc := fun H locs ls hP hS hl => by
  obtain ⟨hQ, hA, h2, h3⟩ := E9
  rw [hQ]
  have hS' := hS
  rw [hA] at hS'
  refine W.widen (k := mc) (n := ms) hc hd ?_
  exact W.zret (v := v) G.hx G.hb hr (by rcases hv with rfl | rfl <;> decide) (fun t ht hW => ⟨⟨some (.int v), σ, rfl, hp, ⟨fun a i e hs => by rw [ht]; exact (hP a i e hs).2, va_K.moved hW.alike G.hK⟩, fun a ha => by rw [← hA]; exact hP.dom ha⟩, hS'.F ht⟩) hS'.2.2 d G.hlk
theorem h_vret (G : Gd κ cc nL own fr lo) (E9 : EndsS κ σ0 P0 mc ms) (hc : cN ≤ mc) (hd : dN ≤ ms) (hr : κ.meth.sig.returnType = none) (d : decode cc pc = .ok (.return_, 1)) (hp : P0 none σ) : HV κ nL σ cN dN l [] pc := fun H locs ls hP hS hl => by
  obtain ⟨hQ, hA, h2, h3⟩ := E9
  rw [hQ]
  have hS' := hS
  rw [hA] at hS'
  refine W.widen (k := mc) (n := ms) hc hd ?_
  exact W.vret G.hx G.hb hr (fun t ht hW => ⟨⟨none, σ, rfl, hp, ⟨fun a i e hs => by rw [ht]; exact (hP a i e hs).2, va_K.moved hW.alike G.hK⟩, fun a ha => by rw [← hA]; exact hP.dom ha⟩, hS'.F ht⟩) hS'.2.2 d G.hlk
theorem h_aret (G : Gd κ cc nL own fr lo) (E9 : EndsS κ σ0 P0 mc ms) (hc : cN ≤ mc) (hd : dN ≤ ms) {rt : FieldType} (hr : κ.meth.sig.returnType = some rt) (hrt : (∃ C, rt = .object C) ∨ ∃ t, rt = .array t) {q : Nat} (d : decode cc pc = .ok (.areturn, 1)) (hp : P0 (some (.ref q)) σ) : HV κ nL σ cN dN l [.ref q] pc := fun H locs ls hP hS hl => by
  obtain ⟨hQ, hA, h2, h3⟩ := E9
  rw [hQ]
  have hS' := hS
  rw [hA] at hS'
  refine W.widen (k := mc) (n := ms) hc hd ?_
  exact W.aret (v := .ref q) G.hx G.hb hr hrt (Or.inr ⟨q, rfl⟩) (fun t ht hW => ⟨⟨some (.ref q), σ, rfl, hp, ⟨fun a i e hs => by rw [ht]; exact (hP a i e hs).2, va_K.moved hW.alike G.hK⟩, fun a ha => by rw [← hA]; exact hP.dom ha⟩, hS'.F ht⟩) hS'.2.2 d G.hlk
variable {y : MethodName} {bytes : ByteArray} {maxL fr2 lo2 n index mc2 ms2 : Nat} {rt : Option FieldType} {As stk : List Value} {P : Option Value → Sg → Prop}
theorem callB_H (G : Gd κ cc nL own fr lo) (hm : Cond.methodLink own index y ∈ ALL) (hm4 : Cond.initialized y.cls ∈ ALL) (hm5 : Cond.code y bytes maxL rt ∈ ALL) (hy : y.cls ≠ "java/lang/invoke/MethodHandle" ∧ y.cls ≠ "java/lang/invoke/VarHandle" ∧ (parseMethodDescriptor y.desc).map (fun d => d.parameters.length) = some n) (hr : fr2 + 1 ≤ fr ∧ 8 + (maxL + 11) + lo2 ≤ lo) :
    CallB κ.R κ.s κ.args own index y bytes maxL rt (Cond.code y bytes maxL rt :: ALL) { frames := fr2, cells := mc2, slots := ms2, locals := lo2 } mc2 ms2 n := by
  refine ⟨rfl, rfl, Nat.le_trans hr.1 G.hfr, Nat.le_trans hr.2 G.hlo, fun w hw a' U hW => ?_, List.mem_cons_self, G.hw _ hm5, G.hw _ hm4, ⟨hy.1, hy.2.1⟩, fun sig h => ?_, G.hw _ hm⟩
  · rcases List.mem_cons.mp hw with h | h
    · subst h
      exact ALL_warm G.hw _ hm5 a' U hW
    · exact ALL_warm G.hw _ h a' U hW
  · have h2 := hy.2.2
    rw [h] at h2
    exact (Option.some.inj h2).symm
theorem Fz_in (G : Gd κ cc nL own fr lo) {H : Heap} {locs : List Loc} (hP : Hd κ.E.D κ.A σ H) (hS : va_S κ.A κ.s.heap H locs) : ∀ q, Fz σ H.size q → κ.A q := fun q hq => by
  rcases hq with hq | hq
  · exact hP.dom hq
  · exact G.hA9 q (Nat.le_trans hS.1 hq)
theorem h_fin (G : Gd κ cc nL own fr lo) {H : Heap} {locs : List Loc} {ls : Array Slot} {av : Array Value} (hP : Hd κ.E.D κ.A σ H) (hS : va_S κ.A κ.s.heap H locs) (hl : LV ls nL l)
    (hr : va_Run κ.p κ.E.l κ.e κ.R κ.s κ.m κ.args κ.below κ.meth κ.c H locs cN dN mc2 ms2 (F0 κ.m pc ls stk) rest ((fun _ st oc t => (∃ (v : Option Value) (σ' : Sg), oc = .returned v ∧ P v σ' ∧ WdS κ.E σ' t ∧ ∀ a, σ' a ≠ none → Fz σ H.size a) ∧ va_F (Fz σ H.size) st t : Array Value → State → Outcome → State → Prop) av) (Fz σ H.size))
    (h : ∀ r σ', P r σ' → HV κ nL σ' (cN + mc2) (dN + ms2) l (r.toList ++ rest) (pc + 3)) : W κ.p κ.E.l κ.e κ.R κ.s κ.m κ.args κ.below κ.meth κ.c H locs cN dN κ.Q (F0 κ.m pc ls stk) := by
  intro T hT X
  obtain ⟨v, st₀, t, T', L, h0, X', hL, e1, e2, ⟨⟨v2, σ', hv, hp, hW, hdom⟩, hF⟩, st9⟩ := hr T hT X
  cases hv
  have hA9 := Fz_in G hP hS
  obtain ⟨k1, k2, k3⟩ := vx_keep (A0 := κ.A) h0 e1 hS (fun q _ hq => hA9 q hq) (fun q hq => hA9 q hq) hL hF
  obtain ⟨t2, a1, b1⟩ := h v σ' hp T'.heap (locs ++ L) ls (fun a i e hs => ⟨hA9 a (hdom a (by rw [hs]; exact fun q => by cases q)), by rw [e1]; exact hW.1 a i e hs⟩) k3 hl T' rfl X'
  exact ⟨t2, st9 t2 a1, b1⟩
/-- what a callee's start asks -/
theorem h_pre (G : Gd κ cc nL own fr lo) {H : Heap} {locs : List Loc} (hP : Hd κ.E.D κ.A σ H) (hS : va_S κ.A κ.s.heap H locs) : ∀ U : State, U.heap = H → κ.s.WarmedH U.vm → U.heap.size = H.size ∧ WdS κ.E σ U ∧ SX κ.E (Fz σ H.size) U := fun U hU hW => ⟨by rw [hU], ⟨fun a i e hs => by rw [hU]; exact (hP a i e hs).2, va_K.moved hW.alike G.hK⟩, G.hSX.moved hS hU hW (Fz_in G hP hS)⟩
/-- a call by the receiver's class -/
theorem h_callV (G : Gd κ cc nL own fr lo) {a : Nat} {i : Pid} {ci N : Nat} {C : String} {T : u_T} {fs : List Value} (c : RetS κ.E y bytes maxL rt fr2 lo2 mc2 ms2 (.ref a :: As) σ P) (he : σ a = some (i, .inr (ci, fs))) (hc : vwCl[ci]? = some (C, T, N)) (hm : Cond.methodLink own index y ∈ ALL) (hm2 : Cond.instanceMethod y ∈ ALL) (hm3 : Cond.selects C y y ∈ ALL) (hm4 : Cond.initialized y.cls ∈ ALL) (hm5 : Cond.code y bytes maxL rt ∈ ALL) (hy : y.cls ≠ "java/lang/invoke/MethodHandle" ∧ y.cls ≠ "java/lang/invoke/VarHandle" ∧ (parseMethodDescriptor y.desc).map (fun d => d.parameters.length) = some n) (hr : fr2 + 1 ≤ fr ∧ 8 + (maxL + 11) + lo2 ≤ lo) (hn : As.length = n) (hw : (rest.map fun v => v.category).sum ≤ 8) (hc9 : cN + mc2 ≤ κ.R.cells) (hd9 : dN + ms2 ≤ κ.R.slots) (d : decode cc pc = .ok (.invokevirtual index, 3)) (hstk : stk = As.reverse ++ .ref a :: rest) (h : ∀ r σ', P r σ' → HV κ nL σ' (cN + mc2) (dN + ms2) l (r.toList ++ rest) (pc + 3)) : HV κ nL σ cN dN l stk pc := by
  intro H locs ls hP hS hl
  obtain ⟨q0, h1⟩ := hP.get he
  have hls : ls.size = nL := by obtain ⟨lv, h1, -⟩ := hl; exact h1.1
  exact h_fin (av := (Value.ref a :: As).toArray) G hP hS hl (va_runV (C := C) (b := a) (As := As) (rest := rest) (cells := cN) (slots := dN) (g := F0 κ.m pc ls stk) ⟨G.hx, G.hb, G.hml, G.hown, G.hw⟩ (c H.size) ⟨callB_H G hm hm4 hm5 hy hr, G.hw _ hm2, G.hw _ hm3⟩ ⟨PS_blind, va_recv G.hK (hP.P _) (ci := ci) (q0 := q0) hc h1, fun U hU hW => ⟨rfl, h_pre G hP hS U hU hW⟩⟩ rfl hn hls hstk (lv_room hw) d ⟨hc9, hd9⟩) h
/-- a static call -/
theorem h_callS (G : Gd κ cc nL own fr lo) (c : RetS κ.E y bytes maxL rt fr2 lo2 mc2 ms2 As σ P) (hm : Cond.methodLink own index y ∈ ALL) (hm2 : Cond.static y ∈ ALL) (hm4 : Cond.initialized y.cls ∈ ALL) (hm5 : Cond.code y bytes maxL rt ∈ ALL) (hy : y.cls ≠ "java/lang/invoke/MethodHandle" ∧ y.cls ≠ "java/lang/invoke/VarHandle" ∧ (parseMethodDescriptor y.desc).map (fun d => d.parameters.length) = some n) (hr : fr2 + 1 ≤ fr ∧ 8 + (maxL + 11) + lo2 ≤ lo) (hn : As.length = n) (hw : (rest.map fun v => v.category).sum ≤ 8) (hc9 : cN + mc2 ≤ κ.R.cells) (hd9 : dN + ms2 ≤ κ.R.slots) (d : decode cc pc = .ok (.invokestatic index, 3)) (hstk : stk = As.reverse ++ rest) (h : ∀ r σ', P r σ' → HV κ nL σ' (cN + mc2) (dN + ms2) l (r.toList ++ rest) (pc + 3)) : HV κ nL σ cN dN l stk pc := by
  intro H locs ls hP hS hl
  have hls : ls.size = nL := by obtain ⟨lv, h1, -⟩ := hl; exact h1.1
  exact h_fin (av := As.toArray) G hP hS hl (va_runS (As := As) (rest := rest) (cells := cN) (slots := dN) (g := F0 κ.m pc ls stk) ⟨G.hx, G.hb, G.hml, G.hown, G.hw⟩ (c H.size) ⟨callB_H G hm hm4 hm5 hy hr, G.hw _ hm2⟩ ⟨PS_blind, fun U hU hW => ⟨rfl, h_pre G hP hS U hU hW⟩⟩ rfl hn hls hstk (lv_room hw) d ⟨hc9, hd9⟩) h
/-- a constructor of the nest -/
theorem h_callN (G : Gd κ cc nL own fr lo) {a : Nat} (c : RetS κ.E y bytes maxL none fr2 lo2 mc2 ms2 [.ref a] σ P) (hm : va_Nw (.methodLinkNest own index y RL) κ.s) (hm2 : Cond.instanceMethod y ∈ ALL) (hm4 : Cond.initialized y.cls ∈ ALL) (hm5 : Cond.code y bytes maxL none ∈ ALL) (hy : y.cls ≠ "java/lang/invoke/MethodHandle" ∧ y.cls ≠ "java/lang/invoke/VarHandle" ∧ (parseMethodDescriptor y.desc).map (fun d => d.parameters.length) = some 0) (hyn : y.name = "<init>") (hr : fr2 + 1 ≤ fr ∧ 8 + (maxL + 11) + lo2 ≤ lo) (hw : (rest.map fun v => v.category).sum ≤ 8) (hc9 : cN + mc2 ≤ κ.R.cells) (hd9 : dN + ms2 ≤ κ.R.slots) (d : decode cc pc = .ok (.invokespecial index, 3)) (h : ∀ r σ', P r σ' → HV κ nL σ' (cN + mc2) (dN + ms2) l (r.toList ++ rest) (pc + 3)) : HV κ nL σ cN dN l (.ref a :: rest) pc := by
  intro H locs ls hP hS hl
  have hls : ls.size = nL := by obtain ⟨lv, h1, -⟩ := hl; exact h1.1
  exact h_fin (av := (Value.ref a :: []).toArray) G hP hS hl (va_runIN (e := κ.e) (below := κ.below) (meth := κ.meth) (b := a) (As := []) (rest := rest) (cells := cN) (slots := dN) (locs := locs) ⟨G.hx, G.hb, G.hml, G.hown, G.hw⟩ (c H.size) ⟨⟨⟨rfl, rfl, Nat.le_trans hr.1 G.hfr, Nat.le_trans hr.2 G.hlo, fun w hw a' U hW => by
    rcases List.mem_cons.mp hw with h | h
    · subst h
      exact ALL_warm G.hw _ hm5 a' U hW
    · exact ALL_warm G.hw _ h a' U hW, List.mem_cons_self⟩, G.hw _ hm5, G.hw _ hm4, ⟨hy.1, hy.2.1⟩, fun sig h => by
    have h2 := hy.2.2
    rw [h] at h2
    exact (Option.some.inj h2).symm, va_Nw.use rfl hm⟩, hyn, G.hw _ hm2⟩ ⟨PS_blind, fun U hU hW => ⟨rfl, h_pre G hP hS U hU hW⟩⟩ rfl rfl hls rfl (lv_room hw) d (g := F0 κ.m pc ls (.ref a :: rest)) ⟨hc9, hd9⟩) h
/-- Object's own constructor -/
theorem h_obj (G : Gd κ cc nL own fr lo) {index q : Nat} (hm : Cond.methodLink own index objectInit ∈ ALL) (hr : 1 ≤ fr ∧ 12 ≤ lo) (dg : decode cc pc = .ok (.invokespecial index, 3)) (h : HV κ nL σ cN dN l [] (pc + 3)) : HV κ nL σ cN dN l [.ref q] pc := fun H locs ls hP hS hl => by
  have hls : ls.size = nL := by obtain ⟨lv, h1, -⟩ := hl; exact h1.1
  refine W.objInit G.hx G.hb G.hown (G.hw _ hm) (G.hw (.instanceMethod objectInit) (by decide +kernel)) (G.hw (.code objectInit ⟨#[0xb1]⟩ 1 none) (by decide +kernel)) rfl (by rw [G.hml]; exact hls) rfl dg (Nat.le_trans hr.1 G.hfr) (Nat.le_trans hr.2 G.hlo) ?_
  exact W.eq (g2 := F0 κ.m (pc + 3) ls []) rfl (h H locs ls hP hS hl)
/-- a call of the class -/
theorem h_callC (G : Gd κ cc nL own fr lo) {M : Mem} {i : Pid} {ci N : Nat} {C : String} {T : u_T} {fs : List Value} {Pm : Option Value → Mem → Prop} (hC : ClsP κ.E σ M) (c : Ret κ.E idsC y bytes maxL rt fr2 lo2 (.ref (κ.E.ad i) :: As) M Pm) (hi : i ∈ idsC) (he : κ.E.cel M i = .inr (ci, fs)) (hc : vwCl[ci]? = some (C, T, N)) (hm : Cond.methodLink own index y ∈ ALL) (hm2 : Cond.instanceMethod y ∈ ALL) (hm3 : Cond.selects C y y ∈ ALL) (hm4 : Cond.initialized y.cls ∈ ALL) (hm5 : Cond.code y bytes maxL rt ∈ ALL) (hy : y.cls ≠ "java/lang/invoke/MethodHandle" ∧ y.cls ≠ "java/lang/invoke/VarHandle" ∧ (parseMethodDescriptor y.desc).map (fun d => d.parameters.length) = some n) (hr : fr2 + 1 ≤ fr ∧ 8 + (maxL + 11) + lo2 ≤ lo) (hn : As.length = n) (hw : (rest.map fun v => v.category).sum ≤ 8) (hc9 : cN ≤ κ.R.cells) (hd9 : dN ≤ κ.R.slots) (d : decode cc pc = .ok (.invokevirtual index, 3)) (hstk : stk = As.reverse ++ .ref (κ.E.ad i) :: rest) (h : ∀ r M', Pm r M' → HV κ nL (setC κ.E σ M') cN dN l (r.toList ++ rest) (pc + 3)) : HV κ nL σ cN dN l stk pc := by
  intro H locs ls hP hS hl
  have hin := G.hinj
  have hPC : va_P κ.E.D vwCl (PW idsC κ.E.ad (κ.E.cel M)) H := fun k q hq => by
    obtain ⟨j, hj, rfl⟩ := List.mem_map.mp (List.mem_of_getElem? hq)
    exact (hP _ _ _ (hC j hj)).2
  obtain ⟨q0, h1, -⟩ := PW_get κ.E.ad (κ.E.cel M) idsC_nd hi
  have hls : ls.size = nL := by obtain ⟨lv, h1, -⟩ := hl; exact h1.1
  have hA9 : ∀ q, Rg κ.E idsC H.size q → κ.A q := fun q hq => by
    rcases hq with ⟨j, hj, hq⟩ | hq
    · rw [hq]; exact (hP _ _ _ (hC j hj)).1
    · exact G.hA9 q (Nat.le_trans hS.1 hq)
  have hrun := va_runV (C := C) (b := κ.E.ad i) (As := As) (rest := rest) (cells := cN) (slots := dN) (locs := locs) (e := κ.e) (below := κ.below) (meth := κ.meth) (g := F0 κ.m pc ls stk) ⟨G.hx, G.hb, G.hml, G.hown, G.hw⟩ (c H.size) ⟨callB_H G hm hm4 hm5 hy hr, G.hw _ hm2, G.hw _ hm3⟩ ⟨PC_blind, va_recv G.hK hPC (ci := ci) (q0 := q0) hc (h1.trans (by rw [he])), fun U hU hW => ⟨rfl, by rw [hU], by rw [hU]; exact hPC, va_K.moved hW.alike G.hK, hin⟩⟩ rfl hn hls hstk (lv_room hw) d ⟨hc9, hd9⟩
  intro T hT X
  obtain ⟨v, st₀, t, T', L, h0, X', hL, e1, e2, ⟨⟨v2, M', hv, hp, hWP, hWK, -⟩, hF⟩, st9⟩ := hrun T hT X
  cases hv
  obtain ⟨k1, k2, k3⟩ := vx_keep (A0 := κ.A) h0 e1 hS (fun q _ hq => hA9 q hq) (fun q hq => hA9 q hq) hL hF
  rw [← e1] at hWP
  obtain ⟨t2, a1, b1⟩ := h v M' hp T'.heap (locs ++ L) ls (fun a j e hs => by
    by_cases hq : ∃ j, j ∈ idsC ∧ κ.E.ad j = a
    · obtain ⟨j2, hj2, rfl⟩ := hq
      rw [setC_in hin hj2] at hs
      cases hs
      refine ⟨(hP _ _ _ (hC j hj2)).1, ?_⟩
      obtain ⟨k, hk⟩ := List.getElem?_of_mem (List.mem_map.mpr ⟨j, hj2, rfl⟩ : (κ.E.ad j, κ.E.cel M' j) ∈ PW idsC κ.E.ad (κ.E.cel M'))
      exact hWP k _ hk
    · have hno : ∀ j, j ∈ idsC → κ.E.ad j ≠ a := fun j hj e => hq ⟨j, hj, e⟩
      rw [setC_out hno] at hs
      obtain ⟨z1, z2⟩ := hP a j e hs
      refine ⟨z1, ?_⟩
      have := va_P.kept (D := κ.E.D) (cl := vwCl) (ws := [(a, e)]) (H := H) (H1 := T'.heap) (fun k x hx => by
        match k, hx with
        | 0, hx => cases hx; exact z2) (fun k x hx => by
        match k, hx with
        | 0, hx =>
          cases hx
          refine k2 a z2.lt (fun hz => ?_)
          rcases hz with ⟨j3, hj3, hz⟩ | hz
          · exact hno j3 hj3 hz.symm
          · exact absurd z2.lt (Nat.not_lt.mpr hz))
      exact this 0 _ rfl) k3 hl T' rfl X'
  exact ⟨t2, st9 t2 (by simpa using a1), b1⟩
end HCalls
