/-! ===== methods that throw ===== -/
def xIA : String := "java/lang/IllegalArgumentException"
def xIS : String := "java/lang/IllegalStateException"
def xIO : String := "java/lang/IndexOutOfBoundsException"
def xstr : List (Nat × String) := [(29, "no room for another booth"), (38, "no room for another helper"), (44, "no room for another visitor"), (80, "too many prizes for one booth"), (113, "no such place in the queue"), (136, "no such line"), (198, "no such booth"), (203, "no such helper"), (208, "no such visitor"), (210, "no such fact"), (214, "a number out of its range")]
/-- what a throw needs beyond the words that keep: casts to themselves, the texts, Throwable's two statics -/
def xdecl : List Cond := [.declares (Bundle.initS "java/lang/RuntimeException"), .declares (Bundle.initS "java/lang/Exception"), .declares (Bundle.initS Bundle.tN)]
def XFq (U : State) : Prop := (∀ w, w ∈ xdecl → va_Nw w U) ∧ va_Nw (.castable xIA xIA) U ∧ va_Nw (.castable xIS xIS) U ∧ va_Nw (.castable xIO xIO) U ∧ ∀ q, q ∈ xstr → ∃ sa, vk_R RX5 q.1 q.2 sa U
def XFh (A : Nat → Prop) (U : State) (H : Heap) : Prop := vx_Zq Bundle.tN "UNASSIGNED_STACK" Bundle.steD A U H ∧ vx_Zq Bundle.tN "SUPPRESSED_SENTINEL" Bundle.listD A U H
def XF (E : EX) (ids : List Pid) (U : State) : Prop := XFh (Rg E ids U.heap.size) U U.heap ∧ XFq U ∧ E.l.stackTraces = false
theorem XFq.warm {s U : State} (hW : s.WarmedH U.vm) (h : XFq s) : XFq U := ⟨fun w hw => by
  have h1 := h.1 w hw
  simp only [xdecl, List.mem_cons, List.not_mem_nil, or_false] at hw
  rcases hw with rfl | rfl | rfl <;> exact va_Nw.warmD hW h1, va_Nw.warmC hW h.2.1, va_Nw.warmC hW h.2.2.1, va_Nw.warmC hW h.2.2.2.1, fun q hq => by
  obtain ⟨sa, hs⟩ := h.2.2.2.2 q hq
  exact ⟨sa, vk_R.warm hW hs⟩⟩
theorem XFh.moved {A : Nat → Prop} {u U : State} {H : Heap} (hvm : u.vm.Alike U.vm) (h : XFh A u H) : XFh A U H := ⟨h.1.moved hvm, h.2.moved hvm⟩
theorem XFh.kept {A : Nat → Prop} {U : State} {H H1 : Heap} (h : XFh A U H) (hq : ∀ a : Nat, a < H.size → ¬ A a → H1[a]? = H[a]?) : XFh A U H1 := ⟨h.1.kept hq, h.2.kept hq⟩
theorem XFh.narrow {A B : Nat → Prop} {U : State} {H : Heap} (h : XFh A U H) (hAB : ∀ q, B q → A q) : XFh B U H := ⟨h.1.narrow hAB, h.2.narrow hAB⟩
/-- a contract of a method that may throw -/
def RetX (E : EX) (ids : List Pid) (y : MethodName) (cc : ByteArray) (nL : Nat) (rt : Option FieldType) (fr lo mc ms : Nat) (args : List Value) (M : Mem) (P : Option Value → Mem → Prop) (PX : String → Mem → Prop) : Prop :=
  ∀ sz : Nat, vx_Met E.l y (Cond.code y cc nL rt :: ALL) { frames := fr, cells := mc, slots := ms, locals := lo } (va_Pc args (fun U => U.heap.size = sz ∧ Wd E ids M U ∧ XF E ids U)) (fun _ st oc t => (∃ (v : Option Value) (M' : Mem), oc = .returned v ∧ P v M' ∧ Wd E ids M' t) ∧ va_F (Rg E ids sz) st t) (fun X st t => (∃ M' : Mem, PX X M' ∧ Wd E ids M' t) ∧ va_F (Rg E ids sz) st t) mc ms (Rg E ids sz)
abbrev KX.add (κ : KX) (a b : Nat) : KX := (κ.1, κ.2.1, κ.2.2.1, κ.2.2.2.1, (κ.n.1 + a, κ.n.2 + b))
/-- what is owed, with room left for a objects of b cells, and what holds at the start -/
def EndsX (κ : KX) (ids : List Pid) (P : Option Value → Mem → Prop) (PX : String → Mem → Prop) (a b : Nat) : Prop :=
  ∃ mc ms, κ.Q = vx_MQ κ.below (fun _ st oc t => (∃ (v : Option Value) (M' : Mem), oc = .returned v ∧ P v M' ∧ Wd κ.E ids M' t) ∧ va_F (Rg κ.E ids κ.s.heap.size) st t) (fun X st t => (∃ M' : Mem, PX X M' ∧ Wd κ.E ids M' t) ∧ va_F (Rg κ.E ids κ.s.heap.size) st t) κ.args κ.s mc ms (Rg κ.E ids κ.s.heap.size) ∧ κ.n.1 + a ≤ mc ∧ κ.n.2 + b ≤ ms ∧ mc ≤ κ.R.cells ∧ ms ≤ κ.R.slots ∧ (∀ x ∈ κ.c.exceptionTable.toList, False) ∧ XF κ.E ids κ.s
section VX9
variable {κ : KX} {ids : List Pid} {cc : ByteArray} {nL fr lo : Nat} {own : String} {M : Mem} {l : LSt} {st rest : List Value} {pc : Nat} {P : Option Value → Mem → Prop} {PX : String → Mem → Prop} {a b a2 b2 : Nat}
theorem EndsX.add (h : EndsX κ ids P PX (a + a2) (b + b2)) : EndsX (κ.add a2 b2) ids P PX a b := by
  obtain ⟨mc, ms, h1, h2, h3, h4⟩ := h
  exact ⟨mc, ms, h1, by show κ.n.1 + a2 + a ≤ mc; omega, by show κ.n.2 + b2 + b ≤ ms; omega, h4⟩
theorem Good.add (G : Good κ ids cc nL own fr lo) (h : EndsX κ ids P PX (a + a2) (b + b2)) : Good (κ.add a2 b2) ids cc nL own fr lo := by
  obtain ⟨mc, ms, -, h2, h3, h4, h5, -⟩ := h
  obtain ⟨g1, g2, g3, g4, g5, g6, g7, g8, g9, g10, g11, g12, -, -⟩ := G
  exact ⟨g1, g2, g3, g4, g5, g6, g7, g8, g9, g10, g11, g12, by show κ.n.1 + a2 ≤ κ.R.cells; omega, by show κ.n.2 + b2 ≤ κ.R.slots; omega⟩
theorem sx_iret (G : Good κ ids cc nL own fr lo) (E9 : EndsX κ ids P PX a b) (hr : κ.meth.sig.returnType = some .int) {v : Int32} (d : decode cc pc = .ok (.ireturn, 1)) (hp : P (some (.int v)) M) : V κ ids nL M l [.int v] pc := fun H locs ls hP hS hl => by
  obtain ⟨mc, ms, hQ, h2, h3, -⟩ := E9
  show W _ _ _ _ _ _ _ _ _ _ _ _ κ.n.1 κ.n.2 κ.Q _
  rw [hQ]
  have hS' := hS
  rw [G.hA] at hS'
  refine W.widen (k := mc) (n := ms) (by omega) (by omega) (vx_ret ?_)
  exact W.iret (v := v) G.hx G.hb hr (fun t ht hW => ⟨⟨some (.int v), M, rfl, hp, by rw [ht]; exact hP, va_K.moved hW.alike G.hK, G.hinj⟩, hS'.F ht⟩) hS'.2.2 d G.hlk
theorem sx_vret (G : Good κ ids cc nL own fr lo) (E9 : EndsX κ ids P PX a b) (hr : κ.meth.sig.returnType = none) (d : decode cc pc = .ok (.return_, 1)) (hp : P none M) : V κ ids nL M l [] pc := fun H locs ls hP hS hl => by
  obtain ⟨mc, ms, hQ, h2, h3, -⟩ := E9
  show W _ _ _ _ _ _ _ _ _ _ _ _ κ.n.1 κ.n.2 κ.Q _
  rw [hQ]
  have hS' := hS
  rw [G.hA] at hS'
  refine W.widen (k := mc) (n := ms) (by omega) (by omega) (vx_ret ?_)
  exact W.vret G.hx G.hb hr (fun t ht hW => ⟨⟨none, M, rfl, hp, by rw [ht]; exact hP, va_K.moved hW.alike G.hK, G.hinj⟩, hS'.F ht⟩) hS'.2.2 d G.hlk
theorem xgood {ic ik : Nat} {cls : String} (h : (Cond.classLink RX5 ik cls :: Cond.initialized cls :: vx_atS RX5 ic cls ["java/lang/RuntimeException", "java/lang/Exception"]).all vx_ot = true) : ∀ w ∈ Cond.classLink RX5 ik cls :: Cond.initialized cls :: vx_atS RX5 ic cls ["java/lang/RuntimeException", "java/lang/Exception"], vx_ot w = true := fun w hw => List.all_eq_true.mp h w hw
theorem s_throw (G : Good κ ids cc nL RX5 fr lo) (E9 : EndsX κ ids P PX (a + 1) (b + 6)) {cls text : String} {ik is ic : Nat} (hfit : Bundle.fit cls = true) (hk : Cond.classLink RX5 ik cls ∈ ALL) (hini : Cond.initialized cls ∈ ALL) (hstr : (is, text) ∈ xstr) (hcast : va_Nw (.castable cls cls) κ.s) (hat : ∀ w ∈ (vx_atS RX5 ic cls ["java/lang/RuntimeException", "java/lang/Exception"]).filter goodWord, w ∈ ALL) (hat2 : ∀ w ∈ (vx_atS RX5 ic cls ["java/lang/RuntimeException", "java/lang/Exception"]).filter (fun w => !goodWord w), w ∈ Cond.castable cls cls :: xdecl) (hgood : (Cond.classLink RX5 ik cls :: Cond.initialized cls :: vx_atS RX5 ic cls ["java/lang/RuntimeException", "java/lang/Exception"]).all vx_ot = true)
    (d0 : decode cc pc = .ok (.new ik, 3)) (d3 : decode cc (pc + 3) = .ok (.dup, 1)) (d4 : decode cc (pc + 4) = .ok (.ldc is, 2)) (d6 : decode cc (pc + 6) = .ok (.invokespecial ic, 3)) (d9 : decode cc (pc + 9) = .ok (.athrow, 1)) (hf : 6 ≤ fr) (hlo : (st.map fun v => v.category).sum + 82 ≤ lo) (hp : PX cls M) : V κ ids nL M l st pc := fun H locs ls hP hS hl => by
  obtain ⟨mc, ms, hQ, h2, h3, h4, h5, h6, ⟨hU, hN⟩, hq, htr⟩ := E9
  show W _ _ _ _ _ _ _ _ _ _ _ _ κ.n.1 κ.n.2 κ.Q _
  rw [hQ]
  have hS' := hS
  rw [G.hA] at hS'
  obtain ⟨sa, hsa⟩ := hq.2.2.2.2 _ hstr
  have hls : ls.size = κ.c.maxLocals := by obtain ⟨lv, q1, -⟩ := hl; rw [G.hml]; exact q1.1
  refine vx_throwS (names := ["java/lang/RuntimeException", "java/lang/Exception"]) (text := text) (sa := sa) G.hx G.hb htr G.hown hfit (by decide +kernel) (G.hw _ hk) (G.hw _ hini) hsa (vx_hat (fun w hw => G.hw w (hat w hw)) hat2 (vx_c (va_Nw.use rfl hcast) (fun w hw => va_Nw.use (by
    simp only [xdecl, List.mem_cons, List.not_mem_nil, or_false] at hw
    rcases hw with rfl | rfl | rfl <;> rfl) (hq.1 w hw)))) (xgood hgood) hU hN hS' hls d0 d3 d4 d6 d9 (fun x hx => (h6 x hx).elim) (by have := G.hfr; show 2 + 3 < _; omega) (by have := G.hlo; show _ + 82 ≤ _; omega) (by omega) (by omega) G.hlk (fun t hA hz hk9 => ⟨⟨M, hp, hP.kept (fun k q hkq => hk9 q.1 (vx_lt hP hkq)), va_K.moved hA G.hK, G.hinj⟩, ⟨Nat.le_trans hS'.1 hz, fun q q1 q2 => by rw [hk9 q (Nat.lt_of_lt_of_le q1 hS'.1)]; exact hS'.2.1 q q1 q2⟩⟩) hS'.2.2 (by omega) (by omega)
theorem PX_blind {E : EX} {ids : List Pid} {M : Mem} {sz : Nat} {av : List Value} : FrameBlind (va_Pc av (fun U => U.heap.size = sz ∧ Wd E ids M U ∧ XF E ids U)) := fun a U g mk q => by
  obtain ⟨q0, q1, ⟨qP, qK, qI⟩, ⟨x1, x2, x3⟩⟩ := q
  exact ⟨q0, q1, ⟨qP, va_K.moved (u := U) (U := U.calling g mk a) (Vm.Alike.refl U.vm) qK, qI⟩, ⟨XFh.moved (u := U) (U := U.calling g mk a) (Vm.Alike.refl U.vm) x1, XFq.warm (s := U) (U := U.calling g mk a) (State.WarmedH.refl U) x2, x3⟩⟩
theorem XF.at {H : Heap} {locs : List Loc} {U : State} (hA : κ.A = Rg κ.E ids κ.s.heap.size) (h : XF κ.E ids κ.s) (hS : va_S κ.A κ.s.heap H locs) (hU : U.heap = H) (hW : κ.s.WarmedH U.vm) : XF κ.E ids U := by
  obtain ⟨h1, h2, h3⟩ := h
  rw [hA] at hS
  refine ⟨?_, h2.warm hW, h3⟩
  rw [hU]
  exact ((h1.kept (fun a q1 q2 => hS.2.1 a q1 q2)).narrow (Rg.mono hS.1)).moved hW.alike
variable {y : MethodName} {bytes : ByteArray} {maxL fr2 lo2 n index mc2 ms2 : Nat} {rt : Option FieldType} {As stk : List Value} {P2 : Option Value → Mem → Prop} {PX2 : String → Mem → Prop}
theorem callB_allX (G : Good κ ids cc nL own fr lo) (hm : Cond.methodLink own index y ∈ ALL) (hm4 : Cond.initialized y.cls ∈ ALL) (hm5 : Cond.code y bytes maxL rt ∈ ALL) (hy : y.cls ≠ "java/lang/invoke/MethodHandle" ∧ y.cls ≠ "java/lang/invoke/VarHandle" ∧ (parseMethodDescriptor y.desc).map (fun d => d.parameters.length) = some n) (hr : fr2 + 1 ≤ fr ∧ 8 + (maxL + 11) + lo2 ≤ lo) :
    CallB κ.R κ.s κ.args own index y bytes maxL rt (Cond.code y bytes maxL rt :: ALL) { frames := fr2, cells := mc2, slots := ms2, locals := lo2 } mc2 ms2 n := by
  refine ⟨rfl, rfl, Nat.le_trans hr.1 G.hfr, Nat.le_trans hr.2 G.hlo, fun w hw a' U hW => ?_, List.mem_cons_self, G.hw _ hm5, G.hw _ hm4, ⟨hy.1, hy.2.1⟩, fun sig h => ?_, G.hw _ hm⟩
  · rcases List.mem_cons.mp hw with h | h
    · subst h
      exact ALL_warm G.hw _ hm5 a' U hW
    · exact ALL_warm G.hw _ h a' U hW
  · have h2 := hy.2.2
    rw [h] at h2
    exact (Option.some.inj h2).symm
theorem sx_fin (G : Good κ ids cc nL own fr lo) (E9 : EndsX κ ids P PX (a + mc2) (b + ms2)) {H : Heap} {locs : List Loc} {ls : Array Slot} {av : Array Value} (hP : va_P κ.E.D vwCl (PW ids κ.E.ad (κ.E.cel M)) H) (hS : va_S κ.A κ.s.heap H locs) (hl : LV ls nL l)
    (hr : vx_Run κ.p κ.E.l κ.e κ.R κ.s κ.m κ.args κ.below κ.meth κ.c H locs κ.n.1 κ.n.2 mc2 ms2 (F0 κ.m pc ls stk) rest ((fun _ st oc t => (∃ (v : Option Value) (M' : Mem), oc = .returned v ∧ P2 v M' ∧ Wd κ.E ids M' t) ∧ va_F (Rg κ.E ids H.size) st t : Array Value → State → Outcome → State → Prop) av) (fun X st t => (∃ M' : Mem, PX2 X M' ∧ Wd κ.E ids M' t) ∧ va_F (Rg κ.E ids H.size) st t) (Rg κ.E ids H.size))
    (hx : ∀ X M', PX2 X M' → PX X M') (h : ∀ r M', P2 r M' → V (κ.add mc2 ms2) ids nL M' l (r.toList ++ rest) (pc + 3)) : κ.Wk H locs (F0 κ.m pc ls stk) := by
  have hA9 : ∀ q, Rg κ.E ids H.size q → κ.A q := fun q hq => by rw [G.hA]; exact Rg.mono hS.1 q hq
  intro T hT X
  rcases hr T hT X with ⟨v, st₀, t, T', L, h0, X', hL, e1, e2, ⟨⟨v2, M', hv, hp, hWP, hWK, -⟩, hF⟩, st9⟩ | ⟨q, st₀, t, T', L, Ex, ce, h0, X', hL, e1, e2, ⟨⟨M', hp, hWP, hWK, -⟩, hF⟩, hce, hcv, hcl, st9⟩
  · cases hv
    obtain ⟨k1, k2, k3⟩ := vx_keep (A0 := κ.A) h0 e1 hS (fun q _ hq => hA9 q hq) (fun q hq => hA9 q hq) hL hF
    obtain ⟨t2, a1, b1⟩ := h v M' hp T'.heap (locs ++ L) ls (by rw [e1]; exact hWP) k3 hl T' rfl X'
    exact ⟨t2, st9 t2 a1, b1⟩
  · obtain ⟨k1, k2, k3⟩ := vx_keep (A0 := κ.A) h0 e1 hS (fun q _ hq => hA9 q hq) (fun q hq => hA9 q hq) hL hF
    obtain ⟨mc, ms, hQ, h2, h3, h4, h5, h6, -⟩ := E9
    rw [G.hA] at k3
    have := vx_out (XC := fun X st t => (∃ M' : Mem, PX X M' ∧ Wd κ.E ids M' t) ∧ va_F (Rg κ.E ids κ.s.heap.size) st t) (Qc := fun _ st oc t => (∃ (v : Option Value) (M' : Mem), oc = .returned v ∧ P v M' ∧ Wd κ.E ids M' t) ∧ va_F (Rg κ.E ids κ.s.heap.size) st t) (free := Rg κ.E ids κ.s.heap.size) (p := κ.p) (l := κ.E.l) (e := κ.e) (R := κ.R) (s := κ.s) (m := κ.m) (args := κ.args) (below := κ.below) (meth := κ.meth) (c := κ.c) (H := T'.heap) (locs := locs ++ L) (cells := κ.n.1 + mc2) (slots := κ.n.2 + ms2) (ls := ls) (rest := rest) (pc := pc) (E := Ex) (ce := ce) (q := q) (mc := mc) (ms := ms) (fun x hx => (h6 x hx).elim) G.hlk (by rw [e1]; exact hce) hcv hcl (fun t2 ht2 hA2 => ⟨⟨M', hx _ _ hp, by rw [ht2, e1]; exact hWP, va_K.moved hA2 G.hK, G.hinj⟩, k3.F ht2⟩) k3.2.2 (by omega) (by omega)
    obtain ⟨t2, a1, b1⟩ := this T' rfl X'
    exact ⟨t2, st9.trans a1, by rw [hQ]; exact b1⟩
theorem s_callVX (G : Good κ ids cc nL own fr lo) (E9 : EndsX κ ids P PX (a + mc2) (b + ms2)) {i : Pid} {ci N : Nat} {C : String} {T : u_T} {fs : List Value} (c : RetX κ.E ids y bytes maxL rt fr2 lo2 mc2 ms2 (.ref (κ.E.ad i) :: As) M P2 PX2) (hi : i ∈ ids) (he : κ.E.cel M i = .inr (ci, fs)) (hc : vwCl[ci]? = some (C, T, N)) (hm : Cond.methodLink own index y ∈ ALL) (hm2 : Cond.instanceMethod y ∈ ALL) (hm3 : Cond.selects C y y ∈ ALL) (hm4 : Cond.initialized y.cls ∈ ALL) (hm5 : Cond.code y bytes maxL rt ∈ ALL) (hy : y.cls ≠ "java/lang/invoke/MethodHandle" ∧ y.cls ≠ "java/lang/invoke/VarHandle" ∧ (parseMethodDescriptor y.desc).map (fun d => d.parameters.length) = some n) (hr : fr2 + 1 ≤ fr ∧ 8 + (maxL + 11) + lo2 ≤ lo) (hn : As.length = n) (hw : (rest.map fun v => v.category).sum ≤ 8) (d : decode cc pc = .ok (.invokevirtual index, 3)) (hstk : stk = As.reverse ++ .ref (κ.E.ad i) :: rest) (hx : ∀ X M', PX2 X M' → PX X M') (h : ∀ r M', P2 r M' → V (κ.add mc2 ms2) ids nL M' l (r.toList ++ rest) (pc + 3)) : V κ ids nL M l stk pc := by
  intro H locs ls hP hS hl
  obtain ⟨q0, h1, -⟩ := PW_get κ.E.ad (κ.E.cel M) G.hnd hi
  have hls : ls.size = nL := by obtain ⟨lv, h1, -⟩ := hl; exact h1.1
  have hXF : XF κ.E ids κ.s := by obtain ⟨mc, ms, -, -, -, -, -, -, q⟩ := E9; exact q
  have hcs : κ.n.1 + mc2 ≤ κ.R.cells ∧ κ.n.2 + ms2 ≤ κ.R.slots := by obtain ⟨mc, ms, -, h2, h3, h4, h5, -⟩ := E9; exact ⟨by omega, by omega⟩
  exact sx_fin (av := (Value.ref (κ.E.ad i) :: As).toArray) G E9 hP hS hl (vx_runV (C := C) (b := κ.E.ad i) (As := As) (rest := rest) ⟨G.hx, G.hb, G.hml, G.hown, G.hw⟩ (c H.size) ⟨callB_allX G hm hm4 hm5 hy hr, G.hw _ hm2, G.hw _ hm3⟩ ⟨PX_blind, va_recv G.hK hP (ci := ci) (q0 := q0) hc (h1.trans (by rw [he])), fun U hU hW => ⟨rfl, by rw [hU], ⟨by rw [hU]; exact hP, va_K.moved hW.alike G.hK, G.hinj⟩, XF.at G.hA hXF hS hU hW⟩⟩ rfl hn hls hstk (lv_room hw) d hcs) hx h
theorem s_callSX (G : Good κ ids cc nL own fr lo) (E9 : EndsX κ ids P PX (a + mc2) (b + ms2)) (c : RetX κ.E ids y bytes maxL rt fr2 lo2 mc2 ms2 As M P2 PX2) (hm : Cond.methodLink own index y ∈ ALL) (hm2 : Cond.static y ∈ ALL) (hm4 : Cond.initialized y.cls ∈ ALL) (hm5 : Cond.code y bytes maxL rt ∈ ALL) (hy : y.cls ≠ "java/lang/invoke/MethodHandle" ∧ y.cls ≠ "java/lang/invoke/VarHandle" ∧ (parseMethodDescriptor y.desc).map (fun d => d.parameters.length) = some n) (hr : fr2 + 1 ≤ fr ∧ 8 + (maxL + 11) + lo2 ≤ lo) (hn : As.length = n) (hw : (rest.map fun v => v.category).sum ≤ 8) (d : decode cc pc = .ok (.invokestatic index, 3)) (hstk : stk = As.reverse ++ rest) (hx : ∀ X M', PX2 X M' → PX X M') (h : ∀ r M', P2 r M' → V (κ.add mc2 ms2) ids nL M' l (r.toList ++ rest) (pc + 3)) : V κ ids nL M l stk pc := by
  intro H locs ls hP hS hl
  have hls : ls.size = nL := by obtain ⟨lv, h1, -⟩ := hl; exact h1.1
  have hXF : XF κ.E ids κ.s := by obtain ⟨mc, ms, -, -, -, -, -, -, q⟩ := E9; exact q
  have hcs : κ.n.1 + mc2 ≤ κ.R.cells ∧ κ.n.2 + ms2 ≤ κ.R.slots := by obtain ⟨mc, ms, -, h2, h3, h4, h5, -⟩ := E9; exact ⟨by omega, by omega⟩
  exact sx_fin (av := As.toArray) G E9 hP hS hl (vx_runS (As := As) (rest := rest) ⟨G.hx, G.hb, G.hml, G.hown, G.hw⟩ (c H.size) ⟨callB_allX G hm hm4 hm5 hy hr, G.hw _ hm2⟩ ⟨PX_blind, fun U hU hW => ⟨rfl, by rw [hU], ⟨by rw [hU]; exact hP, va_K.moved hW.alike G.hK, G.hinj⟩, XF.at G.hA hXF hS hU hW⟩⟩ rfl hn hls hstk (lv_room hw) d hcs) hx h
end VX9
theorem RetX_of_V {E : EX} {ids : List Pid} {y : MethodName} {cc : ByteArray} {nL : Nat} {rt : Option FieldType} {fr lo mc ms : Nat} {args : List Value} {M : Mem} {P : Option Value → Mem → Prop} {PX : String → Mem → Prop} (own : String) (hy : plainName y.cls = true) (ho : y.cls = own) (hnd : ids.Nodup) (l0 : LSt) (hl0 : entL args nL = l0) (hlen : (entA args).length ≤ nL)
    (body : ∀ κ : KX, κ.E = E → Good κ ids cc nL own fr lo → EndsX κ ids P PX mc ms → κ.meth.sig.returnType = rt → V κ ids nL M l0 [] 0) : RetX E ids y cc nL rt fr lo mc ms args M P PX := by
  intro sz
  refine vx_ofW (cc := cc) (maxL := nL) (ret := rt) hy rfl ?_
  intro p e s m args9 below meth c s₁ B hml htab hv
  obtain ⟨rfl, hsz, ⟨hP, hK, hI⟩, hX⟩ := hv
  have hts := atoms_spec (ws := Cond.code y cc nL rt :: ALL) B.pre
  have hown : s.vm.findClass own = some m.cls := by rw [← ho]; exact findClass_of_methodNamed B.named
  subst hsz
  subst hl0
  have hlg : (lg_sl args).length ≤ nL := by rw [← entA_len]; exact hlen
  have hl := lv_entry args hlg
  rw [lg_entry_eq]
  generalize hls9 : (lg_sl args ++ List.replicate (nL - (lg_sl args).length) Slot.unset).toArray = ls at hl ⊢
  have hLV : LV ls nL (entL args nL) := by
    refine ⟨_, hl, ?_, fun i v hi => ?_⟩
    · simp only [entL, List.length_append, List.length_replicate]
      omega
    · simp only [entL] at hi
      by_cases hi9 : i < (entA args).length
      · rw [List.getElem?_append_left hi9] at hi
        have := entA_mem args 0 i v hi
        simpa using this
      · rw [List.getElem?_append_right (by omega)] at hi
        have := List.eq_of_mem_replicate (List.mem_of_getElem? hi)
        cases this
  have hb := body ((p, E, e, (headSpec (Cond.code y cc nL rt :: ALL) { frames := fr, cells := mc, slots := ms, locals := lo }).room, s), (m, args.toArray, below, meth, c), vx_MQ below (fun _ st oc t => (∃ (v : Option Value) (M' : Mem), oc = .returned v ∧ P v M' ∧ Wd E ids M' t) ∧ va_F (Rg E ids s.heap.size) st t) (fun X st t => (∃ M' : Mem, PX X M' ∧ Wd E ids M' t) ∧ va_F (Rg E ids s.heap.size) st t) args.toArray s mc ms (Rg E ids s.heap.size), Rg E ids s.heap.size, (0, 0)) rfl
    ⟨B.exec, B.bytes, hml, hown, fun w hw => hts w (List.mem_cons_of_mem _ hw), hK, hI, hnd, rfl, B.notSynchronized, Nat.le_refl _, Nat.le_refl _, Nat.zero_le _, Nat.zero_le _⟩ ⟨mc, ms, rfl, by show 0 + mc ≤ mc; omega, by show 0 + ms ≤ ms; omega, Nat.le_refl _, Nat.le_refl _, htab, hX⟩ B.returns
  exact hb s.heap [] ls hP va_S.rf hLV
section XL
variable {κ : KX} {cc : ByteArray} {nL fr lo : Nat} {M : Mem} {l : LSt} {st : List Value} {pc : Nat} {P : Option Value → Mem → Prop} {PX : String → Mem → Prop} {a b : Nat}
theorem s_throwIA (G : Good κ idsC cc nL RX5 fr lo) (E9 : EndsX κ idsC P PX (a + 1) (b + 6)) {is : Nat} (text : String) (hstr : (is, text) ∈ xstr) (d0 : decode cc pc = .ok (.new 212, 3)) (d3 : decode cc (pc + 3) = .ok (.dup, 1)) (d4 : decode cc (pc + 4) = .ok (.ldc is, 2)) (d6 : decode cc (pc + 6) = .ok (.invokespecial 216, 3)) (d9 : decode cc (pc + 9) = .ok (.athrow, 1)) (hf : 6 ≤ fr) (hlo : (st.map fun v => v.category).sum + 82 ≤ lo) (hp : PX xIA M) : V κ idsC nL M l st pc := s_throw G E9 (cls := xIA) (ik := 212) (ic := 216) (by decide +kernel) (by decide +kernel) (by decide +kernel) hstr (by obtain ⟨mc, ms, -, -, -, -, -, -, -, q, -⟩ := E9; exact q.2.1) (by decide +kernel) (by decide +kernel) (by decide +kernel) d0 d3 d4 d6 d9 hf hlo hp
theorem s_throwIS (G : Good κ idsC cc nL RX5 fr lo) (E9 : EndsX κ idsC P PX (a + 1) (b + 6)) {is : Nat} (text : String) (hstr : (is, text) ∈ xstr) (d0 : decode cc pc = .ok (.new 27, 3)) (d3 : decode cc (pc + 3) = .ok (.dup, 1)) (d4 : decode cc (pc + 4) = .ok (.ldc is, 2)) (d6 : decode cc (pc + 6) = .ok (.invokespecial 31, 3)) (d9 : decode cc (pc + 9) = .ok (.athrow, 1)) (hf : 6 ≤ fr) (hlo : (st.map fun v => v.category).sum + 82 ≤ lo) (hp : PX xIS M) : V κ idsC nL M l st pc := s_throw G E9 (cls := xIS) (ik := 27) (ic := 31) (by decide +kernel) (by decide +kernel) (by decide +kernel) hstr (by obtain ⟨mc, ms, -, -, -, -, -, -, -, q, -⟩ := E9; exact q.2.2.1) (by decide +kernel) (by decide +kernel) (by decide +kernel) d0 d3 d4 d6 d9 hf hlo hp
theorem s_throwIO (G : Good κ idsC cc nL RX5 fr lo) (E9 : EndsX κ idsC P PX (a + 1) (b + 6)) {is : Nat} (text : String) (hstr : (is, text) ∈ xstr) (d0 : decode cc pc = .ok (.new 111, 3)) (d3 : decode cc (pc + 3) = .ok (.dup, 1)) (d4 : decode cc (pc + 4) = .ok (.ldc is, 2)) (d6 : decode cc (pc + 6) = .ok (.invokespecial 115, 3)) (d9 : decode cc (pc + 9) = .ok (.athrow, 1)) (hf : 6 ≤ fr) (hlo : (st.map fun v => v.category).sum + 82 ≤ lo) (hp : PX xIO M) : V κ idsC nL M l st pc := s_throw G E9 (cls := xIO) (ik := 111) (ic := 115) (by decide +kernel) (by decide +kernel) (by decide +kernel) hstr (by obtain ⟨mc, ms, -, -, -, -, -, -, -, q, -⟩ := E9; exact q.2.2.2.1) (by decide +kernel) (by decide +kernel) (by decide +kernel) d0 d3 d4 d6 d9 hf hlo hp
theorem ixX5_19 (G : Good κ idsC cc nL RX5 fr lo) (E9 : EndsX κ idsC P PX (a + 1) (b + 6)) {a0 : Int32} {a1 : Int32} {a2 : Int32} {P2 : Option Value → Mem → Prop} {PX2 : String → Mem → Prop} (c : RetX κ.E idsC yX5_requireRange cX5_requireRange 3 none 6 90 1 6 [.int a0, .int a1, .int a2] M P2 PX2) (hr : 6 + 1 ≤ fr ∧ 8 + (3 + 11) + 90 ≤ lo) (hw : (st.map fun v => v.category).sum ≤ 8) (d : decode cc pc = .ok (.invokestatic 19, 3)) (hx : ∀ X M', PX2 X M' → PX X M') (h : ∀ r M', P2 r M' → V (κ.add 1 6) idsC nL M' l (r.toList ++ st) (pc + 3)) : V κ idsC nL M l (.int a2 :: .int a1 :: .int a0 :: st) pc := s_callSX (n := 3) G E9 c (by decide +kernel) (by decide +kernel) (by decide +kernel) (by decide +kernel) (by decide +kernel) hr rfl hw d rfl hx h
theorem ixX5_51 (G : Good κ idsC cc nL RX5 fr lo) (E9 : EndsX κ idsC P PX (a + 1) (b + 6)) {a0 : Int32} {P2 : Option Value → Mem → Prop} {PX2 : String → Mem → Prop} (c : RetX κ.E idsC yX5_requireHelper cX5_requireHelper 2 none 6 90 1 6 [.ref (κ.E.ad (0, 0, 0)), .int a0] M P2 PX2) (hr : 6 + 1 ≤ fr ∧ 8 + (2 + 11) + 90 ≤ lo) (hw : (st.map fun v => v.category).sum ≤ 8) (d : decode cc pc = .ok (.invokevirtual 51, 3)) (hx : ∀ X M', PX2 X M' → PX X M') (h : ∀ r M', P2 r M' → V (κ.add 1 6) idsC nL M' l (r.toList ++ st) (pc + 3)) : V κ idsC nL M l (.int a0 :: .ref (κ.E.ad (0, 0, 0)) :: st) pc := s_callVX (n := 1) G E9 c mC0 rfl rfl (by decide +kernel) (by decide +kernel) (by decide +kernel) (by decide +kernel) (by decide +kernel) (by decide +kernel) hr rfl hw d rfl hx h
theorem ixX5_55 (G : Good κ idsC cc nL RX5 fr lo) (E9 : EndsX κ idsC P PX (a + 1) (b + 6)) {a0 : Int32} {P2 : Option Value → Mem → Prop} {PX2 : String → Mem → Prop} (c : RetX κ.E idsC yX5_requireBooth cX5_requireBooth 2 none 6 90 1 6 [.ref (κ.E.ad (0, 0, 0)), .int a0] M P2 PX2) (hr : 6 + 1 ≤ fr ∧ 8 + (2 + 11) + 90 ≤ lo) (hw : (st.map fun v => v.category).sum ≤ 8) (d : decode cc pc = .ok (.invokevirtual 55, 3)) (hx : ∀ X M', PX2 X M' → PX X M') (h : ∀ r M', P2 r M' → V (κ.add 1 6) idsC nL M' l (r.toList ++ st) (pc + 3)) : V κ idsC nL M l (.int a0 :: .ref (κ.E.ad (0, 0, 0)) :: st) pc := s_callVX (n := 1) G E9 c mC0 rfl rfl (by decide +kernel) (by decide +kernel) (by decide +kernel) (by decide +kernel) (by decide +kernel) (by decide +kernel) hr rfl hw d rfl hx h
theorem ixX5_82 (G : Good κ idsC cc nL RX5 fr lo) (E9 : EndsX κ idsC P PX (a + 1) (b + 6)) {a0 : Int32} {P2 : Option Value → Mem → Prop} {PX2 : String → Mem → Prop} (c : RetX κ.E idsC yX5_requireVisitor cX5_requireVisitor 2 none 6 90 1 6 [.ref (κ.E.ad (0, 0, 0)), .int a0] M P2 PX2) (hr : 6 + 1 ≤ fr ∧ 8 + (2 + 11) + 90 ≤ lo) (hw : (st.map fun v => v.category).sum ≤ 8) (d : decode cc pc = .ok (.invokevirtual 82, 3)) (hx : ∀ X M', PX2 X M' → PX X M') (h : ∀ r M', P2 r M' → V (κ.add 1 6) idsC nL M' l (r.toList ++ st) (pc + 3)) : V κ idsC nL M l (.int a0 :: .ref (κ.E.ad (0, 0, 0)) :: st) pc := s_callVX (n := 1) G E9 c mC0 rfl rfl (by decide +kernel) (by decide +kernel) (by decide +kernel) (by decide +kernel) (by decide +kernel) (by decide +kernel) hr rfl hw d rfl hx h
theorem ixX5_102 (G : Good κ idsC cc nL RX5 fr lo) (E9 : EndsX κ idsC P PX (a + 1) (b + 6)) {a0 : Int32} {a1 : Int32} {P2 : Option Value → Mem → Prop} {PX2 : String → Mem → Prop} (c : RetX κ.E idsC yX5_requireFact cX5_requireFact 2 none 6 90 1 6 [.int a0, .int a1] M P2 PX2) (hr : 6 + 1 ≤ fr ∧ 8 + (2 + 11) + 90 ≤ lo) (hw : (st.map fun v => v.category).sum ≤ 8) (d : decode cc pc = .ok (.invokestatic 102, 3)) (hx : ∀ X M', PX2 X M' → PX X M') (h : ∀ r M', P2 r M' → V (κ.add 1 6) idsC nL M' l (r.toList ++ st) (pc + 3)) : V κ idsC nL M l (.int a1 :: .int a0 :: st) pc := s_callSX (n := 2) G E9 c (by decide +kernel) (by decide +kernel) (by decide +kernel) (by decide +kernel) (by decide +kernel) hr rfl hw d rfl hx h
end XL
