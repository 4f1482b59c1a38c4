/-! ===== the law's own calls of the class: the answer into a row of one long, or the number of what was thrown ===== -/
theorem met_ofWH {l : Launch} {y : MethodName} {ws ws2 : List Cond} {rm : Room} {Pc : Array Value → State → Prop} {Qc : Array Value → State → Outcome → State → Prop} {mc ms : Nat} {free : Addr → Prop} {cc : ByteArray} {maxL : Nat} {ret : Option FieldType} {hh : List (Nat × Nat × Nat × Nat)}
    (hy : plainName y.cls = true) (hw : ws = Cond.codeWith y cc maxL ret hh :: ws2)
    (body : ∀ p e s m args below meth c s₁, BodyLoose p l y (headSpec ws rm) cc maxL ret e s m args below meth c s₁ → c.maxLocals = maxL → c.exceptionTable.toList = tableOf hh → Pc args s →
      W p l e (headSpec ws rm).room s m args below meth c s.heap [] 0 0 (MQ below Qc args s mc ms free) (entryFrame m args maxL)) : Met l y ws rm Pc Qc mc ms free := by
  refine MetFree.of_bodyS (code := cc) (maxLocals := maxL) (ret := ret) hy ?_ ?_
  · intro args s m h hn
    obtain ⟨m9, meth, c, hn9, h1, h2, h3, h4, -, h5, h6, -⟩ := Cond.codeWith_spec (atoms_spec (ws := ws) h _ (by rw [hw]; exact List.mem_cons_self))
    cases hn.symm.trans hn9
    exact ⟨meth, c, h1, h2, h3, h4, h5, h6⟩
  · intro p e s m args below meth c s₁ B hml hP _
    have hh0 : s₁.heap = s.heap := by rw [B.state]; rfl
    have ht : c.exceptionTable.toList = tableOf hh := vx_table (x := y) B (atoms_spec (ws := ws) B.pre _ (by rw [hw]; exact List.mem_cons_self))
    obtain ⟨t, a1, o, b1, b2, b3⟩ := body p e s m args below meth c s₁ B hml ht hP s₁ hh0 (Stand.of_body B)
    exact ⟨t, o, a1, b1, b2, ⟨b3.1, b3.2⟩⟩
def RgO (E : EX) (o sz : Nat) : Nat → Prop := fun q => q = o ∨ Rg E idsC sz q
def LA (cL : ClassId) (U : State) : Prop := ArrOfT U cL .long ∧ va_RA U cL .long
theorem LA.moved {cL : ClassId} {u U : State} (hvm : u.vm.Alike U.vm) (h : LA cL u) : LA cL U := ⟨arrOfT_moved hvm h.1, h.2.moved hvm⟩
/-- which of the three does not pass for another -/
def CW (U : State) : Prop := va_Nc xIS xIA U ∧ va_Nc xIA xIO U ∧ va_Nc xIS xIO U
theorem CW.moved {u U : State} (hvm : u.vm.Alike U.vm) (h : CW u) : CW U := ⟨h.1.moved hvm, h.2.1.moved hvm, h.2.2.moved hvm⟩
def XFO (E : EX) (o : Nat) (U : State) : Prop := XFh (RgO E o U.heap.size) U U.heap ∧ XFq U ∧ CW U ∧ E.l.stackTraces = false
def tO (o : Nat) (cL : ClassId) (f : Nat → Int64) : va_W := [(o, .inl (cL, (1, .inr (.inl f))))]
def WdO (E : EX) (M : Mem) (o : Nat) (cL : ClassId) (f : Nat → Int64) (U : State) : Prop := va_P E.D vwCl (PW idsC E.ad (E.cel M) ++ tO o cL f) U.heap ∧ va_K E.D vwCl (tysF E.cy) U ∧ Inj E idsC ∧ (∀ i, i ∈ idsC → E.ad i ≠ o) ∧ LA cL U
/-- a contract: code, the long that is kept, the memory behind it -/
def RetO (E : EX) (y : MethodName) (cc : ByteArray) (nL : Nat) (hh : List (Nat × Nat × Nat × Nat)) (fr lo mc ms : Nat) (args : List Value) (M : Mem) (o : Nat) (cL : ClassId) (P : Int32 → Int64 → Mem → Prop) : Prop :=
  ∀ (sz : Nat) (f : Nat → Int64), Met E.l y (Cond.codeWith y cc nL (some .int) hh :: ALL) { frames := fr, cells := mc, slots := ms, locals := lo } (va_Pc args (fun U => U.heap.size = sz ∧ WdO E M o cL f U ∧ XFO E o U)) (fun _ st oc t => (∃ (k : Int32) (f2 : Nat → Int64) (M' : Mem), oc = .returned (some (.int k)) ∧ P k (f2 0) M' ∧ WdO E M' o cL f2 t) ∧ va_F (RgO E o sz) st t) mc ms (RgO E o sz)
def EndsO (κ : KX) (o : Nat) (cL : ClassId) (hh : List (Nat × Nat × Nat × Nat)) (P : Int32 → Int64 → Mem → Prop) (mc ms : Nat) : Prop := κ.Q = MQ κ.below (fun _ st oc t => (∃ (k : Int32) (f2 : Nat → Int64) (M' : Mem), oc = .returned (some (.int k)) ∧ P k (f2 0) M' ∧ WdO κ.E M' o cL f2 t) ∧ va_F (RgO κ.E o κ.s.heap.size) st t) κ.args κ.s mc ms (RgO κ.E o κ.s.heap.size) ∧ mc ≤ κ.R.cells ∧ ms ≤ κ.R.slots ∧ κ.meth.sig.returnType = some .int ∧ κ.c.exceptionTable.toList = tableOf hh ∧ XFO κ.E o κ.s ∧ LA cL κ.s ∧ (∀ i, i ∈ idsC → κ.E.ad i ≠ o) ∧ o < κ.s.heap.size
theorem va_D_fst {A : Nat → Prop} {w w2 : va_W} (h : w.map Prod.fst = w2.map Prod.fst) (hD : va_D A w) : va_D A w2 := by
  have key : ∀ (k : Nat) (q : Nat × va_E), w2[k]? = some q → ∃ q2 : Nat × va_E, w[k]? = some q2 ∧ q2.1 = q.1 := fun k q hq => by
    have h1 : (w.map Prod.fst)[k]? = some q.1 := by rw [h, List.getElem?_map, hq]; rfl
    rw [List.getElem?_map] at h1
    exact Option.map_eq_some_iff.mp h1
  refine ⟨fun i j p q hp hq hpq => ?_, fun k q hq => ?_⟩
  · obtain ⟨p2, a1, a2⟩ := key i p hp
    obtain ⟨q2, b1, b2⟩ := key j q hq
    exact hD.1 i j p2 q2 a1 b1 (by rw [a2, b2, hpq])
  · obtain ⟨q2, b1, b2⟩ := key k q hq
    rw [← b2]
    exact hD.2 k q2 b1
theorem PW_fst {ids : List Pid} {ad : Pid → Nat} {c : Pid → va_E} : (PW ids ad c).map Prod.fst = ids.map ad := by
  unfold PW
  rw [List.map_map]
  rfl
theorem VD_O {E : EX} {o : Nat} (hI : Inj E idsC) (hno : ∀ i, i ∈ idsC → E.ad i ≠ o) (sz : Nat) (M : Mem) (cL : ClassId) (f : Nat → Int64) : va_D (RgO E o sz) (PW idsC E.ad (E.cel M) ++ tO o cL f) := by
  refine ⟨fun i j p q hp hq hpq => ?_, fun k q hq => ?_⟩
  · have hD := PW_D (c := E.cel M) idsC_nd hI sz
    by_cases hi : i < (PW idsC E.ad (E.cel M)).length
    · rw [List.getElem?_append_left hi] at hp
      by_cases hj : j < (PW idsC E.ad (E.cel M)).length
      · rw [List.getElem?_append_left hj] at hq
        exact hD.1 i j p q hp hq hpq
      · rw [List.getElem?_append_right (by omega)] at hq
        obtain ⟨r, hr, rfl⟩ := List.mem_map.mp (List.mem_of_getElem? hp)
        have hq := List.mem_of_getElem? hq
        simp only [tO, List.mem_cons, List.not_mem_nil, or_false] at hq
        rw [hq] at hpq
        exact absurd hpq (hno r hr)
    · rw [List.getElem?_append_right (by omega)] at hp
      by_cases hj : j < (PW idsC E.ad (E.cel M)).length
      · rw [List.getElem?_append_left hj] at hq
        obtain ⟨r, hr, rfl⟩ := List.mem_map.mp (List.mem_of_getElem? hq)
        have hp := List.mem_of_getElem? hp
        simp only [tO, List.mem_cons, List.not_mem_nil, or_false] at hp
        rw [hp] at hpq
        exact absurd hpq.symm (hno r hr)
      · rw [List.getElem?_append_right (by omega)] at hq
        have h1 := (List.getElem?_eq_some_iff.mp hp).1
        have h2 := (List.getElem?_eq_some_iff.mp hq).1
        simp only [tO, List.length_cons, List.length_nil] at h1 h2
        omega
  · rcases List.mem_append.mp (List.mem_of_getElem? hq) with h | h
    · obtain ⟨r, hr, rfl⟩ := List.mem_map.mp h
      exact Or.inr (Or.inl ⟨r, hr, rfl⟩)
    · simp only [tO, List.mem_cons, List.not_mem_nil, or_false] at h
      rw [h]
      exact Or.inl rfl
theorem RetO_of {E : EX} {y : MethodName} {cc : ByteArray} {nL : Nat} {hh : List (Nat × Nat × Nat × Nat)} {fr lo mc ms o : Nat} {cL : ClassId} {args : List Value} {M : Mem} {P : Int32 → Int64 → Mem → Prop} (own : String) (hy : plainName y.cls = true) (ho : y.cls = own) (l0 : LSt) (hl0 : entL args nL = l0) (hlen : (entA args).length ≤ nL)
    (body : ∀ (κ : KX) (f : Nat → Int64), κ.E = E → Good κ idsC cc nL own fr lo → EndsO κ o cL hh P mc ms → VT κ idsC (RgO κ.E o κ.s.heap.size) (tO o cL f) 0 0 nL M l0 [] 0) : RetO E y cc nL hh fr lo mc ms args M o cL P := by
  intro sz f
  refine met_ofWH (cc := cc) (maxL := nL) (ret := some .int) (hh := hh) hy rfl ?_
  intro p e s m args9 below meth c s₁ B hml htab hv
  obtain ⟨rfl, hsz, ⟨hP, hK, hI, hno, hLA⟩, hX⟩ := hv
  have hts := atoms_spec (ws := Cond.codeWith y cc nL (some .int) hh :: ALL) B.pre
  have hown : s.vm.findClass own = some m.cls := by rw [← ho]; exact findClass_of_methodNamed B.named
  subst hsz
  subst hl0
  have hlg : (lg_sl args).length ≤ nL := by rw [← entA_len]; exact hlen
  have hl := lv_entry args hlg
  rw [lg_entry_eq]
  generalize hls9 : (lg_sl args ++ List.replicate (nL - (lg_sl args).length) Slot.unset).toArray = ls at hl ⊢
  have hLV : LV ls nL (entL args nL) := by
    refine ⟨_, hl, ?_, fun i v hi => ?_⟩
    · simp only [entL, List.length_append, List.length_replicate]
      omega
    · simp only [entL] at hi
      by_cases hi9 : i < (entA args).length
      · rw [List.getElem?_append_left hi9] at hi
        have := entA_mem args 0 i v hi
        simpa using this
      · rw [List.getElem?_append_right (by omega)] at hi
        have := List.eq_of_mem_replicate (List.mem_of_getElem? hi)
        cases this
  have hlast : (PW idsC E.ad (E.cel M) ++ tO o cL f)[(PW idsC E.ad (E.cel M)).length + 0]? = some (o, .inl (cL, (1, .inr (.inl f)))) := tw_get E.ad (E.cel M) (j := 0) rfl
  have hlt : o < s.heap.size := vx_lt hP hlast
  have hb := body ((p, E, e, (headSpec (Cond.codeWith y cc nL (some .int) hh :: ALL) { frames := fr, cells := mc, slots := ms, locals := lo }).room, s), (m, args.toArray, below, meth, c), MQ below (fun _ st oc t => (∃ (k : Int32) (f2 : Nat → Int64) (M' : Mem), oc = .returned (some (.int k)) ∧ P k (f2 0) M' ∧ WdO E M' o cL f2 t) ∧ va_F (RgO E o s.heap.size) st t) args.toArray s mc ms (RgO E o s.heap.size), Rg E idsC s.heap.size, (0, 0)) f rfl
    ⟨B.exec, B.bytes, hml, hown, fun w hw => hts w (List.mem_cons_of_mem _ hw), hK, hI, idsC_nd, rfl, B.notSynchronized, Nat.le_refl _, Nat.le_refl _, Nat.zero_le _, Nat.zero_le _⟩ ⟨rfl, Nat.le_refl _, Nat.le_refl _, B.returns, htab, hX, hLA, hno, hlt⟩
  exact hb s.heap [] ls hP (VD_O hI hno _ _ _ _) va_S.rf hLV
section TO
variable {κ : KX} {cc : ByteArray} {nL fr lo o : Nat} {own : String} {M : Mem} {l : LSt} {st rest : List Value} {pc c d mc ms : Nat} {cL : ClassId} {hh : List (Nat × Nat × Nat × Nat)} {P : Int32 → Int64 → Mem → Prop} {f : Nat → Int64}
theorem to_iret (G : Good κ idsC cc nL own fr lo) (E9 : EndsO κ o cL hh P mc ms) {v : Int32} (dg : decode cc pc = .ok (.ireturn, 1)) (hc : c ≤ mc) (hs : d ≤ ms) (hp : P v (f 0) M) : VT κ idsC (RgO κ.E o κ.s.heap.size) (tO o cL f) c d nL M l [.int v] pc := fun H locs ls hP hD hS hl => by
  obtain ⟨hQ, -, -, hr, -, -, hLA, hno, -⟩ := E9
  rw [hQ]
  refine W.widen (k := mc) (n := ms) hc hs ?_
  exact W.iret (v := v) G.hx G.hb hr (fun t ht hW => ⟨⟨v, f, M, rfl, hp, by rw [ht]; exact hP, va_K.moved hW.alike G.hK, G.hinj, hno, hLA.moved hW.alike⟩, hS.F ht⟩) hS.2.2 dg G.hlk
theorem to_i2l (G : Good κ idsC cc nL own fr lo) {A9 : Nat → Prop} {tw : va_W} {x : Int32} (dg : decode cc pc = .ok (.i2l, 1)) (h : VT κ idsC A9 tw c d nL M l (.long x.toInt64 :: st) (pc + 1)) : VT κ idsC A9 tw c d nL M l (.int x :: st) pc := fun H locs ls hP hD hS hl => lv_i2l G.hx G.hb dg rfl (h H locs ls hP hD hS hl)
theorem to_last (G : Good κ idsC cc nL own fr lo) (hLA : LA cL κ.s) {A9 : Nat → Prop} {x : Int64} (dg : decode cc pc = .ok (.lastore, 1)) (h : ∀ f2 : Nat → Int64, f2 0 = x → VT κ idsC A9 (tO o cL f2) c d nL M l st (pc + 1)) : VT κ idsC A9 (tO o cL f) c d nL M l (.long x :: .int (nI 0) :: .ref o :: st) pc := fun H locs ls hP hD hS hl => by
  have hKL : va_K κ.E.D vwCl [(cL, .long)] κ.s := ⟨G.hK.1, fun k q hq => by
    match k, hq with
    | 0, hq => cases hq; exact hLA⟩
  refine va_last G.hx G.hb hKL hP hD hS _ 0 (tw_get κ.E.ad (κ.E.cel M) (j := 0) rfl) rfl (vp_in_nI (n := 0) (N := 1) (by decide) (by decide)) dg (fun H1 locs1 hP1 hD1 hS1 => ?_)
  rw [tw_set] at hP1 hD1
  exact h _ (by unfold vp_updL; exact if_pos rfl) H1 locs1 ls hP1 hD1 hS1 hl
/-- where the table sends what was thrown -/
def Caught (κ : KX) (own : String) (hh : List (Nat × Nat × Nat × Nat)) (pc : Nat) (X : String) (h : Nat) : Prop := ∃ (pre : List ExceptionTableEntry) (x : ExceptionTableEntry) (suf : List ExceptionTableEntry) (name : String), tableOf hh = pre ++ x :: suf ∧ (∀ z ∈ pre, z.catchType ≠ 0 ∧ ∃ nm : String, Cond.classLink own z.catchType nm ∈ ALL ∧ va_Nc X nm κ.s) ∧ covers x pc = true ∧ x.catchType ≠ 0 ∧ Cond.classLink own x.catchType name ∈ ALL ∧ va_Nw (.castable X name) κ.s ∧ x.handlerPc = h
theorem to_call (G : Good κ idsC cc nL own fr lo) (E9 : EndsO κ o cL hh P mc ms) {As stk : List Value} {index n fr2 lo2 mc2 ms2 maxL : Nat} {y : MethodName} {bytes : ByteArray} {rt : Option FieldType} {P2 : Option Value → Mem → Prop} {PX2 : String → Mem → Prop} (c9 : RetX κ.E idsC y bytes maxL rt fr2 lo2 mc2 ms2 (.ref (κ.E.ad (0, 0, 0)) :: As) M P2 PX2) (hm : Cond.methodLink own index y ∈ ALL) (hm2 : Cond.instanceMethod y ∈ ALL) (hm3 : Cond.selects RX5 y y ∈ ALL) (hm4 : Cond.initialized y.cls ∈ ALL) (hm5 : Cond.code y bytes maxL rt ∈ ALL) (hy : y.cls ≠ "java/lang/invoke/MethodHandle" ∧ y.cls ≠ "java/lang/invoke/VarHandle" ∧ (parseMethodDescriptor y.desc).map (fun d => d.parameters.length) = some n) (hr : fr2 + 1 ≤ fr ∧ 8 + (maxL + 11) + lo2 ≤ lo) (hc : c + mc2 ≤ mc) (hs : d + ms2 ≤ ms) (hn : As.length = n) (hw : (rest.map fun v => v.category).sum ≤ 8) (dg : decode cc pc = .ok (.invokevirtual index, 3)) (hstk : stk = As.reverse ++ .ref (κ.E.ad (0, 0, 0)) :: rest) (hx : ∀ X M', PX2 X M' → ∃ h, Caught κ own hh pc X h ∧ ∀ q, VT κ idsC (RgO κ.E o κ.s.heap.size) (tO o cL f) (c + mc2) (d + ms2) nL M' l [.ref q] h) (h : ∀ r M', P2 r M' → VT κ idsC (RgO κ.E o κ.s.heap.size) (tO o cL f) (c + mc2) (d + ms2) nL M' l (r.toList ++ rest) (pc + 3)) : VT κ idsC (RgO κ.E o κ.s.heap.size) (tO o cL f) c d nL M l stk pc := by
  intro H locs ls hP hD hS hl
  obtain ⟨-, hmc, hms, -, htab, ⟨hX1, hX2, hCW, hX3⟩, hLA, hno, hlt⟩ := E9
  have hlast : (PW idsC κ.E.ad (κ.E.cel M) ++ tO o cL f)[(PW idsC κ.E.ad (κ.E.cel M)).length + 0]? = some (o, .inl (cL, (1, .inr (.inl f)))) := tw_get κ.E.ad (κ.E.cel M) (j := 0) rfl
  have hP0 : va_P κ.E.D vwCl (PW idsC κ.E.ad (κ.E.cel M)) H := fun i q hq => hP i q (by
    rw [List.getElem?_append_left (List.getElem?_eq_some_iff.mp hq).1]; exact hq)
  obtain ⟨q0, h1, -⟩ := PW_get κ.E.ad (κ.E.cel M) G.hnd mC0
  have hls : ls.size = nL := by obtain ⟨lv, h1, -⟩ := hl; exact h1.1
  have hXF : ∀ U : State, U.heap = H → κ.s.WarmedH U.vm → XF κ.E idsC U := fun U hU hW => by
    refine ⟨?_, hX2.warm hW, hX3⟩
    rw [hU]
    exact ((hX1.kept (fun a q1 q2 => hS.2.1 a q1 q2)).narrow (fun q hq => Or.inr (Rg.mono hS.1 q hq))).moved hW.alike
  have hrun := vx_runV (e := κ.e) (below := κ.below) (meth := κ.meth) (C := RX5) (b := κ.E.ad (0, 0, 0)) (As := As) (rest := rest) (cells := c) (slots := d) (locs := locs) ⟨G.hx, G.hb, G.hml, G.hown, G.hw⟩ (c9 H.size) ⟨callB_allX G hm hm4 hm5 hy hr, G.hw _ hm2, G.hw _ hm3⟩ ⟨PX_blind, va_recv G.hK hP0 (ci := 5) (q0 := q0) rfl (h1.trans rfl), fun U hU hW => ⟨rfl, by rw [hU], ⟨by rw [hU]; exact hP0, va_K.moved hW.alike G.hK, G.hinj⟩, hXF U hU hW⟩⟩ rfl hn hls hstk (lv_room hw) dg (g := F0 κ.m pc ls stk) ⟨by omega, by omega⟩
  have hA9 : ∀ q, Rg κ.E idsC H.size q → RgO κ.E o κ.s.heap.size q := fun q hq => Or.inr (Rg.mono hS.1 q hq)
  have hoH : o < H.size := vx_lt hP hlast
  have honot : ¬ Rg κ.E idsC H.size o := fun hz => by
    rcases hz with ⟨i, hi, hz⟩ | hz
    · exact hno i hi hz.symm
    · omega
  have hDcel : ∀ M' : Mem, va_D (RgO κ.E o κ.s.heap.size) (PW idsC κ.E.ad (κ.E.cel M') ++ tO o cL f) := fun M' => va_D_fst (by rw [List.map_append, List.map_append, PW_fst, PW_fst]) hD
  have hPnew : ∀ (M' : Mem) (H1 : Heap), va_P κ.E.D vwCl (PW idsC κ.E.ad (κ.E.cel M')) H1 → H1[o]? = H[o]? → va_P κ.E.D vwCl (PW idsC κ.E.ad (κ.E.cel M') ++ tO o cL f) H1 := fun M' H1 hp ho => by
    refine hp.app (fun k x hx => ?_)
    match k, hx with
    | 0, hx =>
      cases hx
      exact (hP _ _ hlast).kept ho
  intro T hT X
  rcases hrun T hT X with ⟨v, st₀, t, T', L, h0, X', hL, e1, e2, ⟨⟨v2, M', hv, hp, hWP, hWK, -⟩, hF⟩, st9⟩ | ⟨q, st₀, t, T', L, Ex, ce, h0, X', hL, e1, e2, ⟨⟨M', hp, hWP, hWK, -⟩, hF⟩, hce, hcv, hcl, st9⟩
  · cases hv
    obtain ⟨k1, k2, k3⟩ := vx_keep (A0 := RgO κ.E o κ.s.heap.size) h0 e1 hS (fun q _ hq => hA9 q hq) (fun q hq => hA9 q hq) hL hF
    obtain ⟨t2, a1, b1⟩ := h v M' hp T'.heap (locs ++ L) ls (hPnew M' _ (by rw [e1]; exact hWP) (k2 o hoH honot)) (hDcel M') k3 hl T' rfl X'
    exact ⟨t2, st9 t2 a1, b1⟩
  · obtain ⟨k1, k2, k3⟩ := vx_keep (A0 := RgO κ.E o κ.s.heap.size) h0 e1 hS (fun q _ hq => hA9 q hq) (fun q hq => hA9 q hq) hL hF
    obtain ⟨hpc, ⟨pre, x, suf, name, x1, x2, x3, x4, x5, x6, x7⟩, hk⟩ := hx _ _ hp
    subst x7
    have := vx_catch (own := own) (name := name) (p := κ.p) (l := κ.E.l) (e := κ.e) (R := κ.R) (s := κ.s) (m := κ.m) (args := κ.args) (below := κ.below) (meth := κ.meth) (c := κ.c) (H := T'.heap) (locs := locs ++ L) (cells := c + mc2) (slots := d + ms2) (Q := κ.Q) (ls := ls) (rest := rest) (pc := pc) (E := Ex) (ce := ce) (q := q) G.hown pre x suf (htab.trans x1) (fun z hz => Or.inr ⟨(x2 z hz).1, by
      obtain ⟨nm, z1, z2⟩ := (x2 z hz).2
      exact ⟨nm, G.hw _ z1, z2⟩⟩) x3 x4 (G.hw _ x5) (va_Nw.use rfl x6) (by rw [e1]; exact hce) hcv hcl (hk q T'.heap (locs ++ L) ls (hPnew M' _ (by rw [e1]; exact hWP) (k2 o hoH honot)) (hDcel M') k3 hl)
    obtain ⟨t2, a1, b1⟩ := this T' rfl X'
    exact ⟨t2, st9.trans a1, b1⟩
end TO
section LM
variable {E : EX} {M : Mem} {g : GS} {o : Nat} {cL : ClassId}
/-- what a call's code, kept long and memory are -/
def OPost (sp : Sp) : Int32 → Int64 → Mem → Prop := fun k x M' => k = nI sp.1 ∧ sp.1 < 4 ∧ (sp.1 = 0 → x = sp.2.1.toInt64) ∧ CI M' sp.2.2

theorem w_addBooth (hC : CI M g) (p0 p1 p2 p3 : Int32) : RetO E yL_addBooth cL_addBooth 7 [(0, 14, 17, 13), (0, 14, 21, 15)] 8 137 5 30 [.ref (E.ad (0, 0, 0)), .int p0, .int p1, .int p2, .int p3, .ref o] M o cL (OPost (spAddBooth g p0 p1 p2 p3)) := by
  refine RetO_of RL (by decide) rfl ([some (.ref (E.ad (0, 0, 0))), some (.int p0), some (.int p1), some (.int p2), some (.int p3), some (.ref o), none]) rfl (Nat.le_of_ble_eq_true rfl) (fun κ f hE G E9 => ?_)
  subst hE
  have hLA := E9.2.2.2.2.2.2.1
  refine tt_aload G dL_addBooth_0 rfl ?_
  refine tt_iconst (v := nI 0) G dL_addBooth_2 (by decide) ?_
  refine tt_aload_n G dL_addBooth_3 rfl ?_
  refine tt_iload_n G dL_addBooth_4 rfl ?_
  refine tt_iload_n G dL_addBooth_5 rfl ?_
  refine tt_iload_n G dL_addBooth_6 rfl ?_
  refine tt_iload G dL_addBooth_7 rfl ?_
  refine to_call (rest := [.int (nI 0), .ref o]) (n := 4) G E9 (f_addBooth (E := κ.E) hC p0 p1 p2 p3) (by decide +kernel) (by decide +kernel) (by decide +kernel) (by decide +kernel) (by decide +kernel) (by decide +kernel) (by decide) (by decide) (by decide) rfl (Nat.le_of_ble_eq_true rfl) dL_addBooth_9 rfl (fun X M9 hx => ?_) (fun r M9 hr => ?_)
  · obtain ⟨rfl, hx⟩ := hx
    rcases hx with ⟨rfl, hsp⟩ | ⟨rfl, hsp⟩
    · refine ⟨17, ⟨[], ⟨0, 14, 17, 13⟩, [⟨0, 14, 21, 15⟩], "java/lang/IllegalArgumentException", rfl, fun z hz => absurd hz List.not_mem_nil, rfl, by decide, by decide +kernel, E9.2.2.2.2.2.1.2.1.2.1, rfl⟩, fun q => ?_⟩
      refine tt_astore G dL_addBooth_17 (by decide) rfl ?_
      refine tt_iconst (v := nI 1) G dL_addBooth_19 (by decide) ?_
      refine to_iret G E9 dL_addBooth_20 (by decide) (by decide) ?_
      unfold OPost
      rw [hsp]
      exact ⟨rfl, show (1 : Nat) < 4 by decide, fun z => absurd (show (1 : Nat) = 0 from z) (by decide), hC⟩
    · refine ⟨21, ⟨[⟨0, 14, 17, 13⟩], ⟨0, 14, 21, 15⟩, [], "java/lang/IllegalStateException", rfl, fun z hz => by
        simp only [List.mem_cons, List.not_mem_nil, or_false] at hz
        subst hz
        exact ⟨by decide, _, (by decide +kernel : Cond.classLink RL 13 "java/lang/IllegalArgumentException" ∈ ALL), E9.2.2.2.2.2.1.2.2.1.1⟩, rfl, by decide, by decide +kernel, E9.2.2.2.2.2.1.2.1.2.2.1, rfl⟩, fun q => ?_⟩
      refine tt_astore G dL_addBooth_21 (by decide) rfl ?_
      refine tt_iconst (v := nI 2) G dL_addBooth_23 (by decide) ?_
      refine to_iret G E9 dL_addBooth_24 (by decide) (by decide) ?_
      unfold OPost
      rw [hsp]
      exact ⟨rfl, show (2 : Nat) < 4 by decide, fun z => absurd (show (2 : Nat) = 0 from z) (by decide), hC⟩
  · obtain ⟨v, g2, hsp, rfl, hC2⟩ := hr
    refine to_i2l G dL_addBooth_12 ?_
    refine to_last G hLA dL_addBooth_13 (fun f2 hf2 => ?_)
    refine tt_goto G 25 dL_addBooth_14 (by decide) ?_
    refine tt_iconst (v := nI 0) G dL_addBooth_25 (by decide) ?_
    refine to_iret G E9 dL_addBooth_26 (by decide) (by decide) ?_
    unfold OPost
    rw [hsp]
    exact ⟨rfl, show (0 : Nat) < 4 by decide, fun _ => hf2, hC2⟩
theorem w_addHelper (hC : CI M g) : RetO E yL_addHelper cL_addHelper 3 [(0, 8, 11, 15)] 7 111 1 6 [.ref (E.ad (0, 0, 0)), .ref o] M o cL (OPost (spAddHelper g)) := by
  refine RetO_of RL (by decide) rfl ([some (.ref (E.ad (0, 0, 0))), some (.ref o), none]) rfl (Nat.le_of_ble_eq_true rfl) (fun κ f hE G E9 => ?_)
  subst hE
  have hLA := E9.2.2.2.2.2.2.1
  refine tt_aload_n G dL_addHelper_0 rfl ?_
  refine tt_iconst (v := nI 0) G dL_addHelper_1 (by decide) ?_
  refine tt_aload_n G dL_addHelper_2 rfl ?_
  refine to_call (rest := [.int (nI 0), .ref o]) (n := 0) G E9 (f_addHelper (E := κ.E) hC) (by decide +kernel) (by decide +kernel) (by decide +kernel) (by decide +kernel) (by decide +kernel) (by decide +kernel) (by decide) (by decide) (by decide) rfl (Nat.le_of_ble_eq_true rfl) dL_addHelper_3 rfl (fun X M9 hx => ?_) (fun r M9 hr => ?_)
  · obtain ⟨rfl, ⟨rfl, hsp⟩⟩ := hx
    · refine ⟨11, ⟨[], ⟨0, 8, 11, 15⟩, [], "java/lang/IllegalStateException", rfl, fun z hz => absurd hz List.not_mem_nil, rfl, by decide, by decide +kernel, E9.2.2.2.2.2.1.2.1.2.2.1, rfl⟩, fun q => ?_⟩
      refine tt_astore_n G dL_addHelper_11 (by decide) rfl ?_
      refine tt_iconst (v := nI 1) G dL_addHelper_12 (by decide) ?_
      refine to_iret G E9 dL_addHelper_13 (by decide) (by decide) ?_
      unfold OPost
      rw [hsp]
      exact ⟨rfl, show (1 : Nat) < 4 by decide, fun z => absurd (show (1 : Nat) = 0 from z) (by decide), hC⟩
  · obtain ⟨v, g2, hsp, rfl, hC2⟩ := hr
    refine to_i2l G dL_addHelper_6 ?_
    refine to_last G hLA dL_addHelper_7 (fun f2 hf2 => ?_)
    refine tt_goto G 14 dL_addHelper_8 (by decide) ?_
    refine tt_iconst (v := nI 0) G dL_addHelper_14 (by decide) ?_
    refine to_iret G E9 dL_addHelper_15 (by decide) (by decide) ?_
    unfold OPost
    rw [hsp]
    exact ⟨rfl, show (0 : Nat) < 4 by decide, fun _ => hf2, hC2⟩
theorem w_come (hC : CI M g) (p0 p1 : Int32) : RetO E yL_come cL_come 5 [(0, 10, 13, 13), (0, 10, 17, 15)] 8 135 3 18 [.ref (E.ad (0, 0, 0)), .int p0, .int p1, .ref o] M o cL (OPost (spCome g p0 p1)) := by
  refine RetO_of RL (by decide) rfl ([some (.ref (E.ad (0, 0, 0))), some (.int p0), some (.int p1), some (.ref o), none]) rfl (Nat.le_of_ble_eq_true rfl) (fun κ f hE G E9 => ?_)
  subst hE
  have hLA := E9.2.2.2.2.2.2.1
  refine tt_aload_n G dL_come_0 rfl ?_
  refine tt_iconst (v := nI 0) G dL_come_1 (by decide) ?_
  refine tt_aload_n G dL_come_2 rfl ?_
  refine tt_iload_n G dL_come_3 rfl ?_
  refine tt_iload_n G dL_come_4 rfl ?_
  refine to_call (rest := [.int (nI 0), .ref o]) (n := 2) G E9 (f_come (E := κ.E) hC p0 p1) (by decide +kernel) (by decide +kernel) (by decide +kernel) (by decide +kernel) (by decide +kernel) (by decide +kernel) (by decide) (by decide) (by decide) rfl (Nat.le_of_ble_eq_true rfl) dL_come_5 rfl (fun X M9 hx => ?_) (fun r M9 hr => ?_)
  · obtain ⟨rfl, hx⟩ := hx
    rcases hx with ⟨rfl, hsp⟩ | ⟨rfl, hsp⟩
    · refine ⟨13, ⟨[], ⟨0, 10, 13, 13⟩, [⟨0, 10, 17, 15⟩], "java/lang/IllegalArgumentException", rfl, fun z hz => absurd hz List.not_mem_nil, rfl, by decide, by decide +kernel, E9.2.2.2.2.2.1.2.1.2.1, rfl⟩, fun q => ?_⟩
      refine tt_astore G dL_come_13 (by decide) rfl ?_
      refine tt_iconst (v := nI 1) G dL_come_15 (by decide) ?_
      refine to_iret G E9 dL_come_16 (by decide) (by decide) ?_
      unfold OPost
      rw [hsp]
      exact ⟨rfl, show (1 : Nat) < 4 by decide, fun z => absurd (show (1 : Nat) = 0 from z) (by decide), hC⟩
    · refine ⟨17, ⟨[⟨0, 10, 13, 13⟩], ⟨0, 10, 17, 15⟩, [], "java/lang/IllegalStateException", rfl, fun z hz => by
        simp only [List.mem_cons, List.not_mem_nil, or_false] at hz
        subst hz
        exact ⟨by decide, _, (by decide +kernel : Cond.classLink RL 13 "java/lang/IllegalArgumentException" ∈ ALL), E9.2.2.2.2.2.1.2.2.1.1⟩, rfl, by decide, by decide +kernel, E9.2.2.2.2.2.1.2.1.2.2.1, rfl⟩, fun q => ?_⟩
      refine tt_astore G dL_come_17 (by decide) rfl ?_
      refine tt_iconst (v := nI 2) G dL_come_19 (by decide) ?_
      refine to_iret G E9 dL_come_20 (by decide) (by decide) ?_
      unfold OPost
      rw [hsp]
      exact ⟨rfl, show (2 : Nat) < 4 by decide, fun z => absurd (show (2 : Nat) = 0 from z) (by decide), hC⟩
  · obtain ⟨v, g2, hsp, rfl, hC2⟩ := hr
    refine to_i2l G dL_come_8 ?_
    refine to_last G hLA dL_come_9 (fun f2 hf2 => ?_)
    refine tt_goto G 21 dL_come_10 (by decide) ?_
    refine tt_iconst (v := nI 0) G dL_come_21 (by decide) ?_
    refine to_iret G E9 dL_come_22 (by decide) (by decide) ?_
    unfold OPost
    rw [hsp]
    exact ⟨rfl, show (0 : Nat) < 4 by decide, fun _ => hf2, hC2⟩
theorem w_setDart (hC : CI M g) (p0 : Int32) : RetO E yL_setDart cL_setDart 4 [(0, 9, 12, 13)] 8 134 1 6 [.ref (E.ad (0, 0, 0)), .int p0, .ref o] M o cL (OPost (spSetDart g p0)) := by
  refine RetO_of RL (by decide) rfl ([some (.ref (E.ad (0, 0, 0))), some (.int p0), some (.ref o), none]) rfl (Nat.le_of_ble_eq_true rfl) (fun κ f hE G E9 => ?_)
  subst hE
  have hLA := E9.2.2.2.2.2.2.1
  refine tt_aload_n G dL_setDart_0 rfl ?_
  refine tt_iconst (v := nI 0) G dL_setDart_1 (by decide) ?_
  refine tt_aload_n G dL_setDart_2 rfl ?_
  refine tt_iload_n G dL_setDart_3 rfl ?_
  refine to_call (rest := [.int (nI 0), .ref o]) (n := 1) G E9 (f_setDart (E := κ.E) hC p0) (by decide +kernel) (by decide +kernel) (by decide +kernel) (by decide +kernel) (by decide +kernel) (by decide +kernel) (by decide) (by decide) (by decide) rfl (Nat.le_of_ble_eq_true rfl) dL_setDart_4 rfl (fun X M9 hx => ?_) (fun r M9 hr => ?_)
  · obtain ⟨rfl, ⟨rfl, hsp⟩⟩ := hx
    · refine ⟨12, ⟨[], ⟨0, 9, 12, 13⟩, [], "java/lang/IllegalArgumentException", rfl, fun z hz => absurd hz List.not_mem_nil, rfl, by decide, by decide +kernel, E9.2.2.2.2.2.1.2.1.2.1, rfl⟩, fun q => ?_⟩
      refine tt_astore_n G dL_setDart_12 (by decide) rfl ?_
      refine tt_iconst (v := nI 1) G dL_setDart_13 (by decide) ?_
      refine to_iret G E9 dL_setDart_14 (by decide) (by decide) ?_
      unfold OPost
      rw [hsp]
      exact ⟨rfl, show (1 : Nat) < 4 by decide, fun z => absurd (show (1 : Nat) = 0 from z) (by decide), hC⟩
  · obtain ⟨v, g2, hsp, rfl, hC2⟩ := hr
    refine to_i2l G dL_setDart_7 ?_
    refine to_last G hLA dL_setDart_8 (fun f2 hf2 => ?_)
    refine tt_goto G 15 dL_setDart_9 (by decide) ?_
    refine tt_iconst (v := nI 0) G dL_setDart_15 (by decide) ?_
    refine to_iret G E9 dL_setDart_16 (by decide) (by decide) ?_
    unfold OPost
    rw [hsp]
    exact ⟨rfl, show (0 : Nat) < 4 by decide, fun _ => hf2, hC2⟩
theorem w_work (hC : CI M g) (p0 p1 : Int32) : RetO E yL_work cL_work 5 [(0, 10, 13, 32)] 8 134 2 12 [.ref (E.ad (0, 0, 0)), .int p0, .int p1, .ref o] M o cL (OPost (spWork g p0 p1)) := by
  refine RetO_of RL (by decide) rfl ([some (.ref (E.ad (0, 0, 0))), some (.int p0), some (.int p1), some (.ref o), none]) rfl (Nat.le_of_ble_eq_true rfl) (fun κ f hE G E9 => ?_)
  subst hE
  have hLA := E9.2.2.2.2.2.2.1
  refine tt_aload_n G dL_work_0 rfl ?_
  refine tt_iconst (v := nI 0) G dL_work_1 (by decide) ?_
  refine tt_aload_n G dL_work_2 rfl ?_
  refine tt_iload_n G dL_work_3 rfl ?_
  refine tt_iload_n G dL_work_4 rfl ?_
  refine to_call (rest := [.int (nI 0), .ref o]) (n := 2) G E9 (f_work (E := κ.E) hC p0 p1) (by decide +kernel) (by decide +kernel) (by decide +kernel) (by decide +kernel) (by decide +kernel) (by decide +kernel) (by decide) (by decide) (by decide) rfl (Nat.le_of_ble_eq_true rfl) dL_work_5 rfl (fun X M9 hx => ?_) (fun r M9 hr => ?_)
  · obtain ⟨rfl, ⟨rfl, hsp⟩⟩ := hx
    · refine ⟨13, ⟨[], ⟨0, 10, 13, 32⟩, [], "java/lang/IndexOutOfBoundsException", rfl, fun z hz => absurd hz List.not_mem_nil, rfl, by decide, by decide +kernel, E9.2.2.2.2.2.1.2.1.2.2.2.1, rfl⟩, fun q => ?_⟩
      refine tt_astore G dL_work_13 (by decide) rfl ?_
      refine tt_iconst (v := nI 1) G dL_work_15 (by decide) ?_
      refine to_iret G E9 dL_work_16 (by decide) (by decide) ?_
      unfold OPost
      rw [hsp]
      exact ⟨rfl, show (1 : Nat) < 4 by decide, fun z => absurd (show (1 : Nat) = 0 from z) (by decide), hC⟩
  · obtain ⟨v, g2, hsp, rfl, hC2⟩ := hr
    refine to_i2l G dL_work_8 ?_
    refine to_last G hLA dL_work_9 (fun f2 hf2 => ?_)
    refine tt_goto G 17 dL_work_10 (by decide) ?_
    refine tt_iconst (v := nI 0) G dL_work_17 (by decide) ?_
    refine to_iret G E9 dL_work_18 (by decide) (by decide) ?_
    unfold OPost
    rw [hsp]
    exact ⟨rfl, show (0 : Nat) < 4 by decide, fun _ => hf2, hC2⟩
theorem w_bring (hC : CI M g) (p0 p1 : Int32) : RetO E yL_bring cL_bring 5 [(0, 10, 13, 32), (0, 10, 17, 13), (0, 10, 21, 15)] 8 135 3 18 [.ref (E.ad (0, 0, 0)), .int p0, .int p1, .ref o] M o cL (OPost (spBring g p0 p1)) := by
  refine RetO_of RL (by decide) rfl ([some (.ref (E.ad (0, 0, 0))), some (.int p0), some (.int p1), some (.ref o), none]) rfl (Nat.le_of_ble_eq_true rfl) (fun κ f hE G E9 => ?_)
  subst hE
  have hLA := E9.2.2.2.2.2.2.1
  refine tt_aload_n G dL_bring_0 rfl ?_
  refine tt_iconst (v := nI 0) G dL_bring_1 (by decide) ?_
  refine tt_aload_n G dL_bring_2 rfl ?_
  refine tt_iload_n G dL_bring_3 rfl ?_
  refine tt_iload_n G dL_bring_4 rfl ?_
  refine to_call (rest := [.int (nI 0), .ref o]) (n := 2) G E9 (f_bring (E := κ.E) hC p0 p1) (by decide +kernel) (by decide +kernel) (by decide +kernel) (by decide +kernel) (by decide +kernel) (by decide +kernel) (by decide) (by decide) (by decide) rfl (Nat.le_of_ble_eq_true rfl) dL_bring_5 rfl (fun X M9 hx => ?_) (fun r M9 hr => ?_)
  · obtain ⟨rfl, hx⟩ := hx
    rcases hx with ⟨rfl, hsp⟩ | ⟨rfl, hsp⟩ | ⟨rfl, hsp⟩
    · refine ⟨13, ⟨[], ⟨0, 10, 13, 32⟩, [⟨0, 10, 17, 13⟩, ⟨0, 10, 21, 15⟩], "java/lang/IndexOutOfBoundsException", rfl, fun z hz => absurd hz List.not_mem_nil, rfl, by decide, by decide +kernel, E9.2.2.2.2.2.1.2.1.2.2.2.1, rfl⟩, fun q => ?_⟩
      refine tt_astore G dL_bring_13 (by decide) rfl ?_
      refine tt_iconst (v := nI 1) G dL_bring_15 (by decide) ?_
      refine to_iret G E9 dL_bring_16 (by decide) (by decide) ?_
      unfold OPost
      rw [hsp]
      exact ⟨rfl, show (1 : Nat) < 4 by decide, fun z => absurd (show (1 : Nat) = 0 from z) (by decide), hC⟩
    · refine ⟨17, ⟨[⟨0, 10, 13, 32⟩], ⟨0, 10, 17, 13⟩, [⟨0, 10, 21, 15⟩], "java/lang/IllegalArgumentException", rfl, fun z hz => by
        simp only [List.mem_cons, List.not_mem_nil, or_false] at hz
        subst hz
        exact ⟨by decide, _, (by decide +kernel : Cond.classLink RL 32 "java/lang/IndexOutOfBoundsException" ∈ ALL), E9.2.2.2.2.2.1.2.2.1.2.1⟩, rfl, by decide, by decide +kernel, E9.2.2.2.2.2.1.2.1.2.1, rfl⟩, fun q => ?_⟩
      refine tt_astore G dL_bring_17 (by decide) rfl ?_
      refine tt_iconst (v := nI 2) G dL_bring_19 (by decide) ?_
      refine to_iret G E9 dL_bring_20 (by decide) (by decide) ?_
      unfold OPost
      rw [hsp]
      exact ⟨rfl, show (2 : Nat) < 4 by decide, fun z => absurd (show (2 : Nat) = 0 from z) (by decide), hC⟩
    · refine ⟨21, ⟨[⟨0, 10, 13, 32⟩, ⟨0, 10, 17, 13⟩], ⟨0, 10, 21, 15⟩, [], "java/lang/IllegalStateException", rfl, fun z hz => by
        simp only [List.mem_cons, List.not_mem_nil, or_false] at hz
        rcases hz with rfl | rfl
        · exact ⟨by decide, _, (by decide +kernel : Cond.classLink RL 32 "java/lang/IndexOutOfBoundsException" ∈ ALL), E9.2.2.2.2.2.1.2.2.1.2.2⟩
        · exact ⟨by decide, _, (by decide +kernel : Cond.classLink RL 13 "java/lang/IllegalArgumentException" ∈ ALL), E9.2.2.2.2.2.1.2.2.1.1⟩, rfl, by decide, by decide +kernel, E9.2.2.2.2.2.1.2.1.2.2.1, rfl⟩, fun q => ?_⟩
      refine tt_astore G dL_bring_21 (by decide) rfl ?_
      refine tt_iconst (v := nI 3) G dL_bring_23 (by decide) ?_
      refine to_iret G E9 dL_bring_24 (by decide) (by decide) ?_
      unfold OPost
      rw [hsp]
      exact ⟨rfl, show (3 : Nat) < 4 by decide, fun z => absurd (show (3 : Nat) = 0 from z) (by decide), hC⟩
  · obtain ⟨v, g2, hsp, rfl, hC2⟩ := hr
    refine to_i2l G dL_bring_8 ?_
    refine to_last G hLA dL_bring_9 (fun f2 hf2 => ?_)
    refine tt_goto G 25 dL_bring_10 (by decide) ?_
    refine tt_iconst (v := nI 0) G dL_bring_25 (by decide) ?_
    refine to_iret G E9 dL_bring_26 (by decide) (by decide) ?_
    unfold OPost
    rw [hsp]
    exact ⟨rfl, show (0 : Nat) < 4 by decide, fun _ => hf2, hC2⟩
theorem w_sell (hC : CI M g) (p0 p1 : Int32) : RetO E yL_sell cL_sell 5 [(0, 10, 13, 32), (0, 10, 17, 13)] 8 135 2 12 [.ref (E.ad (0, 0, 0)), .int p0, .int p1, .ref o] M o cL (OPost (spSell g p0 p1)) := by
  refine RetO_of RL (by decide) rfl ([some (.ref (E.ad (0, 0, 0))), some (.int p0), some (.int p1), some (.ref o), none]) rfl (Nat.le_of_ble_eq_true rfl) (fun κ f hE G E9 => ?_)
  subst hE
  have hLA := E9.2.2.2.2.2.2.1
  refine tt_aload_n G dL_sell_0 rfl ?_
  refine tt_iconst (v := nI 0) G dL_sell_1 (by decide) ?_
  refine tt_aload_n G dL_sell_2 rfl ?_
  refine tt_iload_n G dL_sell_3 rfl ?_
  refine tt_iload_n G dL_sell_4 rfl ?_
  refine to_call (rest := [.int (nI 0), .ref o]) (n := 2) G E9 (f_sell (E := κ.E) hC p0 p1) (by decide +kernel) (by decide +kernel) (by decide +kernel) (by decide +kernel) (by decide +kernel) (by decide +kernel) (by decide) (by decide) (by decide) rfl (Nat.le_of_ble_eq_true rfl) dL_sell_5 rfl (fun X M9 hx => ?_) (fun r M9 hr => ?_)
  · obtain ⟨rfl, hx⟩ := hx
    rcases hx with ⟨rfl, hsp⟩ | ⟨rfl, hsp⟩
    · refine ⟨13, ⟨[], ⟨0, 10, 13, 32⟩, [⟨0, 10, 17, 13⟩], "java/lang/IndexOutOfBoundsException", rfl, fun z hz => absurd hz List.not_mem_nil, rfl, by decide, by decide +kernel, E9.2.2.2.2.2.1.2.1.2.2.2.1, rfl⟩, fun q => ?_⟩
      refine tt_astore G dL_sell_13 (by decide) rfl ?_
      refine tt_iconst (v := nI 1) G dL_sell_15 (by decide) ?_
      refine to_iret G E9 dL_sell_16 (by decide) (by decide) ?_
      unfold OPost
      rw [hsp]
      exact ⟨rfl, show (1 : Nat) < 4 by decide, fun z => absurd (show (1 : Nat) = 0 from z) (by decide), hC⟩
    · refine ⟨17, ⟨[⟨0, 10, 13, 32⟩], ⟨0, 10, 17, 13⟩, [], "java/lang/IllegalArgumentException", rfl, fun z hz => by
        simp only [List.mem_cons, List.not_mem_nil, or_false] at hz
        subst hz
        exact ⟨by decide, _, (by decide +kernel : Cond.classLink RL 32 "java/lang/IndexOutOfBoundsException" ∈ ALL), E9.2.2.2.2.2.1.2.2.1.2.1⟩, rfl, by decide, by decide +kernel, E9.2.2.2.2.2.1.2.1.2.1, rfl⟩, fun q => ?_⟩
      refine tt_astore G dL_sell_17 (by decide) rfl ?_
      refine tt_iconst (v := nI 2) G dL_sell_19 (by decide) ?_
      refine to_iret G E9 dL_sell_20 (by decide) (by decide) ?_
      unfold OPost
      rw [hsp]
      exact ⟨rfl, show (2 : Nat) < 4 by decide, fun z => absurd (show (2 : Nat) = 0 from z) (by decide), hC⟩
  · obtain ⟨v, g2, hsp, rfl, hC2⟩ := hr
    refine to_i2l G dL_sell_8 ?_
    refine to_last G hLA dL_sell_9 (fun f2 hf2 => ?_)
    refine tt_goto G 21 dL_sell_10 (by decide) ?_
    refine tt_iconst (v := nI 0) G dL_sell_21 (by decide) ?_
    refine to_iret G E9 dL_sell_22 (by decide) (by decide) ?_
    unfold OPost
    rw [hsp]
    exact ⟨rfl, show (0 : Nat) < 4 by decide, fun _ => hf2, hC2⟩
theorem w_leave (hC : CI M g) (p0 : Int32) : RetO E yL_leave cL_leave 4 [(0, 9, 12, 32)] 8 132 1 6 [.ref (E.ad (0, 0, 0)), .int p0, .ref o] M o cL (OPost (spLeave g p0)) := by
  refine RetO_of RL (by decide) rfl ([some (.ref (E.ad (0, 0, 0))), some (.int p0), some (.ref o), none]) rfl (Nat.le_of_ble_eq_true rfl) (fun κ f hE G E9 => ?_)
  subst hE
  have hLA := E9.2.2.2.2.2.2.1
  refine tt_aload_n G dL_leave_0 rfl ?_
  refine tt_iconst (v := nI 0) G dL_leave_1 (by decide) ?_
  refine tt_aload_n G dL_leave_2 rfl ?_
  refine tt_iload_n G dL_leave_3 rfl ?_
  refine to_call (rest := [.int (nI 0), .ref o]) (n := 1) G E9 (f_leave (E := κ.E) hC p0) (by decide +kernel) (by decide +kernel) (by decide +kernel) (by decide +kernel) (by decide +kernel) (by decide +kernel) (by decide) (by decide) (by decide) rfl (Nat.le_of_ble_eq_true rfl) dL_leave_4 rfl (fun X M9 hx => ?_) (fun r M9 hr => ?_)
  · obtain ⟨rfl, ⟨rfl, hsp⟩⟩ := hx
    · refine ⟨12, ⟨[], ⟨0, 9, 12, 32⟩, [], "java/lang/IndexOutOfBoundsException", rfl, fun z hz => absurd hz List.not_mem_nil, rfl, by decide, by decide +kernel, E9.2.2.2.2.2.1.2.1.2.2.2.1, rfl⟩, fun q => ?_⟩
      refine tt_astore_n G dL_leave_12 (by decide) rfl ?_
      refine tt_iconst (v := nI 1) G dL_leave_13 (by decide) ?_
      refine to_iret G E9 dL_leave_14 (by decide) (by decide) ?_
      unfold OPost
      rw [hsp]
      exact ⟨rfl, show (1 : Nat) < 4 by decide, fun z => absurd (show (1 : Nat) = 0 from z) (by decide), hC⟩
  · obtain ⟨v, g2, hsp, rfl, hC2⟩ := hr
    refine to_i2l G dL_leave_7 ?_
    refine to_last G hLA dL_leave_8 (fun f2 hf2 => ?_)
    refine tt_goto G 15 dL_leave_9 (by decide) ?_
    refine tt_iconst (v := nI 0) G dL_leave_15 (by decide) ?_
    refine to_iret G E9 dL_leave_16 (by decide) (by decide) ?_
    unfold OPost
    rw [hsp]
    exact ⟨rfl, show (0 : Nat) < 4 by decide, fun _ => hf2, hC2⟩
theorem w_booth (hC : CI M g) (p0 p1 : Int32) : RetO E yL_booth cL_booth 5 [(0, 10, 13, 32)] 8 133 2 12 [.ref (E.ad (0, 0, 0)), .int p0, .int p1, .ref o] M o cL (OPost (spBooth g p0 p1)) := by
  refine RetO_of RL (by decide) rfl ([some (.ref (E.ad (0, 0, 0))), some (.int p0), some (.int p1), some (.ref o), none]) rfl (Nat.le_of_ble_eq_true rfl) (fun κ f hE G E9 => ?_)
  subst hE
  have hLA := E9.2.2.2.2.2.2.1
  refine tt_aload_n G dL_booth_0 rfl ?_
  refine tt_iconst (v := nI 0) G dL_booth_1 (by decide) ?_
  refine tt_aload_n G dL_booth_2 rfl ?_
  refine tt_iload_n G dL_booth_3 rfl ?_
  refine tt_iload_n G dL_booth_4 rfl ?_
  refine to_call (rest := [.int (nI 0), .ref o]) (n := 2) G E9 (f_booth (E := κ.E) hC p0 p1) (by decide +kernel) (by decide +kernel) (by decide +kernel) (by decide +kernel) (by decide +kernel) (by decide +kernel) (by decide) (by decide) (by decide) rfl (Nat.le_of_ble_eq_true rfl) dL_booth_5 rfl (fun X M9 hx => ?_) (fun r M9 hr => ?_)
  · obtain ⟨rfl, ⟨rfl, hsp⟩⟩ := hx
    · refine ⟨13, ⟨[], ⟨0, 10, 13, 32⟩, [], "java/lang/IndexOutOfBoundsException", rfl, fun z hz => absurd hz List.not_mem_nil, rfl, by decide, by decide +kernel, E9.2.2.2.2.2.1.2.1.2.2.2.1, rfl⟩, fun q => ?_⟩
      refine tt_astore G dL_booth_13 (by decide) rfl ?_
      refine tt_iconst (v := nI 1) G dL_booth_15 (by decide) ?_
      refine to_iret G E9 dL_booth_16 (by decide) (by decide) ?_
      unfold OPost
      rw [hsp]
      exact ⟨rfl, show (1 : Nat) < 4 by decide, fun z => absurd (show (1 : Nat) = 0 from z) (by decide), hC⟩
  · obtain ⟨v, g2, hsp, rfl, hC2⟩ := hr
    refine to_i2l G dL_booth_8 ?_
    refine to_last G hLA dL_booth_9 (fun f2 hf2 => ?_)
    refine tt_goto G 17 dL_booth_10 (by decide) ?_
    refine tt_iconst (v := nI 0) G dL_booth_17 (by decide) ?_
    refine to_iret G E9 dL_booth_18 (by decide) (by decide) ?_
    unfold OPost
    rw [hsp]
    exact ⟨rfl, show (0 : Nat) < 4 by decide, fun _ => hf2, hC2⟩
theorem w_queue (hC : CI M g) (p0 p1 : Int32) : RetO E yL_queue cL_queue 5 [(0, 10, 13, 32)] 8 134 2 12 [.ref (E.ad (0, 0, 0)), .int p0, .int p1, .ref o] M o cL (OPost (spQueue g p0 p1)) := by
  refine RetO_of RL (by decide) rfl ([some (.ref (E.ad (0, 0, 0))), some (.int p0), some (.int p1), some (.ref o), none]) rfl (Nat.le_of_ble_eq_true rfl) (fun κ f hE G E9 => ?_)
  subst hE
  have hLA := E9.2.2.2.2.2.2.1
  refine tt_aload_n G dL_queue_0 rfl ?_
  refine tt_iconst (v := nI 0) G dL_queue_1 (by decide) ?_
  refine tt_aload_n G dL_queue_2 rfl ?_
  refine tt_iload_n G dL_queue_3 rfl ?_
  refine tt_iload_n G dL_queue_4 rfl ?_
  refine to_call (rest := [.int (nI 0), .ref o]) (n := 2) G E9 (f_queue (E := κ.E) hC p0 p1) (by decide +kernel) (by decide +kernel) (by decide +kernel) (by decide +kernel) (by decide +kernel) (by decide +kernel) (by decide) (by decide) (by decide) rfl (Nat.le_of_ble_eq_true rfl) dL_queue_5 rfl (fun X M9 hx => ?_) (fun r M9 hr => ?_)
  · obtain ⟨rfl, ⟨rfl, hsp⟩⟩ := hx
    · refine ⟨13, ⟨[], ⟨0, 10, 13, 32⟩, [], "java/lang/IndexOutOfBoundsException", rfl, fun z hz => absurd hz List.not_mem_nil, rfl, by decide, by decide +kernel, E9.2.2.2.2.2.1.2.1.2.2.2.1, rfl⟩, fun q => ?_⟩
      refine tt_astore G dL_queue_13 (by decide) rfl ?_
      refine tt_iconst (v := nI 1) G dL_queue_15 (by decide) ?_
      refine to_iret G E9 dL_queue_16 (by decide) (by decide) ?_
      unfold OPost
      rw [hsp]
      exact ⟨rfl, show (1 : Nat) < 4 by decide, fun z => absurd (show (1 : Nat) = 0 from z) (by decide), hC⟩
  · obtain ⟨v, g2, hsp, rfl, hC2⟩ := hr
    refine to_i2l G dL_queue_8 ?_
    refine to_last G hLA dL_queue_9 (fun f2 hf2 => ?_)
    refine tt_goto G 17 dL_queue_10 (by decide) ?_
    refine tt_iconst (v := nI 0) G dL_queue_17 (by decide) ?_
    refine to_iret G E9 dL_queue_18 (by decide) (by decide) ?_
    unfold OPost
    rw [hsp]
    exact ⟨rfl, show (0 : Nat) < 4 by decide, fun _ => hf2, hC2⟩
theorem w_helper (hC : CI M g) (p0 p1 : Int32) : RetO E yL_helper cL_helper 5 [(0, 10, 13, 32)] 8 133 2 12 [.ref (E.ad (0, 0, 0)), .int p0, .int p1, .ref o] M o cL (OPost (spHelper g p0 p1)) := by
  refine RetO_of RL (by decide) rfl ([some (.ref (E.ad (0, 0, 0))), some (.int p0), some (.int p1), some (.ref o), none]) rfl (Nat.le_of_ble_eq_true rfl) (fun κ f hE G E9 => ?_)
  subst hE
  have hLA := E9.2.2.2.2.2.2.1
  refine tt_aload_n G dL_helper_0 rfl ?_
  refine tt_iconst (v := nI 0) G dL_helper_1 (by decide) ?_
  refine tt_aload_n G dL_helper_2 rfl ?_
  refine tt_iload_n G dL_helper_3 rfl ?_
  refine tt_iload_n G dL_helper_4 rfl ?_
  refine to_call (rest := [.int (nI 0), .ref o]) (n := 2) G E9 (f_helper (E := κ.E) hC p0 p1) (by decide +kernel) (by decide +kernel) (by decide +kernel) (by decide +kernel) (by decide +kernel) (by decide +kernel) (by decide) (by decide) (by decide) rfl (Nat.le_of_ble_eq_true rfl) dL_helper_5 rfl (fun X M9 hx => ?_) (fun r M9 hr => ?_)
  · obtain ⟨rfl, ⟨rfl, hsp⟩⟩ := hx
    · refine ⟨13, ⟨[], ⟨0, 10, 13, 32⟩, [], "java/lang/IndexOutOfBoundsException", rfl, fun z hz => absurd hz List.not_mem_nil, rfl, by decide, by decide +kernel, E9.2.2.2.2.2.1.2.1.2.2.2.1, rfl⟩, fun q => ?_⟩
      refine tt_astore G dL_helper_13 (by decide) rfl ?_
      refine tt_iconst (v := nI 1) G dL_helper_15 (by decide) ?_
      refine to_iret G E9 dL_helper_16 (by decide) (by decide) ?_
      unfold OPost
      rw [hsp]
      exact ⟨rfl, show (1 : Nat) < 4 by decide, fun z => absurd (show (1 : Nat) = 0 from z) (by decide), hC⟩
  · obtain ⟨v, g2, hsp, rfl, hC2⟩ := hr
    refine to_i2l G dL_helper_8 ?_
    refine to_last G hLA dL_helper_9 (fun f2 hf2 => ?_)
    refine tt_goto G 17 dL_helper_10 (by decide) ?_
    refine tt_iconst (v := nI 0) G dL_helper_17 (by decide) ?_
    refine to_iret G E9 dL_helper_18 (by decide) (by decide) ?_
    unfold OPost
    rw [hsp]
    exact ⟨rfl, show (0 : Nat) < 4 by decide, fun _ => hf2, hC2⟩
theorem w_visitor (hC : CI M g) (p0 p1 : Int32) : RetO E yL_visitor cL_visitor 5 [(0, 10, 13, 32)] 8 133 2 12 [.ref (E.ad (0, 0, 0)), .int p0, .int p1, .ref o] M o cL (OPost (spVisitor g p0 p1)) := by
  refine RetO_of RL (by decide) rfl ([some (.ref (E.ad (0, 0, 0))), some (.int p0), some (.int p1), some (.ref o), none]) rfl (Nat.le_of_ble_eq_true rfl) (fun κ f hE G E9 => ?_)
  subst hE
  have hLA := E9.2.2.2.2.2.2.1
  refine tt_aload_n G dL_visitor_0 rfl ?_
  refine tt_iconst (v := nI 0) G dL_visitor_1 (by decide) ?_
  refine tt_aload_n G dL_visitor_2 rfl ?_
  refine tt_iload_n G dL_visitor_3 rfl ?_
  refine tt_iload_n G dL_visitor_4 rfl ?_
  refine to_call (rest := [.int (nI 0), .ref o]) (n := 2) G E9 (f_visitor (E := κ.E) hC p0 p1) (by decide +kernel) (by decide +kernel) (by decide +kernel) (by decide +kernel) (by decide +kernel) (by decide +kernel) (by decide) (by decide) (by decide) rfl (Nat.le_of_ble_eq_true rfl) dL_visitor_5 rfl (fun X M9 hx => ?_) (fun r M9 hr => ?_)
  · obtain ⟨rfl, ⟨rfl, hsp⟩⟩ := hx
    · refine ⟨13, ⟨[], ⟨0, 10, 13, 32⟩, [], "java/lang/IndexOutOfBoundsException", rfl, fun z hz => absurd hz List.not_mem_nil, rfl, by decide, by decide +kernel, E9.2.2.2.2.2.1.2.1.2.2.2.1, rfl⟩, fun q => ?_⟩
      refine tt_astore G dL_visitor_13 (by decide) rfl ?_
      refine tt_iconst (v := nI 1) G dL_visitor_15 (by decide) ?_
      refine to_iret G E9 dL_visitor_16 (by decide) (by decide) ?_
      unfold OPost
      rw [hsp]
      exact ⟨rfl, show (1 : Nat) < 4 by decide, fun z => absurd (show (1 : Nat) = 0 from z) (by decide), hC⟩
  · obtain ⟨v, g2, hsp, rfl, hC2⟩ := hr
    refine to_i2l G dL_visitor_8 ?_
    refine to_last G hLA dL_visitor_9 (fun f2 hf2 => ?_)
    refine tt_goto G 17 dL_visitor_10 (by decide) ?_
    refine tt_iconst (v := nI 0) G dL_visitor_17 (by decide) ?_
    refine to_iret G E9 dL_visitor_18 (by decide) (by decide) ?_
    unfold OPost
    rw [hsp]
    exact ⟨rfl, show (0 : Nat) < 4 by decide, fun _ => hf2, hC2⟩
theorem w_practice (hC : CI M g) (p0 p1 : Int32) : RetO E yL_practice cL_practice 5 [(0, 10, 13, 32)] 8 133 2 12 [.ref (E.ad (0, 0, 0)), .int p0, .int p1, .ref o] M o cL (OPost (spPractice g p0 p1)) := by
  refine RetO_of RL (by decide) rfl ([some (.ref (E.ad (0, 0, 0))), some (.int p0), some (.int p1), some (.ref o), none]) rfl (Nat.le_of_ble_eq_true rfl) (fun κ f hE G E9 => ?_)
  subst hE
  have hLA := E9.2.2.2.2.2.2.1
  refine tt_aload_n G dL_practice_0 rfl ?_
  refine tt_iconst (v := nI 0) G dL_practice_1 (by decide) ?_
  refine tt_aload_n G dL_practice_2 rfl ?_
  refine tt_iload_n G dL_practice_3 rfl ?_
  refine tt_iload_n G dL_practice_4 rfl ?_
  refine to_call (rest := [.int (nI 0), .ref o]) (n := 2) G E9 (f_practice (E := κ.E) hC p0 p1) (by decide +kernel) (by decide +kernel) (by decide +kernel) (by decide +kernel) (by decide +kernel) (by decide +kernel) (by decide) (by decide) (by decide) rfl (Nat.le_of_ble_eq_true rfl) dL_practice_5 rfl (fun X M9 hx => ?_) (fun r M9 hr => ?_)
  · obtain ⟨rfl, ⟨rfl, hsp⟩⟩ := hx
    · refine ⟨13, ⟨[], ⟨0, 10, 13, 32⟩, [], "java/lang/IndexOutOfBoundsException", rfl, fun z hz => absurd hz List.not_mem_nil, rfl, by decide, by decide +kernel, E9.2.2.2.2.2.1.2.1.2.2.2.1, rfl⟩, fun q => ?_⟩
      refine tt_astore G dL_practice_13 (by decide) rfl ?_
      refine tt_iconst (v := nI 1) G dL_practice_15 (by decide) ?_
      refine to_iret G E9 dL_practice_16 (by decide) (by decide) ?_
      unfold OPost
      rw [hsp]
      exact ⟨rfl, show (1 : Nat) < 4 by decide, fun z => absurd (show (1 : Nat) = 0 from z) (by decide), hC⟩
  · obtain ⟨v, g2, hsp, rfl, hC2⟩ := hr
    refine to_i2l G dL_practice_8 ?_
    refine to_last G hLA dL_practice_9 (fun f2 hf2 => ?_)
    refine tt_goto G 17 dL_practice_10 (by decide) ?_
    refine tt_iconst (v := nI 0) G dL_practice_17 (by decide) ?_
    refine to_iret G E9 dL_practice_18 (by decide) (by decide) ?_
    unfold OPost
    rw [hsp]
    exact ⟨rfl, show (0 : Nat) < 4 by decide, fun _ => hf2, hC2⟩
theorem w_board (hC : CI M g) (p0 p1 : Int32) : RetO E yL_board cL_board 5 [(0, 10, 13, 32)] 8 133 2 12 [.ref (E.ad (0, 0, 0)), .int p0, .int p1, .ref o] M o cL (OPost (spBoard g p0 p1)) := by
  refine RetO_of RL (by decide) rfl ([some (.ref (E.ad (0, 0, 0))), some (.int p0), some (.int p1), some (.ref o), none]) rfl (Nat.le_of_ble_eq_true rfl) (fun κ f hE G E9 => ?_)
  subst hE
  have hLA := E9.2.2.2.2.2.2.1
  refine tt_aload_n G dL_board_0 rfl ?_
  refine tt_iconst (v := nI 0) G dL_board_1 (by decide) ?_
  refine tt_aload_n G dL_board_2 rfl ?_
  refine tt_iload_n G dL_board_3 rfl ?_
  refine tt_iload_n G dL_board_4 rfl ?_
  refine to_call (rest := [.int (nI 0), .ref o]) (n := 2) G E9 (f_board (E := κ.E) hC p0 p1) (by decide +kernel) (by decide +kernel) (by decide +kernel) (by decide +kernel) (by decide +kernel) (by decide +kernel) (by decide) (by decide) (by decide) rfl (Nat.le_of_ble_eq_true rfl) dL_board_5 rfl (fun X M9 hx => ?_) (fun r M9 hr => ?_)
  · obtain ⟨rfl, ⟨rfl, hsp⟩⟩ := hx
    · refine ⟨13, ⟨[], ⟨0, 10, 13, 32⟩, [], "java/lang/IndexOutOfBoundsException", rfl, fun z hz => absurd hz List.not_mem_nil, rfl, by decide, by decide +kernel, E9.2.2.2.2.2.1.2.1.2.2.2.1, rfl⟩, fun q => ?_⟩
      refine tt_astore G dL_board_13 (by decide) rfl ?_
      refine tt_iconst (v := nI 1) G dL_board_15 (by decide) ?_
      refine to_iret G E9 dL_board_16 (by decide) (by decide) ?_
      unfold OPost
      rw [hsp]
      exact ⟨rfl, show (1 : Nat) < 4 by decide, fun z => absurd (show (1 : Nat) = 0 from z) (by decide), hC⟩
  · obtain ⟨v, g2, hsp, rfl, hC2⟩ := hr
    refine to_i2l G dL_board_8 ?_
    refine to_last G hLA dL_board_9 (fun f2 hf2 => ?_)
    refine tt_goto G 17 dL_board_10 (by decide) ?_
    refine tt_iconst (v := nI 0) G dL_board_17 (by decide) ?_
    refine to_iret G E9 dL_board_18 (by decide) (by decide) ?_
    unfold OPost
    rw [hsp]
    exact ⟨rfl, show (0 : Nat) < 4 by decide, fun _ => hf2, hC2⟩
theorem w_pass (hC : CI M g) (p0 : Int32) : RetO E yL_pass cL_pass 4 [(0, 9, 12, 13)] 8 162 1 6 [.ref (E.ad (0, 0, 0)), .int p0, .ref o] M o cL (OPost (spPass g p0)) := by
  refine RetO_of RL (by decide) rfl ([some (.ref (E.ad (0, 0, 0))), some (.int p0), some (.ref o), none]) rfl (Nat.le_of_ble_eq_true rfl) (fun κ f hE G E9 => ?_)
  subst hE
  have hLA := E9.2.2.2.2.2.2.1
  refine tt_aload_n G dL_pass_0 rfl ?_
  refine tt_iconst (v := nI 0) G dL_pass_1 (by decide) ?_
  refine tt_aload_n G dL_pass_2 rfl ?_
  refine tt_iload_n G dL_pass_3 rfl ?_
  refine to_call (rest := [.int (nI 0), .ref o]) (n := 1) G E9 (f_pass (E := κ.E) hC p0) (by decide +kernel) (by decide +kernel) (by decide +kernel) (by decide +kernel) (by decide +kernel) (by decide +kernel) (by decide) (by decide) (by decide) rfl (Nat.le_of_ble_eq_true rfl) dL_pass_4 rfl (fun X M9 hx => ?_) (fun r M9 hr => ?_)
  · obtain ⟨rfl, ⟨rfl, hsp⟩⟩ := hx
    · refine ⟨12, ⟨[], ⟨0, 9, 12, 13⟩, [], "java/lang/IllegalArgumentException", rfl, fun z hz => absurd hz List.not_mem_nil, rfl, by decide, by decide +kernel, E9.2.2.2.2.2.1.2.1.2.1, rfl⟩, fun q => ?_⟩
      refine tt_astore_n G dL_pass_12 (by decide) rfl ?_
      refine tt_iconst (v := nI 1) G dL_pass_13 (by decide) ?_
      refine to_iret G E9 dL_pass_14 (by decide) (by decide) ?_
      unfold OPost
      rw [hsp]
      exact ⟨rfl, show (1 : Nat) < 4 by decide, fun z => absurd (show (1 : Nat) = 0 from z) (by decide), hC⟩
  · obtain ⟨v, g2, hsp, rfl, hC2⟩ := hr
    refine to_i2l G dL_pass_7 ?_
    refine to_last G hLA dL_pass_8 (fun f2 hf2 => ?_)
    refine tt_goto G 15 dL_pass_9 (by decide) ?_
    refine tt_iconst (v := nI 0) G dL_pass_15 (by decide) ?_
    refine to_iret G E9 dL_pass_16 (by decide) (by decide) ?_
    unfold OPost
    rw [hsp]
    exact ⟨rfl, show (0 : Nat) < 4 by decide, fun _ => hf2, hC2⟩
theorem w_count (hC : CI M g) (p0 : Int32) : RetO E yL_count cL_count 4 [(0, 9, 12, 32)] 8 132 1 6 [.ref (E.ad (0, 0, 0)), .int p0, .ref o] M o cL (OPost (spCount g p0)) := by
  refine RetO_of RL (by decide) rfl ([some (.ref (E.ad (0, 0, 0))), some (.int p0), some (.ref o), none]) rfl (Nat.le_of_ble_eq_true rfl) (fun κ f hE G E9 => ?_)
  subst hE
  have hLA := E9.2.2.2.2.2.2.1
  refine tt_aload_n G dL_count_0 rfl ?_
  refine tt_iconst (v := nI 0) G dL_count_1 (by decide) ?_
  refine tt_aload_n G dL_count_2 rfl ?_
  refine tt_iload_n G dL_count_3 rfl ?_
  refine to_call (rest := [.int (nI 0), .ref o]) (n := 1) G E9 (f_count (E := κ.E) hC p0) (by decide +kernel) (by decide +kernel) (by decide +kernel) (by decide +kernel) (by decide +kernel) (by decide +kernel) (by decide) (by decide) (by decide) rfl (Nat.le_of_ble_eq_true rfl) dL_count_4 rfl (fun X M9 hx => ?_) (fun r M9 hr => ?_)
  · obtain ⟨rfl, ⟨rfl, hsp⟩⟩ := hx
    · refine ⟨12, ⟨[], ⟨0, 9, 12, 32⟩, [], "java/lang/IndexOutOfBoundsException", rfl, fun z hz => absurd hz List.not_mem_nil, rfl, by decide, by decide +kernel, E9.2.2.2.2.2.1.2.1.2.2.2.1, rfl⟩, fun q => ?_⟩
      refine tt_astore_n G dL_count_12 (by decide) rfl ?_
      refine tt_iconst (v := nI 1) G dL_count_13 (by decide) ?_
      refine to_iret G E9 dL_count_14 (by decide) (by decide) ?_
      unfold OPost
      rw [hsp]
      exact ⟨rfl, show (1 : Nat) < 4 by decide, fun z => absurd (show (1 : Nat) = 0 from z) (by decide), hC⟩
  · obtain ⟨v, g2, hsp, rfl, hC2⟩ := hr
    refine to_i2l G dL_count_7 ?_
    refine to_last G hLA dL_count_8 (fun f2 hf2 => ?_)
    refine tt_goto G 15 dL_count_9 (by decide) ?_
    refine tt_iconst (v := nI 0) G dL_count_15 (by decide) ?_
    refine to_iret G E9 dL_count_16 (by decide) (by decide) ?_
    unfold OPost
    rw [hsp]
    exact ⟨rfl, show (0 : Nat) < 4 by decide, fun _ => hf2, hC2⟩
theorem w_foresee (hC : CI M g) (p0 p1 p2 : Int32) : RetO E yL_foresee cL_foresee 6 [(0, 12, 15, 32), (0, 12, 19, 13)] 8 164 3 18 [.ref (E.ad (0, 0, 0)), .int p0, .int p1, .int p2, .ref o] M o cL (OPost (spForesee g p0 p1 p2)) := by
  refine RetO_of RL (by decide) rfl ([some (.ref (E.ad (0, 0, 0))), some (.int p0), some (.int p1), some (.int p2), some (.ref o), none]) rfl (Nat.le_of_ble_eq_true rfl) (fun κ f hE G E9 => ?_)
  subst hE
  have hLA := E9.2.2.2.2.2.2.1
  refine tt_aload G dL_foresee_0 rfl ?_
  refine tt_iconst (v := nI 0) G dL_foresee_2 (by decide) ?_
  refine tt_aload_n G dL_foresee_3 rfl ?_
  refine tt_iload_n G dL_foresee_4 rfl ?_
  refine tt_iload_n G dL_foresee_5 rfl ?_
  refine tt_iload_n G dL_foresee_6 rfl ?_
  refine to_call (rest := [.int (nI 0), .ref o]) (n := 3) G E9 (f_foresee (E := κ.E) hC p0 p1 p2) (by decide +kernel) (by decide +kernel) (by decide +kernel) (by decide +kernel) (by decide +kernel) (by decide +kernel) (by decide) (by decide) (by decide) rfl (Nat.le_of_ble_eq_true rfl) dL_foresee_7 rfl (fun X M9 hx => ?_) (fun r M9 hr => ?_)
  · obtain ⟨rfl, hx⟩ := hx
    rcases hx with ⟨rfl, hsp⟩ | ⟨rfl, hsp⟩
    · refine ⟨15, ⟨[], ⟨0, 12, 15, 32⟩, [⟨0, 12, 19, 13⟩], "java/lang/IndexOutOfBoundsException", rfl, fun z hz => absurd hz List.not_mem_nil, rfl, by decide, by decide +kernel, E9.2.2.2.2.2.1.2.1.2.2.2.1, rfl⟩, fun q => ?_⟩
      refine tt_astore G dL_foresee_15 (by decide) rfl ?_
      refine tt_iconst (v := nI 1) G dL_foresee_17 (by decide) ?_
      refine to_iret G E9 dL_foresee_18 (by decide) (by decide) ?_
      unfold OPost
      rw [hsp]
      exact ⟨rfl, show (1 : Nat) < 4 by decide, fun z => absurd (show (1 : Nat) = 0 from z) (by decide), hC⟩
    · refine ⟨19, ⟨[⟨0, 12, 15, 32⟩], ⟨0, 12, 19, 13⟩, [], "java/lang/IllegalArgumentException", rfl, fun z hz => by
        simp only [List.mem_cons, List.not_mem_nil, or_false] at hz
        subst hz
        exact ⟨by decide, _, (by decide +kernel : Cond.classLink RL 32 "java/lang/IndexOutOfBoundsException" ∈ ALL), E9.2.2.2.2.2.1.2.2.1.2.1⟩, rfl, by decide, by decide +kernel, E9.2.2.2.2.2.1.2.1.2.1, rfl⟩, fun q => ?_⟩
      refine tt_astore G dL_foresee_19 (by decide) rfl ?_
      refine tt_iconst (v := nI 2) G dL_foresee_21 (by decide) ?_
      refine to_iret G E9 dL_foresee_22 (by decide) (by decide) ?_
      unfold OPost
      rw [hsp]
      exact ⟨rfl, show (2 : Nat) < 4 by decide, fun z => absurd (show (2 : Nat) = 0 from z) (by decide), hC⟩
  · obtain ⟨v, g2, hsp, rfl, hC2⟩ := hr
    refine to_i2l G dL_foresee_10 ?_
    refine to_last G hLA dL_foresee_11 (fun f2 hf2 => ?_)
    refine tt_goto G 23 dL_foresee_12 (by decide) ?_
    refine tt_iconst (v := nI 0) G dL_foresee_23 (by decide) ?_
    refine to_iret G E9 dL_foresee_24 (by decide) (by decide) ?_
    unfold OPost
    rw [hsp]
    exact ⟨rfl, show (0 : Nat) < 4 by decide, fun _ => hf2, hC2⟩
theorem w_closes (hC : CI M g) (p0 : Int32) : RetO E yL_closes cL_closes 4 [(0, 9, 12, 32)] 8 140 1 6 [.ref (E.ad (0, 0, 0)), .int p0, .ref o] M o cL (OPost (spCloses g p0)) := by
  refine RetO_of RL (by decide) rfl ([some (.ref (E.ad (0, 0, 0))), some (.int p0), some (.ref o), none]) rfl (Nat.le_of_ble_eq_true rfl) (fun κ f hE G E9 => ?_)
  subst hE
  have hLA := E9.2.2.2.2.2.2.1
  refine tt_aload_n G dL_closes_0 rfl ?_
  refine tt_iconst (v := nI 0) G dL_closes_1 (by decide) ?_
  refine tt_aload_n G dL_closes_2 rfl ?_
  refine tt_iload_n G dL_closes_3 rfl ?_
  refine to_call (rest := [.int (nI 0), .ref o]) (n := 1) G E9 (f_closes (E := κ.E) hC p0) (by decide +kernel) (by decide +kernel) (by decide +kernel) (by decide +kernel) (by decide +kernel) (by decide +kernel) (by decide) (by decide) (by decide) rfl (Nat.le_of_ble_eq_true rfl) dL_closes_4 rfl (fun X M9 hx => ?_) (fun r M9 hr => ?_)
  · obtain ⟨rfl, ⟨rfl, hsp⟩⟩ := hx
    · refine ⟨12, ⟨[], ⟨0, 9, 12, 32⟩, [], "java/lang/IndexOutOfBoundsException", rfl, fun z hz => absurd hz List.not_mem_nil, rfl, by decide, by decide +kernel, E9.2.2.2.2.2.1.2.1.2.2.2.1, rfl⟩, fun q => ?_⟩
      refine tt_astore_n G dL_closes_12 (by decide) rfl ?_
      refine tt_iconst (v := nI 1) G dL_closes_13 (by decide) ?_
      refine to_iret G E9 dL_closes_14 (by decide) (by decide) ?_
      unfold OPost
      rw [hsp]
      exact ⟨rfl, show (1 : Nat) < 4 by decide, fun z => absurd (show (1 : Nat) = 0 from z) (by decide), hC⟩
  · obtain ⟨v, g2, hsp, rfl, hC2⟩ := hr
    refine to_i2l G dL_closes_7 ?_
    refine to_last G hLA dL_closes_8 (fun f2 hf2 => ?_)
    refine tt_goto G 15 dL_closes_9 (by decide) ?_
    refine tt_iconst (v := nI 0) G dL_closes_15 (by decide) ?_
    refine to_iret G E9 dL_closes_16 (by decide) (by decide) ?_
    unfold OPost
    rw [hsp]
    exact ⟨rfl, show (0 : Nat) < 4 by decide, fun _ => hf2, hC2⟩
theorem w_advise (hC : CI M g) (p0 p1 : Int32) : RetO E yL_advise cL_advise 5 [(0, 10, 13, 32), (0, 10, 17, 13)] 8 190 2 12 [.ref (E.ad (0, 0, 0)), .int p0, .int p1, .ref o] M o cL (OPost (spAdvise g p0 p1)) := by
  refine RetO_of RL (by decide) rfl ([some (.ref (E.ad (0, 0, 0))), some (.int p0), some (.int p1), some (.ref o), none]) rfl (Nat.le_of_ble_eq_true rfl) (fun κ f hE G E9 => ?_)
  subst hE
  have hLA := E9.2.2.2.2.2.2.1
  refine tt_aload_n G dL_advise_0 rfl ?_
  refine tt_iconst (v := nI 0) G dL_advise_1 (by decide) ?_
  refine tt_aload_n G dL_advise_2 rfl ?_
  refine tt_iload_n G dL_advise_3 rfl ?_
  refine tt_iload_n G dL_advise_4 rfl ?_
  refine to_call (rest := [.int (nI 0), .ref o]) (n := 2) G E9 (f_advise (E := κ.E) hC p0 p1) (by decide +kernel) (by decide +kernel) (by decide +kernel) (by decide +kernel) (by decide +kernel) (by decide +kernel) (by decide) (by decide) (by decide) rfl (Nat.le_of_ble_eq_true rfl) dL_advise_5 rfl (fun X M9 hx => ?_) (fun r M9 hr => ?_)
  · obtain ⟨rfl, hx⟩ := hx
    rcases hx with ⟨rfl, hsp⟩ | ⟨rfl, hsp⟩
    · refine ⟨13, ⟨[], ⟨0, 10, 13, 32⟩, [⟨0, 10, 17, 13⟩], "java/lang/IndexOutOfBoundsException", rfl, fun z hz => absurd hz List.not_mem_nil, rfl, by decide, by decide +kernel, E9.2.2.2.2.2.1.2.1.2.2.2.1, rfl⟩, fun q => ?_⟩
      refine tt_astore G dL_advise_13 (by decide) rfl ?_
      refine tt_iconst (v := nI 1) G dL_advise_15 (by decide) ?_
      refine to_iret G E9 dL_advise_16 (by decide) (by decide) ?_
      unfold OPost
      rw [hsp]
      exact ⟨rfl, show (1 : Nat) < 4 by decide, fun z => absurd (show (1 : Nat) = 0 from z) (by decide), hC⟩
    · refine ⟨17, ⟨[⟨0, 10, 13, 32⟩], ⟨0, 10, 17, 13⟩, [], "java/lang/IllegalArgumentException", rfl, fun z hz => by
        simp only [List.mem_cons, List.not_mem_nil, or_false] at hz
        subst hz
        exact ⟨by decide, _, (by decide +kernel : Cond.classLink RL 32 "java/lang/IndexOutOfBoundsException" ∈ ALL), E9.2.2.2.2.2.1.2.2.1.2.1⟩, rfl, by decide, by decide +kernel, E9.2.2.2.2.2.1.2.1.2.1, rfl⟩, fun q => ?_⟩
      refine tt_astore G dL_advise_17 (by decide) rfl ?_
      refine tt_iconst (v := nI 2) G dL_advise_19 (by decide) ?_
      refine to_iret G E9 dL_advise_20 (by decide) (by decide) ?_
      unfold OPost
      rw [hsp]
      exact ⟨rfl, show (2 : Nat) < 4 by decide, fun z => absurd (show (2 : Nat) = 0 from z) (by decide), hC⟩
  · obtain ⟨v, g2, hsp, rfl, hC2⟩ := hr
    refine to_i2l G dL_advise_8 ?_
    refine to_last G hLA dL_advise_9 (fun f2 hf2 => ?_)
    refine tt_goto G 21 dL_advise_10 (by decide) ?_
    refine tt_iconst (v := nI 0) G dL_advise_21 (by decide) ?_
    refine to_iret G E9 dL_advise_22 (by decide) (by decide) ?_
    unfold OPost
    rw [hsp]
    exact ⟨rfl, show (0 : Nat) < 4 by decide, fun _ => hf2, hC2⟩
end LM
