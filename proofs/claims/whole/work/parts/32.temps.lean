/-! ===== arrays that live for one call: worlds beside the pool; a walk seen anew from a later heap ===== -/
/-- the tables' words of rows of rows and of clones -/
def RQ (U : State) : Prop := va_Nw (.arrayOver (.array .int)) U ∧ va_Nw (.castable "[I" "java/lang/Cloneable") U
theorem AOA_moved {u U : State} (hvm : u.vm.Alike U.vm) (h : va_Nw (.arrayOver (.array .int)) u) : va_Nw (.arrayOver (.array .int)) U := by
  obtain ⟨comp, c, k, h1, h2, h3, h4, h5⟩ := arrayOverA_spec h
  obtain ⟨k', hk', he⟩ := hvm.2.2 _ _ h3
  have hi : (U.vm.classes.findIdx? fun (x : Class) => match x.kind with | .array component _ => component == comp | _ => false) = some c := by
    have hb : U.vm.bare = u.vm.bare := by first | exact hvm.bare_eq | exact hvm.bare_eq.symm
    refine (va_idx_bare U.vm comp).symm.trans ?_
    rw [hb]
    exact (va_idx_bare u.vm comp).trans h2
  have hkind : k'.kind = .array comp (.array .int) := by rw [he]; exact h4
  have f1 : U.vm.findClass (FieldType.array .int).toString = some comp := by rw [hvm.findClass]; exact h1
  have f2 : U.vm.findClass ("[" ++ (FieldType.array .int).toString) = some c := by rw [hvm.findClass]; exact h5
  unfold va_Nw Cond.before Cond.holds
  simp only [Cond.value]
  rw [f1, Option.bind_some]
  refine (congrArg (fun o : Option Nat => (o.bind (fun c => (U.vm.classes[c]?).map fun (k : Class) => match k.kind with | .array _ ty => decide (ty = FieldType.array .int) && decide (U.vm.findClass ("[" ++ (FieldType.array .int).toString) = some c) | _ => false) == some true)) hi).trans ?_
  simp [hk', hkind, f2]
theorem RQ.warm {s U : State} (hW : s.WarmedH U.vm) (h : RQ s) : RQ U := ⟨AOA_moved hW.alike h.1, va_Nw.warmC hW h.2⟩
theorem RQ.same {s U : State} (hv : U.vm = s.vm) (h : RQ s) : RQ U := h.warm (by rw [hv]; exact State.WarmedH.refl s)
/-- the class of rows of int rows -/
def AA (E : EX) (cA : ClassId) (U : State) : Prop := ∃ kA : Class, U.vm.classes[cA]? = some kA ∧ kA.kind = .array (E.cy 0) (.array .int)
theorem AA.moved {E : EX} {cA : ClassId} {u U : State} (hvm : u.vm.Alike U.vm) (h : AA E cA u) : AA E cA U := by
  obtain ⟨k, h1, h2⟩ := h
  obtain ⟨k', hk', he⟩ := hvm.2.2 _ _ h1
  exact ⟨k', hk', by rw [he]; exact h2⟩
theorem AA.arr {E : EX} {cA : ClassId} {U : State} (h : AA E cA U) : ArrOfT U cA (.array .int) := by
  obtain ⟨k, h1, h2⟩ := h
  exact fun N z => ⟨(fun k h => by cases h), k, h1, _, h2⟩
/-- a contract whose method makes at most mc objects and arrays of ms places -/
def RetK (E : EX) (ids : List Pid) (y : MethodName) (cc : ByteArray) (nL : Nat) (rt : Option FieldType) (fr lo mc ms : Nat) (args : List Value) (M : Mem) (P : Option Value → Mem → Prop) : Prop :=
  ∀ sz : Nat, Met E.l y (Cond.code y cc nL rt :: ALL) { frames := fr, cells := mc, slots := ms, locals := lo } (va_Pc args (fun U => U.heap.size = sz ∧ Wd E ids M U ∧ RQ U)) (fun _ st oc t => (∃ (v : Option Value) (M' : Mem), oc = .returned v ∧ P v M' ∧ Wd E ids M' t) ∧ va_F (Rg E ids sz) st t) mc ms (Rg E ids sz)
def EndsK (κ : KX) (ids : List Pid) (P : Option Value → Mem → Prop) (z mc ms : Nat) : Prop := κ.Q = MQ κ.below (fun _ st oc t => (∃ (v : Option Value) (M' : Mem), oc = .returned v ∧ P v M' ∧ Wd κ.E ids M' t) ∧ va_F (Rg κ.E ids z) st t) κ.args κ.s mc ms (Rg κ.E ids z) ∧ κ.n = (0, 0) ∧ mc ≤ κ.R.cells ∧ ms ≤ κ.R.slots ∧ RQ κ.s ∧ z ≤ κ.s.heap.size
/-- a walk over the pool and the rows tw beside it, c objects of d places made by now -/
def VT (κ : KX) (ids : List Pid) (A9 : Nat → Prop) (tw : va_W) (c d : Nat) (nL : Nat) (M : Mem) (l : LSt) (st : List Value) (pc : Nat) : Prop :=
  ∀ (H : Heap) (locs : List Loc) (ls : Array Slot), va_P κ.E.D vwCl (PW ids κ.E.ad (κ.E.cel M) ++ tw) H → va_D A9 (PW ids κ.E.ad (κ.E.cel M) ++ tw) → va_S A9 κ.s.heap H locs → LV ls nL l → W κ.p κ.E.l κ.e κ.R κ.s κ.m κ.args κ.below κ.meth κ.c H locs c d κ.Q (F0 κ.m pc ls st)
theorem RetK_of_V {E : EX} {ids : List Pid} {y : MethodName} {cc : ByteArray} {nL : Nat} {rt : Option FieldType} {fr lo mc ms : Nat} {args : List Value} {M : Mem} {P : Option Value → Mem → Prop} (own : String) (hy : plainName y.cls = true) (ho : y.cls = own) (hnd : ids.Nodup) (l0 : LSt) (hl0 : entL args nL = l0) (hlen : (entA args).length ≤ nL)
    (body : ∀ κ : KX, κ.E = E → Good κ ids cc nL own fr lo → EndsK κ ids P κ.s.heap.size mc ms → κ.meth.sig.returnType = rt → V κ ids nL M l0 [] 0) : RetK E ids y cc nL rt fr lo mc ms args M P := by
  intro sz
  refine Met.ofW (cc := cc) (maxL := nL) (ret := rt) hy rfl ?_
  intro p e s m args9 below meth c s₁ B hml hv
  obtain ⟨rfl, hsz, ⟨hP, hK, hI⟩, hRQ⟩ := hv
  have hts := atoms_spec (ws := Cond.code y cc nL rt :: ALL) B.pre
  have hown : s.vm.findClass own = some m.cls := by rw [← ho]; exact findClass_of_methodNamed B.named
  subst hsz
  subst hl0
  have hlg : (lg_sl args).length ≤ nL := by rw [← entA_len]; exact hlen
  have hl := lv_entry args hlg
  rw [lg_entry_eq]
  generalize hls9 : (lg_sl args ++ List.replicate (nL - (lg_sl args).length) Slot.unset).toArray = ls at hl ⊢
  have hLV : LV ls nL (entL args nL) := by
    refine ⟨_, hl, ?_, fun i v hi => ?_⟩
    · simp only [entL, List.length_append, List.length_replicate]
      omega
    · simp only [entL] at hi
      by_cases hi9 : i < (entA args).length
      · rw [List.getElem?_append_left hi9] at hi
        have := entA_mem args 0 i v hi
        simpa using this
      · rw [List.getElem?_append_right (by omega)] at hi
        have := List.eq_of_mem_replicate (List.mem_of_getElem? hi)
        cases this
  have hb := body ((p, E, e, (headSpec (Cond.code y cc nL rt :: ALL) { frames := fr, cells := mc, slots := ms, locals := lo }).room, s), (m, args.toArray, below, meth, c), MQ below (fun _ st oc t => (∃ (v : Option Value) (M' : Mem), oc = .returned v ∧ P v M' ∧ Wd E ids M' t) ∧ va_F (Rg E ids s.heap.size) st t) args.toArray s mc ms (Rg E ids s.heap.size), Rg E ids s.heap.size, (0, 0)) rfl
    ⟨B.exec, B.bytes, hml, hown, fun w hw => hts w (List.mem_cons_of_mem _ hw), hK, hI, hnd, rfl, B.notSynchronized, Nat.le_refl _, Nat.le_refl _, Nat.zero_le _, Nat.zero_le _⟩ ⟨rfl, rfl, Nat.le_refl _, Nat.le_refl _, hRQ, Nat.le_refl _⟩ B.returns
  exact hb s.heap [] ls hP va_S.rf hLV
theorem RetK.of {E : EX} {ids : List Pid} {y : MethodName} {cc : ByteArray} {nL : Nat} {rt : Option FieldType} {fr lo : Nat} {args : List Value} {M : Mem} {P : Option Value → Mem → Prop} (h : Ret E ids y cc nL rt fr lo args M P) : RetK E ids y cc nL rt fr lo 0 0 args M P := by
  intro sz p e ha hc hk s m args below hf h1 h2 h3
  exact h sz p e ha hc hk s m args below hf h1 ⟨h2.1, h2.2.1, h2.2.2.1⟩ h3
section TM
variable {κ : KX} {ids : List Pid} {cc : ByteArray} {nL fr lo : Nat} {own : String} {M : Mem} {l : LSt} {st rest : List Value} {pc c d mc ms k n z : Nat} {A9 : Nat → Prop} {tw : va_W} {P : Option Value → Mem → Prop}
theorem V.rebase (G : Good κ ids cc nL own fr lo) (E9 : EndsK κ ids P z mc ms) (hc : c + k ≤ mc) (hs : d + n ≤ ms) {H : Heap} {locs : List Loc} {ls : Array Slot} (hP : va_P κ.E.D vwCl (PW ids κ.E.ad (κ.E.cel M)) H) (hS : va_S (Rg κ.E ids z) κ.s.heap H locs) (hl : LV ls nL l)
    (body : ∀ κ2 : KX, κ2.E = κ.E → κ2.meth = κ.meth → Good κ2 ids cc nL own fr lo → EndsK κ2 ids P z k n → κ2.s.heap = H → κ2.s.vm = κ.s.vm → V κ2 ids nL M l st pc) :
    W κ.p κ.E.l κ.e κ.R κ.s κ.m κ.args κ.below κ.meth κ.c H locs c d κ.Q (F0 κ.m pc ls st) := by
  obtain ⟨hQ, hn0, hRc, hRs, hRQ, hz9⟩ := E9
  intro T hT X
  have Y := vx_rebase X (R' := { frames := κ.R.frames, locals := κ.R.locals, cells := k, slots := n }) (Nat.le_refl _) (Nat.le_refl _) (by show c + k ≤ _; omega) (by show d + n ≤ _; omega)
  obtain ⟨s2, hA⟩ : ∃ z, z = (T.setVm κ.s.vm).setFrames (.invoking κ.m κ.args :: κ.below) := ⟨_, rfl⟩
  rw [← hA] at Y
  have hvm : s2.vm = κ.s.vm := by rw [hA]; rfl
  have hhp : s2.heap = H := by rw [hA]; exact hT
  have hW0 : κ.s.WarmedH s2.vm := by rw [hvm]; exact State.WarmedH.refl κ.s
  have hb := body ((κ.p, κ.E, κ.e, { frames := κ.R.frames, locals := κ.R.locals, cells := k, slots := n }, s2), (κ.m, κ.args, κ.below, κ.meth, κ.c), MQ κ.below (fun _ st oc t => (∃ (v : Option Value) (M' : Mem), oc = .returned v ∧ P v M' ∧ Wd κ.E ids M' t) ∧ va_F (Rg κ.E ids z) st t) κ.args s2 k n (Rg κ.E ids z), Rg κ.E ids s2.heap.size, (0, 0)) rfl rfl
    ⟨G.hx, G.hb, G.hml, by show s2.vm.findClass own = _; rw [hvm]; exact G.hown, fun w hw => ALL_warm G.hw w hw _ _ hW0, va_K.moved hW0.alike G.hK, G.hinj, G.hnd, rfl, G.hlk, G.hfr, G.hlo, Nat.zero_le _, Nat.zero_le _⟩ ⟨rfl, rfl, Nat.le_refl _, Nat.le_refl _, hRQ.warm hW0, Nat.le_trans hz9 (by show κ.s.heap.size ≤ s2.heap.size; rw [hhp]; exact hS.1)⟩ hhp hvm
  obtain ⟨t, a1, o9, b1, b2, ⟨b3, b4⟩, L, ⟨b5, b6, b7⟩, b8⟩ := hb H [] ls hP (by show va_S _ s2.heap H []; rw [hhp]; exact va_S.rf) hl T hT Y
  refine ⟨t, a1, ?_⟩
  rw [hQ]
  have hsz : κ.s.heap.size ≤ s2.heap.size := by rw [hhp]; exact hS.1
  refine ⟨o9, b1, b2, ⟨b3, Nat.le_trans hsz b4.1, fun q hq hno => ?_⟩, locs ++ L, ⟨b5, State.WarmedH.trans hW0 b6, ?_⟩, fun q hq => ?_⟩
  · rw [b4.2 q (Nat.lt_of_lt_of_le hq hsz) hno, hhp]
    exact hS.2.1 q hq hno
  · subst hA
    obtain ⟨e1, e2⟩ := b7
    rw [State.setFrames_setFrames] at e1
    have h2 : (T.setVm κ.s.vm).sameButNew ({ t with vm := κ.s.vm } : State) L k n := ⟨e1, e2⟩
    exact (X.same.trans h2).mono hc hs
  · rcases List.mem_append.mp hq with h | h
    · exact hS.2.2 q h
    · exact b8 q h
theorem va_S.wide {A B : Nat → Prop} {H0 H : Heap} {locs : List Loc} (h : va_S A H0 H locs) (hAB : ∀ q, A q → B q) : va_S B H0 H locs := ⟨h.1, fun q h1 h2 => h.2.1 q h1 (fun z => h2 (hAB q z)), fun q hq => hAB _ (h.2.2 q hq)⟩
theorem Good.wide (G : Good κ ids cc nL own fr lo) (hz : z ≤ κ.s.heap.size) : ∀ q, κ.A q → Rg κ.E ids z q := fun q h => by
  rw [G.hA] at h
  exact Rg.mono hz q h
theorem Good.hA9 (G : Good κ ids cc nL own fr lo) : ∀ q, κ.s.heap.size ≤ q → κ.A q := fun q hq => by rw [G.hA]; exact Or.inr hq
theorem sk_iret (G : Good κ ids cc nL own fr lo) (E9 : EndsK κ ids P z mc ms) (hr : κ.meth.sig.returnType = some .int) {v : Int32} (d : decode cc pc = .ok (.ireturn, 1)) (hp : P (some (.int v)) M) : V κ ids nL M l [.int v] pc := fun H locs ls hP hS hl => by
  obtain ⟨hQ, hn, h2, h3, -, hz9⟩ := E9
  show W _ _ _ _ _ _ _ _ _ _ _ _ κ.n.1 κ.n.2 κ.Q _
  rw [hQ, hn]
  have hS' := hS.wide (G.wide hz9)
  refine W.widen (k := mc) (n := ms) (Nat.zero_le _) (Nat.zero_le _) ?_
  exact W.iret (v := v) G.hx G.hb hr (fun t ht hW => ⟨⟨some (.int v), M, rfl, hp, by rw [ht]; exact hP, va_K.moved hW.alike G.hK, G.hinj⟩, hS'.F ht⟩) hS'.2.2 d G.hlk
theorem PW_D2 {E : EX} {ids : List Pid} (c : Pid → va_E) (hn : ids.Nodup) (hi : Inj E ids) (sz : Nat) : va_D (Rg E ids sz) (PW ids E.ad c ++ []) := by rw [List.append_nil]; exact PW_D c hn hi sz
/-- from the pool to the pool and rows beside it -/
theorem V.to (G : Good κ ids cc nL own fr lo) (h : VT κ ids κ.A [] κ.n.1 κ.n.2 nL M l st pc) : V κ ids nL M l st pc := fun H locs ls hP hS hl => h H locs ls (by rw [List.append_nil]; exact hP) (by rw [G.hA]; exact PW_D2 _ G.hnd G.hinj _) hS hl
/-- and back: seen anew from this heap, what lies beside the pool stays -/
theorem VT.out (G : Good κ ids cc nL own fr lo) (E9 : EndsK κ ids P z mc ms) (hA9 : ∀ q, A9 q → Rg κ.E ids z q) (hc : c + k ≤ mc) (hs : d + n ≤ ms)
    (body : ∀ κ2 : KX, κ2.E = κ.E → κ2.meth = κ.meth → Good κ2 ids cc nL own fr lo → EndsK κ2 ids P z k n → κ2.s.vm = κ.s.vm → va_P κ.E.D vwCl (PW ids κ.E.ad (κ.E.cel M) ++ tw) κ2.s.heap → va_D A9 (PW ids κ.E.ad (κ.E.cel M) ++ tw) → V κ2 ids nL M l st pc) : VT κ ids A9 tw c d nL M l st pc := fun H locs ls hP hD hS hl => by
  have hP0 : va_P κ.E.D vwCl (PW ids κ.E.ad (κ.E.cel M)) H := fun i q hq => hP i q (by
    rw [List.getElem?_append_left (List.getElem?_eq_some_iff.mp hq).1]; exact hq)
  exact V.rebase G E9 hc hs hP0 (hS.wide hA9) hl (fun κ2 h1 h2 h3 h4 h5 h6 => body κ2 h1 h2 h3 h4 h6 (by rw [h5]; exact hP) hD)
theorem PWt_get {ids : List Pid} (ad : Pid → Nat) (c : Pid → va_E) (tw : va_W) (hn : ids.Nodup) {i : Pid} (hi : i ∈ ids) : ∃ k : Nat, (PW ids ad c ++ tw)[k]? = some (ad i, c i) ∧ ∀ e c', c' i = e → (∀ j, j ≠ i → c' j = c j) → (PW ids ad c ++ tw).set k (ad i, e) = PW ids ad c' ++ tw := by
  obtain ⟨k, h1, h2⟩ := PW_get ad c hn hi
  have hl := (List.getElem?_eq_some_iff.mp h1).1
  refine ⟨k, by rw [List.getElem?_append_left hl]; exact h1, fun e c' h3 h4 => ?_⟩
  rw [List.set_append_left _ _ hl, h2 e c' h3 h4]
theorem tw_get {ids : List Pid} (ad : Pid → Nat) (c : Pid → va_E) {tw : va_W} {j : Nat} {x : Nat × va_E} (h : tw[j]? = some x) : (PW ids ad c ++ tw)[(PW ids ad c).length + j]? = some x := by
  rw [List.getElem?_append_right (by omega), Nat.add_sub_cancel_left]; exact h
theorem tw_set {ids : List Pid} (ad : Pid → Nat) (c : Pid → va_E) (tw : va_W) (j : Nat) (x : Nat × va_E) : (PW ids ad c ++ tw).set ((PW ids ad c).length + j) x = PW ids ad c ++ tw.set j x := by
  rw [List.set_append_right _ _ (by omega), Nat.add_sub_cancel_left]
theorem tt_aload_n (G : Good κ ids cc nL own fr lo) {k : Fin 4} {x : Nat} (dg : decode cc pc = .ok (.aload_n k, 1)) (hi : l[(k : Nat)]? = some (some (.ref x))) (h : VT κ ids A9 tw c d nL M l (.ref x :: st) (pc + 1)) : VT κ ids A9 tw c d nL M l st pc := fun H locs ls hP hD hS hl => lv_aload_n G.hx G.hb dg rfl (hl.rd hi) (h H locs ls hP hD hS hl)
theorem tt_aload (G : Good κ ids cc nL own fr lo) {i : Nat} {x : Nat} (dg : decode cc pc = .ok (.aload i, 2)) (hi : l[i]? = some (some (.ref x))) (h : VT κ ids A9 tw c d nL M l (.ref x :: st) (pc + 2)) : VT κ ids A9 tw c d nL M l st pc := fun H locs ls hP hD hS hl => lv_aload G.hx G.hb dg (hl.rd hi) (h H locs ls hP hD hS hl)
theorem tt_iload_n (G : Good κ ids cc nL own fr lo) {k : Fin 4} {x : Int32} (dg : decode cc pc = .ok (.iload_n k, 1)) (hi : l[(k : Nat)]? = some (some (.int x))) (h : VT κ ids A9 tw c d nL M l (.int x :: st) (pc + 1)) : VT κ ids A9 tw c d nL M l st pc := fun H locs ls hP hD hS hl => lv_iload_n G.hx G.hb dg rfl (hl.rd hi) (h H locs ls hP hD hS hl)
theorem tt_iload (G : Good κ ids cc nL own fr lo) {i : Nat} {x : Int32} (dg : decode cc pc = .ok (.iload i, 2)) (hi : l[i]? = some (some (.int x))) (h : VT κ ids A9 tw c d nL M l (.int x :: st) (pc + 2)) : VT κ ids A9 tw c d nL M l st pc := fun H locs ls hP hD hS hl => lv_iload G.hx G.hb dg (hl.rd hi) (h H locs ls hP hD hS hl)
theorem tt_iconst (G : Good κ ids cc nL own fr lo) {n : Int} {v : Int32} (dg : decode cc pc = .ok (.iconst n, 1)) (hv : Int32.ofInt n = v) (h : VT κ ids A9 tw c d nL M l (.int v :: st) (pc + 1)) : VT κ ids A9 tw c d nL M l st pc := fun H locs ls hP hD hS hl => lv_iconst G.hx G.hb dg hv (h H locs ls hP hD hS hl)
theorem tt_bipush (G : Good κ ids cc nL own fr lo) {n : Int} {v : Int32} (dg : decode cc pc = .ok (.bipush n, 2)) (hv : (Int8.ofInt n).toInt32 = v) (h : VT κ ids A9 tw c d nL M l (.int v :: st) (pc + 2)) : VT κ ids A9 tw c d nL M l st pc := fun H locs ls hP hD hS hl => lv_bipush G.hx G.hb dg hv (h H locs ls hP hD hS hl)
theorem tt_dup (G : Good κ ids cc nL own fr lo) {a : Value} (dg : decode cc pc = .ok (.dup, 1)) (hv : a.category = 1) (h : VT κ ids A9 tw c d nL M l (a :: a :: st) (pc + 1)) : VT κ ids A9 tw c d nL M l (a :: st) pc := fun H locs ls hP hD hS hl => lv_dup G.hx G.hb dg hv (h H locs ls hP hD hS hl)
theorem tt_imul (G : Good κ ids cc nL own fr lo) {x y : Int32} (dg : decode cc pc = .ok (.imul, 1)) (h : VT κ ids A9 tw c d nL M l (.int (x * y) :: st) (pc + 1)) : VT κ ids A9 tw c d nL M l (.int y :: .int x :: st) pc := fun H locs ls hP hD hS hl => lv_imul G.hx G.hb dg (h H locs ls hP hD hS hl)
theorem tt_goto (G : Good κ ids cc nL own fr lo) {off : Int} (tgt : Nat) (dg : decode cc pc = .ok (.goto off, 3)) (ht : (pc : Int) + off = (tgt : Int)) (h : VT κ ids A9 tw c d nL M l st tgt) : VT κ ids A9 tw c d nL M l st pc := fun H locs ls hP hD hS hl => lv_goto G.hx G.hb dg ht (h H locs ls hP hD hS hl)
theorem tt_icmp_ge (G : Good κ ids cc nL own fr lo) {x y : Int32} {off : Int} (tgt : Nat) (dg : decode cc pc = .ok (.if_icmp .ge off, 3)) (ht : (pc : Int) + off = (tgt : Int)) (kt : y ≤ x → VT κ ids A9 tw c d nL M l st tgt) (kf : ¬ y ≤ x → VT κ ids A9 tw c d nL M l st (pc + 3)) : VT κ ids A9 tw c d nL M l (.int y :: .int x :: st) pc := fun H locs ls hP hD hS hl => lv_icmp_ge G.hx G.hb dg ht (fun q => kt q H locs ls hP hD hS hl) (fun q => kf q H locs ls hP hD hS hl)
theorem tt_astore_n (G : Good κ ids cc nL own fr lo) {k : Fin 4} {x : Nat} (dg : decode cc pc = .ok (.astore_n k, 1)) (hn : (k : Nat) < nL) (hk : okSt l (k : Nat) = true) (h : VT κ ids A9 tw c d nL M (l.set (k : Nat) (some (.ref x))) st (pc + 1)) : VT κ ids A9 tw c d nL M l (.ref x :: st) pc := fun H locs ls hP hD hS ⟨lv, h1, h2, h3⟩ => lv_astore_n G.hx G.hb dg rfl h1 hn rfl (fun ls' h4 => h H locs ls' hP hD hS (LV.wr h2 h3 hk h4))
theorem tt_astore (G : Good κ ids cc nL own fr lo) {i : Nat} {x : Nat} (dg : decode cc pc = .ok (.astore i, 2)) (hn : i < nL) (hk : okSt l i = true) (h : VT κ ids A9 tw c d nL M (l.set i (some (.ref x))) st (pc + 2)) : VT κ ids A9 tw c d nL M l (.ref x :: st) pc := fun H locs ls hP hD hS ⟨lv, h1, h2, h3⟩ => lv_astore G.hx G.hb dg h1 hn rfl (fun ls' h4 => h H locs ls' hP hD hS (LV.wr h2 h3 hk h4))
theorem tt_istore_n (G : Good κ ids cc nL own fr lo) {k : Fin 4} {x : Int32} (dg : decode cc pc = .ok (.istore_n k, 1)) (hn : (k : Nat) < nL) (hk : okSt l (k : Nat) = true) (h : VT κ ids A9 tw c d nL M (l.set (k : Nat) (some (.int x))) st (pc + 1)) : VT κ ids A9 tw c d nL M l (.int x :: st) pc := fun H locs ls hP hD hS ⟨lv, h1, h2, h3⟩ => lv_istore_n G.hx G.hb dg rfl h1 hn rfl (fun ls' h4 => h H locs ls' hP hD hS (LV.wr h2 h3 hk h4))
theorem tt_iinc (G : Good κ ids cc nL own fr lo) {i : Nat} {n : Int} {x v : Int32} (dg : decode cc pc = .ok (.iinc i n, 3)) (hi : l[i]? = some (some (.int x))) (hn : i < nL) (hk : okSt l i = true) (hv : x + Int32.ofInt n = v) (h : VT κ ids A9 tw c d nL M (l.set i (some (.int v))) st (pc + 3)) : VT κ ids A9 tw c d nL M l st pc := fun H locs ls hP hD hS ⟨lv, h1, h2, h3⟩ => by
  obtain ⟨k, hk9⟩ := List.getElem?_of_mem (h3 i _ hi)
  exact lv_iinc G.hx G.hb dg h1 hk9 hv hn rfl (fun ls' h4 => h H locs ls' hP hD hS (LV.wr h2 h3 hk h4))
theorem tt_get (G : Good κ ids cc nL own fr lo) {i : Pid} {index ci N k : Nat} {C : String} {T : u_T} {fs : List Value} {v : Value} (hin : ∀ w ∈ u_ws C T N, w ∈ ALL) (hi : i ∈ ids) (he : κ.E.cel M i = .inr (ci, fs)) (hc : vwCl[ci]? = some (C, T, N)) (hk : k < N) (hlink : Cond.fieldLink own index (T k).1 (T k).2.1 (T k).2.2.1 ∈ ALL) (hv : fs[k]? = some v) (dg : decode cc pc = .ok (.getfield index, 3)) (h : VT κ ids A9 tw c d nL M l (v :: st) (pc + 3)) : VT κ ids A9 tw c d nL M l (.ref (κ.E.ad i) :: st) pc := fun H locs ls hP hD hS hl => by
  obtain ⟨q0, h1, -⟩ := PWt_get κ.E.ad (κ.E.cel M) tw G.hnd hi
  exact va_get G.hx G.hb G.hw hin G.hown G.hK hP q0 (h1.trans (by rw [he])) hc k hk (G.hw _ hlink) (fun x h => h) hv dg (h H locs ls hP hD hS hl)
theorem tt_iast (G : Good κ ids cc nL own fr lo) {a j n k : Nat} {f : Nat → Int32} {x v : Int32} (hj : tw[j]? = some (a, .inl (κ.E.cy 0, pInts n f))) (hx : x = nI k) (hk : k < n) (hn : n < 2 ^ 31) (dg : decode cc pc = .ok (.iastore, 1)) (h : VT κ ids A9 (tw.set j (a, .inl (κ.E.cy 0, pInts n (upd f k v)))) c d nL M l st (pc + 1)) : VT κ ids A9 tw c d nL M l (.int v :: .int x :: .ref a :: st) pc := fun H locs ls hP hD hS hl => by
  subst hx
  refine va_iast (f := f) G.hx G.hb G.hK hP hD hS _ 0 (tw_get κ.E.ad (κ.E.cel M) hj) rfl (vp_in_nI hk hn) dg (fun H1 locs1 hP1 hD1 hS1 => ?_)
  rw [nI_clamp (by omega), tw_set] at hP1 hD1
  exact h H1 locs1 ls hP1 hD1 hS1 hl
theorem tt_newi (G : Good κ ids cc nL own fr lo) (hA9 : ∀ q, κ.s.heap.size ≤ q → A9 q) {x : Int32} {k : Nat} (hx : x = nI k) (hk : k < 2 ^ 20) (harr : Cond.arrayClass .int ∈ ALL) (hc : c + 1 ≤ κ.R.cells) (hd : d + k ≤ κ.R.slots) (dg : decode cc pc = .ok (.newarray .int, 2)) (h : ∀ q : Nat, VT κ ids A9 (tw ++ [(q, .inl (κ.E.cy 0, pInts k (fun _ => 0)))]) (c + 1) (d + k) nL M l (.ref q :: st) (pc + 2)) : VT κ ids A9 tw c d nL M l (.int x :: st) pc := fun H locs ls hP hD hS hl => by
  subst hx
  refine va_newa (atype := .int) (ty := .int) (a0 := pInts k (fun _ => 0)) G.hx G.hb (G.hw _ harr) rfl G.hK hP hD hS hA9 (fun cA => rfl) (nI_pos (by omega)) (nI_clamp (by omega)) (by show k * 4 ≤ _; omega) hc hd dg (fun q cA H1 hK1 hP1 hD1 hS1 => ?_)
  have e1 := (hK1.2 (tysF κ.E.cy).length (cA, .int) (by rw [List.getElem?_append_right (Nat.le_refl _), Nat.sub_self]; rfl)).2
  have e2 := (G.hK.2 0 (κ.E.cy 0, .int) rfl).2
  have e3 : cA = κ.E.cy 0 := Option.some.inj (e1.symm.trans e2)
  subst e3
  rw [List.append_assoc] at hP1 hD1
  exact h q H1 locs ls hP1 hD1 hS1 hl
theorem tt_copyP (G : Good κ ids cc nL own fr lo) {i : Pid} {index a0 j n0 n1 s0 d0 m0 : Nat} {f g : Nat → Int32} {M' : Mem} {xs xd xn : Int32} (hlink : Cond.methodLink own index arraycopyName ∈ ALL) (hnat : Cond.native arraycopyName ∈ ALL) (hstat : Cond.static arraycopyName ∈ ALL) (hini : Cond.initialized "java/lang/System" ∈ ALL) (hj : tw[j]? = some (a0, .inl (κ.E.cy 0, pInts n0 f))) (hi : i ∈ ids) (he : κ.E.cel M i = .inl (κ.E.cy 0, pInts n1 g)) (hxs : xs = nI s0) (hxd : xd = nI d0) (hxn : xn = nI m0) (h4 : s0 + m0 ≤ n0) (h5 : d0 + m0 ≤ n1) (hn0 : n0 < 2 ^ 30) (hn1 : n1 < 2 ^ 30) (hM : κ.E.cel M' i = .inl (κ.E.cy 0, pInts n1 (va_cpy f g s0 d0 m0))) (hM2 : ∀ j, j ≠ i → κ.E.cel M' j = κ.E.cel M j) (hf : 1 ≤ fr) (hlo : (st.map fun v => v.category).sum + 40 ≤ lo) (dg : decode cc pc = .ok (.invokestatic index, 3)) (h : VT κ ids A9 tw c d nL M' l st (pc + 3)) : VT κ ids A9 tw c d nL M l (.int xn :: .int xd :: .ref (κ.E.ad i) :: .int xs :: .ref a0 :: st) pc := fun H locs ls hP hD hS hl => by
  obtain ⟨q1, h1, h2⟩ := PWt_get κ.E.ad (κ.E.cel M) tw G.hnd hi
  subst hxs; subst hxd; subst hxn
  have hls : ls.size = nL := by obtain ⟨lv, h1, -⟩ := hl; exact h1.1
  refine va_copyi (f := f) (g := g) (ty := .int) G.hx G.hb (by rw [G.hml, hls]) G.hown (G.hw _ hlink) (G.hw _ hnat) (G.hw _ hstat) (G.hw _ hini) G.hK hP hD hS _ q1 0 0 (tw_get κ.E.ad (κ.E.cel M) hj) (h1.trans (by rw [he])) rfl rfl rfl (nI_pos (by omega)) (nI_pos (by omega)) (nI_pos (by omega)) (by rw [nI_clamp (by omega), nI_clamp (by omega)]; exact h4) (by rw [nI_clamp (by omega), nI_clamp (by omega)]; exact h5) (fun _ _ => rfl) (Nat.le_trans hf G.hfr) (Nat.le_trans (Nat.add_le_add_left (show nativeFrameWords "java/lang/System" "arraycopy" 5 + 11 ≤ 40 by decide +kernel) _) (Nat.le_trans hlo G.hlo)) dg (fun H1 locs1 hP1 hD1 hS1 => ?_)
  rw [nI_clamp (by omega), nI_clamp (by omega), nI_clamp (by omega), h2 _ (κ.E.cel M') hM hM2] at hP1 hD1
  exact h H1 locs1 ls hP1 hD1 hS1 hl
end TM
