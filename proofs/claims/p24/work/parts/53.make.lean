/-! ===== the constructors of the class, over the empty world ===== -/
def VT (κ : KX) (ids : List Pid) (A9 : Nat → Prop) (tw : va_W) (c d : Nat) (nL : Nat) (M : Mem) (l : LSt) (st : List Value) (pc : Nat) : Prop :=
  ∀ (H : Heap) (locs : List Loc) (ls : Array Slot), va_P κ.E.D vwCl (PW ids κ.E.ad (κ.E.cel M) ++ tw) H → va_D A9 (PW ids κ.E.ad (κ.E.cel M) ++ tw) → va_S A9 κ.s.heap H locs → LV ls nL l → W κ.p κ.E.l κ.e κ.R κ.s κ.m κ.args κ.below κ.meth κ.c H locs c d κ.Q (F0 κ.m pc ls st)
section TM
variable {κ : KX} {ids : List Pid} {cc : ByteArray} {nL fr lo : Nat} {own : String} {M : Mem} {l : LSt} {st rest : List Value} {pc c d mc ms k n z : Nat} {A9 : Nat → Prop} {tw : va_W} {P : Option Value → Mem → Prop}
theorem va_S.wide {A B : Nat → Prop} {H0 H : Heap} {locs : List Loc} (h : va_S A H0 H locs) (hAB : ∀ q, A q → B q) : va_S B H0 H locs := ⟨h.1, fun q h1 h2 => h.2.1 q h1 (fun z => h2 (hAB q z)), fun q hq => hAB _ (h.2.2 q hq)⟩
theorem Good.hA9 (G : Good κ ids cc nL own fr lo) : ∀ q, κ.s.heap.size ≤ q → κ.A q := fun q hq => by rw [G.hA]; exact Or.inr hq
theorem PWt_get {ids : List Pid} (ad : Pid → Nat) (c : Pid → va_E) (tw : va_W) (hn : ids.Nodup) {i : Pid} (hi : i ∈ ids) : ∃ k : Nat, (PW ids ad c ++ tw)[k]? = some (ad i, c i) ∧ ∀ e c', c' i = e → (∀ j, j ≠ i → c' j = c j) → (PW ids ad c ++ tw).set k (ad i, e) = PW ids ad c' ++ tw := by
  obtain ⟨k, h1, h2⟩ := PW_get ad c hn hi
  have hl := (List.getElem?_eq_some_iff.mp h1).1
  refine ⟨k, by rw [List.getElem?_append_left hl]; exact h1, fun e c' h3 h4 => ?_⟩
  rw [List.set_append_left _ _ hl, h2 e c' h3 h4]
theorem tw_get {ids : List Pid} (ad : Pid → Nat) (c : Pid → va_E) {tw : va_W} {j : Nat} {x : Nat × va_E} (h : tw[j]? = some x) : (PW ids ad c ++ tw)[(PW ids ad c).length + j]? = some x := by
  rw [List.getElem?_append_right (by omega), Nat.add_sub_cancel_left]; exact h
theorem tw_set {ids : List Pid} (ad : Pid → Nat) (c : Pid → va_E) (tw : va_W) (j : Nat) (x : Nat × va_E) : (PW ids ad c ++ tw).set ((PW ids ad c).length + j) x = PW ids ad c ++ tw.set j x := by
  rw [List.set_append_right _ _ (by omega), Nat.add_sub_cancel_left]
theorem tt_aload_n (G : Good κ ids cc nL own fr lo) {k : Fin 4} {x : Nat} (dg : decode cc pc = .ok (.aload_n k, 1)) (hi : l[(k : Nat)]? = some (some (.ref x))) (h : VT κ ids A9 tw c d nL M l (.ref x :: st) (pc + 1)) : VT κ ids A9 tw c d nL M l st pc := fun H locs ls hP hD hS hl => lv_aload_n G.hx G.hb dg rfl (hl.rd hi) (h H locs ls hP hD hS hl)
theorem tt_aload (G : Good κ ids cc nL own fr lo) {i : Nat} {x : Nat} (dg : decode cc pc = .ok (.aload i, 2)) (hi : l[i]? = some (some (.ref x))) (h : VT κ ids A9 tw c d nL M l (.ref x :: st) (pc + 2)) : VT κ ids A9 tw c d nL M l st pc := fun H locs ls hP hD hS hl => lv_aload G.hx G.hb dg (hl.rd hi) (h H locs ls hP hD hS hl)
theorem tt_iload_n (G : Good κ ids cc nL own fr lo) {k : Fin 4} {x : Int32} (dg : decode cc pc = .ok (.iload_n k, 1)) (hi : l[(k : Nat)]? = some (some (.int x))) (h : VT κ ids A9 tw c d nL M l (.int x :: st) (pc + 1)) : VT κ ids A9 tw c d nL M l st pc := fun H locs ls hP hD hS hl => lv_iload_n G.hx G.hb dg rfl (hl.rd hi) (h H locs ls hP hD hS hl)
theorem tt_iload (G : Good κ ids cc nL own fr lo) {i : Nat} {x : Int32} (dg : decode cc pc = .ok (.iload i, 2)) (hi : l[i]? = some (some (.int x))) (h : VT κ ids A9 tw c d nL M l (.int x :: st) (pc + 2)) : VT κ ids A9 tw c d nL M l st pc := fun H locs ls hP hD hS hl => lv_iload G.hx G.hb dg (hl.rd hi) (h H locs ls hP hD hS hl)
theorem tt_iconst (G : Good κ ids cc nL own fr lo) {n : Int} {v : Int32} (dg : decode cc pc = .ok (.iconst n, 1)) (hv : Int32.ofInt n = v) (h : VT κ ids A9 tw c d nL M l (.int v :: st) (pc + 1)) : VT κ ids A9 tw c d nL M l st pc := fun H locs ls hP hD hS hl => lv_iconst G.hx G.hb dg hv (h H locs ls hP hD hS hl)
theorem tt_bipush (G : Good κ ids cc nL own fr lo) {n : Int} {v : Int32} (dg : decode cc pc = .ok (.bipush n, 2)) (hv : (Int8.ofInt n).toInt32 = v) (h : VT κ ids A9 tw c d nL M l (.int v :: st) (pc + 2)) : VT κ ids A9 tw c d nL M l st pc := fun H locs ls hP hD hS hl => lv_bipush G.hx G.hb dg hv (h H locs ls hP hD hS hl)
theorem tt_dup (G : Good κ ids cc nL own fr lo) {a : Value} (dg : decode cc pc = .ok (.dup, 1)) (hv : a.category = 1) (h : VT κ ids A9 tw c d nL M l (a :: a :: st) (pc + 1)) : VT κ ids A9 tw c d nL M l (a :: st) pc := fun H locs ls hP hD hS hl => lv_dup G.hx G.hb dg hv (h H locs ls hP hD hS hl)
theorem tt_goto (G : Good κ ids cc nL own fr lo) {off : Int} (tgt : Nat) (dg : decode cc pc = .ok (.goto off, 3)) (ht : (pc : Int) + off = (tgt : Int)) (h : VT κ ids A9 tw c d nL M l st tgt) : VT κ ids A9 tw c d nL M l st pc := fun H locs ls hP hD hS hl => lv_goto G.hx G.hb dg ht (h H locs ls hP hD hS hl)
theorem tt_icmp_ge (G : Good κ ids cc nL own fr lo) {x y : Int32} {off : Int} (tgt : Nat) (dg : decode cc pc = .ok (.if_icmp .ge off, 3)) (ht : (pc : Int) + off = (tgt : Int)) (kt : y ≤ x → VT κ ids A9 tw c d nL M l st tgt) (kf : ¬ y ≤ x → VT κ ids A9 tw c d nL M l st (pc + 3)) : VT κ ids A9 tw c d nL M l (.int y :: .int x :: st) pc := fun H locs ls hP hD hS hl => lv_icmp_ge G.hx G.hb dg ht (fun q => kt q H locs ls hP hD hS hl) (fun q => kf q H locs ls hP hD hS hl)
theorem tt_astore_n (G : Good κ ids cc nL own fr lo) {k : Fin 4} {x : Nat} (dg : decode cc pc = .ok (.astore_n k, 1)) (hn : (k : Nat) < nL) (hk : okSt l (k : Nat) = true) (h : VT κ ids A9 tw c d nL M (l.set (k : Nat) (some (.ref x))) st (pc + 1)) : VT κ ids A9 tw c d nL M l (.ref x :: st) pc := fun H locs ls hP hD hS ⟨lv, h1, h2, h3⟩ => lv_astore_n G.hx G.hb dg rfl h1 hn rfl (fun ls' h4 => h H locs ls' hP hD hS (LV.wr h2 h3 hk h4))
theorem tt_astore (G : Good κ ids cc nL own fr lo) {i : Nat} {x : Nat} (dg : decode cc pc = .ok (.astore i, 2)) (hn : i < nL) (hk : okSt l i = true) (h : VT κ ids A9 tw c d nL M (l.set i (some (.ref x))) st (pc + 2)) : VT κ ids A9 tw c d nL M l (.ref x :: st) pc := fun H locs ls hP hD hS ⟨lv, h1, h2, h3⟩ => lv_astore G.hx G.hb dg h1 hn rfl (fun ls' h4 => h H locs ls' hP hD hS (LV.wr h2 h3 hk h4))
theorem tt_istore_n (G : Good κ ids cc nL own fr lo) {k : Fin 4} {x : Int32} (dg : decode cc pc = .ok (.istore_n k, 1)) (hn : (k : Nat) < nL) (hk : okSt l (k : Nat) = true) (h : VT κ ids A9 tw c d nL M (l.set (k : Nat) (some (.int x))) st (pc + 1)) : VT κ ids A9 tw c d nL M l (.int x :: st) pc := fun H locs ls hP hD hS ⟨lv, h1, h2, h3⟩ => lv_istore_n G.hx G.hb dg rfl h1 hn rfl (fun ls' h4 => h H locs ls' hP hD hS (LV.wr h2 h3 hk h4))
theorem tt_iinc (G : Good κ ids cc nL own fr lo) {i : Nat} {n : Int} {x v : Int32} (dg : decode cc pc = .ok (.iinc i n, 3)) (hi : l[i]? = some (some (.int x))) (hn : i < nL) (hk : okSt l i = true) (hv : x + Int32.ofInt n = v) (h : VT κ ids A9 tw c d nL M (l.set i (some (.int v))) st (pc + 3)) : VT κ ids A9 tw c d nL M l st pc := fun H locs ls hP hD hS ⟨lv, h1, h2, h3⟩ => by
  obtain ⟨k, hk9⟩ := List.getElem?_of_mem (h3 i _ hi)
  exact lv_iinc G.hx G.hb dg h1 hk9 hv hn rfl (fun ls' h4 => h H locs ls' hP hD hS (LV.wr h2 h3 hk h4))
theorem tt_newi (G : Good κ ids cc nL own fr lo) (hA9 : ∀ q, κ.s.heap.size ≤ q → A9 q) {x : Int32} {k : Nat} (hx : x = nI k) (hk : k < 2 ^ 20) (harr : Cond.arrayClass .int ∈ ALL) (hc : c + 1 ≤ κ.R.cells) (hd : d + k ≤ κ.R.slots) (dg : decode cc pc = .ok (.newarray .int, 2)) (h : ∀ q : Nat, VT κ ids A9 (tw ++ [(q, .inl (κ.E.cy 0, pInts k (fun _ => 0)))]) (c + 1) (d + k) nL M l (.ref q :: st) (pc + 2)) : VT κ ids A9 tw c d nL M l (.int x :: st) pc := fun H locs ls hP hD hS hl => by
  subst hx
  refine va_newa (atype := .int) (ty := .int) (a0 := pInts k (fun _ => 0)) G.hx G.hb (G.hw _ harr) rfl G.hK hP hD hS hA9 (fun cA => rfl) (nI_pos (by omega)) (nI_clamp (by omega)) (by show k * 4 ≤ _; omega) hc hd dg (fun q cA H1 hK1 hP1 hD1 hS1 => ?_)
  have e1 := (hK1.2 (tysF κ.E.cy).length (cA, .int) (by rw [List.getElem?_append_right (Nat.le_refl _), Nat.sub_self]; rfl)).2
  have e2 := (G.hK.2 0 (κ.E.cy 0, .int) rfl).2
  have e3 : cA = κ.E.cy 0 := Option.some.inj (e1.symm.trans e2)
  subst e3
  rw [List.append_assoc] at hP1 hD1
  exact h q H1 locs ls hP1 hD1 hS1 hl
end TM

theorem callB_K {κ : KX} {cc : ByteArray} {nL fr lo : Nat} {ids : List Pid} {own : String} {index n fr2 lo2 mc2 ms2 maxL : Nat} {y : MethodName} {bytes : ByteArray} {rt : Option FieldType} (G : Good κ ids cc nL own fr lo) (hm : Cond.methodLink own index y ∈ ALL) (hm4 : Cond.initialized y.cls ∈ ALL) (hm5 : Cond.code y bytes maxL rt ∈ ALL) (hy : y.cls ≠ "java/lang/invoke/MethodHandle" ∧ y.cls ≠ "java/lang/invoke/VarHandle" ∧ (parseMethodDescriptor y.desc).map (fun d => d.parameters.length) = some n) (hr : fr2 + 1 ≤ fr ∧ 8 + (maxL + 11) + lo2 ≤ lo) :
    CallB κ.R κ.s κ.args own index y bytes maxL rt (Cond.code y bytes maxL rt :: ALL) { frames := fr2, cells := mc2, slots := ms2, locals := lo2 } mc2 ms2 n := by
  refine ⟨rfl, rfl, Nat.le_trans hr.1 G.hfr, Nat.le_trans hr.2 G.hlo, fun w hw a' U hW => ?_, List.mem_cons_self, G.hw _ hm5, G.hw _ hm4, ⟨hy.1, hy.2.1⟩, fun sig h => ?_, G.hw _ hm⟩
  · rcases List.mem_cons.mp hw with h | h
    · subst h
      exact ALL_warm G.hw _ hm5 a' U hW
    · exact ALL_warm G.hw _ h a' U hW
  · have h2 := hy.2.2
    rw [h] at h2
    exact (Option.some.inj h2).symm
def NA (a sz : Nat) : Nat → Prop := fun q => q = a ∨ sz ≤ q
def nests : List (Nat × MethodName) := [(31, yX1_init), (43, yX0_init), (44, yX3_init), (45, yX4_init)]
def RN (U : State) : Prop := va_AO RX0 U ∧ va_AO RX3 U ∧ va_AO RX4 U ∧ ∀ q, q ∈ nests → va_Nw (.methodLinkNest RX2 q.1 q.2 RX5) U
theorem RN.warm {s U : State} (hW : s.WarmedH U.vm) (h : RN s) : RN U := ⟨va_AO.moved hW.alike h.1, va_AO.moved hW.alike h.2.1, va_AO.moved hW.alike h.2.2.1, fun q hq => va_Nw.warmM hW (h.2.2.2 q hq)⟩
theorem RN.calling {U : State} {g : JFrame} {mk : MethodId} {a : Array Value} (h : RN U) : RN (U.calling g mk a) := RN.warm (s := U) (U := U.calling g mk a) (State.WarmedH.refl U) h
def RetN (E : EX) (y : MethodName) (cc : ByteArray) (nL fr lo mc ms : Nat) (a : Nat) (e0 : va_E) (Q : va_W → Prop) : Prop :=
  ∀ sz : Nat, Met E.l y (Cond.code y cc nL none :: ALL) { frames := fr, cells := mc, slots := ms, locals := lo } (va_Pc [.ref a] (fun U => U.heap.size = sz ∧ (va_P E.D vwCl [(a, e0)] U.heap ∧ va_K E.D vwCl (tysF E.cy) U) ∧ RN U)) (fun _ st oc t => (∃ tw : va_W, oc = .returned none ∧ Q tw ∧ va_P E.D vwCl tw t.heap ∧ va_D (NA a sz) tw) ∧ va_F (NA a sz) st t) mc ms (NA a sz)
def EndsN (κ : KX) (a : Nat) (Q : va_W → Prop) (mc ms : Nat) : Prop := κ.Q = MQ κ.below (fun _ st oc t => (∃ tw : va_W, oc = .returned none ∧ Q tw ∧ va_P κ.E.D vwCl tw t.heap ∧ va_D (NA a κ.s.heap.size) tw) ∧ va_F (NA a κ.s.heap.size) st t) κ.args κ.s mc ms (NA a κ.s.heap.size) ∧ mc ≤ κ.R.cells ∧ ms ≤ κ.R.slots ∧ RN κ.s ∧ κ.meth.name = "<init>" ∧ κ.meth.sig.returnType = none
abbrev M00 : Mem := fun _ _ => 0
theorem RetN_of {E : EX} {y : MethodName} {cc : ByteArray} {nL fr lo mc ms a : Nat} {e0 : va_E} {Q : va_W → Prop} (own : String) (hy : plainName y.cls = true) (ho : y.cls = own) (hy2 : y.name = "<init>") (l0 : LSt) (hl0 : entL [.ref a] nL = l0) (hlen : 1 ≤ nL)
    (body : ∀ κ : KX, κ.E = E → Good κ [] cc nL own fr lo → EndsN κ a Q mc ms → (∀ q, κ.s.heap.size ≤ q → NA a κ.s.heap.size q) → VT κ [] (NA a κ.s.heap.size) [(a, e0)] 0 0 nL M00 l0 [] 0) : RetN E y cc nL fr lo mc ms a e0 Q := by
  intro sz
  refine Met.ofW (cc := cc) (maxL := nL) (ret := none) hy rfl ?_
  intro p e s m args9 below meth c s₁ B hml hv
  obtain ⟨rfl, hsz, ⟨hP, hK⟩, hRN⟩ := hv
  have hts := atoms_spec (ws := Cond.code y cc nL none :: ALL) B.pre
  have hown : s.vm.findClass own = some m.cls := by rw [← ho]; exact findClass_of_methodNamed B.named
  have hin : meth.name = "<init>" := by
    have h := (name_of_methodNamed B.named B.method).1
    rw [h]; exact hy2
  subst hsz
  subst hl0
  have hl := lv_entry ([.ref a]) (n := nL) hlen
  rw [lg_entry_eq]
  generalize (lg_sl ([.ref a]) ++ List.replicate (nL - (lg_sl ([.ref a])).length) Slot.unset).toArray = ls at hl ⊢
  have hLV : LV ls nL (entL [.ref a] nL) := by
    refine ⟨_, hl, ?_, fun i v hi => ?_⟩
    · show ([some (Value.ref a)] ++ List.replicate (nL - 1) none).length = nL
      simp only [List.length_append, List.length_replicate, List.length_cons, List.length_nil]
      omega
    · have hi : ([some (Value.ref a)] ++ List.replicate (nL - 1) none)[i]? = some (some v) := hi
      match i, hi with
      | 0, hi => cases hi; exact List.mem_cons_self
      | i + 1, hi =>
        rw [List.getElem?_append_right (by simp)] at hi
        have := List.eq_of_mem_replicate (List.mem_of_getElem? hi)
        cases this
  have hb := body ((p, E, e, (headSpec (Cond.code y cc nL none :: ALL) { frames := fr, cells := mc, slots := ms, locals := lo }).room, s), (m, [.ref a].toArray, below, meth, c), MQ below (fun _ st oc t => (∃ tw : va_W, oc = .returned none ∧ Q tw ∧ va_P E.D vwCl tw t.heap ∧ va_D (NA a s.heap.size) tw) ∧ va_F (NA a s.heap.size) st t) [.ref a].toArray s mc ms (NA a s.heap.size), Rg E [] s.heap.size, (0, 0)) rfl
    ⟨B.exec, B.bytes, hml, hown, fun w hw => hts w (List.mem_cons_of_mem _ hw), hK, fun i hi => absurd hi List.not_mem_nil, List.nodup_nil, rfl, B.notSynchronized, Nat.le_refl _, Nat.le_refl _, Nat.zero_le _, Nat.zero_le _⟩ ⟨rfl, Nat.le_refl _, Nat.le_refl _, hRN, hin, B.returns⟩ (fun q hq => Or.inr hq)
  refine hb s.heap [] ls hP ?_ va_S.rf hLV
  refine ⟨fun i j p q h1 h2 _ => ?_, fun k q h => ?_⟩
  · have h1 : i < 1 := (List.getElem?_eq_some_iff.mp h1).1
    have h2 : j < 1 := (List.getElem?_eq_some_iff.mp h2).1
    omega
  · have h : [(a, e0)][k]? = some q := h
    match k, h with
    | 0, h => cases h; exact Or.inl rfl
section TN
variable {κ : KX} {cc : ByteArray} {nL fr lo : Nat} {own : String} {M : Mem} {l : LSt} {st rest : List Value} {pc c d mc ms a : Nat} {A9 : Nat → Prop} {tw tw2 : va_W} {Q : va_W → Prop}
theorem tn_vret (G : Good κ [] cc nL own fr lo) (E9 : EndsN κ a Q mc ms) (dg : decode cc pc = .ok (.return_, 1)) (hc : c ≤ mc) (hs : d ≤ ms) (tw2 : va_W) (hq : Q tw2) (hp : ∀ H, va_P κ.E.D vwCl tw H → va_P κ.E.D vwCl tw2 H) (hd : ∀ A, va_D A tw → va_D A tw2) : VT κ [] (NA a κ.s.heap.size) tw c d nL M l [] pc := fun H locs ls hP hD hS hl => by
  obtain ⟨hQ, h2, h3, -, -, hr⟩ := E9
  rw [hQ]
  refine W.widen (k := mc) (n := ms) hc hs ?_
  exact W.vret G.hx G.hb hr (fun t ht hW => ⟨⟨tw2, rfl, hq, by rw [ht]; exact hp H hP, hd _ hD⟩, hS.F ht⟩) hS.2.2 dg G.hlk
theorem tn_vret0 (G : Good κ [] cc nL own fr lo) (E9 : EndsN κ a Q mc ms) (dg : decode cc pc = .ok (.return_, 1)) (hc : c ≤ mc) (hs : d ≤ ms) (hq : Q tw) : VT κ [] (NA a κ.s.heap.size) tw c d nL M l [] pc := tn_vret G E9 dg hc hs tw hq (fun _ h => h) (fun _ h => h)
theorem tn_obj (G : Good κ [] cc nL own fr lo) {index q : Nat} (hm : Cond.methodLink own index objectInit ∈ ALL) (hr : 1 ≤ fr ∧ 12 ≤ lo) (dg : decode cc pc = .ok (.invokespecial index, 3)) (h : VT κ [] A9 tw c d nL M l [] (pc + 3)) : VT κ [] A9 tw c d nL M l [.ref q] pc := fun H locs ls hP hD hS hl => by
  have hls : ls.size = nL := by obtain ⟨lv, h1, -⟩ := hl; exact h1.1
  refine W.objInit G.hx G.hb G.hown (G.hw _ hm) (G.hw (.instanceMethod objectInit) (by decide +kernel)) (G.hw (.code objectInit ⟨#[0xb1]⟩ 1 none) (by decide +kernel)) rfl (by rw [G.hml]; exact hls) rfl dg (Nat.le_trans hr.1 G.hfr) (Nat.le_trans hr.2 G.hlo) ?_
  exact W.eq (g2 := F0 κ.m (pc + 3) ls []) rfl (h H locs ls hP hD hS hl)
theorem tn_sipush (G : Good κ [] cc nL own fr lo) {n : Int} {v : Int32} (dg : decode cc pc = .ok (.sipush n, 3)) (hv : (Int16.ofInt n).toInt32 = v) (h : VT κ [] A9 tw c d nL M l (.int v :: st) (pc + 3)) : VT κ [] A9 tw c d nL M l st pc := fun H locs ls hP hD hS hl => lv_sipush G.hx G.hb dg hv (h H locs ls hP hD hS hl)
theorem tn_get (G : Good κ [] cc nL own fr lo) {q j index ci N k : Nat} {C : String} {T : u_T} {fs : List Value} {v : Value} (hj : tw[j]? = some (q, .inr (ci, fs))) (hin : ∀ w ∈ u_ws C T N, w ∈ ALL) (hc : vwCl[ci]? = some (C, T, N)) (hk : k < N) (hlink : Cond.fieldLink own index (T k).1 (T k).2.1 (T k).2.2.1 ∈ ALL) (hv : fs[k]? = some v) (dg : decode cc pc = .ok (.getfield index, 3)) (h : VT κ [] A9 tw c d nL M l (v :: st) (pc + 3)) : VT κ [] A9 tw c d nL M l (.ref q :: st) pc := fun H locs ls hP hD hS hl =>
  va_get G.hx G.hb G.hw hin G.hown G.hK hP j hj hc k hk (G.hw _ hlink) (fun x h => h) hv dg (h H locs ls hP hD hS hl)
theorem tn_put (G : Good κ [] cc nL own fr lo) {q j index ci N k : Nat} {C : String} {T : u_T} {fs : List Value} {v : Value} {ty : FieldType} (hj : tw[j]? = some (q, .inr (ci, fs))) (hin : ∀ w ∈ u_ws C T N, w ∈ ALL) (ty0 : Nat → FieldType) (hty : ∀ k, k < N → parseFieldDescriptor (T k).2.2.1 = some (ty0 k)) (hnm : ∀ a, a < N → ∀ b, b < N → a ≠ b → (T a).2.1 ≠ (T b).2.1) (hc : vwCl[ci]? = some (C, T, N)) (hk : k < N) (hlink : Cond.fieldLink own index (T k).1 (T k).2.1 (T k).2.2.1 ∈ ALL) (hfin : (T k).2.2.2 = false) (hd : parseFieldDescriptor (T k).2.2.1 = some ty) (hn : narrow ty v = v) (hfit : fits ty v = true) (hl9 : k < fs.length) (dg : decode cc pc = .ok (.putfield index, 3)) (h : VT κ [] A9 (tw.set j (q, .inr (ci, fs.set k v))) c d nL M l st (pc + 3)) : VT κ [] A9 tw c d nL M l (v :: .ref q :: st) pc := fun H locs ls hP hD hS hl =>
  va_put G.hx G.hb G.hw hin ty0 hty hnm G.hown G.hK hP hD hS j hj hc k hk (G.hw _ hlink) (fun x h => h) hfin hd hn hfit hl9 dg (fun H1 locs1 hP1 hD1 hS1 => h H1 locs1 ls hP1 hD1 hS1 hl)
theorem tn_putF (G : Good κ [] cc nL own fr lo) (E9 : EndsN κ a Q mc ms) {q j index ci N k : Nat} {C : String} {T : u_T} {fs : List Value} {v : Value} {ty : FieldType} (hj : tw[j]? = some (q, .inr (ci, fs))) (hin : ∀ w ∈ u_ws C T N, w ∈ ALL) (ty0 : Nat → FieldType) (hty : ∀ k, k < N → parseFieldDescriptor (T k).2.2.1 = some (ty0 k)) (hnm : ∀ a, a < N → ∀ b, b < N → a ≠ b → (T a).2.1 ≠ (T b).2.1) (hc : vwCl[ci]? = some (C, T, N)) (hk : k < N) (hlink : Cond.fieldLink own index (T k).1 (T k).2.1 (T k).2.2.1 ∈ ALL) (hfin : (T k).2.2.2 = true) (hdecl : (T k).1 = own) (hd : parseFieldDescriptor (T k).2.2.1 = some ty) (hn : narrow ty v = v) (hfit : fits ty v = true) (hl9 : k < fs.length) (dg : decode cc pc = .ok (.putfield index, 3)) (h : VT κ [] A9 (tw.set j (q, .inr (ci, fs.set k v))) c d nL M l st (pc + 3)) : VT κ [] A9 tw c d nL M l (v :: .ref q :: st) pc := fun H locs ls hP hD hS hl =>
  va_putF G.hx G.hb G.hw hin ty0 hty hnm G.hown G.hK hP hD hS j hj hc k hk (G.hw _ hlink) (fun x h => h) hfin E9.2.2.2.2.1 hdecl hd hn hfit hl9 dg (fun H1 locs1 hP1 hD1 hS1 => h H1 locs1 ls hP1 hD1 hS1 hl)
theorem tn_new (G : Good κ [] cc nL own fr lo) (hA9 : ∀ q, κ.s.heap.size ≤ q → A9 q) {index ci N : Nat} {C : String} {T : u_T} {fs : List Value} (hin : ∀ w ∈ u_ws C T N, w ∈ ALL) (ty : Nat → FieldType) (hty : ∀ k, k < N → parseFieldDescriptor (T k).2.2.1 = some (ty k)) (hcl : Cond.classLink own index C ∈ ALL) (hinst : Cond.instantiable C N ∈ ALL) (hini : Cond.initialized C ∈ ALL) (hc : vwCl[ci]? = some (C, T, N)) (hfs : ∀ j, j < N → defaultValue (ty j) = vp_V fs j) (hc9 : c + 1 ≤ κ.R.cells) (hd9 : d + N ≤ κ.R.slots) (dg : decode cc pc = .ok (.new index, 3)) (h : ∀ q : Nat, VT κ [] A9 (tw ++ [(q, .inr (ci, fs))]) (c + 1) (d + N) nL M l (.ref q :: st) (pc + 3)) : VT κ [] A9 tw c d nL M l st pc := fun H locs ls hP hD hS hl =>
  va_new G.hx G.hb G.hw hin ty hty G.hown (G.hw _ hcl) (G.hw _ hinst) (G.hw _ hini) G.hK hP hD hS hA9 hc hfs hc9 hd9 dg (fun q H1 hP1 hD1 hS1 => h q H1 locs ls hP1 hD1 hS1 hl)
theorem tn_newq (G : Good κ [] cc nL own fr lo) (hA9 : ∀ q, κ.s.heap.size ≤ q → A9 q) {x : Int32} {n t0 index : Nat} {C : String} (hx : x = nI n) (hn : n < 2 ^ 20) (ht : (tysF κ.E.cy)[t0]? = some (κ.E.cy t0, .object C)) (hclink : Cond.classLink own index C ∈ ALL) (hover : va_AO C κ.s) (hc9 : c + 1 ≤ κ.R.cells) (hd9 : d + n ≤ κ.R.slots) (dg : decode cc pc = .ok (.anewarray index, 3)) (h : ∀ q : Nat, VT κ [] A9 (tw ++ [(q, .inl (κ.E.cy t0, pRefs n (fun _ => none)))]) (c + 1) (d + n) nL M l (.ref q :: st) (pc + 3)) : VT κ [] A9 tw c d nL M l (.int x :: st) pc := fun H locs ls hP hD hS hl => by
  subst hx
  refine va_newq G.hx G.hb G.hown (G.hw _ hclink) hover G.hK hP hD hS hA9 (nI_pos (by omega)) (nI_clamp (by omega)) (by omega) hc9 hd9 dg (fun q cA H1 hK1 hP1 hD1 hS1 => ?_)
  have e1 := (hK1.2 (tysF κ.E.cy).length (cA, .object C) (by rw [List.getElem?_append_right (Nat.le_refl _), Nat.sub_self]; rfl)).2
  have e2 := (G.hK.2 t0 _ ht).2
  have e3 : cA = κ.E.cy t0 := va_RA_one e1 e2
  subst e3
  exact h q H1 locs ls hP1 hD1 hS1 hl
theorem tn_aast (G : Good κ [] cc nL own fr lo) {b j t0 qk ci n v k : Nat} {x : Int32} {r : vw_C} {vs : List Value} {f : Nat → Option Nat} (hj : tw[j]? = some (b, .inl (κ.E.cy t0, pRefs n f))) (ht : (tysF κ.E.cy)[t0]? = some (κ.E.cy t0, .object r.1)) (hv : tw[qk]? = some (v, .inr (ci, vs))) (hc : vwCl[ci]? = some r) (hx : x = nI k) (hk : k < n) (hn : n < 2 ^ 20) (dg : decode cc pc = .ok (.aastore, 1)) (h : VT κ [] A9 (tw.set j (b, .inl (κ.E.cy t0, pRefs n (va_up f k (some v))))) c d nL M l st (pc + 1)) : VT κ [] A9 tw c d nL M l (.ref v :: .int x :: .ref b :: st) pc := fun H locs ls hP hD hS hl => by
  subst hx
  refine va_astq G.hx G.hb G.hK hP hD hS j t0 qk ci hj ht hv hc (vp_in_nI hk (by omega)) dg (fun H1 locs1 hP1 hD1 hS1 => ?_)
  rw [nI_clamp (by omega)] at hP1 hD1
  exact h H1 locs1 ls hP1 hD1 hS1 hl
theorem tn_fin (G : Good κ [] cc nL own fr lo) (hA9 : ∀ q, κ.s.heap.size ≤ q → A9 q) {q mc2 ms2 : Nat} {e0 : va_E} {Q2 : va_W → Prop} {H : Heap} {locs : List Loc} {ls : Array Slot} {av : Array Value} (hP : va_P κ.E.D vwCl (tw ++ [(q, e0)]) H) (hD : va_D A9 (tw ++ [(q, e0)])) (hS : va_S A9 κ.s.heap H locs) (hl : LV ls nL l)
    (hrun : va_Run κ.p κ.E.l κ.e κ.R κ.s κ.m κ.args κ.below κ.meth κ.c H locs c d mc2 ms2 (F0 κ.m pc ls (.ref q :: rest)) rest ((fun _ st oc t => (∃ tw : va_W, oc = .returned none ∧ Q2 tw ∧ va_P κ.E.D vwCl tw t.heap ∧ va_D (NA q H.size) tw) ∧ va_F (NA q H.size) st t : Array Value → State → Outcome → State → Prop) av) (NA q H.size))
    (h : ∀ tw2, Q2 tw2 → VT κ [] A9 (tw ++ tw2) (c + mc2) (d + ms2) nL M l rest (pc + 3)) : W κ.p κ.E.l κ.e κ.R κ.s κ.m κ.args κ.below κ.meth κ.c H locs c d κ.Q (F0 κ.m pc ls (.ref q :: rest)) := by
  have hl9 : (tw ++ [(q, e0)])[tw.length]? = some (q, e0) := by rw [List.getElem?_append_right (Nat.le_refl _), Nat.sub_self]; rfl
  intro T hT X
  obtain ⟨v, st₀, t, T', L, h0, X', hL, e1, e2, ⟨⟨tw2, hv, hQ2, hP2, hD2⟩, hF⟩, st9⟩ := hrun T hT X
  cases hv
  have hAq : A9 q := hD.2 _ _ hl9
  have hBA : ∀ z, NA q H.size z → A9 z := fun z hz => by
    rcases hz with hz | hz
    · rw [hz]; exact hAq
    · exact hA9 z (Nat.le_trans hS.1 hz)
  obtain ⟨k1, k2, k3⟩ := vx_keep (A0 := A9) h0 e1 hS (fun z _ hz => hBA z hz) (fun z hz => hBA z hz) hL hF
  rw [← e1] at hP2
  have hin : ∀ (k : Nat) (x : Nat × va_E), tw[k]? = some x → (tw ++ [(q, e0)])[k]? = some x := fun k x hx => by
    rw [List.getElem?_append_left (List.getElem?_eq_some_iff.mp hx).1]; exact hx
  have hlt : ∀ (k : Nat) (x : Nat × va_E), tw[k]? = some x → x.1 < H.size ∧ x.1 ≠ q := fun k x hx => ⟨(hP k x (hin k x hx)).lt, fun hxq => by
    have h2 := hD.1 k tw.length x (q, e0) (hin k x hx) hl9 hxq
    have h3 := (List.getElem?_eq_some_iff.mp hx).1
    omega⟩
  have hno : ∀ (k : Nat) (x : Nat × va_E), tw[k]? = some x → ¬ NA q H.size x.1 := fun k x hx hz => by
    have h2 := hlt k x hx
    rcases hz with hz | hz
    · exact h2.2 hz
    · exact absurd h2.1 (Nat.not_lt.mpr hz)
  have hP1 : va_P κ.E.D vwCl tw T'.heap := va_P.kept (H := H) (fun k x hx => hP k x (hin k x hx)) (fun k x hx => k2 x.1 (hlt k x hx).1 (hno k x hx))
  have hD1 : va_D A9 (tw ++ tw2) := by
    refine ⟨fun i j x y hx hy hxy => ?_, fun k x hx => ?_⟩
    · by_cases hi : i < tw.length
      · rw [List.getElem?_append_left hi] at hx
        by_cases hj : j < tw.length
        · rw [List.getElem?_append_left hj] at hy
          exact hD.1 i j x y (hin i x hx) (hin j y hy) hxy
        · rw [List.getElem?_append_right (by omega)] at hy
          exact absurd (hD2.2 _ _ hy) (by rw [← hxy]; exact hno i x hx)
      · rw [List.getElem?_append_right (by omega)] at hx
        by_cases hj : j < tw.length
        · rw [List.getElem?_append_left hj] at hy
          exact absurd (hD2.2 _ _ hx) (by rw [hxy]; exact hno j y hy)
        · rw [List.getElem?_append_right (by omega)] at hy
          have := hD2.1 _ _ x y hx hy hxy
          omega
    · by_cases hi : k < tw.length
      · rw [List.getElem?_append_left hi] at hx
        exact hD.2 k x (hin k x hx)
      · rw [List.getElem?_append_right (by omega)] at hx
        exact hBA _ (hD2.2 _ _ hx)
  obtain ⟨t2, a1, b1⟩ := h tw2 hQ2 T'.heap (locs ++ L) ls (hP1.app hP2) hD1 k3 hl T' rfl X'
  exact ⟨t2, st9 t2 a1, b1⟩
theorem tn_init (G : Good κ [] cc nL own fr lo) (hA9 : ∀ q, κ.s.heap.size ≤ q → A9 q) (hRN : RN κ.s) {q index fr2 lo2 mc2 ms2 maxL : Nat} {e0 : va_E} {y : MethodName} {bytes : ByteArray} {Q2 : va_W → Prop} (c9 : RetN κ.E y bytes maxL fr2 lo2 mc2 ms2 q e0 Q2) (hm : Cond.methodLink own index y ∈ ALL) (hm2 : Cond.instanceMethod y ∈ ALL) (hm4 : Cond.initialized y.cls ∈ ALL) (hm5 : Cond.code y bytes maxL none ∈ ALL) (hy : y.cls ≠ "java/lang/invoke/MethodHandle" ∧ y.cls ≠ "java/lang/invoke/VarHandle" ∧ (parseMethodDescriptor y.desc).map (fun d => d.parameters.length) = some 0) (hyn : y.name = "<init>") (hr : fr2 + 1 ≤ fr ∧ 8 + (maxL + 11) + lo2 ≤ lo) (hc : c + mc2 ≤ κ.R.cells) (hs : d + ms2 ≤ κ.R.slots) (hw : (rest.map fun v => v.category).sum ≤ 8) (dg : decode cc pc = .ok (.invokespecial index, 3)) (h : ∀ tw2, Q2 tw2 → VT κ [] A9 (tw ++ tw2) (c + mc2) (d + ms2) nL M l rest (pc + 3)) : VT κ [] A9 (tw ++ [(q, e0)]) c d nL M l (.ref q :: rest) pc := by
  intro H locs ls hP hD hS hl
  have hls : ls.size = nL := by obtain ⟨lv, h1, -⟩ := hl; exact h1.1
  have hP : va_P κ.E.D vwCl (tw ++ [(q, e0)]) H := hP
  have hPq : va_P κ.E.D vwCl [(q, e0)] H := fun k x hx => hP (tw.length + k) x (by rw [List.getElem?_append_right (by omega), Nat.add_sub_cancel_left]; exact hx)
  exact tn_fin (av := (Value.ref q :: []).toArray) G hA9 hP hD hS hl (va_runI (e := κ.e) (below := κ.below) (meth := κ.meth) (b := q) (As := []) (rest := rest) (cells := c) (slots := d) (locs := locs) ⟨G.hx, G.hb, G.hml, G.hown, G.hw⟩ (c9 H.size) ⟨callB_K (n := 0) G hm hm4 hm5 hy hr, hyn, G.hw _ hm2⟩ ⟨fun a U g mk z => by
      obtain ⟨q0, q1, ⟨qP, qK⟩, qR⟩ := z
      exact ⟨q0, q1, ⟨qP, va_K.moved (u := U) (U := U.calling g mk a) (Vm.Alike.refl U.vm) qK⟩, qR.calling⟩, fun U hU hW => ⟨rfl, by rw [hU], ⟨by rw [hU]; exact hPq, va_K.moved hW.alike G.hK⟩, hRN.warm hW⟩⟩ rfl rfl hls rfl (lv_room hw) dg (g := F0 κ.m pc ls (.ref q :: rest)) ⟨hc, hs⟩) h
theorem tn_initN (G : Good κ [] cc nL own fr lo) (hA9 : ∀ q, κ.s.heap.size ≤ q → A9 q) (hRN : RN κ.s) {q index fr2 lo2 mc2 ms2 maxL : Nat} {e0 : va_E} {y : MethodName} {bytes : ByteArray} {Q2 : va_W → Prop} (c9 : RetN κ.E y bytes maxL fr2 lo2 mc2 ms2 q e0 Q2) {host : String} (hm : va_Nw (.methodLinkNest own index y host) κ.s) (hm2 : Cond.instanceMethod y ∈ ALL) (hm4 : Cond.initialized y.cls ∈ ALL) (hm5 : Cond.code y bytes maxL none ∈ ALL) (hy : y.cls ≠ "java/lang/invoke/MethodHandle" ∧ y.cls ≠ "java/lang/invoke/VarHandle" ∧ (parseMethodDescriptor y.desc).map (fun d => d.parameters.length) = some 0) (hyn : y.name = "<init>") (hr : fr2 + 1 ≤ fr ∧ 8 + (maxL + 11) + lo2 ≤ lo) (hc : c + mc2 ≤ κ.R.cells) (hs : d + ms2 ≤ κ.R.slots) (hw : (rest.map fun v => v.category).sum ≤ 8) (dg : decode cc pc = .ok (.invokespecial index, 3)) (h : ∀ tw2, Q2 tw2 → VT κ [] A9 (tw ++ tw2) (c + mc2) (d + ms2) nL M l rest (pc + 3)) : VT κ [] A9 (tw ++ [(q, e0)]) c d nL M l (.ref q :: rest) pc := by
  intro H locs ls hP hD hS hl
  have hls : ls.size = nL := by obtain ⟨lv, h1, -⟩ := hl; exact h1.1
  have hP : va_P κ.E.D vwCl (tw ++ [(q, e0)]) H := hP
  have hPq : va_P κ.E.D vwCl [(q, e0)] H := fun k x hx => hP (tw.length + k) x (by rw [List.getElem?_append_right (by omega), Nat.add_sub_cancel_left]; exact hx)
  exact tn_fin (av := (Value.ref q :: []).toArray) G hA9 hP hD hS hl (va_runIN (e := κ.e) (below := κ.below) (meth := κ.meth) (b := q) (As := []) (rest := rest) (cells := c) (slots := d) (locs := locs) ⟨G.hx, G.hb, G.hml, G.hown, G.hw⟩ (c9 H.size) ⟨⟨⟨rfl, rfl, Nat.le_trans hr.1 G.hfr, Nat.le_trans hr.2 G.hlo, fun w hw a' U hW => by
    rcases List.mem_cons.mp hw with h | h
    · subst h
      exact ALL_warm G.hw _ hm5 a' U hW
    · exact ALL_warm G.hw _ h a' U hW, List.mem_cons_self⟩, G.hw _ hm5, G.hw _ hm4, ⟨hy.1, hy.2.1⟩, fun sig h => by
    have h2 := hy.2.2
    rw [h] at h2
    exact (Option.some.inj h2).symm, va_Nw.use rfl hm⟩, hyn, G.hw _ hm2⟩ ⟨fun a U g mk z => by
      obtain ⟨q0, q1, ⟨qP, qK⟩, qR⟩ := z
      exact ⟨q0, q1, ⟨qP, va_K.moved (u := U) (U := U.calling g mk a) (Vm.Alike.refl U.vm) qK⟩, qR.calling⟩, fun U hU hW => ⟨rfl, by rw [hU], ⟨by rw [hU]; exact hPq, va_K.moved hW.alike G.hK⟩, hRN.warm hW⟩⟩ rfl rfl hls rfl (lv_room hw) dg (g := F0 κ.m pc ls (.ref q :: rest)) ⟨hc, hs⟩) h
end TN

theorem n0 (E : EX) (a : Nat) : RetN E yX0_init cX0_init 1 1 12 1 16 a (.inr (0, [.int 0, .int 0, .int 0, .int 0, .int 0, .int 0, .int 0, .int 0, .null])) (fun tw => ∃ q : Nat, tw = [(a, .inr (0, [.int 0, .int 0, .int 0, .int 0, .int 0, .int 0, .int 0, .int 0, .ref q])), (q, .inl (E.cy 0, pInts 16 (fun _ => 0)))]) := by
  refine RetN_of RX0 (by decide) rfl rfl ([some (.ref a)]) rfl (by decide) (fun κ hE G E9 hA9 => ?_)
  subst hE
  have hc9 := E9.2.1
  have hd9 := E9.2.2.1
  refine tt_aload_n G dX0_init_0 rfl ?_
  refine tn_obj G (index := 3) (by decide +kernel) (by decide) dX0_init_1 ?_
  refine tt_aload_n G dX0_init_4 rfl ?_
  refine tt_bipush (v := 16) G dX0_init_5 (by decide) ?_
  refine tt_newi G hA9 (k := 16) rfl (by decide) (by decide +kernel) (by omega) (by omega) dX0_init_7 (fun q7 => ?_)
  refine tn_putF (T := TX0) (k := 8) (ty := .array .int) G E9 (j := 0) rfl uX0 tyX0 tyX0_ok nmX0 rfl (by decide) (by decide +kernel) rfl rfl rfl rfl rfl (Nat.le_of_ble_eq_true rfl) dX0_init_9 ?_
  exact tn_vret0 G E9 dX0_init_12 (by decide) (by decide) ⟨q7, rfl⟩
theorem n4 (E : EX) (a : Nat) : RetN E yX4_init cX4_init 1 1 12 1 8 a (.inr (4, [.int 0, .int 0, .int 0, .int 0, .int 0, .int 0, .int 0, .int 0, .null])) (fun tw => ∃ q : Nat, tw = [(a, .inr (4, [.int 0, .int 0, .int 0, .int 0, .int 0, .int 0, .int 0, .int 0, .ref q])), (q, .inl (E.cy 0, pInts 8 (fun _ => 0)))]) := by
  refine RetN_of RX4 (by decide) rfl rfl ([some (.ref a)]) rfl (by decide) (fun κ hE G E9 hA9 => ?_)
  subst hE
  have hc9 := E9.2.1
  have hd9 := E9.2.2.1
  refine tt_aload_n G dX4_init_0 rfl ?_
  refine tn_obj G (index := 3) (by decide +kernel) (by decide) dX4_init_1 ?_
  refine tt_aload_n G dX4_init_4 rfl ?_
  refine tt_bipush (v := 8) G dX4_init_5 (by decide) ?_
  refine tt_newi G hA9 (k := 8) rfl (by decide) (by decide +kernel) (by omega) (by omega) dX4_init_7 (fun q7 => ?_)
  refine tn_putF (T := TX4) (k := 8) (ty := .array .int) G E9 (j := 0) rfl uX4 tyX4 tyX4_ok nmX4 rfl (by decide) (by decide +kernel) rfl rfl rfl rfl rfl (Nat.le_of_ble_eq_true rfl) dX4_init_9 ?_
  exact tn_vret0 G E9 dX4_init_12 (by decide) (by decide) ⟨q7, rfl⟩
theorem n3 (E : EX) (a : Nat) : RetN E yX3_init cX3_init 1 1 12 0 0 a (.inr (3, [.int 0, .int 0, .int 0])) (fun tw => tw = [(a, .inr (3, [.int 0, .int 0, .int 0]))]) := by
  refine RetN_of RX3 (by decide) rfl rfl ([some (.ref a)]) rfl (by decide) (fun κ hE G E9 hA9 => ?_)
  subst hE
  have hc9 := E9.2.1
  have hd9 := E9.2.2.1
  refine tt_aload_n G dX3_init_0 rfl ?_
  refine tn_obj G (index := 3) (by decide +kernel) (by decide) dX3_init_1 ?_
  exact tn_vret0 G E9 dX3_init_4 (by decide) (by decide) rfl
theorem n1 (E : EX) (a : Nat) : RetN E yX1_init cX1_init 1 1 12 3 9 a (.inr (1, [.int 0, .null, .null, .null])) (fun tw => ∃ q r s : Nat, tw = [(a, .inr (1, [.int 0, .ref q, .ref r, .ref s])), (q, .inl (E.cy 0, pInts 3 (fun _ => 0))), (r, .inl (E.cy 0, pInts 3 (fun _ => 0))), (s, .inl (E.cy 0, pInts 3 (fun _ => 0)))]) := by
  refine RetN_of RX1 (by decide) rfl rfl ([some (.ref a)]) rfl (by decide) (fun κ hE G E9 hA9 => ?_)
  subst hE
  have hc9 := E9.2.1
  have hd9 := E9.2.2.1
  refine tt_aload_n G dX1_init_0 rfl ?_
  refine tn_obj G (index := 3) (by decide +kernel) (by decide) dX1_init_1 ?_
  refine tt_aload_n G dX1_init_4 rfl ?_
  refine tt_iconst (v := 3) G dX1_init_5 (by decide) ?_
  refine tt_newi G hA9 (k := 3) rfl (by decide) (by decide +kernel) (by omega) (by omega) dX1_init_6 (fun q6 => ?_)
  refine tn_putF (T := TX1) (k := 1) (ty := .array .int) G E9 (j := 0) rfl uX1 tyX1 tyX1_ok nmX1 rfl (by decide) (by decide +kernel) rfl rfl rfl rfl rfl (Nat.le_of_ble_eq_true rfl) dX1_init_8 ?_
  refine tt_aload_n G dX1_init_11 rfl ?_
  refine tt_iconst (v := 3) G dX1_init_12 (by decide) ?_
  refine tt_newi G hA9 (k := 3) rfl (by decide) (by decide +kernel) (by omega) (by omega) dX1_init_13 (fun q13 => ?_)
  refine tn_putF (T := TX1) (k := 2) (ty := .array .int) G E9 (j := 0) rfl uX1 tyX1 tyX1_ok nmX1 rfl (by decide) (by decide +kernel) rfl rfl rfl rfl rfl (Nat.le_of_ble_eq_true rfl) dX1_init_15 ?_
  refine tt_aload_n G dX1_init_18 rfl ?_
  refine tt_iconst (v := 3) G dX1_init_19 (by decide) ?_
  refine tt_newi G hA9 (k := 3) rfl (by decide) (by decide +kernel) (by omega) (by omega) dX1_init_20 (fun q20 => ?_)
  refine tn_putF (T := TX1) (k := 3) (ty := .array .int) G E9 (j := 0) rfl uX1 tyX1 tyX1_ok nmX1 rfl (by decide) (by decide +kernel) rfl rfl rfl rfl rfl (Nat.le_of_ble_eq_true rfl) dX1_init_22 ?_
  exact tn_vret0 G E9 dX1_init_25 (by decide) (by decide) ⟨q6, q13, q20, rfl⟩
def fr9 (n : Nat) (g : Nat → Nat) : Nat → Option Nat := fun j => if j < n then some (g j) else none
def ua (g : Nat → Nat) (b q : Nat) : Nat → Nat := fun j => if j = b then q else g j
theorem fm_congr {α β : Type} : ∀ (l : List α) (f g : α → List β), (∀ a, a ∈ l → f a = g a) → l.flatMap f = l.flatMap g
  | [], _, _, _ => rfl
  | a :: l, f, g, h => by rw [List.flatMap_cons, List.flatMap_cons, h a List.mem_cons_self, fm_congr l f g (fun b hb => h b (List.mem_cons_of_mem _ hb))]
theorem fr9_up (b : Nat) (g : Nat → Nat) (q : Nat) : va_up (fr9 b g) b (some q) = fr9 (b + 1) (ua g b q) := by
  funext j
  unfold va_up fr9 ua
  by_cases h : j = b
  · rw [if_pos h, if_pos (by omega), if_pos h]
  · rw [if_neg h, if_neg h]
    by_cases h2 : j < b
    · rw [if_pos h2, if_pos (by omega)]
    · rw [if_neg h2, if_neg (by omega)]
theorem fr9_0 (g : Nat → Nat) : (fun _ => none : Nat → Option Nat) = fr9 0 g := by
  funext j
  unfold fr9
  rw [if_neg (by omega)]
theorem VT.tw {κ : KX} {A9 : Nat → Prop} {tw tw2 : va_W} {c d c2 d2 nL : Nat} {M : Mem} {l : LSt} {st : List Value} {pc : Nat} (h : tw = tw2) (hc : c = c2) (hd : d = d2) (h2 : VT κ [] A9 tw2 c2 d2 nL M l st pc) : VT κ [] A9 tw c d nL M l st pc := by
  rw [h, hc, hd]; exact h2
def fB9 (E : EX) (a qb qh qv c c1 c2 c3 : Nat) (fb fh fv : Nat → Option Nat) : va_W := [(a, .inr (2, [.ref qb, .int 0, .ref qh, .int 0, .ref qv, .int 0, .ref c, .int 0, .int 1, .int (-1), .int 0])), (qb, .inl (E.cy 1, pRefs 8 fb)), (qh, .inl (E.cy 2, pRefs 12 fh)), (qv, .inl (E.cy 3, pRefs 16 fv)), (c, .inr (1, [.int 0, .ref c1, .ref c2, .ref c3])), (c1, .inl (E.cy 0, pInts 3 (fun _ => 0))), (c2, .inl (E.cy 0, pInts 3 (fun _ => 0))), (c3, .inl (E.cy 0, pInts 3 (fun _ => 0)))]
def bW (E : EX) (n : Nat) (g h : Nat → Nat) : va_W := (List.range n).flatMap (fun j => [((g j), .inr (0, [.int 0, .int 0, .int 0, .int 0, .int 0, .int 0, .int 0, .int 0, .ref (h j)])), ((h j), .inl (E.cy 0, pInts 16 (fun _ => 0)))])
theorem bW_succ (E : EX) (b : Nat) (g h : Nat → Nat) (q r : Nat) : bW E (b + 1) (ua g b q) (ua h b r) = bW E b g h ++ [(q, .inr (0, [.int 0, .int 0, .int 0, .int 0, .int 0, .int 0, .int 0, .int 0, .ref r])), (r, .inl (E.cy 0, pInts 16 (fun _ => 0)))] := by
  unfold bW
  rw [List.range_succ, List.flatMap_append, List.flatMap_cons, List.flatMap_nil, List.append_nil]
  have e : ua g b q b = q := by unfold ua; rw [if_pos rfl]
  have e2 : ua h b r b = r := by unfold ua; rw [if_pos rfl]
  rw [e, e2]
  refine congrArg (· ++ _) ?_
  refine fm_congr _ _ _ (fun j hj => ?_)
  have hj := List.mem_range.mp hj
  have e3 : ua g b q j = g j := by unfold ua; rw [if_neg (by omega)]
  have e4 : ua h b r j = h j := by unfold ua; rw [if_neg (by omega)]
  rw [e3, e4]
def hW (E : EX) (n : Nat) (g h : Nat → Nat) : va_W := (List.range n).flatMap (fun j => [((g j), .inr (3, [.int 0, .int 0, .int 0]))])
theorem hW_succ (E : EX) (b : Nat) (g h : Nat → Nat) (q r : Nat) : hW E (b + 1) (ua g b q) (ua h b r) = hW E b g h ++ [(q, .inr (3, [.int 0, .int 0, .int 0]))] := by
  unfold hW
  rw [List.range_succ, List.flatMap_append, List.flatMap_cons, List.flatMap_nil, List.append_nil]
  have e : ua g b q b = q := by unfold ua; rw [if_pos rfl]
  have e2 : ua h b r b = r := by unfold ua; rw [if_pos rfl]
  rw [e]
  refine congrArg (· ++ _) ?_
  refine fm_congr _ _ _ (fun j hj => ?_)
  have hj := List.mem_range.mp hj
  have e3 : ua g b q j = g j := by unfold ua; rw [if_neg (by omega)]
  have e4 : ua h b r j = h j := by unfold ua; rw [if_neg (by omega)]
  rw [e3]
def vW (E : EX) (n : Nat) (g h : Nat → Nat) : va_W := (List.range n).flatMap (fun j => [((g j), .inr (4, [.int 0, .int 0, .int 0, .int 0, .int 0, .int 0, .int 0, .int 0, .ref (h j)])), ((h j), .inl (E.cy 0, pInts 8 (fun _ => 0)))])
theorem vW_succ (E : EX) (b : Nat) (g h : Nat → Nat) (q r : Nat) : vW E (b + 1) (ua g b q) (ua h b r) = vW E b g h ++ [(q, .inr (4, [.int 0, .int 0, .int 0, .int 0, .int 0, .int 0, .int 0, .int 0, .ref r])), (r, .inl (E.cy 0, pInts 8 (fun _ => 0)))] := by
  unfold vW
  rw [List.range_succ, List.flatMap_append, List.flatMap_cons, List.flatMap_nil, List.append_nil]
  have e : ua g b q b = q := by unfold ua; rw [if_pos rfl]
  have e2 : ua h b r b = r := by unfold ua; rw [if_pos rfl]
  rw [e, e2]
  refine congrArg (· ++ _) ?_
  refine fm_congr _ _ _ (fun j hj => ?_)
  have hj := List.mem_range.mp hj
  have e3 : ua g b q j = g j := by unfold ua; rw [if_neg (by omega)]
  have e4 : ua h b r j = h j := by unfold ua; rw [if_neg (by omega)]
  rw [e3, e4]
theorem n2b {κ : KX} {a qb qh qv c c1 c2 c3 : Nat} {Q : va_W → Prop} (G : Good κ [] cX2_init 2 RX2 2 32) (E9 : EndsN κ a Q 67 557) (hA9 : ∀ q, κ.s.heap.size ≤ q → NA a κ.s.heap.size q) {X : va_W} {f2 f3 : Nat → Option Nat} (h : ∀ g k, VT κ [] (NA a κ.s.heap.size) (fB9 κ.E a qb qh qv c c1 c2 c3 (fr9 8 g) f2 f3 ++ (X ++ bW κ.E 8 g k)) 23 249 2 M00 [some (.ref a), some (.int (nI 8))] [] 79) : ∀ n b g k, n + b = 8 → VT κ [] (NA a κ.s.heap.size) (fB9 κ.E a qb qh qv c c1 c2 c3 (fr9 b g) f2 f3 ++ (X ++ bW κ.E b g k)) (7 + 2 * b) (49 + 25 * b) 2 M00 [some (.ref a), some (.int (nI b))] [] 54 := by
  have hc9 := E9.2.1
  have hd9 := E9.2.2.1
  intro n
  induction n with
  | zero =>
    intro b g k hb
    have hb : b = 8 := by omega
    subst hb
    refine tt_iload_n G dX2_init_54 rfl ?_
    refine tt_bipush (v := 8) G dX2_init_55 (by decide) ?_
    refine tt_icmp_ge G 79 dX2_init_57 (by decide) (fun _ => ?_) (fun z => absurd (by decide) z)
    exact h g k
  | succ n ih =>
    intro b g k hb
    refine tt_iload_n G dX2_init_54 rfl ?_
    refine tt_bipush (v := 8) G dX2_init_55 (by decide) ?_
    refine tt_icmp_ge G 79 dX2_init_57 (by decide) (fun z => absurd z (nI_ge (a := b) (b := 8) (by omega) (by decide))) (fun _ => ?_)
    refine tt_aload_n G dX2_init_60 rfl ?_
    refine tn_get (T := TX2) (k := 0) G (j := 0) rfl uX2 rfl (by decide) (by decide +kernel) rfl dX2_init_61 ?_
    refine tt_iload_n G dX2_init_64 rfl ?_
    refine tn_new (T := TX0) (fs := [.int 0, .int 0, .int 0, .int 0, .int 0, .int 0, .int 0, .int 0, .null]) (ci := 0) G hA9 uX0 tyX0 tyX0_ok (by decide +kernel) (by decide +kernel) (by decide +kernel) rfl (by decide) (by omega) (by omega) dX2_init_65 (fun q => ?_)
    refine tt_dup G dX2_init_68 rfl ?_
    refine tn_initN G hA9 E9.2.2.2.1 (n0 κ.E q) (E9.2.2.2.1.2.2.2 (43, yX0_init) (by decide)) (by decide +kernel) (by decide +kernel) (by decide +kernel) (by decide +kernel) rfl (by decide) (by omega) (by omega) (Nat.le_of_ble_eq_true rfl) dX2_init_69 (fun tw2 htw => ?_)
    obtain ⟨r, rfl⟩ := htw
    refine tn_aast G (j := 1) (t0 := 1) (qk := (fB9 κ.E a qb qh qv c c1 c2 c3 (fr9 b g) f2 f3 ++ (X ++ bW κ.E b g k)).length) (ci := 0) (r := (RX0, TX0, 9)) rfl rfl (by rw [List.getElem?_append_right (Nat.le_refl _), Nat.sub_self]; rfl) rfl rfl (show b < 8 by omega) (by decide) dX2_init_72 ?_
    refine tt_iinc G dX2_init_73 rfl (by decide) rfl (nI_1 b) ?_
    refine tt_goto G 54 dX2_init_76 (by decide) ?_
    refine VT.tw ?_ (by omega) (by omega) (ih (b + 1) (ua g b q) (ua k b r) (by omega))
    rw [bW_succ, ← fr9_up]
    exact congrArg (fun t : va_W => fB9 κ.E a qb qh qv c c1 c2 c3 (va_up (fr9 b g) b (some q)) f2 f3 ++ t) (List.append_assoc X _ _)
theorem n2h {κ : KX} {a qb qh qv c c1 c2 c3 : Nat} {Q : va_W → Prop} (G : Good κ [] cX2_init 2 RX2 2 32) (E9 : EndsN κ a Q 67 557) (hA9 : ∀ q, κ.s.heap.size ≤ q → NA a κ.s.heap.size q) {X : va_W} {f2 f3 : Nat → Option Nat} (h : ∀ g k, VT κ [] (NA a κ.s.heap.size) (fB9 κ.E a qb qh qv c c1 c2 c3 f2 (fr9 12 g) f3 ++ (X ++ hW κ.E 12 g k)) 35 285 2 M00 [some (.ref a), some (.int (nI 12))] [] 106) : ∀ n b g k, n + b = 12 → VT κ [] (NA a κ.s.heap.size) (fB9 κ.E a qb qh qv c c1 c2 c3 f2 (fr9 b g) f3 ++ (X ++ hW κ.E b g k)) (23 + 1 * b) (249 + 3 * b) 2 M00 [some (.ref a), some (.int (nI b))] [] 81 := by
  have hc9 := E9.2.1
  have hd9 := E9.2.2.1
  intro n
  induction n with
  | zero =>
    intro b g k hb
    have hb : b = 12 := by omega
    subst hb
    refine tt_iload_n G dX2_init_81 rfl ?_
    refine tt_bipush (v := 12) G dX2_init_82 (by decide) ?_
    refine tt_icmp_ge G 106 dX2_init_84 (by decide) (fun _ => ?_) (fun z => absurd (by decide) z)
    exact h g k
  | succ n ih =>
    intro b g k hb
    refine tt_iload_n G dX2_init_81 rfl ?_
    refine tt_bipush (v := 12) G dX2_init_82 (by decide) ?_
    refine tt_icmp_ge G 106 dX2_init_84 (by decide) (fun z => absurd z (nI_ge (a := b) (b := 12) (by omega) (by decide))) (fun _ => ?_)
    refine tt_aload_n G dX2_init_87 rfl ?_
    refine tn_get (T := TX2) (k := 2) G (j := 0) rfl uX2 rfl (by decide) (by decide +kernel) rfl dX2_init_88 ?_
    refine tt_iload_n G dX2_init_91 rfl ?_
    refine tn_new (T := TX3) (fs := [.int 0, .int 0, .int 0]) (ci := 3) G hA9 uX3 tyX3 tyX3_ok (by decide +kernel) (by decide +kernel) (by decide +kernel) rfl (by decide) (by omega) (by omega) dX2_init_92 (fun q => ?_)
    refine tt_dup G dX2_init_95 rfl ?_
    refine tn_initN G hA9 E9.2.2.2.1 (n3 κ.E q) (E9.2.2.2.1.2.2.2 (44, yX3_init) (by decide)) (by decide +kernel) (by decide +kernel) (by decide +kernel) (by decide +kernel) rfl (by decide) (by omega) (by omega) (Nat.le_of_ble_eq_true rfl) dX2_init_96 (fun tw2 htw => ?_)
    subst htw
    refine tn_aast G (j := 2) (t0 := 2) (qk := (fB9 κ.E a qb qh qv c c1 c2 c3 f2 (fr9 b g) f3 ++ (X ++ hW κ.E b g k)).length) (ci := 3) (r := (RX3, TX3, 3)) rfl rfl (by rw [List.getElem?_append_right (Nat.le_refl _), Nat.sub_self]; rfl) rfl rfl (show b < 12 by omega) (by decide) dX2_init_99 ?_
    refine tt_iinc G dX2_init_100 rfl (by decide) rfl (nI_1 b) ?_
    refine tt_goto G 81 dX2_init_103 (by decide) ?_
    refine VT.tw ?_ (by omega) (by omega) (ih (b + 1) (ua g b q) (ua k b 0) (by omega))
    rw [hW_succ, ← fr9_up]
    exact congrArg (fun t : va_W => fB9 κ.E a qb qh qv c c1 c2 c3 f2 (va_up (fr9 b g) b (some q)) f3 ++ t) (List.append_assoc X _ _)
theorem n2v {κ : KX} {a qb qh qv c c1 c2 c3 : Nat} {Q : va_W → Prop} (G : Good κ [] cX2_init 2 RX2 2 32) (E9 : EndsN κ a Q 67 557) (hA9 : ∀ q, κ.s.heap.size ≤ q → NA a κ.s.heap.size q) {X : va_W} {f2 f3 : Nat → Option Nat} (h : ∀ g k, VT κ [] (NA a κ.s.heap.size) (fB9 κ.E a qb qh qv c c1 c2 c3 f2 f3 (fr9 16 g) ++ (X ++ vW κ.E 16 g k)) 67 557 2 M00 [some (.ref a), some (.int (nI 16))] [] 133) : ∀ n b g k, n + b = 16 → VT κ [] (NA a κ.s.heap.size) (fB9 κ.E a qb qh qv c c1 c2 c3 f2 f3 (fr9 b g) ++ (X ++ vW κ.E b g k)) (35 + 2 * b) (285 + 17 * b) 2 M00 [some (.ref a), some (.int (nI b))] [] 108 := by
  have hc9 := E9.2.1
  have hd9 := E9.2.2.1
  intro n
  induction n with
  | zero =>
    intro b g k hb
    have hb : b = 16 := by omega
    subst hb
    refine tt_iload_n G dX2_init_108 rfl ?_
    refine tt_bipush (v := 16) G dX2_init_109 (by decide) ?_
    refine tt_icmp_ge G 133 dX2_init_111 (by decide) (fun _ => ?_) (fun z => absurd (by decide) z)
    exact h g k
  | succ n ih =>
    intro b g k hb
    refine tt_iload_n G dX2_init_108 rfl ?_
    refine tt_bipush (v := 16) G dX2_init_109 (by decide) ?_
    refine tt_icmp_ge G 133 dX2_init_111 (by decide) (fun z => absurd z (nI_ge (a := b) (b := 16) (by omega) (by decide))) (fun _ => ?_)
    refine tt_aload_n G dX2_init_114 rfl ?_
    refine tn_get (T := TX2) (k := 4) G (j := 0) rfl uX2 rfl (by decide) (by decide +kernel) rfl dX2_init_115 ?_
    refine tt_iload_n G dX2_init_118 rfl ?_
    refine tn_new (T := TX4) (fs := [.int 0, .int 0, .int 0, .int 0, .int 0, .int 0, .int 0, .int 0, .null]) (ci := 4) G hA9 uX4 tyX4 tyX4_ok (by decide +kernel) (by decide +kernel) (by decide +kernel) rfl (by decide) (by omega) (by omega) dX2_init_119 (fun q => ?_)
    refine tt_dup G dX2_init_122 rfl ?_
    refine tn_initN G hA9 E9.2.2.2.1 (n4 κ.E q) (E9.2.2.2.1.2.2.2 (45, yX4_init) (by decide)) (by decide +kernel) (by decide +kernel) (by decide +kernel) (by decide +kernel) rfl (by decide) (by omega) (by omega) (Nat.le_of_ble_eq_true rfl) dX2_init_123 (fun tw2 htw => ?_)
    obtain ⟨r, rfl⟩ := htw
    refine tn_aast G (j := 3) (t0 := 3) (qk := (fB9 κ.E a qb qh qv c c1 c2 c3 f2 f3 (fr9 b g) ++ (X ++ vW κ.E b g k)).length) (ci := 4) (r := (RX4, TX4, 9)) rfl rfl (by rw [List.getElem?_append_right (Nat.le_refl _), Nat.sub_self]; rfl) rfl rfl (show b < 16 by omega) (by decide) dX2_init_126 ?_
    refine tt_iinc G dX2_init_127 rfl (by decide) rfl (nI_1 b) ?_
    refine tt_goto G 108 dX2_init_130 (by decide) ?_
    refine VT.tw ?_ (by omega) (by omega) (ih (b + 1) (ua g b q) (ua k b r) (by omega))
    rw [vW_succ, ← fr9_up]
    exact congrArg (fun t : va_W => fB9 κ.E a qb qh qv c c1 c2 c3 f2 f3 (va_up (fr9 b g) b (some q)) ++ t) (List.append_assoc X _ _)
theorem PW_P {ids ids2 : List Pid} {ad : Pid → Nat} {cl : List vw_C} {c c2 : Pid → va_E} {D : va_G} {H : Heap} (hs : ∀ i, i ∈ ids2 → i ∈ ids) (hc : ∀ i, i ∈ ids2 → va_at D cl (ad i, c i) H → va_at D cl (ad i, c2 i) H) (h : va_P D cl (PW ids ad c) H) : va_P D cl (PW ids2 ad c2) H := fun k q hq => by
  have hq := List.mem_of_getElem? hq
  obtain ⟨i, hi, rfl⟩ := List.mem_map.mp hq
  obtain ⟨k2, hk2⟩ := List.getElem?_of_mem (hs i hi)
  exact hc i hi (h k2 (ad i, c i) (by simp [PW, hk2]))
theorem PW_in {ids : List Pid} {ad : Pid → Nat} {c : Pid → va_E} {A : Nat → Prop} (h : va_D A (PW ids ad c)) : (∀ i, i ∈ ids → A (ad i)) ∧ ∀ i, i ∈ ids → ∀ j, j ∈ ids → ad i = ad j → i = j := by
  refine ⟨fun i hi => ?_, fun i hi j hj hij => ?_⟩
  · obtain ⟨k, hk⟩ := List.getElem?_of_mem hi
    exact h.2 k (ad i, c i) (by simp [PW, hk])
  · obtain ⟨k, hk⟩ := List.getElem?_of_mem hi
    obtain ⟨n, hn⟩ := List.getElem?_of_mem hj
    have e := h.1 k n (ad i, c i) (ad j, c j) (by simp [PW, hk]) (by simp [PW, hn]) hij
    subst e
    exact Option.some.inj (hk.symm.trans hn)
theorem PW_of {ids : List Pid} {ad : Pid → Nat} {c : Pid → va_E} {A : Nat → Prop} (hn : ids.Nodup) (h1 : ∀ i, i ∈ ids → A (ad i)) (h2 : ∀ i, i ∈ ids → ∀ j, j ∈ ids → ad i = ad j → i = j) : va_D A (PW ids ad c) := by
  refine ⟨fun k n p q hp hq hpq => ?_, fun k q hq => ?_⟩
  · simp only [PW, List.getElem?_map, Option.map_eq_some_iff] at hp hq
    obtain ⟨i, hi, rfl⟩ := hp
    obtain ⟨j, hj, rfl⟩ := hq
    have e := h2 i (List.mem_of_getElem? hi) j (List.mem_of_getElem? hj) hpq
    subst e
    have hk := (List.getElem?_eq_some_iff.mp hi).1
    have hl := (List.getElem?_eq_some_iff.mp hj).1
    rcases Nat.lt_trichotomy k n with q | q | q
    · exact absurd ((List.getElem?_eq_some_iff.mp hi).2.trans (List.getElem?_eq_some_iff.mp hj).2.symm) (List.pairwise_iff_getElem.mp hn k n hk hl q)
    · exact q
    · exact absurd ((List.getElem?_eq_some_iff.mp hj).2.trans (List.getElem?_eq_some_iff.mp hi).2.symm) (List.pairwise_iff_getElem.mp hn n k hl hk q)
  · obtain ⟨i, hi, rfl⟩ := List.mem_map.mp (List.mem_of_getElem? hq)
    exact h1 i hi
def adF (a qb qh qv c c1 c2 c3 : Nat) (aB aQ aH aV aP : Nat → Nat) : Pid → Nat
  | (1, _, _) => a
  | (2, _, b) => aB b
  | (3, _, h) => aH h
  | (4, _, v) => aV v
  | (5, _, _) => c
  | (6, _, _) => qb
  | (7, _, _) => qh
  | (8, _, _) => qv
  | (9, _, b) => aQ b
  | (10, _, v) => aP v
  | (11, _, _) => c1
  | (12, _, _) => c2
  | (13, _, _) => c3
  | _ => 0
def M0 : Mem := fun i k => if i.1 = 1 then (if k = 8 then 1 else if k = 9 then -1 else 0) else 0
def ordF : List Pid := [(1, 0, 0), (6, 0, 0), (7, 0, 0), (8, 0, 0), (5, 0, 0), (11, 0, 0), (12, 0, 0), (13, 0, 0)] ++ (((List.range 8).flatMap (fun b => [(2, 0, b), (9, 0, b)]) ++ (List.range 12).flatMap (fun h => [(3, 0, h)])) ++ (List.range 16).flatMap (fun v => [(4, 0, v), (10, 0, v)]))
def celP (ad : Pid → Nat) (cy : Nat → ClassId) : Pid → va_E
  | (6, f, _) => .inl (cy 1, pRefs 8 (fr9 8 (fun j => ad (2, f, j))))
  | (7, f, _) => .inl (cy 2, pRefs 12 (fr9 12 (fun j => ad (3, f, j))))
  | (8, f, _) => .inl (cy 3, pRefs 16 (fr9 16 (fun j => ad (4, f, j))))
  | i => celF ad cy M0 i
theorem fr9_lt {n : Nat} {g : Nat → Nat} : ∀ j, j < n → fr9 n g j = some (g j) := fun j hj => by
  unfold fr9
  rw [if_pos hj]
theorem celP_celF {ad : Pid → Nat} {cy : Nat → ClassId} {D : va_G} {H : Heap} : ∀ i, i ∈ idsF 0 → va_at D vwCl (ad i, celP ad cy i) H → va_at D vwCl (ad i, celF ad cy M0 i) H := by
  intro i hi h
  obtain ⟨t, f, x⟩ := i
  by_cases h6 : t = 6
  · subst h6; exact at_refs fr9_lt h
  · by_cases h7 : t = 7
    · subst h7; exact at_refs fr9_lt h
    · by_cases h8 : t = 8
      · subst h8; exact at_refs fr9_lt h
      · have e : celP ad cy (t, f, x) = celF ad cy M0 (t, f, x) := by
          unfold celP
          split
          · rename_i heq; cases heq; exact absurd rfl h6
          · rename_i heq; cases heq; exact absurd rfl h7
          · rename_i heq; cases heq; exact absurd rfl h8
          · rfl
        rw [← e]; exact h
theorem idsF_ord : ∀ i, i ∈ idsF 0 → i ∈ ordF := by decide +kernel
theorem idsF_nd : (idsF 0).Nodup := by decide +kernel
theorem fW_eq (E : EX) (a qb qh qv c c1 c2 c3 : Nat) (aB aQ aH aV aP kH : Nat → Nat) : fB9 E a qb qh qv c c1 c2 c3 (fr9 8 aB) (fr9 12 aH) (fr9 16 aV) ++ ((bW E 8 aB aQ ++ hW E 12 aH kH) ++ vW E 16 aV aP) = PW ordF (adF a qb qh qv c c1 c2 c3 aB aQ aH aV aP) (celP (adF a qb qh qv c c1 c2 c3 aB aQ aH aV aP) E.cy) := rfl
theorem n2 (E : EX) (a : Nat) : RetN E yX2_init cX2_init 2 2 32 67 557 a (.inr (2, [.null, .int 0, .null, .int 0, .null, .int 0, .null, .int 0, .int 0, .int 0, .int 0])) (fun tw => ∃ ad : Pid → Nat, ad (1, 0, 0) = a ∧ tw = PW (idsF 0) ad (celF ad E.cy M0)) := by
  refine RetN_of RX2 (by decide) rfl rfl ([some (.ref a), none]) rfl (by decide) (fun κ hE G E9 hA9 => ?_)
  subst hE
  have hc9 := E9.2.1
  have hd9 := E9.2.2.1
  refine tt_aload_n G dX2_init_0 rfl ?_
  refine tn_obj G (index := 3) (by decide +kernel) (by decide) dX2_init_1 ?_
  refine tt_aload_n G dX2_init_4 rfl ?_
  refine tt_bipush (v := 8) G dX2_init_5 (by decide) ?_
  refine tn_newq G hA9 (n := 8) (t0 := 1) (C := RX0) rfl (by decide) rfl (by decide +kernel) E9.2.2.2.1.1 (by omega) (by omega) dX2_init_7 (fun q7 => ?_)
  refine tn_putF (T := TX2) (k := 0) (ty := .array (.object RX0)) G E9 (j := 0) rfl uX2 tyX2 tyX2_ok nmX2 rfl (by decide) (by decide +kernel) rfl rfl rfl rfl rfl (Nat.le_of_ble_eq_true rfl) dX2_init_10 ?_
  refine tt_aload_n G dX2_init_13 rfl ?_
  refine tt_bipush (v := 12) G dX2_init_14 (by decide) ?_
  refine tn_newq G hA9 (n := 12) (t0 := 2) (C := RX3) rfl (by decide) rfl (by decide +kernel) E9.2.2.2.1.2.1 (by omega) (by omega) dX2_init_16 (fun q16 => ?_)
  refine tn_putF (T := TX2) (k := 2) (ty := .array (.object RX3)) G E9 (j := 0) rfl uX2 tyX2 tyX2_ok nmX2 rfl (by decide) (by decide +kernel) rfl rfl rfl rfl rfl (Nat.le_of_ble_eq_true rfl) dX2_init_19 ?_
  refine tt_aload_n G dX2_init_22 rfl ?_
  refine tt_bipush (v := 16) G dX2_init_23 (by decide) ?_
  refine tn_newq G hA9 (n := 16) (t0 := 3) (C := RX4) rfl (by decide) rfl (by decide +kernel) E9.2.2.2.1.2.2.1 (by omega) (by omega) dX2_init_25 (fun q25 => ?_)
  refine tn_putF (T := TX2) (k := 4) (ty := .array (.object RX4)) G E9 (j := 0) rfl uX2 tyX2 tyX2_ok nmX2 rfl (by decide) (by decide +kernel) rfl rfl rfl rfl rfl (Nat.le_of_ble_eq_true rfl) dX2_init_28 ?_
  refine tt_aload_n G dX2_init_31 rfl ?_
  refine tn_new (T := TX1) (fs := [.int 0, .null, .null, .null]) (ci := 1) G hA9 uX1 tyX1 tyX1_ok (by decide +kernel) (by decide +kernel) (by decide +kernel) rfl (by decide) (by omega) (by omega) dX2_init_32 (fun q32 => ?_)
  refine tt_dup G dX2_init_35 rfl ?_
  refine tn_initN G hA9 E9.2.2.2.1 (n1 κ.E q32) (E9.2.2.2.1.2.2.2 (31, yX1_init) (by decide)) (by decide +kernel) (by decide +kernel) (by decide +kernel) (by decide +kernel) rfl (by decide) (by omega) (by omega) (Nat.le_of_ble_eq_true rfl) dX2_init_36 (fun tw2 htw => ?_)
  obtain ⟨r1, r2, r3, rfl⟩ := htw
  refine tn_putF (T := TX2) (k := 6) (ty := .object RX1) G E9 (j := 0) rfl uX2 tyX2 tyX2_ok nmX2 rfl (by decide) (by decide +kernel) rfl rfl rfl rfl rfl (Nat.le_of_ble_eq_true rfl) dX2_init_39 ?_
  refine tt_aload_n G dX2_init_42 rfl ?_
  refine tt_iconst (v := 1) G dX2_init_43 (by decide) ?_
  refine tn_put (T := TX2) (k := 8) (ty := .int) G (j := 0) rfl uX2 tyX2 tyX2_ok nmX2 rfl (by decide) (by decide +kernel) rfl rfl rfl rfl (Nat.le_of_ble_eq_true rfl) dX2_init_44 ?_
  refine tt_aload_n G dX2_init_47 rfl ?_
  refine tt_iconst (v := (-1)) G dX2_init_48 (by decide) ?_
  refine tn_put (T := TX2) (k := 9) (ty := .int) G (j := 0) rfl uX2 tyX2 tyX2_ok nmX2 rfl (by decide) (by decide +kernel) rfl rfl rfl rfl (Nat.le_of_ble_eq_true rfl) dX2_init_49 ?_
  refine tt_iconst (v := nI 0) G dX2_init_52 (by decide) ?_
  refine tt_istore_n G dX2_init_53 (by decide) rfl ?_
  refine VT.tw (tw2 := fB9 κ.E a q7 q16 q25 q32 r1 r2 r3 (fr9 0 (fun _ => 0)) (fr9 0 (fun _ => 0)) (fr9 0 (fun _ => 0)) ++ ([] ++ bW κ.E 0 (fun _ => 0) (fun _ => 0))) (c2 := 7 + 2 * 0) (d2 := 49 + 25 * 0) ?_ rfl rfl ?_
  · rw [← fr9_0]; rfl
  refine n2b G E9 hA9 (fun aB aQ => ?_) 8 0 _ _ rfl
  refine tt_iconst (v := nI 0) G dX2_init_79 (by decide) ?_
  refine tt_istore_n G dX2_init_80 (by decide) rfl ?_
  refine VT.tw (tw2 := fB9 κ.E a q7 q16 q25 q32 r1 r2 r3 (fr9 8 aB) (fr9 0 (fun _ => 0)) (fr9 0 (fun _ => 0)) ++ (bW κ.E 8 aB aQ ++ hW κ.E 0 (fun _ => 0) (fun _ => 0))) (c2 := 23 + 1 * 0) (d2 := 249 + 3 * 0) rfl rfl rfl ?_
  refine n2h G E9 hA9 (fun aH kH => ?_) 12 0 _ _ rfl
  refine tt_iconst (v := nI 0) G dX2_init_106 (by decide) ?_
  refine tt_istore_n G dX2_init_107 (by decide) rfl ?_
  refine VT.tw (tw2 := fB9 κ.E a q7 q16 q25 q32 r1 r2 r3 (fr9 8 aB) (fr9 12 aH) (fr9 0 (fun _ => 0)) ++ ((bW κ.E 8 aB aQ ++ hW κ.E 12 aH kH) ++ vW κ.E 0 (fun _ => 0) (fun _ => 0))) (c2 := 35 + 2 * 0) (d2 := 285 + 17 * 0) rfl rfl rfl ?_
  refine n2v G E9 hA9 (fun aV aP => ?_) 16 0 _ _ rfl
  refine tn_vret G E9 dX2_init_133 (by decide) (by decide) _ ⟨adF a q7 q16 q25 q32 r1 r2 r3 aB aQ aH aV aP, rfl, rfl⟩ (fun H hP => ?_) (fun A hD => ?_)
  · rw [fW_eq] at hP
    exact PW_P idsF_ord celP_celF hP
  · rw [fW_eq] at hD
    obtain ⟨h1, h2⟩ := PW_in hD
    exact PW_of idsF_nd (fun i hi => h1 i (idsF_ord i hi)) (fun i hi j hj => h2 i (idsF_ord i hi) j (idsF_ord j hj))
theorem n5 (E : EX) (a : Nat) : RetN E yX5_init cX5_init 1 3 53 136 1136 a (.inr (5, [.null, .null])) (fun tw => ∃ ad1 ad2 : Pid → Nat, tw = (a, .inr (5, [.ref (ad1 (1, 0, 0)), .ref (ad2 (1, 0, 0))])) :: (PW (idsF 0) ad1 (celF ad1 E.cy M0) ++ PW (idsF 0) ad2 (celF ad2 E.cy M0))) := by
  refine RetN_of RX5 (by decide) rfl rfl ([some (.ref a)]) rfl (by decide) (fun κ hE G E9 hA9 => ?_)
  subst hE
  have hc9 := E9.2.1
  have hd9 := E9.2.2.1
  refine tt_aload_n G dX5_init_0 rfl ?_
  refine tn_obj G (index := 1) (by decide +kernel) (by decide) dX5_init_1 ?_
  refine tt_aload_n G dX5_init_4 rfl ?_
  refine tn_new (T := TX2) (fs := [.null, .int 0, .null, .int 0, .null, .int 0, .null, .int 0, .int 0, .int 0, .int 0]) (ci := 2) G hA9 uX2 tyX2 tyX2_ok (by decide +kernel) (by decide +kernel) (by decide +kernel) rfl (by decide) (by omega) (by omega) dX5_init_5 (fun q0 => ?_)
  refine tt_dup G dX5_init_8 rfl ?_
  refine tn_init G hA9 E9.2.2.2.1 (n2 κ.E q0) (by decide +kernel) (by decide +kernel) (by decide +kernel) (by decide +kernel) (by decide +kernel) rfl (by decide) (by omega) (by omega) (Nat.le_of_ble_eq_true rfl) dX5_init_9 (fun tw2 htw => ?_)
  obtain ⟨ad0, rfl, rfl⟩ := htw
  refine tn_putF (T := TX5) (k := 0) (ty := .object RX2) G E9 (j := 0) rfl uX5 tyX5 tyX5_ok nmX5 rfl (by decide) (by decide +kernel) rfl rfl rfl rfl rfl (Nat.le_of_ble_eq_true rfl) dX5_init_12 ?_
  refine tt_aload_n G dX5_init_15 rfl ?_
  refine tn_new (T := TX2) (fs := [.null, .int 0, .null, .int 0, .null, .int 0, .null, .int 0, .int 0, .int 0, .int 0]) (ci := 2) G hA9 uX2 tyX2 tyX2_ok (by decide +kernel) (by decide +kernel) (by decide +kernel) rfl (by decide) (by omega) (by omega) dX5_init_16 (fun q1 => ?_)
  refine tt_dup G dX5_init_19 rfl ?_
  refine tn_init G hA9 E9.2.2.2.1 (n2 κ.E q1) (by decide +kernel) (by decide +kernel) (by decide +kernel) (by decide +kernel) (by decide +kernel) rfl (by decide) (by omega) (by omega) (Nat.le_of_ble_eq_true rfl) dX5_init_20 (fun tw2 htw => ?_)
  obtain ⟨ad1, rfl, rfl⟩ := htw
  refine tn_putF (T := TX5) (k := 1) (ty := .object RX2) G E9 (j := 0) rfl uX5 tyX5 tyX5_ok nmX5 rfl (by decide) (by decide +kernel) rfl rfl rfl rfl rfl (Nat.le_of_ble_eq_true rfl) dX5_init_23 ?_
  refine tn_vret0 G E9 dX5_init_26 (by decide) (by decide) ⟨ad0, ad1, ?_⟩
  rfl
