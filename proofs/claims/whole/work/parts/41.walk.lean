/-! ===== the law: one walk ===== -/
/-- program, constants, environment, start; the method, frames below, its row and code; the script; the row of one long and its class -/
abbrev LX : Type := (Program × EX × Env × State) × (MethodId × List Frame × Method × Code) × (Nat × Nat × (Nat → Int32)) × (Nat × ClassId)
abbrev LX.p (z : LX) : Program := z.1.1
abbrev LX.E (z : LX) : EX := z.1.2.1
abbrev LX.e (z : LX) : Env := z.1.2.2.1
abbrev LX.s (z : LX) : State := z.1.2.2.2
abbrev LX.m (z : LX) : MethodId := z.2.1.1
abbrev LX.below (z : LX) : List Frame := z.2.1.2.1
abbrev LX.meth (z : LX) : Method := z.2.1.2.2.1
abbrev LX.c (z : LX) : Code := z.2.1.2.2.2
abbrev LX.b (z : LX) : Nat := z.2.2.1.1
abbrev LX.L (z : LX) : Nat := z.2.2.1.2.1
abbrev LX.xs (z : LX) : Nat → Int32 := z.2.2.1.2.2
abbrev LX.o (z : LX) : Nat := z.2.2.2.1
abbrev LX.cL (z : LX) : ClassId := z.2.2.2.2
abbrev LX.A (z : LX) : Nat → Prop := fun q => z.s.heap.size ≤ q
def LWd (z : LX) (Mc Mr : Mem) (f : Nat → Int64) : va_W := PW idsC z.E.ad (z.E.cel Mc) ++ (PW idsR z.E.ad (z.E.cel Mr) ++ tO z.o z.cL f)
/-- what is so all the way -/
def LG (z : LX) : Prop := z.p.tables.exec = Jvm.exec ∧ z.c.code = cL_law ∧ z.c.maxLocals = 9 ∧ z.meth.sig.returnType = ret ∧ z.meth.locks = false ∧ z.s.vm.findClass RL = some z.m.cls ∧ (∀ w ∈ ALL, w.before #[Value.ref z.b] z.s = true) ∧ va_K z.E.D vwCl (tysF z.E.cy) z.s ∧ va_X z.b z.L z.xs z.s z.s.heap ∧ z.b < z.s.heap.size ∧ z.L ≤ 2560 ∧ RQ z.s ∧ XFh z.A z.s z.s.heap ∧ XFq z.s ∧ CW z.s ∧ z.E.l.stackTraces = false ∧ LA z.cL z.s ∧ Inj z.E idsC ∧ Inj z.E idsR ∧ (∀ i, i ∈ idsC → ∀ j, j ∈ idsR → z.E.ad i ≠ z.E.ad j) ∧ (∀ i, i ∈ idsC → z.E.ad i ≠ z.o) ∧ (∀ i, i ∈ idsR → z.E.ad i ≠ z.o) ∧ (∀ i, i ∈ idsC → z.A (z.E.ad i)) ∧ (∀ i, i ∈ idsR → z.A (z.E.ad i)) ∧ z.A z.o
def LWK (z : LX) (cA sA : Nat) (Mc Mr : Mem) (f : Nat → Int64) (l : LSt) (st : List Value) (pc : Nat) : Prop :=
  ∀ (d0 : Drawn) (H : Heap) (locs : List Loc) (ls : Array Slot) (cells slots : Nat), z.s.drawn.sameBut d0 lw_cs → va_P z.E.D vwCl (LWd z Mc Mr f) H → va_S z.A z.s.heap H locs → LV ls 9 l → cells ≤ cA → slots ≤ sA → W z.p z.E.l z.e room_1 (z.s.setDrawn d0) z.m #[Value.ref z.b] z.below z.meth z.c H locs cells slots (lw_Z z.below #[Value.ref z.b] z.s) (F0 z.m pc ls st)
theorem va_P_app {D : va_G} {cl : List vw_C} {w1 w2 : va_W} {H : Heap} (h : va_P D cl (w1 ++ w2) H) : va_P D cl w1 H ∧ va_P D cl w2 H := ⟨fun i q hq => h i q (by rw [List.getElem?_append_left (List.getElem?_eq_some_iff.mp hq).1]; exact hq), fun i q hq => h (w1.length + i) q (by rw [List.getElem?_append_right (by omega), Nat.add_sub_cancel_left]; exact hq)⟩
theorem va_P_keep {D : va_G} {cl : List vw_C} {w : va_W} {H H1 : Heap} {A1 : Nat → Prop} (h : va_P D cl w H) (hno : ∀ (k : Nat) (q : Nat × va_E), w[k]? = some q → ¬ A1 q.1) (hk : ∀ q : Nat, q < H.size → ¬ A1 q → H1[q]? = H[q]?) : va_P D cl w H1 := h.kept (fun k q hq => hk q.1 (h k q hq).lt (hno k q hq))
section LAW
variable {z : LX} {cA sA : Nat} {Mc Mr : Mem} {f : Nat → Int64} {l : LSt} {st rest : List Value} {pc : Nat}

theorem LG.hx (G : LG z) : z.p.tables.exec = Jvm.exec := G.1
theorem LG.hb (G : LG z) : z.c.code = cL_law := G.2.1
theorem LG.hml (G : LG z) : z.c.maxLocals = 9 := G.2.2.1
theorem LG.hr (G : LG z) : z.meth.sig.returnType = ret := G.2.2.2.1
theorem LG.hlk (G : LG z) : z.meth.locks = false := G.2.2.2.2.1
theorem LG.hown (G : LG z) : z.s.vm.findClass RL = some z.m.cls := G.2.2.2.2.2.1
theorem LG.hw (G : LG z) : ∀ w ∈ ALL, w.before #[Value.ref z.b] z.s = true := G.2.2.2.2.2.2.1
theorem LG.hK (G : LG z) : va_K z.E.D vwCl (tysF z.E.cy) z.s := G.2.2.2.2.2.2.2.1
theorem LG.hX (G : LG z) : va_X z.b z.L z.xs z.s z.s.heap := G.2.2.2.2.2.2.2.2.1
theorem LG.hbl (G : LG z) : z.b < z.s.heap.size := G.2.2.2.2.2.2.2.2.2.1
theorem LG.hL (G : LG z) : z.L ≤ 2560 := G.2.2.2.2.2.2.2.2.2.2.1
theorem LG.hRQ (G : LG z) : RQ z.s := G.2.2.2.2.2.2.2.2.2.2.2.1
theorem LG.hXh (G : LG z) : XFh z.A z.s z.s.heap := G.2.2.2.2.2.2.2.2.2.2.2.2.1
theorem LG.hXq (G : LG z) : XFq z.s := G.2.2.2.2.2.2.2.2.2.2.2.2.2.1
theorem LG.hCW (G : LG z) : CW z.s := G.2.2.2.2.2.2.2.2.2.2.2.2.2.2.1
theorem LG.hfl (G : LG z) : z.E.l.stackTraces = false := G.2.2.2.2.2.2.2.2.2.2.2.2.2.2.2.1
theorem LG.hLA (G : LG z) : LA z.cL z.s := G.2.2.2.2.2.2.2.2.2.2.2.2.2.2.2.2.1
theorem LG.hIC (G : LG z) : Inj z.E idsC := G.2.2.2.2.2.2.2.2.2.2.2.2.2.2.2.2.2.1
theorem LG.hIR (G : LG z) : Inj z.E idsR := G.2.2.2.2.2.2.2.2.2.2.2.2.2.2.2.2.2.2.1
theorem LG.hsep (G : LG z) : ∀ i, i ∈ idsC → ∀ j, j ∈ idsR → z.E.ad i ≠ z.E.ad j := G.2.2.2.2.2.2.2.2.2.2.2.2.2.2.2.2.2.2.2.1
theorem LG.hnoC (G : LG z) : ∀ i, i ∈ idsC → z.E.ad i ≠ z.o := G.2.2.2.2.2.2.2.2.2.2.2.2.2.2.2.2.2.2.2.2.1
theorem LG.hnoR (G : LG z) : ∀ i, i ∈ idsR → z.E.ad i ≠ z.o := G.2.2.2.2.2.2.2.2.2.2.2.2.2.2.2.2.2.2.2.2.2.1
theorem LG.hAC (G : LG z) : ∀ i, i ∈ idsC → z.A (z.E.ad i) := G.2.2.2.2.2.2.2.2.2.2.2.2.2.2.2.2.2.2.2.2.2.2.1
theorem LG.hAR (G : LG z) : ∀ i, i ∈ idsR → z.A (z.E.ad i) := G.2.2.2.2.2.2.2.2.2.2.2.2.2.2.2.2.2.2.2.2.2.2.2.1
theorem LG.hAo (G : LG z) : z.A z.o := G.2.2.2.2.2.2.2.2.2.2.2.2.2.2.2.2.2.2.2.2.2.2.2.2
theorem ls_aload_n (G : LG z) {k : Fin 4} {x : Nat} (dg : decode cL_law pc = .ok (.aload_n k, 1)) (hi : l[(k : Nat)]? = some (some (.ref x))) (h : LWK z cA sA Mc Mr f l (.ref x :: st) (pc + 1)) : LWK z cA sA Mc Mr f l st pc := fun d0 H locs ls cells slots hd hP hS hl hc hs => lv_aload_n G.hx G.hb dg rfl (hl.rd hi) (h d0 H locs ls cells slots hd hP hS hl hc hs)
theorem ls_iload (G : LG z) {i : Nat} {x : Int32} (dg : decode cL_law pc = .ok (.iload i, 2)) (hi : l[i]? = some (some (.int x))) (h : LWK z cA sA Mc Mr f l (.int x :: st) (pc + 2)) : LWK z cA sA Mc Mr f l st pc := fun d0 H locs ls cells slots hd hP hS hl hc hs => lv_iload G.hx G.hb dg (hl.rd hi) (h d0 H locs ls cells slots hd hP hS hl hc hs)
theorem ls_dload (G : LG z) {i : Nat} {x : UInt64} (dg : decode cL_law pc = .ok (.dload i, 2)) (hi : l[i]? = some (some (.double x))) (h : LWK z cA sA Mc Mr f l (.double x :: st) (pc + 2)) : LWK z cA sA Mc Mr f l st pc := fun d0 H locs ls cells slots hd hP hS hl hc hs => lv_dload G.hx G.hb dg (hl.rd hi) (h d0 H locs ls cells slots hd hP hS hl hc hs)
theorem ls_iconst (G : LG z) {n : Int} {v : Int32} (dg : decode cL_law pc = .ok (.iconst n, 1)) (hv : Int32.ofInt n = v) (h : LWK z cA sA Mc Mr f l (.int v :: st) (pc + 1)) : LWK z cA sA Mc Mr f l st pc := fun d0 H locs ls cells slots hd hP hS hl hc hs => lv_iconst G.hx G.hb dg hv (h d0 H locs ls cells slots hd hP hS hl hc hs)
theorem ls_bipush (G : LG z) {n : Int} {v : Int32} (dg : decode cL_law pc = .ok (.bipush n, 2)) (hv : (Int8.ofInt n).toInt32 = v) (h : LWK z cA sA Mc Mr f l (.int v :: st) (pc + 2)) : LWK z cA sA Mc Mr f l st pc := fun d0 H locs ls cells slots hd hP hS hl hc hs => lv_bipush G.hx G.hb dg hv (h d0 H locs ls cells slots hd hP hS hl hc hs)
theorem ls_iadd (G : LG z) {x y : Int32} (dg : decode cL_law pc = .ok (.iadd, 1)) (h : LWK z cA sA Mc Mr f l (.int (x + y) :: st) (pc + 1)) : LWK z cA sA Mc Mr f l (.int y :: .int x :: st) pc := fun d0 H locs ls cells slots hd hP hS hl hc hs => lv_iadd G.hx G.hb dg (h d0 H locs ls cells slots hd hP hS hl hc hs)
theorem ls_isub (G : LG z) {x y : Int32} (dg : decode cL_law pc = .ok (.isub, 1)) (h : LWK z cA sA Mc Mr f l (.int (x - y) :: st) (pc + 1)) : LWK z cA sA Mc Mr f l (.int y :: .int x :: st) pc := fun d0 H locs ls cells slots hd hP hS hl hc hs => lv_isub G.hx G.hb dg (h d0 H locs ls cells slots hd hP hS hl hc hs)
theorem ls_iand (G : LG z) {x y : Int32} (dg : decode cL_law pc = .ok (.iand, 1)) (h : LWK z cA sA Mc Mr f l (.int (x &&& y) :: st) (pc + 1)) : LWK z cA sA Mc Mr f l (.int y :: .int x :: st) pc := fun d0 H locs ls cells slots hd hP hS hl hc hs => lv_iand G.hx G.hb dg (h d0 H locs ls cells slots hd hP hS hl hc hs)
theorem ls_i2l (G : LG z) {x : Int32} (dg : decode cL_law pc = .ok (.i2l, 1)) (h : LWK z cA sA Mc Mr f l (.long x.toInt64 :: st) (pc + 1)) : LWK z cA sA Mc Mr f l (.int x :: st) pc := fun d0 H locs ls cells slots hd hP hS hl hc hs => lv_i2l G.hx G.hb dg rfl (h d0 H locs ls cells slots hd hP hS hl hc hs)
theorem ls_goto (G : LG z) {off : Int} (tgt : Nat) (dg : decode cL_law pc = .ok (.goto off, 3)) (ht : (pc : Int) + off = (tgt : Int)) (h : LWK z cA sA Mc Mr f l st tgt) : LWK z cA sA Mc Mr f l st pc := fun d0 H locs ls cells slots hd hP hS hl hc hs => lv_goto G.hx G.hb dg ht (h d0 H locs ls cells slots hd hP hS hl hc hs)
theorem ls_icmp_gt (G : LG z) {x y : Int32} {off : Int} (tgt : Nat) (dg : decode cL_law pc = .ok (.if_icmp .gt off, 3)) (ht : (pc : Int) + off = (tgt : Int)) (kt : y < x → LWK z cA sA Mc Mr f l st tgt) (kf : ¬ y < x → LWK z cA sA Mc Mr f l st (pc + 3)) : LWK z cA sA Mc Mr f l (.int y :: .int x :: st) pc := fun d0 H locs ls cells slots hd hP hS hl hc hs => lv_icmp_gt G.hx G.hb dg ht (fun q => kt q d0 H locs ls cells slots hd hP hS hl hc hs) (fun q => kf q d0 H locs ls cells slots hd hP hS hl hc hs)
theorem ls_icmp_eq (G : LG z) {x y : Int32} {off : Int} (tgt : Nat) (dg : decode cL_law pc = .ok (.if_icmp .eq off, 3)) (ht : (pc : Int) + off = (tgt : Int)) (he : x = y) (kt : LWK z cA sA Mc Mr f l st tgt) : LWK z cA sA Mc Mr f l (.int y :: .int x :: st) pc := fun d0 H locs ls cells slots hd hP hS hl hc hs => lv_icmp_eq G.hx G.hb dg ht (fun _ => kt d0 H locs ls cells slots hd hP hS hl hc hs) (fun q => absurd he q)
theorem ls_if_ne (G : LG z) {x : Int32} {off : Int} (tgt : Nat) (dg : decode cL_law pc = .ok (.ifCond .ne off, 3)) (ht : (pc : Int) + off = (tgt : Int)) (kt : x ≠ 0 → LWK z cA sA Mc Mr f l st tgt) (kf : x = 0 → LWK z cA sA Mc Mr f l st (pc + 3)) : LWK z cA sA Mc Mr f l (.int x :: st) pc := fun d0 H locs ls cells slots hd hP hS hl hc hs => lv_if_ne G.hx G.hb dg ht (fun q => kt q d0 H locs ls cells slots hd hP hS hl hc hs) (fun q => kf q d0 H locs ls cells slots hd hP hS hl hc hs)
theorem ls_if_eq (G : LG z) {x : Int32} {off : Int} (tgt : Nat) (dg : decode cL_law pc = .ok (.ifCond .eq off, 3)) (ht : (pc : Int) + off = (tgt : Int)) (kt : x = 0 → LWK z cA sA Mc Mr f l st tgt) (kf : x ≠ 0 → LWK z cA sA Mc Mr f l st (pc + 3)) : LWK z cA sA Mc Mr f l (.int x :: st) pc := fun d0 H locs ls cells slots hd hP hS hl hc hs => lv_if_eq G.hx G.hb dg ht (fun q => kt q d0 H locs ls cells slots hd hP hS hl hc hs) (fun q => kf q d0 H locs ls cells slots hd hP hS hl hc hs)
theorem ls_istore (G : LG z) {i : Nat} {x : Int32} (dg : decode cL_law pc = .ok (.istore i, 2)) (hn : i < 9) (hk : okSt l i = true) (h : LWK z cA sA Mc Mr f (l.set i (some (.int x))) st (pc + 2)) : LWK z cA sA Mc Mr f l (.int x :: st) pc := fun d0 H locs ls cells slots hd hP hS ⟨lv, h1, h2, h3⟩ hc hs => lv_istore G.hx G.hb dg h1 hn rfl (fun ls' h4 => h d0 H locs ls' cells slots hd hP hS (LV.wr h2 h3 hk h4) hc hs)
theorem ls_dstore (G : LG z) {i : Nat} {x : UInt64} (dg : decode cL_law pc = .ok (.dstore i, 2)) (hn : i + 1 < 9) (hk : okSt l i = true) (h : LWK z cA sA Mc Mr f ((l.set i (some (.double x))).set (i + 1) none) st (pc + 2)) : LWK z cA sA Mc Mr f l (.double x :: st) pc := fun d0 H locs ls cells slots hd hP hS ⟨lv, h1, h2, h3⟩ hc hs => lv_dstore G.hx G.hb dg h1 hn rfl (fun ls' h4 => h d0 H locs ls' cells slots hd hP hS (LV.wr2 h2 h3 hk h4) hc hs)
theorem ls_iinc (G : LG z) {i : Nat} {n : Int} {x v : Int32} (dg : decode cL_law pc = .ok (.iinc i n, 3)) (hi : l[i]? = some (some (.int x))) (hn : i < 9) (hk : okSt l i = true) (hv : x + Int32.ofInt n = v) (h : LWK z cA sA Mc Mr f (l.set i (some (.int v))) st (pc + 3)) : LWK z cA sA Mc Mr f l st pc := fun d0 H locs ls cells slots hd hP hS ⟨lv, h1, h2, h3⟩ hc hs => by
  obtain ⟨k, hk9⟩ := List.getElem?_of_mem (h3 i _ hi)
  exact lv_iinc G.hx G.hb dg h1 hk9 hv hn rfl (fun ls' h4 => h d0 H locs ls' cells slots hd hP hS (LV.wr h2 h3 hk h4) hc hs)
theorem LWK.mono {cA2 sA2 : Nat} {l2 : LSt} (h1 : cA ≤ cA2) (h2 : sA ≤ sA2) (hl2 : l2.length = l.length) (hw : ∀ (i : Nat) (v : Value), l2[i]? = some (some v) → l[i]? = some (some v)) (h : LWK z cA2 sA2 Mc Mr f l2 st pc) : LWK z cA sA Mc Mr f l st pc := fun d0 H locs ls cells slots hd hP hS ⟨lv, g1, g2, g3⟩ hc hs => h d0 H locs ls cells slots hd hP hS ⟨lv, g1, hl2.trans g2, fun i v hi => g3 i v (hw i v hi)⟩ (by omega) (by omega)
theorem nI_plus (a c : Nat) : nI a + nI c = nI (a + c) := (Int32.ofNat_add a c).symm
/-- a cell of the script -/
theorem ls_sld (G : LG z) {k : Nat} {x : Int32} (hx : x = nI k) (hk : k < z.L) (dg : decode cL_law pc = .ok (.iaload, 1)) (h : LWK z cA sA Mc Mr f l (.int (z.xs k) :: st) (pc + 1)) : LWK z cA sA Mc Mr f l (.int x :: .ref z.b :: st) pc := fun d0 H locs ls cells slots hd hP hS hl hc hs => by
  subst hx
  have hL := G.hL
  refine va_sld (s := z.s.setDrawn d0) G.hx G.hb (xs := z.xs) (L := z.L) (b := z.b) G.hX G.hbl (Nat.not_le.mpr G.hbl) hS (vp_in_nI hk (by omega)) dg ?_
  rw [nI_clamp (by omega)]
  exact h d0 H locs ls cells slots hd hP hS hl hc hs
theorem ls_slen (G : LG z) (dg : decode cL_law pc = .ok (.arraylength, 1)) (h : LWK z cA sA Mc Mr f l (.int (nI z.L) :: st) (pc + 1)) : LWK z cA sA Mc Mr f l (.ref z.b :: st) pc := fun d0 H locs ls cells slots hd hP hS hl hc hs => va_slen (s := z.s.setDrawn d0) G.hx G.hb (xs := z.xs) (L := z.L) (b := z.b) G.hX G.hbl (Nat.not_le.mpr G.hbl) hS dg (h d0 H locs ls cells slots hd hP hS hl hc hs)
theorem ls_cell (G : LG z) {k : Nat} {n : Int} (j : Nat) (d0 : decode cL_law pc = .ok (.aload_n 0, 1)) (d1 : decode cL_law (pc + 1) = .ok (.iload 4, 2)) (d3 : decode cL_law (pc + 3) = .ok (.iconst n, 1)) (d4 : decode cL_law (pc + 4) = .ok (.iadd, 1)) (d5 : decode cL_law (pc + 5) = .ok (.iaload, 1)) (hn : Int32.ofInt n = nI j) (h0 : l[0]? = some (some (.ref z.b))) (h4 : l[4]? = some (some (.int (nI k)))) (hk : k + j < z.L) (h : LWK z cA sA Mc Mr f l (.int (z.xs (k + j)) :: st) (pc + 6)) : LWK z cA sA Mc Mr f l st pc := by
  refine ls_aload_n G d0 h0 ?_
  refine ls_iload G d1 h4 ?_
  refine ls_iconst (v := nI j) G d3 hn ?_
  refine ls_iadd G d4 ?_
  exact ls_sld G (nI_plus k j) hk d5 h
/-- the kept long -/
theorem ls_lald (G : LG z) (dg : decode cL_law pc = .ok (.laload, 1)) (h : LWK z cA sA Mc Mr f l (.long (f 0) :: st) (pc + 1)) : LWK z cA sA Mc Mr f l (.int (nI 0) :: .ref z.o :: st) pc := fun d0 H locs ls cells slots hd hP hS hl hc hs => by
  have hKL : va_K z.E.D vwCl [(z.cL, .long)] (z.s.setDrawn d0) := ⟨(va_K.moved (U := z.s.setDrawn d0) (Vm.Alike.refl z.s.vm) G.hK).1, fun k q hq => by
    match k, hq with
    | 0, hq => cases hq; exact G.hLA.moved (U := z.s.setDrawn d0) (Vm.Alike.refl z.s.vm)⟩
  refine va_lald G.hx G.hb hKL (va_P_app (va_P_app hP).2).2 0 0 rfl rfl (i := nI 0) (vp_in_nI (n := 0) (N := 1) (by decide) (by decide)) dg ?_
  exact h d0 H locs ls cells slots hd hP hS hl hc hs
theorem ls_lcmp (G : LG z) {x y : Int64} (he : x = y) (dg : decode cL_law pc = .ok (.lcmp, 1)) (h : LWK z cA sA Mc Mr f l (.int 0 :: st) (pc + 1)) : LWK z cA sA Mc Mr f l (.long y :: .long x :: st) pc := fun d0 H locs ls cells slots hd hP hS hl hc hs => W.lcmp G.hx G.hb dg (by rw [(lg_cmp_eq x y).mpr he]; exact h d0 H locs ls cells slots hd hP hS hl hc hs)

theorem ls_dcmp (G : LG z) {x y : UInt64} {op : CmpOp} (dg : decode cL_law pc = .ok (.dcmp op, 1)) (h : LWK z cA sA Mc Mr f l (.int (Op.cmpValue (FP.dcmp x y) op) :: st) (pc + 1)) : LWK z cA sA Mc Mr f l (.double y :: .double x :: st) pc := fun d0 H locs ls cells slots hd hP hS hl hc hs => lv_dcmp G.hx G.hb dg (h d0 H locs ls cells slots hd hP hS hl hc hs)
/-! calls -/
theorem LG.hw2 (G : LG z) (d0 : Drawn) : ∀ w ∈ ALL, w.before #[Value.ref z.b] (z.s.setDrawn d0) = true := dr_words G.hw d0
theorem LG.hK2 (G : LG z) (d0 : Drawn) : va_K z.E.D vwCl (tysF z.E.cy) (z.s.setDrawn d0) := va_K.moved (U := z.s.setDrawn d0) (Vm.Alike.refl z.s.vm) G.hK
theorem LG.fix (G : LG z) (d0 : Drawn) : CallFix z.p z.m z.c cL_law 9 (z.s.setDrawn d0) #[Value.ref z.b] ALL RL := ⟨G.hx, G.hb, G.hml, G.hown, G.hw2 d0⟩
theorem callB_L (G : LG z) (d0 : Drawn) {index n fr2 lo2 mc2 ms2 maxL : Nat} {y : MethodName} {bytes : ByteArray} {rt : Option FieldType} (hm : Cond.methodLink RL index y ∈ ALL) (hm4 : Cond.initialized y.cls ∈ ALL) (hm5 : Cond.code y bytes maxL rt ∈ ALL) (hy : y.cls ≠ "java/lang/invoke/MethodHandle" ∧ y.cls ≠ "java/lang/invoke/VarHandle" ∧ (parseMethodDescriptor y.desc).map (fun d => d.parameters.length) = some n) (hr : fr2 + 1 ≤ 11 ∧ 8 + (maxL + 11) + lo2 ≤ 428) :
    CallB room_1 (z.s.setDrawn d0) #[Value.ref z.b] RL index y bytes maxL rt (Cond.code y bytes maxL rt :: ALL) { frames := fr2, cells := mc2, slots := ms2, locals := lo2 } mc2 ms2 n := by
  refine ⟨rfl, rfl, hr.1, hr.2, fun w hw a' U hW => ?_, List.mem_cons_self, G.hw2 d0 _ hm5, G.hw2 d0 _ hm4, ⟨hy.1, hy.2.1⟩, fun sig h => ?_, G.hw2 d0 _ hm⟩
  · rcases List.mem_cons.mp hw with h | h
    · subst h
      exact ALL_warm (G.hw2 d0) _ hm5 a' U hW
    · exact ALL_warm (G.hw2 d0) _ h a' U hW
  · have h2 := hy.2.2
    rw [h] at h2
    exact (Option.some.inj h2).symm
theorem LW_split {H : Heap} (hP : va_P z.E.D vwCl (LWd z Mc Mr f) H) : va_P z.E.D vwCl (PW idsC z.E.ad (z.E.cel Mc)) H ∧ va_P z.E.D vwCl (PW idsR z.E.ad (z.E.cel Mr)) H ∧ va_P z.E.D vwCl (tO z.o z.cL f) H := ⟨(va_P_app hP).1, (va_P_app (va_P_app hP).2).1, (va_P_app (va_P_app hP).2).2⟩
theorem LW_noR (G : LG z) {H : Heap} (hP : va_P z.E.D vwCl (LWd z Mc Mr f) H) : (∀ (k : Nat) (q : Nat × va_E), (PW idsC z.E.ad (z.E.cel Mc))[k]? = some q → ¬ Rg z.E idsR H.size q.1) ∧ (∀ (k : Nat) (q : Nat × va_E), (tO z.o z.cL f)[k]? = some q → ¬ Rg z.E idsR H.size q.1) := by
  obtain ⟨h1, h2, h3⟩ := LW_split hP
  refine ⟨fun k q hq hz => ?_, fun k q hq hz => ?_⟩
  · have hlt := (h1 k q hq).lt
    obtain ⟨i, hi, rfl⟩ := List.mem_map.mp (List.mem_of_getElem? hq)
    rcases hz with ⟨j, hj, hz⟩ | hz
    · exact G.hsep i hi j hj hz
    · exact absurd hlt (Nat.not_lt.mpr hz)
  · have hlt := (h3 k q hq).lt
    have hq := List.mem_of_getElem? hq
    simp only [tO, List.mem_cons, List.not_mem_nil, or_false] at hq
    subst hq
    rcases hz with ⟨j, hj, hz⟩ | hz
    · exact G.hnoR j hj hz.symm
    · exact absurd hlt (Nat.not_lt.mpr hz)
theorem LW_noC (G : LG z) {H : Heap} (hP : va_P z.E.D vwCl (LWd z Mc Mr f) H) : (∀ (k : Nat) (q : Nat × va_E), (PW idsR z.E.ad (z.E.cel Mr))[k]? = some q → ¬ RgO z.E z.o H.size q.1) ∧ (∀ (k : Nat) (q : Nat × va_E), (tO z.o z.cL f)[k]? = some q → ¬ Rg z.E idsC H.size q.1) := by
  obtain ⟨h1, h2, h3⟩ := LW_split hP
  refine ⟨fun k q hq hz => ?_, fun k q hq hz => ?_⟩
  · have hlt := (h2 k q hq).lt
    obtain ⟨i, hi, rfl⟩ := List.mem_map.mp (List.mem_of_getElem? hq)
    rcases hz with hz | ⟨j, hj, hz⟩ | hz
    · exact G.hnoR i hi hz
    · exact G.hsep j hj i hi hz.symm
    · exact absurd hlt (Nat.not_lt.mpr hz)
  · have hlt := (h3 k q hq).lt
    have hq := List.mem_of_getElem? hq
    simp only [tO, List.mem_cons, List.not_mem_nil, or_false] at hq
    subst hq
    rcases hz with ⟨j, hj, hz⟩ | hz
    · exact G.hnoC j hj hz.symm
    · exact absurd hlt (Nat.not_lt.mpr hz)
theorem LG.rgC (G : LG z) {H : Heap} {locs : List Loc} (hS : va_S z.A z.s.heap H locs) : ∀ q, Rg z.E idsC H.size q → z.A q := fun q hq => by
  rcases hq with ⟨i, hi, hq⟩ | hq
  · rw [hq]; exact G.hAC i hi
  · exact Nat.le_trans hS.1 hq
theorem LG.rgR (G : LG z) {H : Heap} {locs : List Loc} (hS : va_S z.A z.s.heap H locs) : ∀ q, Rg z.E idsR H.size q → z.A q := fun q hq => by
  rcases hq with ⟨i, hi, hq⟩ | hq
  · rw [hq]; exact G.hAR i hi
  · exact Nat.le_trans hS.1 hq
theorem LG.rgO (G : LG z) {H : Heap} {locs : List Loc} (hS : va_S z.A z.s.heap H locs) : ∀ q, RgO z.E z.o H.size q → z.A q := fun q hq => by
  rcases hq with hq | hq
  · rw [hq]; exact G.hAo
  · exact G.rgC hS q hq
theorem PO_blind {E : EX} {M : Mem} {o sz : Nat} {cL : ClassId} {f : Nat → Int64} {av : List Value} : FrameBlind (va_Pc av (fun U => U.heap.size = sz ∧ WdO E M o cL f U ∧ XFO E o U)) := fun a U g mk q => by
  obtain ⟨q0, q1, ⟨qP, qK, qI, qn, qL⟩, ⟨x1, x2, x3, x4⟩⟩ := q
  exact ⟨q0, q1, ⟨qP, va_K.moved (u := U) (U := U.calling g mk a) (Vm.Alike.refl U.vm) qK, qI, qn, qL.moved (U := U.calling g mk a) (Vm.Alike.refl U.vm)⟩, ⟨XFh.moved (u := U) (U := U.calling g mk a) (Vm.Alike.refl U.vm) x1, XFq.warm (s := U) (U := U.calling g mk a) (State.WarmedH.refl U) x2, CW.moved (u := U) (U := U.calling g mk a) (Vm.Alike.refl U.vm) x3, x4⟩⟩
/-- a call of the law's own method -/
theorem ls_own (G : LG z) {P : Int32 → Int64 → Mem → Prop} {As stk : List Value} {index n fr2 lo2 mc2 ms2 maxL : Nat} {y : MethodName} {bytes : ByteArray} {hh : List (Nat × Nat × Nat × Nat)} (c9 : RetO z.E y bytes maxL hh fr2 lo2 mc2 ms2 As Mc z.o z.cL P) (hm : Cond.methodLink RL index y ∈ ALL) (hm2 : Cond.static y ∈ ALL) (hm4 : Cond.initialized y.cls ∈ ALL) (hm5 : Cond.codeWith y bytes maxL (some .int) hh ∈ ALL) (hy : y.cls ≠ "java/lang/invoke/MethodHandle" ∧ y.cls ≠ "java/lang/invoke/VarHandle" ∧ (parseMethodDescriptor y.desc).map (fun d => d.parameters.length) = some n) (hr : fr2 + 1 ≤ 11 ∧ 8 + (maxL + 11) + lo2 ≤ 428) (hn : As.length = n) (hw : (rest.map fun v => v.category).sum ≤ 8) (hc9 : cA + mc2 ≤ 601024) (hs9 : sA + ms2 ≤ 7293034) (dg : decode cL_law pc = .ok (.invokestatic index, 3)) (hstk : stk = As.reverse ++ rest) (h : ∀ (k : Int32) (f2 : Nat → Int64) (Mc2 : Mem), P k (f2 0) Mc2 → LWK z (cA + mc2) (sA + ms2) Mc2 Mr f2 l (.int k :: rest) (pc + 3)) : LWK z cA sA Mc Mr f l stk pc := by
  intro d0 H locs ls cells slots hd hP hS hl hc hs
  obtain ⟨hPC, hPR, hPO⟩ := LW_split hP
  have hls : ls.size = 9 := by obtain ⟨lv, h1, -⟩ := hl; exact h1.1
  have hrun := vx_runSW (e := z.e) (below := z.below) (meth := z.meth) (As := As) (rest := rest) (cells := cells) (slots := slots) (locs := locs) (R := room_1) (H := H) (hh := hh) (g := F0 z.m pc ls stk) (G.fix d0) (c9 H.size f) ⟨⟨rfl, rfl, hr.1, hr.2, fun w hw a' U hW => by
    rcases List.mem_cons.mp hw with h | h
    · subst h
      exact ALL_warm (G.hw2 d0) _ hm5 a' U hW
    · exact ALL_warm (G.hw2 d0) _ h a' U hW, List.mem_cons_self⟩, G.hw2 d0 _ hm5, G.hw2 d0 _ hm4, ⟨hy.1, hy.2.1⟩, fun sig h => by
    have h2 := hy.2.2
    rw [h] at h2
    exact (Option.some.inj h2).symm, G.hw2 d0 _ hm, G.hw2 d0 _ hm2⟩ ⟨PO_blind, fun U hU hW => ⟨rfl, by rw [hU], ⟨by rw [hU]; exact hPC.app hPO, va_K.moved hW.alike (G.hK2 d0), G.hIC, G.hnoC, LA.moved (u := z.s.setDrawn d0) hW.alike (LA.moved (U := z.s.setDrawn d0) (Vm.Alike.refl z.s.vm) G.hLA)⟩, ⟨by
      rw [hU]
      exact ((G.hXh.kept (fun a q1 q2 => hS.2.1 a q1 q2)).narrow (G.rgO hS)).moved (u := z.s.setDrawn d0) hW.alike, XFq.warm (s := z.s.setDrawn d0) hW (XFq.warm (s := z.s) (U := z.s.setDrawn d0) (State.WarmedH.refl z.s) G.hXq), CW.moved (u := z.s.setDrawn d0) hW.alike (CW.moved (U := z.s.setDrawn d0) (Vm.Alike.refl z.s.vm) G.hCW), G.hfl⟩⟩⟩ rfl hn hls hstk (lv_room hw) dg ⟨show cells + mc2 ≤ 601024 by omega, show slots + ms2 ≤ 7293034 by omega⟩
  intro T hT X
  obtain ⟨v, st₀, t, T', L, h0, X', hL, e1, e2, ⟨⟨k, f2, M', hv, hp, hWP, -⟩, hF⟩, st9⟩ := hrun T hT X
  cases hv
  obtain ⟨k1, k2, k3⟩ := vx_keep (A0 := z.A) h0 e1 hS (fun q _ hq => G.rgO hS q hq) (fun q hq => G.rgO hS q hq) hL hF
  rw [← e1] at hWP
  obtain ⟨w1, w2⟩ := va_P_app hWP
  have w3 := va_P_keep hPR (LW_noC G hP).1 k2
  obtain ⟨t2, a1, b1⟩ := h k f2 M' hp d0 T'.heap (locs ++ L) ls (cells + mc2) (slots + ms2) hd (w1.app (w3.app w2)) k3 hl (by omega) (by omega) T' rfl X'
  exact ⟨t2, st9 t2 a1, b1⟩
theorem PK_blind {E : EX} {M : Mem} {ids : List Pid} {sz : Nat} {av : List Value} : FrameBlind (va_Pc av (fun U => U.heap.size = sz ∧ Wd E ids M U ∧ RQ U)) := fun a U g mk q => by
  obtain ⟨q0, q1, ⟨qP, qK, qI⟩, qR⟩ := q
  exact ⟨q0, q1, ⟨qP, va_K.moved (u := U) (U := U.calling g mk a) (Vm.Alike.refl U.vm) qK, qI⟩, qR.calling⟩
/-- a call of the reference -/
theorem ls_ref (G : LG z) {P : Option Value → Mem → Prop} {As stk : List Value} {index n fr2 lo2 mc2 ms2 maxL : Nat} {y : MethodName} {bytes : ByteArray} {rt : Option FieldType} (c9 : RetK z.E idsR y bytes maxL rt fr2 lo2 mc2 ms2 (.ref (z.E.ad (14, 0, 0)) :: As) Mr P) (hm : Cond.methodLink RL index y ∈ ALL) (hm2 : Cond.instanceMethod y ∈ ALL) (hm3 : Cond.selects RX6 y y ∈ ALL) (hm4 : Cond.initialized y.cls ∈ ALL) (hm5 : Cond.code y bytes maxL rt ∈ ALL) (hy : y.cls ≠ "java/lang/invoke/MethodHandle" ∧ y.cls ≠ "java/lang/invoke/VarHandle" ∧ (parseMethodDescriptor y.desc).map (fun d => d.parameters.length) = some n) (hr : fr2 + 1 ≤ 11 ∧ 8 + (maxL + 11) + lo2 ≤ 428) (hn : As.length = n) (hw : (rest.map fun v => v.category).sum ≤ 8) (hc9 : cA + mc2 ≤ 601024) (hs9 : sA + ms2 ≤ 7293034) (dg : decode cL_law pc = .ok (.invokevirtual index, 3)) (hstk : stk = As.reverse ++ .ref (z.E.ad (14, 0, 0)) :: rest) (h : ∀ (r : Option Value) (Mr2 : Mem), P r Mr2 → LWK z (cA + mc2) (sA + ms2) Mc Mr2 f l (r.toList ++ rest) (pc + 3)) : LWK z cA sA Mc Mr f l stk pc := by
  intro d0 H locs ls cells slots hd hP hS hl hc hs
  obtain ⟨hPC, hPR, hPO⟩ := LW_split hP
  have hls : ls.size = 9 := by obtain ⟨lv, h1, -⟩ := hl; exact h1.1
  obtain ⟨q0, h1, -⟩ := PW_get z.E.ad (z.E.cel Mr) idsR_nd mR14
  have hrun := va_runV (e := z.e) (below := z.below) (meth := z.meth) (C := RX6) (b := z.E.ad (14, 0, 0)) (As := As) (rest := rest) (cells := cells) (slots := slots) (locs := locs) (R := room_1) (H := H) (g := F0 z.m pc ls stk) (G.fix d0) (c9 H.size) ⟨callB_L G d0 hm hm4 hm5 hy hr, G.hw2 d0 _ hm2, G.hw2 d0 _ hm3⟩ ⟨PK_blind, va_recv (G.hK2 d0) hPR (ci := 6) (q0 := q0) rfl (h1.trans rfl), fun U hU hW => ⟨rfl, by rw [hU], ⟨by rw [hU]; exact hPR, va_K.moved hW.alike (G.hK2 d0), G.hIR⟩, RQ.warm (s := z.s.setDrawn d0) hW (RQ.same (s := z.s) (U := z.s.setDrawn d0) rfl G.hRQ)⟩⟩ rfl hn hls hstk (lv_room hw) dg ⟨show cells + mc2 ≤ 601024 by omega, show slots + ms2 ≤ 7293034 by omega⟩
  intro T hT X
  obtain ⟨v, st₀, t, T', L, h0, X', hL, e1, e2, ⟨⟨v2, M', hv, hp, hWP, -⟩, hF⟩, st9⟩ := hrun T hT X
  cases hv
  obtain ⟨k1, k2, k3⟩ := vx_keep (A0 := z.A) h0 e1 hS (fun q _ hq => G.rgR hS q hq) (fun q hq => G.rgR hS q hq) hL hF
  rw [← e1] at hWP
  have w1 := va_P_keep hPC (LW_noR G hP).1 k2
  have w3 := va_P_keep hPO (LW_noR G hP).2 k2
  obtain ⟨t2, a1, b1⟩ := h v M' hp d0 T'.heap (locs ++ L) ls (cells + mc2) (slots + ms2) hd (w1.app (hWP.app w3)) k3 hl (by omega) (by omega) T' rfl X'
  exact ⟨t2, st9 t2 a1, b1⟩
/-- a call of the class that makes and throws nothing -/
theorem ls_cls (G : LG z) {P : Option Value → Mem → Prop} {As stk : List Value} {index n fr2 lo2 maxL : Nat} {y : MethodName} {bytes : ByteArray} {rt : Option FieldType} (c9 : Ret z.E idsC y bytes maxL rt fr2 lo2 (.ref (z.E.ad (0, 0, 0)) :: As) Mc P) (hm : Cond.methodLink RL index y ∈ ALL) (hm2 : Cond.instanceMethod y ∈ ALL) (hm3 : Cond.selects RX5 y y ∈ ALL) (hm4 : Cond.initialized y.cls ∈ ALL) (hm5 : Cond.code y bytes maxL rt ∈ ALL) (hy : y.cls ≠ "java/lang/invoke/MethodHandle" ∧ y.cls ≠ "java/lang/invoke/VarHandle" ∧ (parseMethodDescriptor y.desc).map (fun d => d.parameters.length) = some n) (hr : fr2 + 1 ≤ 11 ∧ 8 + (maxL + 11) + lo2 ≤ 428) (hn : As.length = n) (hw : (rest.map fun v => v.category).sum ≤ 8) (hc9 : cA ≤ 601024) (hs9 : sA ≤ 7293034) (dg : decode cL_law pc = .ok (.invokevirtual index, 3)) (hstk : stk = As.reverse ++ .ref (z.E.ad (0, 0, 0)) :: rest) (h : ∀ (r : Option Value) (Mc2 : Mem), P r Mc2 → LWK z cA sA Mc2 Mr f l (r.toList ++ rest) (pc + 3)) : LWK z cA sA Mc Mr f l stk pc := by
  intro d0 H locs ls cells slots hd hP hS hl hc hs
  obtain ⟨hPC, hPR, hPO⟩ := LW_split hP
  have hls : ls.size = 9 := by obtain ⟨lv, h1, -⟩ := hl; exact h1.1
  obtain ⟨q0, h1, -⟩ := PW_get z.E.ad (z.E.cel Mc) idsC_nd mC0
  have hrun := va_runV (e := z.e) (below := z.below) (meth := z.meth) (C := RX5) (b := z.E.ad (0, 0, 0)) (As := As) (rest := rest) (cells := cells) (slots := slots) (locs := locs) (R := room_1) (H := H) (g := F0 z.m pc ls stk) (G.fix d0) (c9 H.size) ⟨callB_L G d0 hm hm4 hm5 hy hr, G.hw2 d0 _ hm2, G.hw2 d0 _ hm3⟩ ⟨PC_blind, va_recv (G.hK2 d0) hPC (ci := 5) (q0 := q0) rfl (h1.trans rfl), fun U hU hW => ⟨rfl, by rw [hU], by rw [hU]; exact hPC, va_K.moved hW.alike (G.hK2 d0), G.hIC⟩⟩ rfl hn hls hstk (lv_room hw) dg ⟨show cells + 0 ≤ 601024 by omega, show slots + 0 ≤ 7293034 by omega⟩
  intro T hT X
  obtain ⟨v, st₀, t, T', L, h0, X', hL, e1, e2, ⟨⟨v2, M', hv, hp, hWP, -⟩, hF⟩, st9⟩ := hrun T hT X
  cases hv
  obtain ⟨k1, k2, k3⟩ := vx_keep (A0 := z.A) h0 e1 hS (fun q _ hq => G.rgC hS q hq) (fun q hq => G.rgC hS q hq) hL hF
  rw [← e1] at hWP
  have w1 := va_P_keep hPR (fun k q hq hz => (LW_noC G hP).1 k q hq (Or.inr hz)) k2
  have w3 := va_P_keep hPO (LW_noC G hP).2 k2
  obtain ⟨t2, a1, b1⟩ := h v M' hp d0 T'.heap (locs ++ L) ls cells slots hd (hWP.app (w1.app w3)) k3 hl hc hs T' rfl X'
  exact ⟨t2, st9 t2 a1, b1⟩
/-- luck, of the class and of the reference -/
theorem ls_luckC (G : LG z) {g : GS} {index fr2 lo2 maxL : Nat} {y : MethodName} {bytes : ByteArray} {P : Mem → Prop} (c9 : LuckC z.E idsC y bytes maxL fr2 lo2 (0, 0, 0) Mc g P) (hm : Cond.methodLink RL index y ∈ ALL) (hm2 : Cond.instanceMethod y ∈ ALL) (hm3 : Cond.selects RX5 y y ∈ ALL) (hm4 : Cond.initialized y.cls ∈ ALL) (hm5 : Cond.code y bytes maxL (some .double) ∈ ALL) (hy : y.cls ≠ "java/lang/invoke/MethodHandle" ∧ y.cls ≠ "java/lang/invoke/VarHandle" ∧ (parseMethodDescriptor y.desc).map (fun d => d.parameters.length) = some 0) (hr : fr2 + 1 ≤ 11 ∧ 8 + (maxL + 11) + lo2 ≤ 428) (hw : (rest.map fun v => v.category).sum ≤ 8) (hc9 : cA ≤ 601024) (hs9 : sA ≤ 7293034) (dg : decode cL_law pc = .ok (.invokevirtual index, 3)) (h : ∀ (r : UInt64) (Mc2 : Mem), alike64 r (lk g) = true → P Mc2 → LWK z cA sA Mc2 Mr f l (.double r :: rest) (pc + 3)) : LWK z cA sA Mc Mr f l (.ref (z.E.ad (0, 0, 0)) :: rest) pc := by
  intro d0 H locs ls cells slots hd hP hS hl hc hs
  obtain ⟨hPC, hPR, hPO⟩ := LW_split hP
  have hls : ls.size = 9 := by obtain ⟨lv, h1, -⟩ := hl; exact h1.1
  obtain ⟨q0, h1, -⟩ := PW_get z.E.ad (z.E.cel Mc) idsC_nd mC0
  have hrun := va_runV_D (cs := lw_cs) (e := z.e) (below := z.below) (meth := z.meth) (C := RX5) (b := z.E.ad (0, 0, 0)) (As := []) (rest := rest) (cells := cells) (slots := slots) (locs := locs) (R := room_1) (H := H) (g := F0 z.m pc ls (.ref (z.E.ad (0, 0, 0)) :: rest)) (G.fix d0) (c9 H.size) ⟨callB_L (n := 0) G d0 hm hm4 hm5 hy hr, G.hw2 d0 _ hm2, G.hw2 d0 _ hm3⟩ ⟨PC_blind, va_recv (G.hK2 d0) hPC (ci := 5) (q0 := q0) rfl (h1.trans rfl), fun U hU hW => ⟨rfl, by rw [hU], by rw [hU]; exact hPC, va_K.moved hW.alike (G.hK2 d0), G.hIC⟩⟩ rfl rfl hls rfl (lv_room hw) dg ⟨show cells + 0 ≤ 601024 by omega, show slots + 0 ≤ 7293034 by omega⟩
  intro T hT X
  obtain ⟨v, st₀, t, T', L, d', hd', h0, X', hL, e1, e2, ⟨⟨r, M', hv, hal, hp, hWP, -⟩, hF⟩, st9⟩ := hrun T hT X
  cases hv
  obtain ⟨k1, k2, k3⟩ := vx_keep (A0 := z.A) h0 e1 hS (fun q _ hq => G.rgC hS q hq) (fun q hq => G.rgC hS q hq) hL hF
  rw [← e1] at hWP
  have w1 := va_P_keep hPR (fun k q hq hz => (LW_noC G hP).1 k q hq (Or.inr hz)) k2
  have w3 := va_P_keep hPO (LW_noC G hP).2 k2
  obtain ⟨t2, a1, b1⟩ := h r M' hal hp d' T'.heap (locs ++ L) ls cells slots (hd.trans hd') (hWP.app (w1.app w3)) k3 hl hc hs T' rfl X'
  exact ⟨t2, st9 t2 a1, b1⟩
theorem ls_luckR (G : LG z) {g : GS} {index fr2 lo2 maxL : Nat} {y : MethodName} {bytes : ByteArray} {P : Mem → Prop} (c9 : LuckC z.E idsR y bytes maxL fr2 lo2 (14, 0, 0) Mr g P) (hm : Cond.methodLink RL index y ∈ ALL) (hm2 : Cond.instanceMethod y ∈ ALL) (hm3 : Cond.selects RX6 y y ∈ ALL) (hm4 : Cond.initialized y.cls ∈ ALL) (hm5 : Cond.code y bytes maxL (some .double) ∈ ALL) (hy : y.cls ≠ "java/lang/invoke/MethodHandle" ∧ y.cls ≠ "java/lang/invoke/VarHandle" ∧ (parseMethodDescriptor y.desc).map (fun d => d.parameters.length) = some 0) (hr : fr2 + 1 ≤ 11 ∧ 8 + (maxL + 11) + lo2 ≤ 428) (hw : (rest.map fun v => v.category).sum ≤ 8) (hc9 : cA ≤ 601024) (hs9 : sA ≤ 7293034) (dg : decode cL_law pc = .ok (.invokevirtual index, 3)) (h : ∀ (r : UInt64) (Mr2 : Mem), alike64 r (lk g) = true → P Mr2 → LWK z cA sA Mc Mr2 f l (.double r :: rest) (pc + 3)) : LWK z cA sA Mc Mr f l (.ref (z.E.ad (14, 0, 0)) :: rest) pc := by
  intro d0 H locs ls cells slots hd hP hS hl hc hs
  obtain ⟨hPC, hPR, hPO⟩ := LW_split hP
  have hls : ls.size = 9 := by obtain ⟨lv, h1, -⟩ := hl; exact h1.1
  obtain ⟨q0, h1, -⟩ := PW_get z.E.ad (z.E.cel Mr) idsR_nd mR14
  have hrun := va_runV_D (cs := lw_cs) (e := z.e) (below := z.below) (meth := z.meth) (C := RX6) (b := z.E.ad (14, 0, 0)) (As := []) (rest := rest) (cells := cells) (slots := slots) (locs := locs) (R := room_1) (H := H) (g := F0 z.m pc ls (.ref (z.E.ad (14, 0, 0)) :: rest)) (G.fix d0) (c9 H.size) ⟨callB_L (n := 0) G d0 hm hm4 hm5 hy hr, G.hw2 d0 _ hm2, G.hw2 d0 _ hm3⟩ ⟨PC_blind, va_recv (G.hK2 d0) hPR (ci := 6) (q0 := q0) rfl (h1.trans rfl), fun U hU hW => ⟨rfl, by rw [hU], by rw [hU]; exact hPR, va_K.moved hW.alike (G.hK2 d0), G.hIR⟩⟩ rfl rfl hls rfl (lv_room hw) dg ⟨show cells + 0 ≤ 601024 by omega, show slots + 0 ≤ 7293034 by omega⟩
  intro T hT X
  obtain ⟨v, st₀, t, T', L, d', hd', h0, X', hL, e1, e2, ⟨⟨r, M', hv, hal, hp, hWP, -⟩, hF⟩, st9⟩ := hrun T hT X
  cases hv
  obtain ⟨k1, k2, k3⟩ := vx_keep (A0 := z.A) h0 e1 hS (fun q _ hq => G.rgR hS q hq) (fun q hq => G.rgR hS q hq) hL hF
  rw [← e1] at hWP
  have w1 := va_P_keep hPC (LW_noR G hP).1 k2
  have w3 := va_P_keep hPO (LW_noR G hP).2 k2
  obtain ⟨t2, a1, b1⟩ := h r M' hal hp d' T'.heap (locs ++ L) ls cells slots (hd.trans hd') (w1.app (hWP.app w3)) k3 hl hc hs T' rfl X'
  exact ⟨t2, st9 t2 a1, b1⟩
/-- the law's end -/
theorem ls_end (G : LG z) (hc9 : cA ≤ 601024) (hs9 : sA ≤ 7293034) (dg : decode cL_law pc = .ok (.ireturn, 1)) : LWK z cA sA Mc Mr f l [.int 1] pc := fun d0 H locs ls cells slots hd hP hS hl hc hs => va_forget (s := z.s.setDrawn d0) (fun q hq => hS.2.2 q hq) (W.widen (k := 601024) (n := 7293034) (by omega) (by omega) (lw_ret hd G.hx G.hb G.hr G.hlk dg))
theorem alike_cmp {x y v : UInt64} (h1 : alike64 x v = true) (h2 : alike64 y v = true) : FP.dcmp x y = FP.dcmp x x ∧ FP.dcmp y y = FP.dcmp x x := by
  have key : ∀ a b : UInt64, alike64 a b = true → a = b ∨ (isNaN64 a = true ∧ isNaN64 b = true) := fun a b h => by
    simpa [alike64] using h
  rcases key x v h1 with e1 | ⟨e1, e3⟩
  · rcases key y v h2 with e2 | ⟨e2, e4⟩
    · rw [e1, e2]; exact ⟨rfl, rfl⟩
    · rw [← e1] at e4
      rw [nan_cmp e4, nan_cmp e4, nan_cmp e2]; exact ⟨rfl, rfl⟩
  · have e2 : isNaN64 y = true := by
      rcases key y v h2 with e2 | ⟨e2, -⟩
      · rw [e2]; exact e3
      · exact e2
    rw [nan_cmp e1, nan_cmp e1, nan_cmp e2]; exact ⟨rfl, rfl⟩
end LAW
