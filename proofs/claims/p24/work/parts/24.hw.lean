/-! ===== walks over a ghost map: each address that is known, its label and what it holds (written by wip/p24/gen24.py) ===== -/
abbrev Sg : Type := Nat → Option (Pid × va_E)
def Hd (D : va_G) (A : Nat → Prop) (σ : Sg) (H : Heap) : Prop := ∀ (a : Nat) (i : Pid) (e : va_E), σ a = some (i, e) → A a ∧ va_at D vwCl (a, e) H
def sup (σ : Sg) (a : Nat) (i : Pid) (e : va_E) : Sg := fun b => if b = a then some (i, e) else σ b
theorem sup_at {σ : Sg} {a : Nat} {i : Pid} {e : va_E} : sup σ a i e a = some (i, e) := if_pos rfl
theorem sup_ne {σ : Sg} {a b : Nat} {i : Pid} {e : va_E} (h : b ≠ a) : sup σ a i e b = σ b := if_neg h
/-- the map as a world -/
def wld (σ : Sg) (n : Nat) : va_W := (List.range n).filterMap (fun a => (σ a).map (fun x => (a, x.2)))
theorem wld_mem {σ : Sg} {n : Nat} {x : Nat × va_E} : x ∈ wld σ n ↔ x.1 < n ∧ ∃ i, σ x.1 = some (i, x.2) := by
  unfold wld
  rw [List.mem_filterMap]
  constructor
  · rintro ⟨a, ha, h⟩
    cases hs : σ a with
    | none => rw [hs] at h; cases h
    | some y =>
      rw [hs] at h
      cases h
      exact ⟨List.mem_range.mp ha, y.1, hs⟩
  · rintro ⟨ha, i, h⟩
    exact ⟨x.1, List.mem_range.mpr ha, by rw [h]; rfl⟩
theorem wld_pw (σ : Sg) (n : Nat) : (wld σ n).Pairwise (fun x y => x.1 < y.1) := by
  unfold wld
  refine List.Pairwise.filterMap (R := fun (a b : Nat) => a < b) _ (fun a b hab x hx y hy => ?_) List.pairwise_lt_range
  have k : ∀ (a : Nat) (x : Nat × va_E), (σ a).map (fun z => (a, z.2)) = some x → x.1 = a := fun a x h => by
    cases hs : σ a with
    | none => rw [hs] at h; cases h
    | some z => rw [hs] at h; cases h; rfl
  rw [k a x hx, k b y hy]
  exact hab
theorem wld_get {σ : Sg} {n a : Nat} {i : Pid} {e : va_E} (h : σ a = some (i, e)) (ha : a < n) : ∃ k : Nat, (wld σ n)[k]? = some (a, e) := List.getElem?_of_mem (wld_mem.mpr ⟨ha, i, h⟩)
theorem Hd.P {D : va_G} {A : Nat → Prop} {σ : Sg} {H : Heap} (h : Hd D A σ H) (n : Nat) : va_P D vwCl (wld σ n) H := fun k q hq => by
  obtain ⟨-, i, hi⟩ := wld_mem.mp (List.mem_of_getElem? hq)
  exact (h q.1 i q.2 hi).2
theorem Hd.Dd {D : va_G} {A : Nat → Prop} {σ : Sg} {H : Heap} (h : Hd D A σ H) (n : Nat) : va_D A (wld σ n) := by
  refine ⟨fun i j p q hp hq e => ?_, fun k q hq => ?_⟩
  · have pw := List.pairwise_iff_getElem.mp (wld_pw σ n)
    obtain ⟨l1, e1⟩ := List.getElem?_eq_some_iff.mp hp
    obtain ⟨l2, e2⟩ := List.getElem?_eq_some_iff.mp hq
    rcases Nat.lt_trichotomy i j with z | z | z
    · have := pw i j l1 l2 z
      rw [e1, e2] at this
      omega
    · exact z
    · have := pw j i l2 l1 z
      rw [e1, e2] at this
      omega
  · obtain ⟨-, i, hi⟩ := wld_mem.mp (List.mem_of_getElem? hq)
    exact (h q.1 i q.2 hi).1
theorem Hd.lt {D : va_G} {A : Nat → Prop} {σ : Sg} {H : Heap} (h : Hd D A σ H) {a : Nat} {i : Pid} {e : va_E} (hs : σ a = some (i, e)) : a < H.size := (h a i e hs).2.lt
theorem Hd.get {D : va_G} {A : Nat → Prop} {σ : Sg} {H : Heap} (h : Hd D A σ H) {a : Nat} {i : Pid} {e : va_E} (hs : σ a = some (i, e)) : ∃ k : Nat, (wld σ H.size)[k]? = some (a, e) := wld_get hs (h.lt hs)
/-- one of its cells is another -/
theorem Hd.set {D : va_G} {A : Nat → Prop} {σ : Sg} {H H1 : Heap} (h : Hd D A σ H) {a k : Nat} {i : Pid} {e e2 : va_E} (hs : σ a = some (i, e)) (hk : (wld σ H.size)[k]? = some (a, e)) (h1 : va_P D vwCl ((wld σ H.size).set k (a, e2)) H1) : Hd D A (sup σ a i e2) H1 := fun b j e3 hb => by
  have hl := (List.getElem?_eq_some_iff.mp hk).1
  by_cases hba : b = a
  · subst hba
    rw [sup_at] at hb
    cases hb
    exact ⟨(h b i e hs).1, h1 k (b, e2) (List.getElem?_set_self hl)⟩
  · rw [sup_ne hba] at hb
    obtain ⟨k2, hk2⟩ := h.get hb
    have hne : k ≠ k2 := fun q => by
      subst q
      rw [hk] at hk2
      cases hk2
      exact hba rfl
    exact ⟨(h b j e3 hb).1, h1 k2 (b, e3) (by rw [List.getElem?_set_ne hne]; exact hk2)⟩
/-- one more -/
theorem Hd.push {D : va_G} {A : Nat → Prop} {σ : Sg} {H H1 : Heap} (h : Hd D A σ H) {q : Nat} {e : va_E} (lab : Pid) (h1 : va_P D vwCl (wld σ H.size ++ [(q, e)]) H1) (hD : va_D A (wld σ H.size ++ [(q, e)])) : σ q = none ∧ Hd D A (sup σ q lab e) H1 := by
  have hq : (wld σ H.size ++ [(q, e)])[(wld σ H.size).length]? = some (q, e) := by rw [List.getElem?_append_right (Nat.le_refl _), Nat.sub_self]; rfl
  refine ⟨?_, fun b j e3 hb => ?_⟩
  · cases hs : σ q with
    | none => rfl
    | some y =>
      obtain ⟨k, hk⟩ := h.get (i := y.1) (e := y.2) hs
      have hl := (List.getElem?_eq_some_iff.mp hk).1
      have := hD.1 k _ (q, y.2) (q, e) (by rw [List.getElem?_append_left hl]; exact hk) hq rfl
      omega
  · by_cases hba : b = q
    · subst hba
      rw [sup_at] at hb
      cases hb
      exact ⟨hD.2 _ _ hq, h1 _ _ hq⟩
    · rw [sup_ne hba] at hb
      obtain ⟨k, hk⟩ := h.get hb
      have hl := (List.getElem?_eq_some_iff.mp hk).1
      exact ⟨(h b j e3 hb).1, h1 k _ (by rw [List.getElem?_append_left hl]; exact hk)⟩
/-- the tables' words of rows and constructors, and the script -/
def snest : List (String × Nat × MethodName) := [(RX6, 53, yX7_init), (RL, 11, yX6_init)]
def SXw (U : State) : Prop := va_AO RX7 U ∧ va_Nw (.arrayOver (.array .int)) U ∧ ∀ q, q ∈ snest → va_Nw (.methodLinkNest q.1 q.2.1 q.2.2 RL) U
def SX (E : EX) (A : Nat → Prop) (U : State) : Prop := SXw U ∧ (va_X E.sc.1 E.sc.2.1 E.sc.2.2 U U.heap ∧ E.sc.1 < U.heap.size ∧ ¬ A E.sc.1 ∧ E.sc.2.1 ≤ 260) ∧ Inj E idsC
theorem AOA_moved {u U : State} (hvm : u.vm.Alike U.vm) (h : va_Nw (.arrayOver (.array .int)) u) : va_Nw (.arrayOver (.array .int)) U := by
  obtain ⟨comp, c, k, h1, h2, h3, h4, h5⟩ := arrayOverA_spec h
  obtain ⟨k', hk', he⟩ := hvm.2.2 _ _ h3
  have hi : (U.vm.classes.findIdx? fun (x : Class) => match x.kind with | .array component _ => component == comp | _ => false) = some c := by
    have hb : U.vm.bare = u.vm.bare := by first | exact hvm.bare_eq | exact hvm.bare_eq.symm
    refine (va_idx_bare U.vm comp).symm.trans ?_
    rw [hb]
    exact (va_idx_bare u.vm comp).trans h2
  have hkind : k'.kind = .array comp (.array .int) := by rw [he]; exact h4
  have f1 : U.vm.findClass (FieldType.array .int).toString = some comp := by rw [hvm.findClass]; exact h1
  have f2 : U.vm.findClass ("[" ++ (FieldType.array .int).toString) = some c := by rw [hvm.findClass]; exact h5
  unfold va_Nw Cond.before Cond.holds
  simp only [Cond.value]
  rw [f1, Option.bind_some]
  refine (congrArg (fun o : Option Nat => (o.bind (fun c => (U.vm.classes[c]?).map fun (k : Class) => match k.kind with | .array _ ty => decide (ty = FieldType.array .int) && decide (U.vm.findClass ("[" ++ (FieldType.array .int).toString) = some c) | _ => false) == some true)) hi).trans ?_
  simp [hk', hkind, f2]
theorem SXw.warm {s U : State} (hW : s.WarmedH U.vm) (h : SXw s) : SXw U := ⟨va_AO.moved hW.alike h.1, AOA_moved hW.alike h.2.1, fun q hq => va_Nw.warmM hW (h.2.2 q hq)⟩
def Gd (κ : KX) (cc : ByteArray) (nL : Nat) (own : String) (fr lo : Nat) : Prop :=
  κ.p.tables.exec = Jvm.exec ∧ κ.c.code = cc ∧ κ.c.maxLocals = nL ∧ κ.s.vm.findClass own = some κ.m.cls ∧ (∀ w ∈ ALL, w.before κ.args κ.s = true) ∧ va_K κ.E.D vwCl (tysF κ.E.cy) κ.s ∧ κ.meth.locks = false ∧ fr ≤ κ.R.frames ∧ lo ≤ κ.R.locals ∧ (∀ q, κ.s.heap.size ≤ q → κ.A q) ∧ SX κ.E κ.A κ.s
def HV (κ : KX) (nL : Nat) (σ : Sg) (cN dN : Nat) (l : LSt) (st : List Value) (pc : Nat) : Prop :=
  ∀ (H : Heap) (locs : List Loc) (ls : Array Slot), Hd κ.E.D κ.A σ H → va_S κ.A κ.s.heap H locs → LV ls nL l → W κ.p κ.E.l κ.e κ.R κ.s κ.m κ.args κ.below κ.meth κ.c H locs cN dN κ.Q (F0 κ.m pc ls st)
/-- the class of rows of int rows -/
def AA (E : EX) (U : State) : Prop := ∃ kA : Class, U.vm.classes[E.cy 5]? = some kA ∧ kA.kind = .array (E.cy 0) (.array .int)
theorem AA.arr {E : EX} {U : State} (h : AA E U) : ArrOfT U (E.cy 5) (.array .int) := by
  obtain ⟨k, h1, h2⟩ := h
  exact fun N z => ⟨(fun k h => by cases h), k, h1, _, h2⟩
theorem va_P_app2 {D : va_G} {cl : List vw_C} {w1 w2 : va_W} {H : Heap} (h : va_P D cl (w1 ++ w2) H) : va_P D cl w1 H ∧ va_P D cl w2 H := ⟨fun i q hq => h i q (by rw [List.getElem?_append_left (List.getElem?_eq_some_iff.mp hq).1]; exact hq), fun i q hq => h (w1.length + i) q (by rw [List.getElem?_append_right (by omega), Nat.add_sub_cancel_left]; exact hq)⟩
theorem va_D_app2 {A : Nat → Prop} {w1 w2 : va_W} (h : va_D A (w1 ++ w2)) : va_D A w1 ∧ va_D A w2 ∧ ∀ x, x ∈ w1 → ∀ y, y ∈ w2 → x.1 ≠ y.1 := by
  have hl : ∀ (i : Nat) (q : Nat × va_E), w1[i]? = some q → (w1 ++ w2)[i]? = some q := fun i q hq => by rw [List.getElem?_append_left (List.getElem?_eq_some_iff.mp hq).1]; exact hq
  have hr : ∀ (i : Nat) (q : Nat × va_E), w2[i]? = some q → (w1 ++ w2)[w1.length + i]? = some q := fun i q hq => by rw [List.getElem?_append_right (by omega), Nat.add_sub_cancel_left]; exact hq
  refine ⟨⟨fun i j p q hp hq e => h.1 i j p q (hl i p hp) (hl j q hq) e, fun k q hq => h.2 k q (hl k q hq)⟩, ⟨fun i j p q hp hq e => by
    have := h.1 _ _ p q (hr i p hp) (hr j q hq) e
    omega, fun k q hq => h.2 _ q (hr k q hq)⟩, fun x hx y hy e => ?_⟩
  obtain ⟨i, hi⟩ := List.getElem?_of_mem hx
  obtain ⟨j, hj⟩ := List.getElem?_of_mem hy
  have h1 := h.1 _ _ x y (hl i x hi) (hr j y hj) e
  have h2 := (List.getElem?_eq_some_iff.mp hi).1
  omega
theorem arrV_eq {c : ClassId} {n : Nat} {f g : Nat → Value} (h : ∀ k, k < n → g k = f k) : arrV c n f = arrV c n g := by
  unfold arrV
  have e : (fun j : Fin n => f j.val) = fun j => g j.val := funext fun j => (h j.1 j.2).symm
  rw [e]
section HSteps
variable {κ : KX} {cc : ByteArray} {nL fr lo : Nat} {own : String} {σ : Sg} {cN dN : Nat} {l : LSt} {st rest : List Value} {pc : Nat}
theorem Gd.hx (G : Gd κ cc nL own fr lo) : κ.p.tables.exec = Jvm.exec := G.1
theorem Gd.hb (G : Gd κ cc nL own fr lo) : κ.c.code = cc := G.2.1
theorem Gd.hml (G : Gd κ cc nL own fr lo) : κ.c.maxLocals = nL := G.2.2.1
theorem Gd.hown (G : Gd κ cc nL own fr lo) : κ.s.vm.findClass own = some κ.m.cls := G.2.2.2.1
theorem Gd.hw (G : Gd κ cc nL own fr lo) : ∀ w ∈ ALL, w.before κ.args κ.s = true := G.2.2.2.2.1
theorem Gd.hK (G : Gd κ cc nL own fr lo) : va_K κ.E.D vwCl (tysF κ.E.cy) κ.s := G.2.2.2.2.2.1
theorem Gd.hlk (G : Gd κ cc nL own fr lo) : κ.meth.locks = false := G.2.2.2.2.2.2.1
theorem Gd.hfr (G : Gd κ cc nL own fr lo) : fr ≤ κ.R.frames := G.2.2.2.2.2.2.2.1
theorem Gd.hlo (G : Gd κ cc nL own fr lo) : lo ≤ κ.R.locals := G.2.2.2.2.2.2.2.2.1
theorem Gd.hA9 (G : Gd κ cc nL own fr lo) : ∀ q, κ.s.heap.size ≤ q → κ.A q := G.2.2.2.2.2.2.2.2.2.1
theorem Gd.hSX (G : Gd κ cc nL own fr lo) : SX κ.E κ.A κ.s := G.2.2.2.2.2.2.2.2.2.2
theorem Gd.hSw (G : Gd κ cc nL own fr lo) : SXw κ.s := G.hSX.1
theorem Gd.hinj (G : Gd κ cc nL own fr lo) : Inj κ.E idsC := G.hSX.2.2
theorem Gd.hsc (G : Gd κ cc nL own fr lo) : va_X κ.E.sc.1 κ.E.sc.2.1 κ.E.sc.2.2 κ.s κ.s.heap ∧ κ.E.sc.1 < κ.s.heap.size ∧ ¬ κ.A κ.E.sc.1 ∧ κ.E.sc.2.1 ≤ 260 := G.hSX.2.1
theorem Gd.AA (G : Gd κ cc nL own fr lo) : AA κ.E κ.s := by
  obtain ⟨comp, c, k, h1, h2, h3, h4, h5⟩ := arrayOverA_spec G.hSw.2.1
  have e0 : κ.s.vm.findClass "[I" = some (κ.E.cy 0) := (G.hK.2 0 (κ.E.cy 0, .int) rfl).2
  have e5 : κ.s.vm.findClass ("[" ++ (FieldType.array .int).toString) = some (κ.E.cy 5) := (G.hK.2 5 (κ.E.cy 5, .array .int) rfl).2
  have q0 : comp = κ.E.cy 0 := Option.some.inj (h1.symm.trans e0)
  have q5 : c = κ.E.cy 5 := Option.some.inj (h5.symm.trans e5)
  subst q0
  subst q5
  exact ⟨k, h3, h4⟩
theorem h_aload_n (G : Gd κ cc nL own fr lo) {k : Fin 4} {x : Nat} (d : decode cc pc = .ok (.aload_n k, 1)) (hi : l[(k : Nat)]? = some (some (.ref x))) (h : HV κ nL σ cN dN l (.ref x :: st) (pc + 1)) : HV κ nL σ cN dN l st pc := fun H locs ls hP hS hl => lv_aload_n G.hx G.hb d rfl (hl.rd hi) (h H locs ls hP hS hl)
theorem h_aload (G : Gd κ cc nL own fr lo) {i : Nat} {x : Nat} (d : decode cc pc = .ok (.aload i, 2)) (hi : l[i]? = some (some (.ref x))) (h : HV κ nL σ cN dN l (.ref x :: st) (pc + 2)) : HV κ nL σ cN dN l st pc := fun H locs ls hP hS hl => lv_aload G.hx G.hb d (hl.rd hi) (h H locs ls hP hS hl)
theorem h_iload_n (G : Gd κ cc nL own fr lo) {k : Fin 4} {x : Int32} (d : decode cc pc = .ok (.iload_n k, 1)) (hi : l[(k : Nat)]? = some (some (.int x))) (h : HV κ nL σ cN dN l (.int x :: st) (pc + 1)) : HV κ nL σ cN dN l st pc := fun H locs ls hP hS hl => lv_iload_n G.hx G.hb d rfl (hl.rd hi) (h H locs ls hP hS hl)
theorem h_iload (G : Gd κ cc nL own fr lo) {i : Nat} {x : Int32} (d : decode cc pc = .ok (.iload i, 2)) (hi : l[i]? = some (some (.int x))) (h : HV κ nL σ cN dN l (.int x :: st) (pc + 2)) : HV κ nL σ cN dN l st pc := fun H locs ls hP hS hl => lv_iload G.hx G.hb d (hl.rd hi) (h H locs ls hP hS hl)
theorem h_astore_n (G : Gd κ cc nL own fr lo) {k : Fin 4} {x : Nat} (d : decode cc pc = .ok (.astore_n k, 1)) (hn : (k : Nat) < nL) (hk : okSt l (k : Nat) = true) (h : HV κ nL σ cN dN (l.set (k : Nat) (some (.ref x))) st (pc + 1)) : HV κ nL σ cN dN l (.ref x :: st) pc := fun H locs ls hP hS ⟨lv, h1, h2, h3⟩ => lv_astore_n G.hx G.hb d rfl h1 hn rfl (fun ls' h4 => h H locs ls' hP hS (LV.wr h2 h3 hk h4))
theorem h_astore (G : Gd κ cc nL own fr lo) {i : Nat} {x : Nat} (d : decode cc pc = .ok (.astore i, 2)) (hn : i < nL) (hk : okSt l i = true) (h : HV κ nL σ cN dN (l.set i (some (.ref x))) st (pc + 2)) : HV κ nL σ cN dN l (.ref x :: st) pc := fun H locs ls hP hS ⟨lv, h1, h2, h3⟩ => lv_astore G.hx G.hb d h1 hn rfl (fun ls' h4 => h H locs ls' hP hS (LV.wr h2 h3 hk h4))
theorem h_istore_n (G : Gd κ cc nL own fr lo) {k : Fin 4} {x : Int32} (d : decode cc pc = .ok (.istore_n k, 1)) (hn : (k : Nat) < nL) (hk : okSt l (k : Nat) = true) (h : HV κ nL σ cN dN (l.set (k : Nat) (some (.int x))) st (pc + 1)) : HV κ nL σ cN dN l (.int x :: st) pc := fun H locs ls hP hS ⟨lv, h1, h2, h3⟩ => lv_istore_n G.hx G.hb d rfl h1 hn rfl (fun ls' h4 => h H locs ls' hP hS (LV.wr h2 h3 hk h4))
theorem h_istore (G : Gd κ cc nL own fr lo) {i : Nat} {x : Int32} (d : decode cc pc = .ok (.istore i, 2)) (hn : i < nL) (hk : okSt l i = true) (h : HV κ nL σ cN dN (l.set i (some (.int x))) st (pc + 2)) : HV κ nL σ cN dN l (.int x :: st) pc := fun H locs ls hP hS ⟨lv, h1, h2, h3⟩ => lv_istore G.hx G.hb d h1 hn rfl (fun ls' h4 => h H locs ls' hP hS (LV.wr h2 h3 hk h4))
theorem h_iinc (G : Gd κ cc nL own fr lo) {i : Nat} {n : Int} {x v : Int32} (d : decode cc pc = .ok (.iinc i n, 3)) (hi : l[i]? = some (some (.int x))) (hn : i < nL) (hk : okSt l i = true) (hv : x + Int32.ofInt n = v) (h : HV κ nL σ cN dN (l.set i (some (.int v))) st (pc + 3)) : HV κ nL σ cN dN l st pc := fun H locs ls hP hS ⟨lv, h1, h2, h3⟩ => by
  obtain ⟨k, hk9⟩ := List.getElem?_of_mem (h3 i _ hi)
  exact lv_iinc G.hx G.hb d h1 hk9 hv hn rfl (fun ls' h4 => h H locs ls' hP hS (LV.wr h2 h3 hk h4))
theorem h_iconst (G : Gd κ cc nL own fr lo) {n : Int} {v : Int32} (d : decode cc pc = .ok (.iconst n, 1)) (hv : Int32.ofInt n = v) (h : HV κ nL σ cN dN l (.int v :: st) (pc + 1)) : HV κ nL σ cN dN l st pc := fun H locs ls hP hS hl => lv_iconst G.hx G.hb d hv (h H locs ls hP hS hl)
theorem h_bipush (G : Gd κ cc nL own fr lo) {n : Int} {v : Int32} (d : decode cc pc = .ok (.bipush n, 2)) (hv : (Int8.ofInt n).toInt32 = v) (h : HV κ nL σ cN dN l (.int v :: st) (pc + 2)) : HV κ nL σ cN dN l st pc := fun H locs ls hP hS hl => lv_bipush G.hx G.hb d hv (h H locs ls hP hS hl)
theorem h_sipush (G : Gd κ cc nL own fr lo) {n : Int} {v : Int32} (d : decode cc pc = .ok (.sipush n, 3)) (hv : (Int16.ofInt n).toInt32 = v) (h : HV κ nL σ cN dN l (.int v :: st) (pc + 3)) : HV κ nL σ cN dN l st pc := fun H locs ls hP hS hl => lv_sipush G.hx G.hb d hv (h H locs ls hP hS hl)
theorem h_ldc (G : Gd κ cc nL own fr lo) {index : Nat} {v : Int32} (d : decode cc pc = .ok (.ldc index, 2)) (hc : Cond.constant own index v ∈ ALL) (h : HV κ nL σ cN dN l (.int v :: st) (pc + 2)) : HV κ nL σ cN dN l st pc := fun H locs ls hP hS hl => lv_ldc G.hx G.hb G.hown (G.hw _ hc) d (h H locs ls hP hS hl)
theorem h_iadd (G : Gd κ cc nL own fr lo) {x y : Int32} (d : decode cc pc = .ok (.iadd, 1)) (h : HV κ nL σ cN dN l (.int (x + y) :: st) (pc + 1)) : HV κ nL σ cN dN l (.int y :: .int x :: st) pc := fun H locs ls hP hS hl => lv_iadd G.hx G.hb d (h H locs ls hP hS hl)
theorem h_isub (G : Gd κ cc nL own fr lo) {x y : Int32} (d : decode cc pc = .ok (.isub, 1)) (h : HV κ nL σ cN dN l (.int (x - y) :: st) (pc + 1)) : HV κ nL σ cN dN l (.int y :: .int x :: st) pc := fun H locs ls hP hS hl => lv_isub G.hx G.hb d (h H locs ls hP hS hl)
theorem h_imul (G : Gd κ cc nL own fr lo) {x y : Int32} (d : decode cc pc = .ok (.imul, 1)) (h : HV κ nL σ cN dN l (.int (x * y) :: st) (pc + 1)) : HV κ nL σ cN dN l (.int y :: .int x :: st) pc := fun H locs ls hP hS hl => lv_imul G.hx G.hb d (h H locs ls hP hS hl)
theorem h_irem (G : Gd κ cc nL own fr lo) {x y : Int32} (d : decode cc pc = .ok (.irem, 1)) (hne : ¬ y = 0) (h : HV κ nL σ cN dN l (.int (x - x / y * y) :: st) (pc + 1)) : HV κ nL σ cN dN l (.int y :: .int x :: st) pc := fun H locs ls hP hS hl => lv_irem G.hx G.hb d hne (h H locs ls hP hS hl)
theorem h_dup (G : Gd κ cc nL own fr lo) {a : Value} (d : decode cc pc = .ok (.dup, 1)) (hv : a.category = 1) (h : HV κ nL σ cN dN l (a :: a :: st) (pc + 1)) : HV κ nL σ cN dN l (a :: st) pc := fun H locs ls hP hS hl => lv_dup G.hx G.hb d hv (h H locs ls hP hS hl)
theorem h_dup2 (G : Gd κ cc nL own fr lo) {a b : Value} (d : decode cc pc = .ok (.dup2, 1)) (hv : a.category = 1) (hv2 : b.category = 1) (h : HV κ nL σ cN dN l (a :: b :: a :: b :: st) (pc + 1)) : HV κ nL σ cN dN l (a :: b :: st) pc := fun H locs ls hP hS hl => lv_dup2_11 G.hx G.hb d hv hv2 (h H locs ls hP hS hl)
theorem h_pop (G : Gd κ cc nL own fr lo) {a : Value} (d : decode cc pc = .ok (.pop, 1)) (hv : a.category = 1) (h : HV κ nL σ cN dN l st (pc + 1)) : HV κ nL σ cN dN l (a :: st) pc := fun H locs ls hP hS hl => lv_pop G.hx G.hb d hv (h H locs ls hP hS hl)
theorem h_goto (G : Gd κ cc nL own fr lo) {off : Int} (tgt : Nat) (d : decode cc pc = .ok (.goto off, 3)) (ht : (pc : Int) + off = (tgt : Int)) (h : HV κ nL σ cN dN l st tgt) : HV κ nL σ cN dN l st pc := fun H locs ls hP hS hl => lv_goto G.hx G.hb d ht (h H locs ls hP hS hl)
theorem h_if_eq (G : Gd κ cc nL own fr lo) {x : Int32} {off : Int} (tgt : Nat) (d : decode cc pc = .ok (.ifCond .eq off, 3)) (ht : (pc : Int) + off = (tgt : Int)) (kt : x = 0 → HV κ nL σ cN dN l st tgt) (kf : ¬ x = 0 → HV κ nL σ cN dN l st (pc + 3)) : HV κ nL σ cN dN l (.int x :: st) pc := fun H locs ls hP hS hl => lv_if_eq G.hx G.hb d ht (fun q => kt q H locs ls hP hS hl) (fun q => kf q H locs ls hP hS hl)
theorem h_icmp_eq (G : Gd κ cc nL own fr lo) {x y : Int32} {off : Int} (tgt : Nat) (d : decode cc pc = .ok (.if_icmp .eq off, 3)) (ht : (pc : Int) + off = (tgt : Int)) (kt : x = y → HV κ nL σ cN dN l st tgt) (kf : ¬ x = y → HV κ nL σ cN dN l st (pc + 3)) : HV κ nL σ cN dN l (.int y :: .int x :: st) pc := fun H locs ls hP hS hl => lv_icmp_eq G.hx G.hb d ht (fun q => kt q H locs ls hP hS hl) (fun q => kf q H locs ls hP hS hl)
theorem h_if_ne (G : Gd κ cc nL own fr lo) {x : Int32} {off : Int} (tgt : Nat) (d : decode cc pc = .ok (.ifCond .ne off, 3)) (ht : (pc : Int) + off = (tgt : Int)) (kt : ¬ x = 0 → HV κ nL σ cN dN l st tgt) (kf : x = 0 → HV κ nL σ cN dN l st (pc + 3)) : HV κ nL σ cN dN l (.int x :: st) pc := fun H locs ls hP hS hl => lv_if_ne G.hx G.hb d ht (fun q => kt q H locs ls hP hS hl) (fun q => kf q H locs ls hP hS hl)
theorem h_icmp_ne (G : Gd κ cc nL own fr lo) {x y : Int32} {off : Int} (tgt : Nat) (d : decode cc pc = .ok (.if_icmp .ne off, 3)) (ht : (pc : Int) + off = (tgt : Int)) (kt : ¬ x = y → HV κ nL σ cN dN l st tgt) (kf : x = y → HV κ nL σ cN dN l st (pc + 3)) : HV κ nL σ cN dN l (.int y :: .int x :: st) pc := fun H locs ls hP hS hl => lv_icmp_ne G.hx G.hb d ht (fun q => kt q H locs ls hP hS hl) (fun q => kf q H locs ls hP hS hl)
theorem h_if_lt (G : Gd κ cc nL own fr lo) {x : Int32} {off : Int} (tgt : Nat) (d : decode cc pc = .ok (.ifCond .lt off, 3)) (ht : (pc : Int) + off = (tgt : Int)) (kt : x < 0 → HV κ nL σ cN dN l st tgt) (kf : ¬ x < 0 → HV κ nL σ cN dN l st (pc + 3)) : HV κ nL σ cN dN l (.int x :: st) pc := fun H locs ls hP hS hl => lv_if_lt G.hx G.hb d ht (fun q => kt q H locs ls hP hS hl) (fun q => kf q H locs ls hP hS hl)
theorem h_icmp_lt (G : Gd κ cc nL own fr lo) {x y : Int32} {off : Int} (tgt : Nat) (d : decode cc pc = .ok (.if_icmp .lt off, 3)) (ht : (pc : Int) + off = (tgt : Int)) (kt : x < y → HV κ nL σ cN dN l st tgt) (kf : ¬ x < y → HV κ nL σ cN dN l st (pc + 3)) : HV κ nL σ cN dN l (.int y :: .int x :: st) pc := fun H locs ls hP hS hl => lv_icmp_lt G.hx G.hb d ht (fun q => kt q H locs ls hP hS hl) (fun q => kf q H locs ls hP hS hl)
theorem h_if_ge (G : Gd κ cc nL own fr lo) {x : Int32} {off : Int} (tgt : Nat) (d : decode cc pc = .ok (.ifCond .ge off, 3)) (ht : (pc : Int) + off = (tgt : Int)) (kt : 0 ≤ x → HV κ nL σ cN dN l st tgt) (kf : ¬ 0 ≤ x → HV κ nL σ cN dN l st (pc + 3)) : HV κ nL σ cN dN l (.int x :: st) pc := fun H locs ls hP hS hl => lv_if_ge G.hx G.hb d ht (fun q => kt q H locs ls hP hS hl) (fun q => kf q H locs ls hP hS hl)
theorem h_icmp_ge (G : Gd κ cc nL own fr lo) {x y : Int32} {off : Int} (tgt : Nat) (d : decode cc pc = .ok (.if_icmp .ge off, 3)) (ht : (pc : Int) + off = (tgt : Int)) (kt : y ≤ x → HV κ nL σ cN dN l st tgt) (kf : ¬ y ≤ x → HV κ nL σ cN dN l st (pc + 3)) : HV κ nL σ cN dN l (.int y :: .int x :: st) pc := fun H locs ls hP hS hl => lv_icmp_ge G.hx G.hb d ht (fun q => kt q H locs ls hP hS hl) (fun q => kf q H locs ls hP hS hl)
theorem h_if_gt (G : Gd κ cc nL own fr lo) {x : Int32} {off : Int} (tgt : Nat) (d : decode cc pc = .ok (.ifCond .gt off, 3)) (ht : (pc : Int) + off = (tgt : Int)) (kt : 0 < x → HV κ nL σ cN dN l st tgt) (kf : ¬ 0 < x → HV κ nL σ cN dN l st (pc + 3)) : HV κ nL σ cN dN l (.int x :: st) pc := fun H locs ls hP hS hl => lv_if_gt G.hx G.hb d ht (fun q => kt q H locs ls hP hS hl) (fun q => kf q H locs ls hP hS hl)
theorem h_icmp_gt (G : Gd κ cc nL own fr lo) {x y : Int32} {off : Int} (tgt : Nat) (d : decode cc pc = .ok (.if_icmp .gt off, 3)) (ht : (pc : Int) + off = (tgt : Int)) (kt : y < x → HV κ nL σ cN dN l st tgt) (kf : ¬ y < x → HV κ nL σ cN dN l st (pc + 3)) : HV κ nL σ cN dN l (.int y :: .int x :: st) pc := fun H locs ls hP hS hl => lv_icmp_gt G.hx G.hb d ht (fun q => kt q H locs ls hP hS hl) (fun q => kf q H locs ls hP hS hl)
theorem h_if_le (G : Gd κ cc nL own fr lo) {x : Int32} {off : Int} (tgt : Nat) (d : decode cc pc = .ok (.ifCond .le off, 3)) (ht : (pc : Int) + off = (tgt : Int)) (kt : x ≤ 0 → HV κ nL σ cN dN l st tgt) (kf : ¬ x ≤ 0 → HV κ nL σ cN dN l st (pc + 3)) : HV κ nL σ cN dN l (.int x :: st) pc := fun H locs ls hP hS hl => lv_if_le G.hx G.hb d ht (fun q => kt q H locs ls hP hS hl) (fun q => kf q H locs ls hP hS hl)
theorem h_icmp_le (G : Gd κ cc nL own fr lo) {x y : Int32} {off : Int} (tgt : Nat) (d : decode cc pc = .ok (.if_icmp .le off, 3)) (ht : (pc : Int) + off = (tgt : Int)) (kt : x ≤ y → HV κ nL σ cN dN l st tgt) (kf : ¬ x ≤ y → HV κ nL σ cN dN l st (pc + 3)) : HV κ nL σ cN dN l (.int y :: .int x :: st) pc := fun H locs ls hP hS hl => lv_icmp_le G.hx G.hb d ht (fun q => kt q H locs ls hP hS hl) (fun q => kf q H locs ls hP hS hl)
theorem h_tableIn (G : Gd κ cc nL own fr lo) {dflt lo9 hi9 : Int} {offs : Array Int} {len : Nat} {x : Int32} {off : Int} (tgt : Nat) (d : decode cc pc = .ok (.tableswitch dflt lo9 hi9 offs, len)) (h1 : ¬ x.toInt < lo9) (h2 : ¬ hi9 < x.toInt) (ho : offs[(x.toInt - lo9).toNat]? = some off) (ht : (pc : Int) + off = (tgt : Int)) (h : HV κ nL σ cN dN l st tgt) : HV κ nL σ cN dN l (.int x :: st) pc := fun H locs ls hP hS hl => lv_tableIn G.hx G.hb d h1 h2 ho ht (h H locs ls hP hS hl)
theorem h_tableOut (G : Gd κ cc nL own fr lo) {dflt lo9 hi9 : Int} {offs : Array Int} {len : Nat} {x : Int32} (tgt : Nat) (d : decode cc pc = .ok (.tableswitch dflt lo9 hi9 offs, len)) (h1 : x.toInt < lo9 ∨ hi9 < x.toInt) (ht : (pc : Int) + dflt = (tgt : Int)) (h : HV κ nL σ cN dN l st tgt) : HV κ nL σ cN dN l (.int x :: st) pc := fun H locs ls hP hS hl => lv_tableOut G.hx G.hb d h1 ht (h H locs ls hP hS hl)
theorem h_idiv (G : Gd κ cc nL own fr lo) {x y : Int32} (d : decode cc pc = .ok (.idiv, 1)) (hne : ¬ y = 0) (h : HV κ nL σ cN dN l (.int (x / y) :: st) (pc + 1)) : HV κ nL σ cN dN l (.int y :: .int x :: st) pc := fun H locs ls hP hS hl => lv_idiv G.hx G.hb d hne (h H locs ls hP hS hl)
theorem h_iand (G : Gd κ cc nL own fr lo) {x y : Int32} (d : decode cc pc = .ok (.iand, 1)) (h : HV κ nL σ cN dN l (.int (x &&& y) :: st) (pc + 1)) : HV κ nL σ cN dN l (.int y :: .int x :: st) pc := fun H locs ls hP hS hl => lv_iand G.hx G.hb d (h H locs ls hP hS hl)
theorem h_ishr (G : Gd κ cc nL own fr lo) {x y : Int32} (d : decode cc pc = .ok (.ishr, 1)) (h : HV κ nL σ cN dN l (.int (x >>> (y &&& 31)) :: st) (pc + 1)) : HV κ nL σ cN dN l (.int y :: .int x :: st) pc := fun H locs ls hP hS hl => lv_ishr G.hx G.hb d (h H locs ls hP hS hl)
theorem h_i2d (G : Gd κ cc nL own fr lo) {x : Int32} (d : decode cc pc = .ok (.i2d, 1)) (h : HV κ nL σ cN dN l (.double (FP.i2d x) :: st) (pc + 1)) : HV κ nL σ cN dN l (.int x :: st) pc := fun H locs ls hP hS hl => lv_i2d G.hx G.hb d (h H locs ls hP hS hl)
theorem h_dconst0 (G : Gd κ cc nL own fr lo) (d : decode cc pc = .ok (.dconst 0, 1)) (h : HV κ nL σ cN dN l (.double FP.dconst0 :: st) (pc + 1)) : HV κ nL σ cN dN l st pc := fun H locs ls hP hS hl => lv_dconst0 G.hx G.hb d (h H locs ls hP hS hl)
theorem h_ddiv (G : Gd κ cc nL own fr lo) {x y : UInt64} (d : decode cc pc = .ok (.ddiv, 1)) (hne : vf_n64 (FP.ddiv x y)) (h : HV κ nL σ cN dN l (.double (FP.ddiv x y) :: st) (pc + 1)) : HV κ nL σ cN dN l (.double y :: .double x :: st) pc := fun H locs ls hP hS hl => lv_ddiv G.hx G.hb d hne (h H locs ls hP hS hl)
theorem h_dcmp (G : Gd κ cc nL own fr lo) {x y : UInt64} {op : CmpOp} (d : decode cc pc = .ok (.dcmp op, 1)) (h : HV κ nL σ cN dN l (.int (Op.cmpValue (FP.dcmp x y) op) :: st) (pc + 1)) : HV κ nL σ cN dN l (.double y :: .double x :: st) pc := fun H locs ls hP hS hl => lv_dcmp G.hx G.hb d (h H locs ls hP hS hl)
theorem h_ifnonnull (G : Gd κ cc nL own fr lo) {x : Nat} {off : Int} (tgt : Nat) (d : decode cc pc = .ok (.ifnonnull off, 3)) (ht : (pc : Int) + off = (tgt : Int)) (h : HV κ nL σ cN dN l st tgt) : HV κ nL σ cN dN l (.ref x :: st) pc := fun H locs ls hP hS hl => lv_ifnonnull G.hx G.hb d ht (h H locs ls hP hS hl)
theorem h_mmin (G : Gd κ cc nL own fr lo) {index : Nat} {x y : Int32} (d : decode cc pc = .ok (.invokestatic index, 3)) (hm : Cond.methodLink own index Lib.Math.min.name ∈ ALL) (hf : 1 ≤ fr) (hlo : (st.map fun v => v.category).sum + 13 ≤ lo) (hc : cN ≤ κ.R.cells) (hd : dN ≤ κ.R.slots) (h : HV κ nL σ cN dN l (.int (if y < x then y else x) :: st) (pc + 3)) : HV κ nL σ cN dN l (.int y :: .int x :: st) pc := fun H locs ls hP hS hl => va_mmin G.hx G.hb (by obtain ⟨lv, h1, -⟩ := hl; rw [G.hml]; exact h1.1.symm) G.hown (G.hw _ hm) (G.hw _ (by decide +kernel)) (G.hw _ (by decide +kernel)) (G.hw _ (by decide +kernel)) (Nat.le_trans hf G.hfr) (Nat.le_trans hlo G.hlo) hc hd d (h H locs ls hP hS hl)
theorem h_mmax (G : Gd κ cc nL own fr lo) {index : Nat} {x y : Int32} (d : decode cc pc = .ok (.invokestatic index, 3)) (hm : Cond.methodLink own index Lib.Math.max.name ∈ ALL) (hf : 1 ≤ fr) (hlo : (st.map fun v => v.category).sum + 13 ≤ lo) (hc : cN ≤ κ.R.cells) (hd : dN ≤ κ.R.slots) (h : HV κ nL σ cN dN l (.int (if x < y then y else x) :: st) (pc + 3)) : HV κ nL σ cN dN l (.int y :: .int x :: st) pc := fun H locs ls hP hS hl => va_mmax G.hx G.hb (by obtain ⟨lv, h1, -⟩ := hl; rw [G.hml]; exact h1.1.symm) G.hown (G.hw _ hm) (G.hw _ (by decide +kernel)) (G.hw _ (by decide +kernel)) (G.hw _ (by decide +kernel)) (Nat.le_trans hf G.hfr) (Nat.le_trans hlo G.hlo) hc hd d (h H locs ls hP hS hl)
/-- a field is read -/
theorem h_get (G : Gd κ cc nL own fr lo) {a : Nat} {i : Pid} {index ci N k : Nat} {C : String} {T : u_T} {fs : List Value} {v : Value} (hs : σ a = some (i, .inr (ci, fs))) (hin : ∀ w ∈ u_ws C T N, w ∈ ALL) (hc : vwCl[ci]? = some (C, T, N)) (hk : k < N) (hlink : Cond.fieldLink own index (T k).1 (T k).2.1 (T k).2.2.1 ∈ ALL) (hv : fs[k]? = some v) (d : decode cc pc = .ok (.getfield index, 3)) (h : HV κ nL σ cN dN l (v :: st) (pc + 3)) : HV κ nL σ cN dN l (.ref a :: st) pc := fun H locs ls hP hS hl => by
  obtain ⟨q0, h1⟩ := hP.get hs
  exact va_get G.hx G.hb G.hw hin G.hown G.hK (hP.P _) q0 h1 hc k hk (G.hw _ hlink) (fun x h => h) hv d (h H locs ls hP hS hl)
/-- a field is written -/
theorem h_put (G : Gd κ cc nL own fr lo) {a : Nat} {i : Pid} {index ci N k : Nat} {C : String} {T : u_T} {fs : List Value} {v : Value} {ty : FieldType} (hs : σ a = some (i, .inr (ci, fs))) (hin : ∀ w ∈ u_ws C T N, w ∈ ALL) (ty0 : Nat → FieldType) (hty : ∀ k, k < N → parseFieldDescriptor (T k).2.2.1 = some (ty0 k)) (hnm : ∀ a, a < N → ∀ b, b < N → a ≠ b → (T a).2.1 ≠ (T b).2.1) (hc : vwCl[ci]? = some (C, T, N)) (hk : k < N) (hlink : Cond.fieldLink own index (T k).1 (T k).2.1 (T k).2.2.1 ∈ ALL) (hfin : (T k).2.2.2 = false) (hd : parseFieldDescriptor (T k).2.2.1 = some ty) (hn : narrow ty v = v) (hfit : fits ty v = true) (hl9 : k < fs.length) (d : decode cc pc = .ok (.putfield index, 3)) (h : HV κ nL (sup σ a i (.inr (ci, fs.set k v))) cN dN l st (pc + 3)) : HV κ nL σ cN dN l (v :: .ref a :: st) pc := fun H locs ls hP hS hl => by
  obtain ⟨q0, h1⟩ := hP.get hs
  refine va_put G.hx G.hb G.hw hin ty0 hty hnm G.hown G.hK (hP.P _) (hP.Dd _) hS q0 h1 hc k hk (G.hw _ hlink) (fun x h => h) hfin hd hn hfit hl9 d (fun H1 locs1 hP1 _ hS1 => ?_)
  exact h H1 locs1 ls (hP.set hs h1 hP1) hS1 hl
theorem h_iald (G : Gd κ cc nL own fr lo) {a : Nat} {i : Pid} {n j : Nat} {f : Nat → Int32} {x : Int32} (hs : σ a = some (i, .inl (κ.E.cy 0, pInts n f))) (hx : x = nI j) (hj : j < n) (hn : n < 2 ^ 31) (d : decode cc pc = .ok (.iaload, 1)) (h : HV κ nL σ cN dN l (.int (f j) :: st) (pc + 1)) : HV κ nL σ cN dN l (.int x :: .ref a :: st) pc := fun H locs ls hP hS hl => by
  obtain ⟨q0, h1⟩ := hP.get hs
  subst hx
  refine va_iald (f := f) G.hx G.hb G.hK (hP.P _) q0 0 h1 rfl (vp_in_nI hj hn) d ?_
  rw [nI_clamp (by omega)]
  exact h H locs ls hP hS hl
theorem h_iast (G : Gd κ cc nL own fr lo) {a : Nat} {i : Pid} {n j : Nat} {f : Nat → Int32} {x v : Int32} (hs : σ a = some (i, .inl (κ.E.cy 0, pInts n f))) (hx : x = nI j) (hj : j < n) (hn : n < 2 ^ 31) (d : decode cc pc = .ok (.iastore, 1)) (h : HV κ nL (sup σ a i (.inl (κ.E.cy 0, pInts n (upd f j v)))) cN dN l st (pc + 1)) : HV κ nL σ cN dN l (.int v :: .int x :: .ref a :: st) pc := fun H locs ls hP hS hl => by
  obtain ⟨q0, h1⟩ := hP.get hs
  subst hx
  refine va_iast (f := f) G.hx G.hb G.hK (hP.P _) (hP.Dd _) hS q0 0 h1 rfl (vp_in_nI hj hn) d (fun H1 locs1 hP1 _ hS1 => ?_)
  rw [nI_clamp (by omega)] at hP1
  exact h H1 locs1 ls (hP.set hs h1 hP1) hS1 hl
/-- of a row of objects -/
theorem h_aalO (G : Gd κ cc nL own fr lo) {a b : Nat} {i : Pid} {n j t0 : Nat} {C : String} {f : Nat → Option Nat} {x : Int32} (hs : σ a = some (i, .inl (κ.E.cy t0, pRefs n f))) (ht : (tysF κ.E.cy)[t0]? = some (κ.E.cy t0, .object C)) (hx : x = nI j) (hj : j < n) (hn : n < 2 ^ 31) (hf : f j = some b) (d : decode cc pc = .ok (.aaload, 1)) (h : HV κ nL σ cN dN l (.ref b :: st) (pc + 1)) : HV κ nL σ cN dN l (.int x :: .ref a :: st) pc := fun H locs ls hP hS hl => by
  obtain ⟨q0, h1⟩ := hP.get hs
  subst hx
  refine va_aldq (f := f) G.hx G.hb G.hK (hP.P _) q0 t0 h1 ht (vp_in_nI hj hn) d ?_
  rw [nI_clamp (by omega), hf]
  exact h H locs ls hP hS hl
theorem h_aasO (G : Gd κ cc nL own fr lo) {a b : Nat} {i j9 : Pid} {n j t0 ci : Nat} {r : vw_C} {vs : List Value} {f : Nat → Option Nat} {x : Int32} (hs : σ a = some (i, .inl (κ.E.cy t0, pRefs n f))) (ht : (tysF κ.E.cy)[t0]? = some (κ.E.cy t0, .object r.1)) (hv : σ b = some (j9, .inr (ci, vs))) (hc : vwCl[ci]? = some r) (hx : x = nI j) (hj : j < n) (hn : n < 2 ^ 31) (d : decode cc pc = .ok (.aastore, 1)) (h : HV κ nL (sup σ a i (.inl (κ.E.cy t0, pRefs n (va_up f j (some b))))) cN dN l st (pc + 1)) : HV κ nL σ cN dN l (.ref b :: .int x :: .ref a :: st) pc := fun H locs ls hP hS hl => by
  obtain ⟨q0, h1⟩ := hP.get hs
  obtain ⟨q1, h2⟩ := hP.get hv
  subst hx
  refine va_astq G.hx G.hb G.hK (hP.P _) (hP.Dd _) hS q0 t0 q1 ci h1 ht h2 hc (vp_in_nI hj hn) d (fun H1 locs1 hP1 _ hS1 => ?_)
  rw [nI_clamp (by omega)] at hP1
  exact h H1 locs1 ls (hP.set hs h1 hP1) hS1 hl
/-- of a row of int rows -/
theorem h_aalA (G : Gd κ cc nL own fr lo) {a b : Nat} {i : Pid} {n j : Nat} {f : Nat → Option Nat} {x : Int32} (hs : σ a = some (i, .inl (κ.E.cy 5, pRefs n f))) (hx : x = nI j) (hj : j < n) (hn : n < 2 ^ 31) (hf : f j = some b) (d : decode cc pc = .ok (.aaload, 1)) (h : HV κ nL σ cN dN l (.ref b :: st) (pc + 1)) : HV κ nL σ cN dN l (.int x :: .ref a :: st) pc := fun H locs ls hP hS hl => by
  subst hx
  have hcl := nI_clamp (n := j) (by omega)
  refine W.aald (v := .ref b) (ty := .array .int) G.hx G.hb (hP a i _ hs).2 (G.AA.arr n (fun j => va_rf (f j))) rfl (fun q => by cases q) (by show ¬ (nI j < 0 ∨ (arrV _ _ _).slots.size ≤ _); rw [arrV_size]; exact vp_in_nI hj hn) (by show (arrV _ _ _).slots[_]? = _; rw [hcl, arrV_read _ _ hj, hf]; rfl) rfl rfl d (h H locs ls hP hS hl)
theorem h_aasA (G : Gd κ cc nL own fr lo) {a v : Nat} {i j9 : Pid} {n j : Nat} {f : Nat → Option Nat} {x : Int32} {y : vp_A} (hs : σ a = some (i, .inl (κ.E.cy 5, pRefs n f))) (hv : σ v = some (j9, .inl (κ.E.cy 0, y))) (hx : x = nI j) (hj : j < n) (hn : n < 2 ^ 31) (d : decode cc pc = .ok (.aastore, 1)) (h : HV κ nL (sup σ a i (.inl (κ.E.cy 5, pRefs n (va_up f j (some v))))) cN dN l st (pc + 1)) : HV κ nL σ cN dN l (.ref v :: .int x :: .ref a :: st) pc := fun H locs ls hP hS hl => by
  subst hx
  have hcl := nI_clamp (n := j) (by omega)
  obtain ⟨kA, hkA, hkind⟩ := G.AA
  obtain ⟨kc, hkc⟩ : ∃ kc : Class, κ.s.vm.classes[κ.E.cy 0]? = some kc := by
    obtain ⟨-, kc, h, -⟩ := (G.hK.2 0 (κ.E.cy 0, .int) rfl).1 0 (fun _ => .null)
    exact ⟨kc, h⟩
  have ha : H[a]? = some (vp_cell (κ.E.cy 5) (pRefs n f)) := (hP a i _ hs).2
  have hvc : H[v]? = some (vp_cell (κ.E.cy 0) y) := (hP v j9 _ hv).2
  have hy1 : (vp_cell (κ.E.cy 0) y).vm = .none := by obtain ⟨n, f | f | f | f | f⟩ := y <;> rfl
  have hy2 : (vp_cell (κ.E.cy 0) y).cls = κ.E.cy 0 := by obtain ⟨n, f | f | f | f | f⟩ := y <;> rfl
  refine W.aast (comp := κ.E.cy 0) (t := .array .int) (cell := vp_cell (κ.E.cy 5) (pRefs n f)) (cv := vp_cell (κ.E.cy 0) y) G.hx G.hb ha (fun q z => by cases z) (fun z => by cases z) hkA hkind rfl hkc ⟨nI_pos (by omega), by rw [hcl]; show j < (arrV _ _ _).slots.size; rw [arrV_size]; exact hj⟩ hvc (fun q z => by rw [hy1] at z; cases z) (by rw [hy2]; exact hkc) (by rw [hy2]; exact va_asg _ _) rfl rfl d fun H1 e z oq => ?_
  rw [hcl] at e
  obtain ⟨q0, h1⟩ := hP.get hs
  have hP1 := (hP.P H.size).set (hP.Dd H.size) h1 (e := .inl (κ.E.cy 5, pRefs n (va_up f j (some v)))) (by
    show H1[a]? = some (vp_cell _ _)
    rw [e]
    rw [vp_cell_q, vp_cell_q, arrV_store]
    congr 2
    funext q
    by_cases hq : q = j
    · subst hq
      simp [updV, va_up, va_rf]
    · simp [updV, va_up, hq]) oq
  exact h H1 _ ls (hP.set hs h1 hP1) (hS.put z oq (hP a i _ hs).1) hl
/-- lengths -/
theorem h_alen (G : Gd κ cc nL own fr lo) {a : Nat} {i : Pid} {cA : ClassId} {x : vp_A} {ty : FieldType} (t0 : Nat) (hs : σ a = some (i, .inl (cA, x))) (ht : (tysF κ.E.cy)[t0]? = some (cA, ty)) (d : decode cc pc = .ok (.arraylength, 1)) (h : HV κ nL σ cN dN l (.int (nI x.1) :: st) (pc + 1)) : HV κ nL σ cN dN l (.ref a :: st) pc := fun H locs ls hP hS hl => by
  obtain ⟨q0, h1⟩ := hP.get hs
  exact va_alen G.hx G.hb G.hK (hP.P _) q0 t0 h1 ht rfl d (h H locs ls hP hS hl)
theorem h_sld (G : Gd κ cc nL own fr lo) {k : Nat} {x : Int32} (hx : x = nI k) (hk : k < κ.E.sc.2.1) (d : decode cc pc = .ok (.iaload, 1)) (h : HV κ nL σ cN dN l (.int (κ.E.sc.2.2 k) :: st) (pc + 1)) : HV κ nL σ cN dN l (.int x :: .ref κ.E.sc.1 :: st) pc := fun H locs ls hP hS hl => by
  subst hx
  obtain ⟨h1, h2, h3, h4⟩ := G.hsc
  refine va_sld G.hx G.hb (xs := κ.E.sc.2.2) (L := κ.E.sc.2.1) (b := κ.E.sc.1) h1 h2 h3 hS (vp_in_nI hk (by omega)) d ?_
  rw [nI_clamp (by omega)]
  exact h H locs ls hP hS hl
theorem h_slen (G : Gd κ cc nL own fr lo) (d : decode cc pc = .ok (.arraylength, 1)) (h : HV κ nL σ cN dN l (.int (nI κ.E.sc.2.1) :: st) (pc + 1)) : HV κ nL σ cN dN l (.ref κ.E.sc.1 :: st) pc := fun H locs ls hP hS hl => by
  obtain ⟨h1, h2, h3, h4⟩ := G.hsc
  exact va_slen G.hx G.hb (xs := κ.E.sc.2.2) (L := κ.E.sc.2.1) (b := κ.E.sc.1) h1 h2 h3 hS d (h H locs ls hP hS hl)
/-- what is made -/
theorem h_newi (G : Gd κ cc nL own fr lo) (lab : Pid) {x : Int32} {k : Nat} (hx : x = nI k) (hk : k < 2 ^ 20) (harr : Cond.arrayClass .int ∈ ALL) (hc : cN + 1 ≤ κ.R.cells) (hd : dN + k ≤ κ.R.slots) (dg : decode cc pc = .ok (.newarray .int, 2)) (h : ∀ q : Nat, σ q = none → HV κ nL (sup σ q lab (.inl (κ.E.cy 0, pInts k (fun _ => 0)))) (cN + 1) (dN + k) l (.ref q :: st) (pc + 2)) : HV κ nL σ cN dN l (.int x :: st) pc := fun H locs ls hP hS hl => by
  subst hx
  refine va_newa (atype := .int) (ty := .int) (a0 := pInts k (fun _ => 0)) G.hx G.hb (G.hw _ harr) rfl G.hK (hP.P H.size) (hP.Dd _) hS G.hA9 (fun cA => rfl) (nI_pos (by omega)) (nI_clamp (by omega)) (by show k * 4 ≤ _; omega) hc hd dg (fun q cA H1 hK1 hP1 hD1 hS1 => ?_)
  have e1 := (hK1.2 (tysF κ.E.cy).length (cA, .int) (by rw [List.getElem?_append_right (Nat.le_refl _), Nat.sub_self]; rfl)).2
  have e2 := (G.hK.2 0 (κ.E.cy 0, .int) rfl).2
  have e3 : cA = κ.E.cy 0 := Option.some.inj (e1.symm.trans e2)
  subst e3
  obtain ⟨z1, z2⟩ := hP.push lab hP1 hD1
  exact h q z1 H1 locs ls z2 hS1 hl
theorem h_new (G : Gd κ cc nL own fr lo) (lab : Pid) {index ci N : Nat} {C : String} {T : u_T} {fs : List Value} (hin : ∀ w ∈ u_ws C T N, w ∈ ALL) (ty : Nat → FieldType) (hty : ∀ k, k < N → parseFieldDescriptor (T k).2.2.1 = some (ty k)) (hcl : Cond.classLink own index C ∈ ALL) (hinst : Cond.instantiable C N ∈ ALL) (hini : Cond.initialized C ∈ ALL) (hc : vwCl[ci]? = some (C, T, N)) (hfs : ∀ j, j < N → defaultValue (ty j) = vp_V fs j) (hc9 : cN + 1 ≤ κ.R.cells) (hd9 : dN + N ≤ κ.R.slots) (dg : decode cc pc = .ok (.new index, 3)) (h : ∀ q : Nat, σ q = none → HV κ nL (sup σ q lab (.inr (ci, fs))) (cN + 1) (dN + N) l (.ref q :: st) (pc + 3)) : HV κ nL σ cN dN l st pc := fun H locs ls hP hS hl =>
  va_new G.hx G.hb G.hw hin ty hty G.hown (G.hw _ hcl) (G.hw _ hinst) (G.hw _ hini) G.hK (hP.P H.size) (hP.Dd _) hS G.hA9 hc hfs hc9 hd9 dg (fun q H1 hP1 hD1 hS1 => by
    obtain ⟨z1, z2⟩ := hP.push lab hP1 hD1
    exact h q z1 H1 locs ls z2 hS1 hl)
theorem va_RA_one {U : State} {x y : ClassId} {C : String} (h1 : va_RA U x (.object C)) (h2 : va_RA U y (.object C)) : x = y := by
  obtain ⟨_, _, _, _, _, h⟩ := h1
  obtain ⟨_, _, _, _, _, k⟩ := h2
  exact Option.some.inj (h.symm.trans k)
theorem h_newq (G : Gd κ cc nL own fr lo) (lab : Pid) {x : Int32} {n t0 index : Nat} {C : String} (hx : x = nI n) (hn : n < 2 ^ 20) (ht : (tysF κ.E.cy)[t0]? = some (κ.E.cy t0, .object C)) (hclink : Cond.classLink own index C ∈ ALL) (hover : va_AO C κ.s) (hc9 : cN + 1 ≤ κ.R.cells) (hd9 : dN + n ≤ κ.R.slots) (dg : decode cc pc = .ok (.anewarray index, 3)) (h : ∀ q : Nat, σ q = none → HV κ nL (sup σ q lab (.inl (κ.E.cy t0, pRefs n (fun _ => none)))) (cN + 1) (dN + n) l (.ref q :: st) (pc + 3)) : HV κ nL σ cN dN l (.int x :: st) pc := fun H locs ls hP hS hl => by
  subst hx
  refine va_newq G.hx G.hb G.hown (G.hw _ hclink) hover G.hK (hP.P H.size) (hP.Dd _) hS G.hA9 (nI_pos (by omega)) (nI_clamp (by omega)) (by omega) hc9 hd9 dg (fun q cA H1 hK1 hP1 hD1 hS1 => ?_)
  have e1 := (hK1.2 (tysF κ.E.cy).length (cA, .object C) (by rw [List.getElem?_append_right (Nat.le_refl _), Nat.sub_self]; rfl)).2
  have e2 := (G.hK.2 t0 _ ht).2
  have e3 : cA = κ.E.cy t0 := va_RA_one e1 e2
  subst e3
  obtain ⟨z1, z2⟩ := hP.push lab hP1 hD1
  exact h q z1 H1 locs ls z2 hS1 hl
theorem h_newA (G : Gd κ cc nL own fr lo) (lab : Pid) {x : Int32} {k index : Nat} (hx : x = nI k) (hk : k < 2 ^ 20) (hlink : Cond.classLink own index (FieldType.array .int).toString ∈ ALL) (hc : cN + 1 ≤ κ.R.cells) (hd : dN + k ≤ κ.R.slots) (dg : decode cc pc = .ok (.anewarray index, 3)) (h : ∀ q : Nat, σ q = none → HV κ nL (sup σ q lab (.inl (κ.E.cy 5, pRefs k (fun _ => none)))) (cN + 1) (dN + k) l (.ref q :: st) (pc + 3)) : HV κ nL σ cN dN l (.int x :: st) pc := fun H locs ls hP hS hl => by
  subst hx
  have hcl := nI_clamp (n := k) (by omega)
  refine W.anewA (t := .int) G.hx G.hb G.hown (G.hw _ hlink) (show (Cond.arrayOver (.array .int)).before κ.args κ.s = true from G.hSw.2.1) rfl dg rfl (nI_pos (by omega)) (by rw [hcl]; omega) hc (by rw [hcl]; exact hd) fun cA kA comp f1 f2 f3 f4 => ?_
  rw [hcl]
  have e5 : κ.s.vm.findClass ("[" ++ (FieldType.array .int).toString) = some (κ.E.cy 5) := (G.hK.2 5 (κ.E.cy 5, .array .int) rfl).2
  have e3 : cA = κ.E.cy 5 := Option.some.inj (f1.symm.trans e5)
  subst e3
  generalize hH1 : H.push ({ cls := κ.E.cy 5, slots := Array.replicate k .null, vm := .none } : Cell) = H1
  have z1 : H1.size = H.size + 1 := by rw [← hH1, Array.size_push]
  have e1 : H1[H.size]? = some (arrV (κ.E.cy 5) k (fun _ => .null)) := by rw [← hH1, Array.getElem?_push_size, ← arrV_new]
  have o1 : ∀ q : Nat, q < H.size → H1[q]? = H[q]? := fun q hq => by rw [← hH1, Array.getElem?_push, if_neg (Nat.ne_of_lt hq)]
  have hP1 : va_P κ.E.D vwCl (wld σ H.size ++ [(H.size, .inl (κ.E.cy 5, pRefs k (fun _ => none)))]) H1 := ((hP.P H.size).kept (fun k x hx => o1 x.1 (((hP.P H.size) k x hx).lt))).app (fun k x hx => by
    have hz : k < 1 := (List.getElem?_eq_some_iff.mp hx).1
    rw [show k = 0 by omega] at hx
    cases hx
    show H1[H.size]? = some (vp_cell _ _)
    rw [vp_cell_q]
    exact e1)
  obtain ⟨z2, z3⟩ := hP.push lab hP1 ((hP.Dd H.size).push (hP.P H.size) rfl (G.hA9 _ hS.1))
  exact h H.size z2 H1 locs ls z3 ⟨Nat.le_trans hS.1 (by omega), fun x h1 h2 => (o1 x (Nat.lt_of_lt_of_le h1 hS.1)).trans (hS.2.1 x h1 h2), hS.2.2⟩ hl
/-- new int[n][k] -/
theorem h_mna (G : Gd κ cc nL own fr lo) (lab : Pid) (labr : Nat → Pid) {x y : Int32} {n k index : Nat} (hx : x = nI n) (hy : y = nI k) (hn : n < 2 ^ 20) (hk : k < 2 ^ 20) (hlink : Cond.classLink own index ("[" ++ (FieldType.array .int).toString) ∈ ALL) (harr : Cond.arrayClass .int ∈ ALL) (hc : cN + (1 + n) ≤ κ.R.cells) (hd : dN + (n + n * k) ≤ κ.R.slots) (dg : decode cc pc = .ok (.multianewarray index 2, 4)) (h : ∀ (q : Nat) (r : Nat → Nat) (σ' : Sg), (∀ i j, i < n → j < n → r i = r j → i = j) → σ q = none → σ' q = some (lab, .inl (κ.E.cy 5, pRefs n (fun i => if i < n then some (r i) else none))) → (∀ i, i < n → σ' (r i) = some (labr i, .inl (κ.E.cy 0, pInts k (fun _ => 0)))) → (∀ b z, σ b = some z → σ' b = some z) → (∀ b, b ≠ q → (∀ i, i < n → b ≠ r i) → σ' b = σ b) → HV κ nL σ' (cN + 1 + n) (dN + n + n * k) l (.ref q :: st) (pc + 4)) : HV κ nL σ cN dN l (.int y :: .int x :: st) pc := fun H locs ls hP hS hl => by
  subst hx
  subst hy
  have hcy : κ.s.vm.findClass (FieldType.array .int).toString = some (κ.E.cy 0) := (G.hK.2 0 (κ.E.cy 0, .int) rfl).2
  refine va_mna (X := wld σ H.size) (L := []) (f := fun _ => .inl (κ.E.cy 0, pInts 0 (fun _ => 0))) (ty := .int) (cy := κ.E.cy 0) (z := pInts k (fun _ => 0)) G.hx G.hb G.hown (G.hw _ hlink) (show va_AOA .int κ.s from G.hSw.2.1) (G.hw _ harr) hcy G.hK (by show va_P _ _ (wld σ H.size ++ []) H; rw [List.append_nil]; exact hP.P _) (by show va_D _ (wld σ H.size ++ []); rw [List.append_nil]; exact hP.Dd _) hS G.hA9 (nI_pos (by omega)) (nI_pos (by omega)) (nI_clamp (by omega)) (nI_clamp (by omega)) (by omega) (by show k * 4 ≤ _; omega) (by omega) rfl rfl hc hd (fun c => by
    show ({ cls := c, slots := Array.replicate k (.int 0), vm := .none } : Cell) = _
    rw [arrV_new]
    rfl) dg (fun q r cA H1 hr _ hK1 hP1 hD1 hS1 => ?_)
  have e1 := (hK1.2 (tysF κ.E.cy).length (cA, .array .int) (by rw [List.getElem?_append_right (Nat.le_refl _), Nat.sub_self]; rfl)).2
  have e2 := (G.hK.2 5 (κ.E.cy 5, .array .int) rfl).2
  have e3 : cA = κ.E.cy 5 := Option.some.inj (e1.symm.trans e2)
  subst e3
  generalize hx : (n, Sum.inr (Sum.inr (Sum.inr (Sum.inr (fun i => if i < n then some (r i) else none))))) = xo at hP1 hD1
  have hP2 := va_P_app2 hP1
  obtain ⟨z1, z2⟩ := hP.push lab hP2.1 (va_D_app2 hD1).1
  have hrows : ∀ i, i < n → (r i, (.inl (κ.E.cy 0, pInts k (fun _ => 0)) : va_E)) ∈ va_pl ([] ++ (List.range n).map r) (vr_up (fun _ => .inl (κ.E.cy 0, pInts 0 (fun _ => 0))) ((List.range n).map r) (.inl (κ.E.cy 0, pInts k (fun _ => 0)))) := fun i hi => by
    unfold va_pl
    rw [List.nil_append]
    have hm : r i ∈ (List.range n).map r := List.mem_map.mpr ⟨i, List.mem_range.mpr hi, rfl⟩
    refine List.mem_map.mpr ⟨r i, hm, ?_⟩
    rw [vr_up_in hm]
  have hdis : ∀ i, i < n → r i ≠ q ∧ σ (r i) = none := fun i hi => by
    have d3 := (va_D_app2 hD1).2.2
    refine ⟨fun e => d3 (q, .inl (κ.E.cy 5, xo)) (List.mem_append_right _ List.mem_cons_self) _ (hrows i hi) e.symm, ?_⟩
    cases hs : σ (r i) with
    | none => rfl
    | some w =>
      obtain ⟨k2, hk2⟩ := hP.get (i := w.1) (e := w.2) hs
      exact (d3 (r i, w.2) (List.mem_append_left _ (List.mem_of_getElem? hk2)) _ (hrows i hi) rfl).elim
  refine h q r (fun b => if b = q then some (lab, .inl (κ.E.cy 5, pRefs n (fun i => if i < n then some (r i) else none))) else match (List.range n).find? (fun i => decide (r i = b)) with | some i => some (labr i, .inl (κ.E.cy 0, pInts k (fun _ => 0))) | none => σ b) hr z1 (if_pos rfl) (fun i hi => ?_) (fun b w hb => ?_) (fun b hb1 hb2 => ?_) H1 locs ls (fun b j e hb => ?_) hS1 hl
  · have hf : (List.range n).find? (fun j => decide (r j = r i)) = some i := by
      cases hff : (List.range n).find? (fun j => decide (r j = r i)) with
      | none => exact ((List.find?_eq_none.mp hff) i (List.mem_range.mpr hi) (decide_eq_true (rfl : r i = r i))).elim
      | some j =>
        have h1 := List.find?_some hff
        have h2 := List.mem_range.mp (List.mem_of_find?_eq_some hff)
        rw [hr j i h2 hi (of_decide_eq_true h1)]
    simp only [if_neg (hdis i hi).1, hf]
  · have hb1 : b ≠ q := fun e => by rw [e, z1] at hb; cases hb
    have hf : (List.range n).find? (fun j => decide (r j = b)) = none := List.find?_eq_none.mpr (fun j hj e => by
      have e9 := of_decide_eq_true e
      rw [← e9, (hdis j (List.mem_range.mp hj)).2] at hb
      cases hb)
    simp only [if_neg hb1, hf]
    exact hb
  · have hf : (List.range n).find? (fun j => decide (r j = b)) = none := List.find?_eq_none.mpr (fun j hj e => hb2 j (List.mem_range.mp hj) (of_decide_eq_true e).symm)
    simp only [if_neg hb1, hf]
  · by_cases hb1 : b = q
    · simp only [if_pos hb1] at hb
      cases hb
      subst hb1
      have := z2 b lab (.inl (κ.E.cy 5, xo)) sup_at
      rw [← hx] at this
      exact this
    · simp only [if_neg hb1] at hb
      cases hff : (List.range n).find? (fun j => decide (r j = b)) with
      | some i =>
        rw [hff] at hb
        cases hb
        have h0 := List.find?_some hff
        have h1 : r i = b := of_decide_eq_true h0
        have h2 := List.mem_range.mp (List.mem_of_find?_eq_some hff)
        obtain ⟨k2, hk2⟩ := List.getElem?_of_mem (hrows i h2)
        have h3 := hP2.2 k2 _ hk2
        have h4 := (va_D_app2 hD1).2.1.2 k2 _ hk2
        rw [h1] at h3 h4
        exact ⟨h4, h3⟩
      | none =>
        rw [hff] at hb
        have := z2 b j e (by rw [sup_ne hb1]; exact hb)
        exact this
/-- ghosts may be seen otherwise -/
theorem HV.see {σ' : Sg} (hs : ∀ (H : Heap), Hd κ.E.D κ.A σ H → Hd κ.E.D κ.A σ' H) (h : HV κ nL σ' cN dN l st pc) : HV κ nL σ cN dN l st pc := fun H locs ls hP hS hl => h H locs ls (hs H hP) hS hl
/-- another label -/
theorem HV.lab {a : Nat} {i j : Pid} {e : va_E} (hs : σ a = some (i, e)) (h : HV κ nL (sup σ a j e) cN dN l st pc) : HV κ nL σ cN dN l st pc := HV.see (fun H hP b i2 e2 hb => by
  by_cases hba : b = a
  · subst hba
    rw [sup_at] at hb
    cases hb
    exact hP b i e hs
  · rw [sup_ne hba] at hb
    exact hP b i2 e2 hb) h
/-- rows of references that agree below their length -/
theorem HV.refs {a n j : Nat} {i : Pid} {f f2 : Nat → Option Nat} (hs : σ a = some (i, .inl (κ.E.cy j, pRefs n f))) (hf : ∀ k, k < n → f2 k = f k) (h : HV κ nL (sup σ a i (.inl (κ.E.cy j, pRefs n f2))) cN dN l st pc) : HV κ nL σ cN dN l st pc := HV.see (fun H hP b i2 e2 hb => by
  by_cases hba : b = a
  · subst hba
    rw [sup_at] at hb
    cases hb
    refine ⟨(hP b i _ hs).1, ?_⟩
    have h1 : H[b]? = some (vp_cell (κ.E.cy j) (pRefs n f)) := (hP b i _ hs).2
    show H[b]? = some (vp_cell (κ.E.cy j) (pRefs n f2))
    rw [h1, vp_cell_q, vp_cell_q]
    exact congrArg some (arrV_eq (fun k hk => by rw [hf k hk]))
  · rw [sup_ne hba] at hb
    exact hP b i2 e2 hb) h
/-- rows of ints that agree below their length -/
theorem HV.ints {a n j : Nat} {i : Pid} {f f2 : Nat → Int32} (hs : σ a = some (i, .inl (κ.E.cy j, pInts n f))) (hf : ∀ k, k < n → f2 k = f k) (h : HV κ nL (sup σ a i (.inl (κ.E.cy j, pInts n f2))) cN dN l st pc) : HV κ nL σ cN dN l st pc := HV.see (fun H hP b i2 e2 hb => by
  by_cases hba : b = a
  · subst hba
    rw [sup_at] at hb
    cases hb
    refine ⟨(hP b i _ hs).1, ?_⟩
    have h1 : H[b]? = some (vp_cell (κ.E.cy j) (pInts n f)) := (hP b i _ hs).2
    show H[b]? = some (vp_cell (κ.E.cy j) (pInts n f2))
    rw [h1]
    exact congrArg some (arrV_eq (c := κ.E.cy j) (n := n) (f := fun k => .int (f k)) (g := fun k => .int (f2 k)) (fun k hk => by rw [hf k hk]))
  · rw [sup_ne hba] at hb
    exact hP b i2 e2 hb) h
theorem HV.mono {c2 d2 : Nat} {l2 : LSt} (h1 : cN ≤ c2) (h2 : dN ≤ d2) (hl2 : l2.length = l.length) (hw : ∀ (i : Nat) (v : Value), l2[i]? = some (some v) → l[i]? = some (some v)) (h : HV κ nL σ c2 d2 l2 st pc) : HV κ nL σ cN dN l st pc := fun H locs ls hP hS ⟨lv, g1, g2, g3⟩ => W.widen h1 h2 (h H locs ls hP hS ⟨lv, g1, hl2.trans g2, fun i v hi => g3 i v (hw i v hi)⟩)
theorem HV.wid {c2 d2 : Nat} (h1 : cN ≤ c2) (h2 : dN ≤ d2) (h : HV κ nL σ c2 d2 l st pc) : HV κ nL σ cN dN l st pc := HV.mono h1 h2 rfl (fun _ _ h => h) h
theorem HV.drop1 (i : Nat) (h : HV κ nL σ cN dN (l.set i none) st pc) : HV κ nL σ cN dN l st pc := by
  refine HV.mono (Nat.le_refl _) (Nat.le_refl _) (by simp) (fun j v hj => ?_) h
  by_cases hji : j = i
  · subst hji
    have hl := (List.getElem?_eq_some_iff.mp hj).1
    rw [List.getElem?_set_self (by simpa using hl)] at hj
    cases hj
  · rwa [List.getElem?_set_ne (Ne.symm hji)] at hj
end HSteps
