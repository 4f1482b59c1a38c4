/-! ===== one row an instruction, over the pool ===== -/
section Steps
variable {κ : KX} {ids : List Pid} {cc : ByteArray} {nL fr lo : Nat} {own : String} {M : Mem} {l : LSt} {st : List Value} {pc : Nat}
theorem Good.hx (G : Good κ ids cc nL own fr lo) : κ.p.tables.exec = Jvm.exec := G.1
theorem Good.hb (G : Good κ ids cc nL own fr lo) : κ.c.code = cc := G.2.1
theorem Good.hml (G : Good κ ids cc nL own fr lo) : κ.c.maxLocals = nL := G.2.2.1
theorem Good.hown (G : Good κ ids cc nL own fr lo) : κ.s.vm.findClass own = some κ.m.cls := G.2.2.2.1
theorem Good.hw (G : Good κ ids cc nL own fr lo) : ∀ w ∈ ALL, w.before κ.args κ.s = true := G.2.2.2.2.1
theorem Good.hK (G : Good κ ids cc nL own fr lo) : va_K κ.E.D vwCl (tysF κ.E.cy) κ.s := G.2.2.2.2.2.1
theorem Good.hinj (G : Good κ ids cc nL own fr lo) : Inj κ.E ids := G.2.2.2.2.2.2.1
theorem Good.hnd (G : Good κ ids cc nL own fr lo) : ids.Nodup := G.2.2.2.2.2.2.2.1
theorem Good.hA (G : Good κ ids cc nL own fr lo) : κ.A = Rg κ.E ids κ.s.heap.size := G.2.2.2.2.2.2.2.2.1
theorem Good.hlk (G : Good κ ids cc nL own fr lo) : κ.meth.locks = false := G.2.2.2.2.2.2.2.2.2.1
theorem Good.hfr (G : Good κ ids cc nL own fr lo) : fr ≤ κ.R.frames := G.2.2.2.2.2.2.2.2.2.2.1
theorem Good.hlo (G : Good κ ids cc nL own fr lo) : lo ≤ κ.R.locals := G.2.2.2.2.2.2.2.2.2.2.2.1
theorem Good.hcs (G : Good κ ids cc nL own fr lo) : κ.n.1 ≤ κ.R.cells := G.2.2.2.2.2.2.2.2.2.2.2.2.1
theorem Good.hss (G : Good κ ids cc nL own fr lo) : κ.n.2 ≤ κ.R.slots := G.2.2.2.2.2.2.2.2.2.2.2.2.2
theorem PW_D {E : EX} {ids : List Pid} (c : Pid → va_E) (hn : ids.Nodup) (hi : Inj E ids) (sz : Nat) : va_D (Rg E ids sz) (PW ids E.ad c) := by
  refine ⟨fun i j p q h1 h2 h3 => ?_, fun k q h => ?_⟩
  · simp only [PW, List.getElem?_map] at h1 h2
    cases hi1 : ids[i]? with
    | none => rw [hi1] at h1; cases h1
    | some a =>
      cases hj1 : ids[j]? with
      | none => rw [hj1] at h2; cases h2
      | some b =>
        rw [hi1] at h1; rw [hj1] at h2
        cases h1; cases h2
        have hab := hi a (List.mem_of_getElem? hi1) b (List.mem_of_getElem? hj1) h3
        subst hab
        have l1 := (List.getElem?_eq_some_iff.mp hi1)
        have l2 := (List.getElem?_eq_some_iff.mp hj1)
        obtain ⟨a1, b1⟩ := l1
        obtain ⟨a2, b2⟩ := l2
        rcases Nat.lt_trichotomy i j with q | q | q
        · exact absurd (b1.trans b2.symm) (List.pairwise_iff_getElem.mp hn i j a1 a2 q)
        · exact q
        · exact absurd (b2.trans b1.symm) (List.pairwise_iff_getElem.mp hn j i a2 a1 q)
  · simp only [PW, List.getElem?_map] at h
    cases hi1 : ids[k]? with
    | none => rw [hi1] at h; cases h
    | some a =>
      rw [hi1] at h
      cases h
      exact Or.inl ⟨a, List.mem_of_getElem? hi1, rfl⟩
theorem LV.rd {ls : Array Slot} {i : Nat} {v : Value} (h : LV ls nL l) (hi : l[i]? = some (some v)) : ls[i]? = some (.val v) := by
  obtain ⟨lv, h1, -, h2⟩ := h
  exact h1.2.2 _ (h2 i v hi)
/-- no long or double just below the place i -/
def okSt (l : LSt) (i : Nat) : Bool := match i with
  | 0 => true
  | j + 1 => match l[j]? with
    | some (some (.long _)) => false
    | some (some (.double _)) => false
    | _ => true
theorem LV.wr {ls' : Array Slot} {i : Nat} {v : Value} {lv : List (Nat × Value)} (hn : l.length = nL) (h2 : ∀ i v, l[i]? = some (some v) → (i, v) ∈ lv) (hk : okSt l i = true) (h' : lv_has ls' nL ((i, v) :: lv.filter (fun q => !(q.1 == i) && !(q.1 + 1 == i && q.2.category == 2)))) : LV ls' nL (l.set i (some v)) := by
  refine ⟨_, h', by simpa using hn, fun j w hj => ?_⟩
  by_cases hji : j = i
  · subst hji
    have hl : j < l.length := by
      have := (List.getElem?_eq_some_iff.mp hj).1
      simpa using this
    rw [List.getElem?_set_self hl] at hj
    cases hj
    exact List.mem_cons_self
  · rw [List.getElem?_set_ne (Ne.symm hji)] at hj
    refine List.mem_cons_of_mem _ (List.mem_filter.mpr ⟨h2 j w hj, ?_⟩)
    have : (j == i) = false := by simpa using hji
    by_cases hj1 : j + 1 = i
    · subst hj1
      simp only [okSt, hj] at hk
      cases w <;> simp_all [Value.category]
    · have h3 : (j + 1 == i) = false := by simpa using hj1
      simp [this, h3]
theorem LV.wr2 {ls' : Array Slot} {i : Nat} {v : Value} {lv : List (Nat × Value)} (hn : l.length = nL) (h2 : ∀ i v, l[i]? = some (some v) → (i, v) ∈ lv) (hk : okSt l i = true) (h' : lv_has ls' nL ((i, v) :: lv.filter (fun q => !(q.1 == i) && (!(q.1 == i + 1) && !(q.1 + 1 == i && q.2.category == 2))))) : LV ls' nL ((l.set i (some v)).set (i + 1) none) := by
  refine ⟨_, h', by simpa using hn, fun j w hj => ?_⟩
  by_cases hj1 : j = i + 1
  · subst hj1
    exfalso
    have hl : i + 1 < ((l.set i (some v)).set (i + 1) none).length := (List.getElem?_eq_some_iff.mp hj).1
    rw [List.getElem?_set_self (by simpa using hl)] at hj
    cases hj
  rw [List.getElem?_set_ne (Ne.symm hj1)] at hj
  by_cases hji : j = i
  · subst hji
    have hl : j < l.length := by
      have := (List.getElem?_eq_some_iff.mp hj).1
      simpa using this
    rw [List.getElem?_set_self hl] at hj
    cases hj
    exact List.mem_cons_self
  · rw [List.getElem?_set_ne (Ne.symm hji)] at hj
    refine List.mem_cons_of_mem _ (List.mem_filter.mpr ⟨h2 j w hj, ?_⟩)
    have h0 : (j == i) = false := by simpa using hji
    have h4 : (j == i + 1) = false := by simpa using hj1
    by_cases hj2 : j + 1 = i
    · subst hj2
      simp only [okSt, hj] at hk
      cases w <;> simp_all [Value.category]
    · have h3 : (j + 1 == i) = false := by simpa using hj2
      simp [h0, h4, h3]
theorem s_aload_n (G : Good κ ids cc nL own fr lo) {k : Fin 4} {x : Nat} (d : decode cc pc = .ok (.aload_n k, 1)) (hi : l[(k : Nat)]? = some (some (.ref x))) (h : V κ ids nL M l (.ref x :: st) (pc + 1)) : V κ ids nL M l st pc := fun H locs ls hP hS hl => lv_aload_n G.hx G.hb d rfl (hl.rd hi) (h H locs ls hP hS hl)
theorem s_aload (G : Good κ ids cc nL own fr lo) {i : Nat} {x : Nat} (d : decode cc pc = .ok (.aload i, 2)) (hi : l[i]? = some (some (.ref x))) (h : V κ ids nL M l (.ref x :: st) (pc + 2)) : V κ ids nL M l st pc := fun H locs ls hP hS hl => lv_aload G.hx G.hb d (hl.rd hi) (h H locs ls hP hS hl)
theorem s_iload_n (G : Good κ ids cc nL own fr lo) {k : Fin 4} {x : Int32} (d : decode cc pc = .ok (.iload_n k, 1)) (hi : l[(k : Nat)]? = some (some (.int x))) (h : V κ ids nL M l (.int x :: st) (pc + 1)) : V κ ids nL M l st pc := fun H locs ls hP hS hl => lv_iload_n G.hx G.hb d rfl (hl.rd hi) (h H locs ls hP hS hl)
theorem s_iload (G : Good κ ids cc nL own fr lo) {i : Nat} {x : Int32} (d : decode cc pc = .ok (.iload i, 2)) (hi : l[i]? = some (some (.int x))) (h : V κ ids nL M l (.int x :: st) (pc + 2)) : V κ ids nL M l st pc := fun H locs ls hP hS hl => lv_iload G.hx G.hb d (hl.rd hi) (h H locs ls hP hS hl)
theorem s_lload_n (G : Good κ ids cc nL own fr lo) {k : Fin 4} {x : Int64} (d : decode cc pc = .ok (.lload_n k, 1)) (hi : l[(k : Nat)]? = some (some (.long x))) (h : V κ ids nL M l (.long x :: st) (pc + 1)) : V κ ids nL M l st pc := fun H locs ls hP hS hl => lv_lload_n G.hx G.hb d rfl (hl.rd hi) (h H locs ls hP hS hl)
theorem s_lload (G : Good κ ids cc nL own fr lo) {i : Nat} {x : Int64} (d : decode cc pc = .ok (.lload i, 2)) (hi : l[i]? = some (some (.long x))) (h : V κ ids nL M l (.long x :: st) (pc + 2)) : V κ ids nL M l st pc := fun H locs ls hP hS hl => lv_lload G.hx G.hb d (hl.rd hi) (h H locs ls hP hS hl)
theorem s_astore_n (G : Good κ ids cc nL own fr lo) {k : Fin 4} {x : Nat} (d : decode cc pc = .ok (.astore_n k, 1)) (hn : (k : Nat) < nL) (hk : okSt l (k : Nat) = true) (h : V κ ids nL M (l.set (k : Nat) (some (.ref x))) st (pc + 1)) : V κ ids nL M l (.ref x :: st) pc := fun H locs ls hP hS ⟨lv, h1, h2, h3⟩ => lv_astore_n G.hx G.hb d rfl h1 hn rfl (fun ls' h4 => h H locs ls' hP hS (LV.wr h2 h3 hk h4))
theorem s_astore (G : Good κ ids cc nL own fr lo) {i : Nat} {x : Nat} (d : decode cc pc = .ok (.astore i, 2)) (hn : i < nL) (hk : okSt l i = true) (h : V κ ids nL M (l.set i (some (.ref x))) st (pc + 2)) : V κ ids nL M l (.ref x :: st) pc := fun H locs ls hP hS ⟨lv, h1, h2, h3⟩ => lv_astore G.hx G.hb d h1 hn rfl (fun ls' h4 => h H locs ls' hP hS (LV.wr h2 h3 hk h4))
theorem s_istore_n (G : Good κ ids cc nL own fr lo) {k : Fin 4} {x : Int32} (d : decode cc pc = .ok (.istore_n k, 1)) (hn : (k : Nat) < nL) (hk : okSt l (k : Nat) = true) (h : V κ ids nL M (l.set (k : Nat) (some (.int x))) st (pc + 1)) : V κ ids nL M l (.int x :: st) pc := fun H locs ls hP hS ⟨lv, h1, h2, h3⟩ => lv_istore_n G.hx G.hb d rfl h1 hn rfl (fun ls' h4 => h H locs ls' hP hS (LV.wr h2 h3 hk h4))
theorem s_istore (G : Good κ ids cc nL own fr lo) {i : Nat} {x : Int32} (d : decode cc pc = .ok (.istore i, 2)) (hn : i < nL) (hk : okSt l i = true) (h : V κ ids nL M (l.set i (some (.int x))) st (pc + 2)) : V κ ids nL M l (.int x :: st) pc := fun H locs ls hP hS ⟨lv, h1, h2, h3⟩ => lv_istore G.hx G.hb d h1 hn rfl (fun ls' h4 => h H locs ls' hP hS (LV.wr h2 h3 hk h4))
theorem s_lstore_n (G : Good κ ids cc nL own fr lo) {k : Fin 4} {x : Int64} (d : decode cc pc = .ok (.lstore_n k, 1)) (hn : (k : Nat) + 1 < nL) (hk : okSt l (k : Nat) = true) (h : V κ ids nL M ((l.set (k : Nat) (some (.long x))).set ((k : Nat) + 1) none) st (pc + 1)) : V κ ids nL M l (.long x :: st) pc := fun H locs ls hP hS ⟨lv, h1, h2, h3⟩ => lv_lstore_n G.hx G.hb d rfl h1 hn rfl (fun ls' h4 => h H locs ls' hP hS (LV.wr2 h2 h3 hk h4))
theorem s_lstore (G : Good κ ids cc nL own fr lo) {i : Nat} {x : Int64} (d : decode cc pc = .ok (.lstore i, 2)) (hn : i + 1 < nL) (hk : okSt l i = true) (h : V κ ids nL M ((l.set i (some (.long x))).set (i + 1) none) st (pc + 2)) : V κ ids nL M l (.long x :: st) pc := fun H locs ls hP hS ⟨lv, h1, h2, h3⟩ => lv_lstore G.hx G.hb d h1 hn rfl (fun ls' h4 => h H locs ls' hP hS (LV.wr2 h2 h3 hk h4))
theorem s_iinc (G : Good κ ids cc nL own fr lo) {i : Nat} {n : Int} {x v : Int32} (d : decode cc pc = .ok (.iinc i n, 3)) (hi : l[i]? = some (some (.int x))) (hn : i < nL) (hk : okSt l i = true) (hv : x + Int32.ofInt n = v) (h : V κ ids nL M (l.set i (some (.int v))) st (pc + 3)) : V κ ids nL M l st pc := fun H locs ls hP hS ⟨lv, h1, h2, h3⟩ => by
  obtain ⟨k, hk9⟩ := List.getElem?_of_mem (h3 i _ hi)
  exact lv_iinc G.hx G.hb d h1 hk9 hv hn rfl (fun ls' h4 => h H locs ls' hP hS (LV.wr h2 h3 hk h4))
theorem s_iconst (G : Good κ ids cc nL own fr lo) {n : Int} {v : Int32} (d : decode cc pc = .ok (.iconst n, 1)) (hv : Int32.ofInt n = v) (h : V κ ids nL M l (.int v :: st) (pc + 1)) : V κ ids nL M l st pc := fun H locs ls hP hS hl => lv_iconst G.hx G.hb d hv (h H locs ls hP hS hl)
theorem s_bipush (G : Good κ ids cc nL own fr lo) {n : Int} {v : Int32} (d : decode cc pc = .ok (.bipush n, 2)) (hv : (Int8.ofInt n).toInt32 = v) (h : V κ ids nL M l (.int v :: st) (pc + 2)) : V κ ids nL M l st pc := fun H locs ls hP hS hl => lv_bipush G.hx G.hb d hv (h H locs ls hP hS hl)
theorem s_sipush (G : Good κ ids cc nL own fr lo) {n : Int} {v : Int32} (d : decode cc pc = .ok (.sipush n, 3)) (hv : (Int16.ofInt n).toInt32 = v) (h : V κ ids nL M l (.int v :: st) (pc + 3)) : V κ ids nL M l st pc := fun H locs ls hP hS hl => lv_sipush G.hx G.hb d hv (h H locs ls hP hS hl)
theorem s_ldc (G : Good κ ids cc nL own fr lo) {index : Nat} {v : Int32} (d : decode cc pc = .ok (.ldc index, 2)) (hc : Cond.constant own index v ∈ ALL) (h : V κ ids nL M l (.int v :: st) (pc + 2)) : V κ ids nL M l st pc := fun H locs ls hP hS hl => lv_ldc G.hx G.hb G.hown (G.hw _ hc) d (h H locs ls hP hS hl)
theorem s_ldc2 (G : Good κ ids cc nL own fr lo) {index : Nat} {v : Int64} (d : decode cc pc = .ok (.ldc2_w index, 3)) (hc : Cond.constantLong own index v ∈ ALL) (h : V κ ids nL M l (.long v :: st) (pc + 3)) : V κ ids nL M l st pc := fun H locs ls hP hS hl => lv_ldc2 G.hx G.hb G.hown (G.hw _ hc) d (h H locs ls hP hS hl)
theorem s_iadd (G : Good κ ids cc nL own fr lo) {x y : Int32} (d : decode cc pc = .ok (.iadd, 1)) (h : V κ ids nL M l (.int (x + y) :: st) (pc + 1)) : V κ ids nL M l (.int y :: .int x :: st) pc := fun H locs ls hP hS hl => lv_iadd G.hx G.hb d (h H locs ls hP hS hl)
theorem s_isub (G : Good κ ids cc nL own fr lo) {x y : Int32} (d : decode cc pc = .ok (.isub, 1)) (h : V κ ids nL M l (.int (x - y) :: st) (pc + 1)) : V κ ids nL M l (.int y :: .int x :: st) pc := fun H locs ls hP hS hl => lv_isub G.hx G.hb d (h H locs ls hP hS hl)
theorem s_imul (G : Good κ ids cc nL own fr lo) {x y : Int32} (d : decode cc pc = .ok (.imul, 1)) (h : V κ ids nL M l (.int (x * y) :: st) (pc + 1)) : V κ ids nL M l (.int y :: .int x :: st) pc := fun H locs ls hP hS hl => lv_imul G.hx G.hb d (h H locs ls hP hS hl)
theorem s_irem (G : Good κ ids cc nL own fr lo) {x y : Int32} (d : decode cc pc = .ok (.irem, 1)) (hne : ¬ y = 0) (h : V κ ids nL M l (.int (x - x / y * y) :: st) (pc + 1)) : V κ ids nL M l (.int y :: .int x :: st) pc := fun H locs ls hP hS hl => lv_irem G.hx G.hb d hne (h H locs ls hP hS hl)
theorem s_ladd (G : Good κ ids cc nL own fr lo) {x y : Int64} (d : decode cc pc = .ok (.ladd, 1)) (h : V κ ids nL M l (.long (x + y) :: st) (pc + 1)) : V κ ids nL M l (.long y :: .long x :: st) pc := fun H locs ls hP hS hl => lv_ladd G.hx G.hb d (h H locs ls hP hS hl)
theorem s_lmul (G : Good κ ids cc nL own fr lo) {x y : Int64} (d : decode cc pc = .ok (.lmul, 1)) (h : V κ ids nL M l (.long (x * y) :: st) (pc + 1)) : V κ ids nL M l (.long y :: .long x :: st) pc := fun H locs ls hP hS hl => lv_lmul G.hx G.hb d (h H locs ls hP hS hl)
theorem s_i2l (G : Good κ ids cc nL own fr lo) {x : Int32} (d : decode cc pc = .ok (.i2l, 1)) (h : V κ ids nL M l (.long x.toInt64 :: st) (pc + 1)) : V κ ids nL M l (.int x :: st) pc := fun H locs ls hP hS hl => lv_i2l G.hx G.hb d rfl (h H locs ls hP hS hl)
theorem s_dup (G : Good κ ids cc nL own fr lo) {a : Value} (d : decode cc pc = .ok (.dup, 1)) (hv : a.category = 1) (h : V κ ids nL M l (a :: a :: st) (pc + 1)) : V κ ids nL M l (a :: st) pc := fun H locs ls hP hS hl => lv_dup G.hx G.hb d hv (h H locs ls hP hS hl)
theorem s_dup2 (G : Good κ ids cc nL own fr lo) {a b : Value} (d : decode cc pc = .ok (.dup2, 1)) (hv : a.category = 1) (hv2 : b.category = 1) (h : V κ ids nL M l (a :: b :: a :: b :: st) (pc + 1)) : V κ ids nL M l (a :: b :: st) pc := fun H locs ls hP hS hl => lv_dup2_11 G.hx G.hb d hv hv2 (h H locs ls hP hS hl)
theorem s_pop (G : Good κ ids cc nL own fr lo) {a : Value} (d : decode cc pc = .ok (.pop, 1)) (hv : a.category = 1) (h : V κ ids nL M l st (pc + 1)) : V κ ids nL M l (a :: st) pc := fun H locs ls hP hS hl => lv_pop G.hx G.hb d hv (h H locs ls hP hS hl)
theorem s_goto (G : Good κ ids cc nL own fr lo) {off : Int} (tgt : Nat) (d : decode cc pc = .ok (.goto off, 3)) (ht : (pc : Int) + off = (tgt : Int)) (h : V κ ids nL M l st tgt) : V κ ids nL M l st pc := fun H locs ls hP hS hl => lv_goto G.hx G.hb d ht (h H locs ls hP hS hl)
theorem s_if_eq (G : Good κ ids cc nL own fr lo) {x : Int32} {off : Int} (tgt : Nat) (d : decode cc pc = .ok (.ifCond .eq off, 3)) (ht : (pc : Int) + off = (tgt : Int)) (kt : x = 0 → V κ ids nL M l st tgt) (kf : ¬ x = 0 → V κ ids nL M l st (pc + 3)) : V κ ids nL M l (.int x :: st) pc := fun H locs ls hP hS hl => lv_if_eq G.hx G.hb d ht (fun q => kt q H locs ls hP hS hl) (fun q => kf q H locs ls hP hS hl)
theorem s_icmp_eq (G : Good κ ids cc nL own fr lo) {x y : Int32} {off : Int} (tgt : Nat) (d : decode cc pc = .ok (.if_icmp .eq off, 3)) (ht : (pc : Int) + off = (tgt : Int)) (kt : x = y → V κ ids nL M l st tgt) (kf : ¬ x = y → V κ ids nL M l st (pc + 3)) : V κ ids nL M l (.int y :: .int x :: st) pc := fun H locs ls hP hS hl => lv_icmp_eq G.hx G.hb d ht (fun q => kt q H locs ls hP hS hl) (fun q => kf q H locs ls hP hS hl)
theorem s_if_ne (G : Good κ ids cc nL own fr lo) {x : Int32} {off : Int} (tgt : Nat) (d : decode cc pc = .ok (.ifCond .ne off, 3)) (ht : (pc : Int) + off = (tgt : Int)) (kt : ¬ x = 0 → V κ ids nL M l st tgt) (kf : x = 0 → V κ ids nL M l st (pc + 3)) : V κ ids nL M l (.int x :: st) pc := fun H locs ls hP hS hl => lv_if_ne G.hx G.hb d ht (fun q => kt q H locs ls hP hS hl) (fun q => kf q H locs ls hP hS hl)
theorem s_icmp_ne (G : Good κ ids cc nL own fr lo) {x y : Int32} {off : Int} (tgt : Nat) (d : decode cc pc = .ok (.if_icmp .ne off, 3)) (ht : (pc : Int) + off = (tgt : Int)) (kt : ¬ x = y → V κ ids nL M l st tgt) (kf : x = y → V κ ids nL M l st (pc + 3)) : V κ ids nL M l (.int y :: .int x :: st) pc := fun H locs ls hP hS hl => lv_icmp_ne G.hx G.hb d ht (fun q => kt q H locs ls hP hS hl) (fun q => kf q H locs ls hP hS hl)
theorem s_if_lt (G : Good κ ids cc nL own fr lo) {x : Int32} {off : Int} (tgt : Nat) (d : decode cc pc = .ok (.ifCond .lt off, 3)) (ht : (pc : Int) + off = (tgt : Int)) (kt : x < 0 → V κ ids nL M l st tgt) (kf : ¬ x < 0 → V κ ids nL M l st (pc + 3)) : V κ ids nL M l (.int x :: st) pc := fun H locs ls hP hS hl => lv_if_lt G.hx G.hb d ht (fun q => kt q H locs ls hP hS hl) (fun q => kf q H locs ls hP hS hl)
theorem s_icmp_lt (G : Good κ ids cc nL own fr lo) {x y : Int32} {off : Int} (tgt : Nat) (d : decode cc pc = .ok (.if_icmp .lt off, 3)) (ht : (pc : Int) + off = (tgt : Int)) (kt : x < y → V κ ids nL M l st tgt) (kf : ¬ x < y → V κ ids nL M l st (pc + 3)) : V κ ids nL M l (.int y :: .int x :: st) pc := fun H locs ls hP hS hl => lv_icmp_lt G.hx G.hb d ht (fun q => kt q H locs ls hP hS hl) (fun q => kf q H locs ls hP hS hl)
theorem s_if_ge (G : Good κ ids cc nL own fr lo) {x : Int32} {off : Int} (tgt : Nat) (d : decode cc pc = .ok (.ifCond .ge off, 3)) (ht : (pc : Int) + off = (tgt : Int)) (kt : 0 ≤ x → V κ ids nL M l st tgt) (kf : ¬ 0 ≤ x → V κ ids nL M l st (pc + 3)) : V κ ids nL M l (.int x :: st) pc := fun H locs ls hP hS hl => lv_if_ge G.hx G.hb d ht (fun q => kt q H locs ls hP hS hl) (fun q => kf q H locs ls hP hS hl)
theorem s_icmp_ge (G : Good κ ids cc nL own fr lo) {x y : Int32} {off : Int} (tgt : Nat) (d : decode cc pc = .ok (.if_icmp .ge off, 3)) (ht : (pc : Int) + off = (tgt : Int)) (kt : y ≤ x → V κ ids nL M l st tgt) (kf : ¬ y ≤ x → V κ ids nL M l st (pc + 3)) : V κ ids nL M l (.int y :: .int x :: st) pc := fun H locs ls hP hS hl => lv_icmp_ge G.hx G.hb d ht (fun q => kt q H locs ls hP hS hl) (fun q => kf q H locs ls hP hS hl)
theorem s_if_gt (G : Good κ ids cc nL own fr lo) {x : Int32} {off : Int} (tgt : Nat) (d : decode cc pc = .ok (.ifCond .gt off, 3)) (ht : (pc : Int) + off = (tgt : Int)) (kt : 0 < x → V κ ids nL M l st tgt) (kf : ¬ 0 < x → V κ ids nL M l st (pc + 3)) : V κ ids nL M l (.int x :: st) pc := fun H locs ls hP hS hl => lv_if_gt G.hx G.hb d ht (fun q => kt q H locs ls hP hS hl) (fun q => kf q H locs ls hP hS hl)
theorem s_icmp_gt (G : Good κ ids cc nL own fr lo) {x y : Int32} {off : Int} (tgt : Nat) (d : decode cc pc = .ok (.if_icmp .gt off, 3)) (ht : (pc : Int) + off = (tgt : Int)) (kt : y < x → V κ ids nL M l st tgt) (kf : ¬ y < x → V κ ids nL M l st (pc + 3)) : V κ ids nL M l (.int y :: .int x :: st) pc := fun H locs ls hP hS hl => lv_icmp_gt G.hx G.hb d ht (fun q => kt q H locs ls hP hS hl) (fun q => kf q H locs ls hP hS hl)
theorem s_if_le (G : Good κ ids cc nL own fr lo) {x : Int32} {off : Int} (tgt : Nat) (d : decode cc pc = .ok (.ifCond .le off, 3)) (ht : (pc : Int) + off = (tgt : Int)) (kt : x ≤ 0 → V κ ids nL M l st tgt) (kf : ¬ x ≤ 0 → V κ ids nL M l st (pc + 3)) : V κ ids nL M l (.int x :: st) pc := fun H locs ls hP hS hl => lv_if_le G.hx G.hb d ht (fun q => kt q H locs ls hP hS hl) (fun q => kf q H locs ls hP hS hl)
theorem s_icmp_le (G : Good κ ids cc nL own fr lo) {x y : Int32} {off : Int} (tgt : Nat) (d : decode cc pc = .ok (.if_icmp .le off, 3)) (ht : (pc : Int) + off = (tgt : Int)) (kt : x ≤ y → V κ ids nL M l st tgt) (kf : ¬ x ≤ y → V κ ids nL M l st (pc + 3)) : V κ ids nL M l (.int y :: .int x :: st) pc := fun H locs ls hP hS hl => lv_icmp_le G.hx G.hb d ht (fun q => kt q H locs ls hP hS hl) (fun q => kf q H locs ls hP hS hl)
theorem s_tableIn (G : Good κ ids cc nL own fr lo) {dflt lo9 hi9 : Int} {offs : Array Int} {len : Nat} {x : Int32} {off : Int} (tgt : Nat) (d : decode cc pc = .ok (.tableswitch dflt lo9 hi9 offs, len)) (h1 : ¬ x.toInt < lo9) (h2 : ¬ hi9 < x.toInt) (ho : offs[(x.toInt - lo9).toNat]? = some off) (ht : (pc : Int) + off = (tgt : Int)) (h : V κ ids nL M l st tgt) : V κ ids nL M l (.int x :: st) pc := fun H locs ls hP hS hl => lv_tableIn G.hx G.hb d h1 h2 ho ht (h H locs ls hP hS hl)
theorem s_tableOut (G : Good κ ids cc nL own fr lo) {dflt lo9 hi9 : Int} {offs : Array Int} {len : Nat} {x : Int32} (tgt : Nat) (d : decode cc pc = .ok (.tableswitch dflt lo9 hi9 offs, len)) (h1 : x.toInt < lo9 ∨ hi9 < x.toInt) (ht : (pc : Int) + dflt = (tgt : Int)) (h : V κ ids nL M l st tgt) : V κ ids nL M l (.int x :: st) pc := fun H locs ls hP hS hl => lv_tableOut G.hx G.hb d h1 ht (h H locs ls hP hS hl)
theorem s_lookup (G : Good κ ids cc nL own fr lo) {dflt : Int} {ps : Array (Int × Int)} {len : Nat} {x : Int32} {off : Int} (tgt : Nat) (d : decode cc pc = .ok (.lookupswitch dflt ps, len)) (hp : (ps.toList.zip (ps.toList.drop 1)).all (fun (a, next) => a.1 < next.1) = true) (ho : Op.lookupswitch.offset ps.toList dflt x.toInt = off) (ht : (pc : Int) + off = (tgt : Int)) (h : V κ ids nL M l st tgt) : V κ ids nL M l (.int x :: st) pc := fun H locs ls hP hS hl => lv_lookup G.hx G.hb d hp ho ht (h H locs ls hP hS hl)
theorem s_mmin (G : Good κ ids cc nL own fr lo) {index : Nat} {x y : Int32} (d : decode cc pc = .ok (.invokestatic index, 3)) (hm : Cond.methodLink own index Lib.Math.min.name ∈ ALL) (hf : 1 ≤ fr) (hlo : (st.map fun v => v.category).sum + 13 ≤ lo) (h : V κ ids nL M l (.int (if y < x then y else x) :: st) (pc + 3)) : V κ ids nL M l (.int y :: .int x :: st) pc := fun H locs ls hP hS hl => va_mmin G.hx G.hb (by obtain ⟨lv, h1, -⟩ := hl; rw [G.hml]; exact h1.1.symm) G.hown (G.hw _ hm) (G.hw _ (by decide +kernel)) (G.hw _ (by decide +kernel)) (G.hw _ (by decide +kernel)) (Nat.le_trans hf G.hfr) (Nat.le_trans hlo G.hlo) G.hcs G.hss d (h H locs ls hP hS hl)
theorem s_mmax (G : Good κ ids cc nL own fr lo) {index : Nat} {x y : Int32} (d : decode cc pc = .ok (.invokestatic index, 3)) (hm : Cond.methodLink own index Lib.Math.max.name ∈ ALL) (hf : 1 ≤ fr) (hlo : (st.map fun v => v.category).sum + 13 ≤ lo) (h : V κ ids nL M l (.int (if x < y then y else x) :: st) (pc + 3)) : V κ ids nL M l (.int y :: .int x :: st) pc := fun H locs ls hP hS hl => va_mmax G.hx G.hb (by obtain ⟨lv, h1, -⟩ := hl; rw [G.hml]; exact h1.1.symm) G.hown (G.hw _ hm) (G.hw _ (by decide +kernel)) (G.hw _ (by decide +kernel)) (G.hw _ (by decide +kernel)) (Nat.le_trans hf G.hfr) (Nat.le_trans hlo G.hlo) G.hcs G.hss d (h H locs ls hP hS hl)
/-- a field is read -/
theorem s_get (G : Good κ ids cc nL own fr lo) {i : Pid} {index ci N k : Nat} {C : String} {T : u_T} {fs : List Value} {v : Value} (hin : ∀ w ∈ u_ws C T N, w ∈ ALL) (hi : i ∈ ids) (he : κ.E.cel M i = .inr (ci, fs)) (hc : vwCl[ci]? = some (C, T, N)) (hk : k < N) (hlink : Cond.fieldLink own index (T k).1 (T k).2.1 (T k).2.2.1 ∈ ALL) (hv : fs[k]? = some v) (d : decode cc pc = .ok (.getfield index, 3)) (h : V κ ids nL M l (v :: st) (pc + 3)) : V κ ids nL M l (.ref (κ.E.ad i) :: st) pc := fun H locs ls hP hS hl => by
  obtain ⟨q0, h1, -⟩ := PW_get κ.E.ad (κ.E.cel M) G.hnd hi
  exact va_get G.hx G.hb G.hw hin G.hown G.hK hP q0 (h1.trans (by rw [he])) hc k hk (G.hw _ hlink) (fun x h => h) hv d (h H locs ls hP hS hl)
/-- a field is written -/
theorem s_put (G : Good κ ids cc nL own fr lo) {i : Pid} {index ci N k : Nat} {C : String} {T : u_T} {fs : List Value} {v : Value} {M' : Mem} {ty : FieldType} (hin : ∀ w ∈ u_ws C T N, w ∈ ALL) (ty0 : Nat → FieldType) (hty : ∀ k, k < N → parseFieldDescriptor (T k).2.2.1 = some (ty0 k)) (hnm : ∀ a, a < N → ∀ b, b < N → a ≠ b → (T a).2.1 ≠ (T b).2.1) (hi : i ∈ ids) (he : κ.E.cel M i = .inr (ci, fs)) (hc : vwCl[ci]? = some (C, T, N)) (hk : k < N) (hlink : Cond.fieldLink own index (T k).1 (T k).2.1 (T k).2.2.1 ∈ ALL) (hfin : (T k).2.2.2 = false) (hd : parseFieldDescriptor (T k).2.2.1 = some ty) (hn : narrow ty v = v) (hfit : fits ty v = true) (hl9 : k < fs.length) (hM : κ.E.cel M' i = .inr (ci, fs.set k v)) (hM2 : ∀ j, j ≠ i → κ.E.cel M' j = κ.E.cel M j) (d : decode cc pc = .ok (.putfield index, 3)) (h : V κ ids nL M' l st (pc + 3)) : V κ ids nL M l (v :: .ref (κ.E.ad i) :: st) pc := fun H locs ls hP hS hl => by
  obtain ⟨q0, h1, h2⟩ := PW_get κ.E.ad (κ.E.cel M) G.hnd hi
  have hD : va_D κ.A (PW ids κ.E.ad (κ.E.cel M)) := by rw [G.hA]; exact PW_D _ G.hnd G.hinj _
  refine va_put G.hx G.hb G.hw hin ty0 hty hnm G.hown G.hK hP hD hS q0 (h1.trans (by rw [he])) hc k hk (G.hw _ hlink) (fun x h => h) hfin hd hn hfit hl9 d (fun H1 locs1 hP1 _ hS1 => ?_)
  rw [h2 _ (κ.E.cel M') hM hM2] at hP1
  exact h H1 locs1 ls hP1 hS1 hl
theorem s_iald (G : Good κ ids cc nL own fr lo) {i : Pid} {n j : Nat} {f : Nat → Int32} {x : Int32} (hi : i ∈ ids) (he : κ.E.cel M i = .inl (κ.E.cy 0, pInts n f)) (hx : x = nI j) (hj : j < n) (hn : n < 2 ^ 31) (d : decode cc pc = .ok (.iaload, 1)) (h : V κ ids nL M l (.int (f j) :: st) (pc + 1)) : V κ ids nL M l (.int x :: .ref (κ.E.ad i) :: st) pc := fun H locs ls hP hS hl => by
  obtain ⟨q0, h1, -⟩ := PW_get κ.E.ad (κ.E.cel M) G.hnd hi
  subst hx
  refine va_iald (f := f) G.hx G.hb G.hK hP q0 0 (h1.trans (by rw [he])) rfl (vp_in_nI hj hn) d ?_
  rw [nI_clamp (by omega)]
  exact h H locs ls hP hS hl
theorem s_iast (G : Good κ ids cc nL own fr lo) {i : Pid} {n j : Nat} {f : Nat → Int32} {x v : Int32} {M' : Mem} (hi : i ∈ ids) (he : κ.E.cel M i = .inl (κ.E.cy 0, pInts n f)) (hx : x = nI j) (hj : j < n) (hn : n < 2 ^ 31) (hM : κ.E.cel M' i = .inl (κ.E.cy 0, pInts n (upd f j v))) (hM2 : ∀ j, j ≠ i → κ.E.cel M' j = κ.E.cel M j) (d : decode cc pc = .ok (.iastore, 1)) (h : V κ ids nL M' l st (pc + 1)) : V κ ids nL M l (.int v :: .int x :: .ref (κ.E.ad i) :: st) pc := fun H locs ls hP hS hl => by
  obtain ⟨q0, h1, h2⟩ := PW_get κ.E.ad (κ.E.cel M) G.hnd hi
  have hD : va_D κ.A (PW ids κ.E.ad (κ.E.cel M)) := by rw [G.hA]; exact PW_D _ G.hnd G.hinj _
  subst hx
  refine va_iast (f := f) G.hx G.hb G.hK hP hD hS q0 0 (h1.trans (by rw [he])) rfl (vp_in_nI hj hn) d (fun H1 locs1 hP1 _ hS1 => ?_)
  rw [nI_clamp (by omega)] at hP1
  rw [h2 _ (κ.E.cel M') hM hM2] at hP1
  exact h H1 locs1 ls hP1 hS1 hl
theorem s_aald (G : Good κ ids cc nL own fr lo) {i i2 : Pid} {n j t0 : Nat} {cA : ClassId} {C : String} {f : Nat → Option Nat} {x : Int32} (hi : i ∈ ids) (he : κ.E.cel M i = .inl (cA, pRefs n f)) (ht : (tysF κ.E.cy)[t0]? = some (cA, .object C)) (hx : x = nI j) (hj : j < n) (hn : n < 2 ^ 31) (hf : f j = some (κ.E.ad i2)) (d : decode cc pc = .ok (.aaload, 1)) (h : V κ ids nL M l (.ref (κ.E.ad i2) :: st) (pc + 1)) : V κ ids nL M l (.int x :: .ref (κ.E.ad i) :: st) pc := fun H locs ls hP hS hl => by
  obtain ⟨q0, h1, -⟩ := PW_get κ.E.ad (κ.E.cel M) G.hnd hi
  subst hx
  refine va_aldq (f := f) G.hx G.hb G.hK hP q0 t0 (h1.trans (by rw [he])) ht (vp_in_nI hj hn) d ?_
  rw [nI_clamp (by omega), hf]
  exact h H locs ls hP hS hl
/-- the end that a contract's walk has to reach -/
def Ends (κ : KX) (ids : List Pid) (P : Option Value → Mem → Prop) : Prop := κ.Q = MQ κ.below (fun _ st oc t => (∃ (v : Option Value) (M' : Mem), oc = .returned v ∧ P v M' ∧ Wd κ.E ids M' t) ∧ va_F (Rg κ.E ids κ.s.heap.size) st t) κ.args κ.s 0 0 (Rg κ.E ids κ.s.heap.size) ∧ κ.n = (0, 0)
theorem s_iret (G : Good κ ids cc nL own fr lo) {P : Option Value → Mem → Prop} (E9 : Ends κ ids P) (hr : κ.meth.sig.returnType = some .int) {v : Int32} (d : decode cc pc = .ok (.ireturn, 1)) (hp : P (some (.int v)) M) : V κ ids nL M l [.int v] pc := fun H locs ls hP hS hl => by
  obtain ⟨hQ, hn⟩ := E9
  show W _ _ _ _ _ _ _ _ _ _ _ _ κ.n.1 κ.n.2 κ.Q _
  rw [hQ, hn]
  have hS' := hS
  rw [G.hA] at hS'
  exact W.iret (v := v) G.hx G.hb hr (fun t ht hW => ⟨⟨some (.int v), M, rfl, hp, by rw [ht]; exact hP, va_K.moved hW.alike G.hK, G.hinj⟩, hS'.F ht⟩) hS'.2.2 d G.hlk
theorem s_zret (G : Good κ ids cc nL own fr lo) {P : Option Value → Mem → Prop} (E9 : Ends κ ids P) (hr : κ.meth.sig.returnType = some .boolean) {v : Int32} (hv : v = 0 ∨ v = 1) (d : decode cc pc = .ok (.ireturn, 1)) (hp : P (some (.int v)) M) : V κ ids nL M l [.int v] pc := fun H locs ls hP hS hl => by
  obtain ⟨hQ, hn⟩ := E9
  show W _ _ _ _ _ _ _ _ _ _ _ _ κ.n.1 κ.n.2 κ.Q _
  rw [hQ, hn]
  have hS' := hS
  rw [G.hA] at hS'
  exact W.zret (v := v) G.hx G.hb hr (by rcases hv with rfl | rfl <;> decide) (fun t ht hW => ⟨⟨some (.int v), M, rfl, hp, by rw [ht]; exact hP, va_K.moved hW.alike G.hK, G.hinj⟩, hS'.F ht⟩) hS'.2.2 d G.hlk
theorem s_lret (G : Good κ ids cc nL own fr lo) {P : Option Value → Mem → Prop} (E9 : Ends κ ids P) (hr : κ.meth.sig.returnType = some .long) {v : Int64} (d : decode cc pc = .ok (.lreturn, 1)) (hp : P (some (.long v)) M) : V κ ids nL M l [.long v] pc := fun H locs ls hP hS hl => by
  obtain ⟨hQ, hn⟩ := E9
  show W _ _ _ _ _ _ _ _ _ _ _ _ κ.n.1 κ.n.2 κ.Q _
  rw [hQ, hn]
  have hS' := hS
  rw [G.hA] at hS'
  exact W.lret (v := v) G.hx G.hb hr (fun t ht hW => ⟨⟨some (.long v), M, rfl, hp, by rw [ht]; exact hP, va_K.moved hW.alike G.hK, G.hinj⟩, hS'.F ht⟩) hS'.2.2 d G.hlk
theorem s_vret (G : Good κ ids cc nL own fr lo) {P : Option Value → Mem → Prop} (E9 : Ends κ ids P) (hr : κ.meth.sig.returnType = none) (d : decode cc pc = .ok (.return_, 1)) (hp : P none M) : V κ ids nL M l [] pc := fun H locs ls hP hS hl => by
  obtain ⟨hQ, hn⟩ := E9
  show W _ _ _ _ _ _ _ _ _ _ _ _ κ.n.1 κ.n.2 κ.Q _
  rw [hQ, hn]
  have hS' := hS
  rw [G.hA] at hS'
  exact W.vret G.hx G.hb hr (fun t ht hW => ⟨⟨none, M, rfl, hp, by rw [ht]; exact hP, va_K.moved hW.alike G.hK, G.hinj⟩, hS'.F ht⟩) hS'.2.2 d G.hlk
/-- locals that are not needed any more -/
theorem V.drop {l2 : LSt} (hn : l2.length = l.length) (hs : ∀ (i : Nat) (v : Value), l2[i]? = some (some v) → l[i]? = some (some v)) (h : V κ ids nL M l2 st pc) : V κ ids nL M l st pc := fun H locs ls hP hS ⟨lv, h1, h2, h3⟩ => h H locs ls hP hS ⟨lv, h1, hn.trans h2, fun i v q => h3 i v (hs i v q)⟩
theorem V.drop1 (i : Nat) (h : V κ ids nL M (l.set i none) st pc) : V κ ids nL M l st pc := by
  refine V.drop (by simp) (fun j v hj => ?_) h
  by_cases hji : j = i
  · subst hji
    have hl := (List.getElem?_eq_some_iff.mp hj).1
    rw [List.getElem?_set_self (by simpa using hl)] at hj
    cases hj
  · rwa [List.getElem?_set_ne (Ne.symm hji)] at hj
end Steps
