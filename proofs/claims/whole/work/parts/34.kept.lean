/-! ===== the reference keeps its rows, and brings them back ===== -/
theorem mA49 : Cond.methodLink RX6 49 arraycopyName ∈ ALL := by decide +kernel
theorem mA49n : Cond.native arraycopyName ∈ ALL := by decide +kernel
theorem mA49s : Cond.static arraycopyName ∈ ALL := by decide +kernel
theorem mA49i : Cond.initialized "java/lang/System" ∈ ALL := by decide +kernel
theorem mA149 : Cond.classLink RX6 149 (FieldType.array .int).toString ∈ ALL := by decide +kernel
theorem mA149b : Cond.classLink RX6 149 "[I" ∈ ALL := by decide +kernel
theorem mA150 : Cond.methodLink RX6 150 ⟨"[I", "clone", "()Ljava/lang/Object;"⟩ ∈ ALL := by decide +kernel
theorem mA150s : Cond.sameMethod "[I" "java/lang/Object" "clone" "()Ljava/lang/Object;" ∈ ALL := by decide +kernel
theorem mA150n : Cond.native ⟨"java/lang/Object", "clone", "()Ljava/lang/Object;"⟩ ∈ ALL := by decide +kernel
theorem mA150i : Cond.instanceMethod ⟨"java/lang/Object", "clone", "()Ljava/lang/Object;"⟩ ∈ ALL := by decide +kernel
theorem mA150e : Cond.selects "[I" ⟨"[I", "clone", "()Ljava/lang/Object;"⟩ ⟨"java/lang/Object", "clone", "()Ljava/lang/Object;"⟩ ∈ ALL := by decide +kernel
def KF (as : Nat → Nat) : Nat → Option Nat := va_up (va_up (va_up (va_up (va_up (va_up (fun _ => none) 0 (some (as 0))) 1 (some (as 1))) 2 (some (as 2))) 3 (some (as 3))) 4 (some (as 4))) 5 (some (as 5))
def KWd (E : EX) (as : Nat → Nat) (K : Nat) (cA : ClassId) (N : Mem) : va_W := [(K, .inl (cA, pRefs 6 (KF as))), (as 0, .inl (E.cy 0, pInts 48 (N (15, 0, 0)))), (as 1, .inl (E.cy 0, pInts 36 (N (16, 0, 0)))), (as 2, .inl (E.cy 0, pInts 144 (N (17, 0, 0)))), (as 3, .inl (E.cy 0, pInts 128 (N (18, 0, 0)))), (as 4, .inl (E.cy 0, pInts 9 (N (19, 0, 0)))), (as 5, .inl (E.cy 0, pInts 5 (N (20, 0, 0))))]
/-- the rows that were kept stand in the heap, beside the pool -/
def KS (E : EX) (as : Nat → Nat) (K : Nat) (cA : ClassId) (N : Mem) (H : Heap) : Prop := va_P E.D vwCl (KWd E as K cA N) H ∧ va_D (fun q => q < H.size ∧ ∀ i, i ∈ idsR → q ≠ E.ad i) (KWd E as K cA N)
theorem KS.kept {E : EX} {as : Nat → Nat} {K : Nat} {cA : ClassId} {N : Mem} {H H1 : Heap} (h : KS E as K cA N H) (hz : H.size ≤ H1.size) (hq : ∀ q : Nat, q < H.size → ¬ Rg E idsR H.size q → H1[q]? = H[q]?) : KS E as K cA N H1 := by
  refine ⟨h.1.kept (fun k q hk => ?_), h.2.weaken (fun k q hk hA => ⟨Nat.lt_of_lt_of_le hA.1 hz, hA.2⟩)⟩
  have hA := h.2.2 k q hk
  refine hq _ hA.1 (fun z => ?_)
  rcases z with ⟨i, hi, e⟩ | z
  · exact hA.2 i hi e
  · omega
section TK
variable {κ : KX} {ids : List Pid} {cc : ByteArray} {nL fr lo : Nat} {own : String} {M : Mem} {l : LSt} {st rest : List Value} {pc c d mc ms k n z : Nat} {A9 : Nat → Prop} {tw : va_W} {P : Option Value → Mem → Prop}
theorem cy0_name (G : Good κ ids cc nL own fr lo) : κ.s.vm.findClass "[I" = some (κ.E.cy 0) := (G.hK.2 0 (κ.E.cy 0, .int) rfl).2
theorem cy0_class (G : Good κ ids cc nL own fr lo) : ∃ kc : Class, κ.s.vm.classes[κ.E.cy 0]? = some kc := by
  obtain ⟨-, kc, h, -⟩ := (G.hK.2 0 (κ.E.cy 0, .int) rfl).1 0 (fun _ => .null)
  exact ⟨kc, h⟩
theorem tt_anewA (G : Good κ ids cc nL own fr lo) (hA9 : ∀ q, κ.s.heap.size ≤ q → A9 q) {x : Int32} {k index : Nat} (hx : x = nI k) (hk : k < 2 ^ 20) (hRQ : RQ κ.s) (hlink : Cond.classLink own index (FieldType.array .int).toString ∈ ALL) (hc : c + 1 ≤ κ.R.cells) (hd : d + k ≤ κ.R.slots) (dg : decode cc pc = .ok (.anewarray index, 3)) (h : ∀ (q : Nat) (cA : ClassId), AA κ.E cA κ.s → VT κ ids A9 (tw ++ [(q, .inl (cA, pRefs k (fun _ => none)))]) (c + 1) (d + k) nL M l (.ref q :: st) (pc + 3)) : VT κ ids A9 tw c d nL M l (.int x :: st) pc := fun H locs ls hP hD hS hl => by
  subst hx
  have hcl := nI_clamp (n := k) (by omega)
  refine W.anewA (t := .int) G.hx G.hb G.hown (G.hw _ hlink) (show (Cond.arrayOver (.array .int)).before κ.args κ.s = true from hRQ.1) rfl dg rfl (nI_pos (by omega)) (by rw [hcl]; omega) hc (by rw [hcl]; exact hd) fun cA kA comp f1 f2 f3 f4 => ?_
  rw [hcl]
  have e4 : comp = κ.E.cy 0 := Option.some.inj (f4.symm.trans (cy0_name G))
  subst e4
  generalize hH1 : H.push ({ cls := cA, slots := Array.replicate k .null, vm := .none } : Cell) = H1
  have z1 : H1.size = H.size + 1 := by rw [← hH1, Array.size_push]
  have e1 : H1[H.size]? = some (arrV cA k (fun _ => .null)) := by rw [← hH1, Array.getElem?_push_size, ← arrV_new]
  have o1 : ∀ q : Nat, q < H.size → H1[q]? = H[q]? := fun q hq => by rw [← hH1, Array.getElem?_push, if_neg (Nat.ne_of_lt hq)]
  have hk2 : ∀ (k : Nat) (x : Nat × va_E), (PW ids κ.E.ad (κ.E.cel M) ++ tw)[k]? = some x → H1[x.1]? = H[x.1]? := fun k x hx => o1 x.1 ((hP k x hx).lt)
  refine h H.size cA ⟨kA, f2, f3⟩ H1 locs ls ?_ ?_ ⟨Nat.le_trans hS.1 (by omega), fun x h1 h2 => (o1 x (Nat.lt_of_lt_of_le h1 hS.1)).trans (hS.2.1 x h1 h2), hS.2.2⟩ hl
  · rw [← List.append_assoc]
    refine (hP.kept hk2).app (fun k x hx => ?_)
    have hz : k < 1 := (List.getElem?_eq_some_iff.mp hx).1
    rw [show k = 0 by omega] at hx
    cases hx
    show H1[H.size]? = some (vp_cell _ _)
    rw [vp_cell_q]
    exact e1
  · rw [← List.append_assoc]
    exact hD.push hP rfl (hA9 _ hS.1)
/-- an int row of the world is put into a row of rows -/
theorem tt_aast (G : Good κ ids cc nL own fr lo) {a v j m k q1 : Nat} {cA : ClassId} {f : Nat → Option Nat} {x : Int32} {y : vp_A} (hAA : AA κ.E cA κ.s) (hj : tw[j]? = some (a, .inl (cA, pRefs m f))) (hv : (PW ids κ.E.ad (κ.E.cel M) ++ tw)[q1]? = some (v, .inl (κ.E.cy 0, y))) (hx : x = nI k) (hk : k < m) (hm : m < 2 ^ 31) (dg : decode cc pc = .ok (.aastore, 1)) (h : VT κ ids A9 (tw.set j (a, .inl (cA, pRefs m (va_up f k (some v))))) c d nL M l st (pc + 1)) : VT κ ids A9 tw c d nL M l (.ref v :: .int x :: .ref a :: st) pc := fun H locs ls hP hD hS hl => by
  subst hx
  have hcl := nI_clamp (n := k) (by omega)
  obtain ⟨kA, hkA, hkind⟩ := hAA
  obtain ⟨kc, hkc⟩ := cy0_class G
  have ha := tw_get κ.E.ad (κ.E.cel M) (ids := ids) hj
  have hvc : H[v]? = some (vp_cell (κ.E.cy 0) y) := hP _ _ hv
  have hy1 : (vp_cell (κ.E.cy 0) y).vm = .none := by obtain ⟨n, f | f | f | f | f⟩ := y <;> rfl
  have hy2 : (vp_cell (κ.E.cy 0) y).cls = κ.E.cy 0 := by obtain ⟨n, f | f | f | f | f⟩ := y <;> rfl
  refine W.aast (comp := κ.E.cy 0) (t := .array .int) (cell := vp_cell cA (pRefs m f)) (cv := vp_cell (κ.E.cy 0) y) G.hx G.hb (hP _ _ ha) (fun q z => by cases z) (fun z => by cases z) hkA hkind rfl hkc ⟨nI_pos (by omega), by rw [hcl]; show k < (arrV _ _ _).slots.size; rw [arrV_size]; exact hk⟩ hvc (fun q z => by rw [hy1] at z; cases z) (by rw [hy2]; exact hkc) (by rw [hy2]; exact va_asg _ _) rfl rfl dg fun H1 e z oq => ?_
  rw [hcl] at e
  have hP1 := hP.set hD ha (e := .inl (cA, pRefs m (va_up f k (some v)))) (by
    show H1[a]? = some (vp_cell _ _)
    rw [e]
    rw [vp_cell_q, vp_cell_q, arrV_store]
    congr 2
    funext q
    by_cases hq : q = k
    · subst hq
      simp [updV, va_up, va_rf]
    · simp [updV, va_up, hq]) oq
  have hD1 := hD.set ha (e := .inl (cA, pRefs m (va_up f k (some v))))
  rw [tw_set] at hP1 hD1
  exact h H1 _ ls hP1 hD1 (hS.put z oq (hD.2 _ _ ha)) hl
theorem tt_aald (G : Good κ ids cc nL own fr lo) {a v j m k : Nat} {cA : ClassId} {f : Nat → Option Nat} {x : Int32} (hAA : AA κ.E cA κ.s) (hj : tw[j]? = some (a, .inl (cA, pRefs m f))) (hx : x = nI k) (hk : k < m) (hm : m < 2 ^ 31) (hf : f k = some v) (dg : decode cc pc = .ok (.aaload, 1)) (h : VT κ ids A9 tw c d nL M l (.ref v :: st) (pc + 1)) : VT κ ids A9 tw c d nL M l (.int x :: .ref a :: st) pc := fun H locs ls hP hD hS hl => by
  subst hx
  have hcl := nI_clamp (n := k) (by omega)
  have ha := tw_get κ.E.ad (κ.E.cel M) (ids := ids) hj
  refine W.aald (v := .ref v) (ty := .array .int) G.hx G.hb (hP _ _ ha) (hAA.arr m (fun j => va_rf (f j))) rfl (fun q => by cases q) (by show ¬ (nI k < 0 ∨ (arrV _ _ _).slots.size ≤ _); rw [arrV_size]; exact vp_in_nI hk hm) (by show (arrV _ _ _).slots[_]? = _; rw [hcl, arrV_read _ _ hk, hf]; rfl) rfl rfl dg (h H locs ls hP hD hS hl)
theorem tt_alenA (G : Good κ ids cc nL own fr lo) {a j m : Nat} {cA : ClassId} {f : Nat → Option Nat} (hAA : AA κ.E cA κ.s) (hj : tw[j]? = some (a, .inl (cA, pRefs m f))) (dg : decode cc pc = .ok (.arraylength, 1)) (h : VT κ ids A9 tw c d nL M l (.int (Int32.ofNat m) :: st) (pc + 1)) : VT κ ids A9 tw c d nL M l (.ref a :: st) pc := fun H locs ls hP hD hS hl => by
  have ha := tw_get κ.E.ad (κ.E.cel M) (ids := ids) hj
  exact W.alen (n := Int32.ofNat m) G.hx G.hb (hP _ _ ha) (hAA.arr m (fun j => va_rf (f j))) (by rw [vp_cell_q, arrV_size] <;> rfl) rfl rfl dg (h H locs ls hP hD hS hl)
theorem tt_alenP (G : Good κ ids cc nL own fr lo) {i : Pid} {m : Nat} {f : Nat → Int32} (hi : i ∈ ids) (he : κ.E.cel M i = .inl (κ.E.cy 0, pInts m f)) (dg : decode cc pc = .ok (.arraylength, 1)) (h : VT κ ids A9 tw c d nL M l (.int (Int32.ofNat m) :: st) (pc + 1)) : VT κ ids A9 tw c d nL M l (.ref (κ.E.ad i) :: st) pc := fun H locs ls hP hD hS hl => by
  obtain ⟨q1, h1, -⟩ := PWt_get κ.E.ad (κ.E.cel M) tw G.hnd hi
  exact va_alen G.hx G.hb G.hK hP q1 0 (h1.trans (by rw [he])) rfl rfl dg (h H locs ls hP hD hS hl)
theorem tt_clone (G : Good κ ids cc nL RX6 fr lo) (hA9 : ∀ q, κ.s.heap.size ≤ q → A9 q) {i : Pid} {m : Nat} {f : Nat → Int32} (hRQ : RQ κ.s) (hi : i ∈ ids) (he : κ.E.cel M i = .inl (κ.E.cy 0, pInts m f)) (hc : c + 1 ≤ κ.R.cells) (hd : d + m ≤ κ.R.slots) (hf : 1 ≤ fr) (hlo : (st.map fun v => v.category).sum + 14 ≤ lo) (dg : decode cc pc = .ok (.invokevirtual 150, 3)) (h : ∀ q : Nat, VT κ ids A9 (tw ++ [(q, .inl (κ.E.cy 0, pInts m f))]) (c + 1) (d + m) nL M l (.ref q :: st) (pc + 3)) : VT κ ids A9 tw c d nL M l (.ref (κ.E.ad i) :: st) pc := fun H locs ls hP hD hS hl => by
  obtain ⟨q1, h1, -⟩ := PWt_get κ.E.ad (κ.E.cel M) tw G.hnd hi
  have hls : ls.size = nL := by obtain ⟨lv, h1, -⟩ := hl; exact h1.1
  refine va_clone (x := pInts m f) (ty := .int) G.hx G.hb (by rw [G.hml, hls]) G.hown (G.hw _ mA150) (G.hw _ mA150s) (G.hw _ mA150n) (G.hw _ mA150i) (G.hw _ mA150e) hRQ.2 G.hK hP hD hS hA9 q1 0 (h1.trans (by rw [he])) rfl (cy0_name G) (fun i v hv => va_fit (cA := κ.E.cy 0) (n := m) (F := fun j => .int (f j)) (fun _ _ => rfl) i v hv) (Nat.le_trans hf G.hfr) (Nat.le_trans hlo G.hlo) hc hd dg (fun q H1 _ hP1 hD1 hS1 => ?_)
  rw [List.append_assoc] at hP1 hD1
  exact h q H1 locs ls hP1 hD1 hS1 hl
theorem tt_cast (G : Good κ ids cc nL RX6 fr lo) {a j : Nat} {y : vp_A} (hj : tw[j]? = some (a, .inl (κ.E.cy 0, y))) (dg : decode cc pc = .ok (.checkcast 149, 3)) (h : VT κ ids A9 tw c d nL M l (.ref a :: st) (pc + 3)) : VT κ ids A9 tw c d nL M l (.ref a :: st) pc := fun H locs ls hP hD hS hl =>
  va_castA G.hx G.hb G.hown (G.hw _ mA149b) hP _ (tw_get κ.E.ad (κ.E.cel M) hj) (cy0_name G) dg (h H locs ls hP hD hS hl)
theorem sk_vret (G : Good κ ids cc nL own fr lo) (E9 : EndsK κ ids P z mc ms) (hr : κ.meth.sig.returnType = none) (dg : decode cc pc = .ok (.return_, 1)) (hp : P none M) : V κ ids nL M l [] pc := fun H locs ls hP hS hl => by
  obtain ⟨hQ, hn, h2, h3, -, hz9⟩ := E9
  show W _ _ _ _ _ _ _ _ _ _ _ _ κ.n.1 κ.n.2 κ.Q _
  rw [hQ, hn]
  have hS' := hS.wide (G.wide hz9)
  refine W.widen (k := mc) (n := ms) (Nat.zero_le _) (Nat.zero_le _) ?_
  exact W.vret G.hx G.hb hr (fun t ht hW => ⟨⟨none, M, rfl, hp, by rw [ht]; exact hP, va_K.moved hW.alike G.hK, G.hinj⟩, hS'.F ht⟩) hS'.2.2 dg G.hlk
end TK
/-- kept(): what it leaves -/
def KeptQ (E : EX) (N : Mem) (sz : Nat) : Array Value → State → Outcome → State → Prop := fun _ st oc t => (∃ (K : Nat) (as : Nat → Nat) (cA : ClassId), oc = .returned (some (.ref K)) ∧ AA E cA t ∧ va_P E.D vwCl (PW idsR E.ad (E.cel N) ++ KWd E as K cA N) t.heap ∧ va_D (Rg E idsR sz) (PW idsR E.ad (E.cel N) ++ KWd E as K cA N)) ∧ va_F (Rg E idsR sz) st t
def KeptC (E : EX) (N : Mem) : Prop := ∀ sz : Nat, Met E.l yX6_kept (Cond.code yX6_kept cX6_kept 1 (some (.array (.array .int))) :: ALL) { frames := 1, cells := 7, slots := 376, locals := 17 } (va_Pc [.ref (E.ad (14, 0, 0))] (fun U => U.heap.size = sz ∧ Wd E idsR N U ∧ RQ U)) (KeptQ E N sz) 7 376 (Rg E idsR sz)
theorem r_kept (E : EX) (N : Mem) : KeptC E N := by
  intro sz
  refine Met.ofW (cc := cX6_kept) (maxL := 1) (ret := some (.array (.array .int))) (by decide) rfl ?_
  intro p e s m args9 below meth c s₁ B hml hv
  obtain ⟨rfl, hsz, ⟨hP, hK, hI⟩, hRQ⟩ := hv
  have hts := atoms_spec (ws := Cond.code yX6_kept cX6_kept 1 (some (.array (.array .int))) :: ALL) B.pre
  have hown : s.vm.findClass RX6 = some m.cls := findClass_of_methodNamed B.named
  subst hsz
  have hl := lv_entry [.ref (E.ad (14, 0, 0))] (n := 1) (Nat.le_refl 1)
  rw [lg_entry_eq]
  generalize hls9 : (lg_sl [.ref (E.ad (14, 0, 0))] ++ List.replicate (1 - (lg_sl [.ref (E.ad (14, 0, 0))]).length) Slot.unset).toArray = ls at hl ⊢
  have hLV : LV ls 1 [some (.ref (E.ad (14, 0, 0)))] := by
    refine ⟨_, hl, rfl, fun i v hi => ?_⟩
    have hi0 : i = 0 := by
      have := (List.getElem?_eq_some_iff.mp hi).1
      simp at this
      exact this
    subst hi0
    cases hi
    exact List.mem_cons_self
  obtain ⟨κ, hκ⟩ : ∃ κ : KX, κ = ((p, E, e, (headSpec (Cond.code yX6_kept cX6_kept 1 (some (.array (.array .int))) :: ALL) { frames := 1, cells := 7, slots := 376, locals := 17 }).room, s), (m, ([.ref (E.ad (14, 0, 0))] : List Value).toArray, below, meth, c), MQ below (KeptQ E N s.heap.size) ([.ref (E.ad (14, 0, 0))] : List Value).toArray s 7 376 (Rg E idsR s.heap.size), Rg E idsR s.heap.size, (0, 0)) := ⟨_, rfl⟩
  have G : Good κ idsR cX6_kept 1 RX6 1 17 := by
    rw [hκ]
    exact ⟨B.exec, B.bytes, hml, hown, fun w hw => hts w (List.mem_cons_of_mem _ hw), hK, hI, idsR_nd, rfl, B.notSynchronized, Nat.le_refl _, Nat.le_refl _, Nat.zero_le _, Nat.zero_le _⟩
  have hQ : κ.Q = MQ κ.below (KeptQ κ.E N κ.s.heap.size) κ.args κ.s 7 376 (Rg κ.E idsR κ.s.heap.size) := by rw [hκ]
  have hn : κ.n = (0, 0) := by rw [hκ]
  have hR1 : κ.R.cells = 7 := by rw [hκ]; rfl
  have hR2 : κ.R.slots = 376 := by rw [hκ]; rfl
  have hE : κ.E = E := by rw [hκ]
  have hRQ2 : RQ κ.s := by rw [hκ]; exact hRQ
  have hret : κ.meth.sig.returnType = some (.array (.array .int)) := by rw [hκ]; exact B.returns
  have hb : V κ idsR 1 N [some (.ref (κ.E.ad (14, 0, 0)))] [] 0 := by
    clear hκ
    refine V.to0 G hn ?_
    refine tt_bipush (v := 6) G dX6_kept_0 (by decide) ?_
    refine tt_anewA (A9 := κ.A) (k := 6) G G.hA9 rfl (by decide) hRQ2 mA149 (by omega) (by omega) dX6_kept_2 (fun K cA hAA => ?_)
    refine tt_dup G dX6_kept_5 rfl ?_
    refine tt_iconst (v := 0) G dX6_kept_6 (by decide) ?_
    refine tt_aload_n G dX6_kept_7 rfl ?_
    refine tt_get (i := (14, 0, 0)) (T := TX6) (k := 4) G uX6 mR14 rfl rfl (by decide) (by decide +kernel) rfl dX6_kept_8 ?_
    refine tt_clone (i := (15, 0, 0)) (m := 48) G G.hA9 hRQ2 mR15 rfl (by omega) (by omega) (by decide) (Nat.le_of_ble_eq_true rfl) dX6_kept_11 (fun q0 => ?_)
    refine tt_cast (j := 1) G rfl dX6_kept_14 ?_
    refine tt_aast (j := 0) (k := 0) (m := 6) (q1 := 8) G hAA rfl rfl rfl (by decide) (by decide) dX6_kept_17 ?_
    refine tt_dup G dX6_kept_18 rfl ?_
    refine tt_iconst (v := 1) G dX6_kept_19 (by decide) ?_
    refine tt_aload_n G dX6_kept_20 rfl ?_
    refine tt_get (i := (14, 0, 0)) (T := TX6) (k := 5) G uX6 mR14 rfl rfl (by decide) (by decide +kernel) rfl dX6_kept_21 ?_
    refine tt_clone (i := (16, 0, 0)) (m := 36) G G.hA9 hRQ2 mR16 rfl (by omega) (by omega) (by decide) (Nat.le_of_ble_eq_true rfl) dX6_kept_24 (fun q1 => ?_)
    refine tt_cast (j := 2) G rfl dX6_kept_27 ?_
    refine tt_aast (j := 0) (k := 1) (m := 6) (q1 := 9) G hAA rfl rfl rfl (by decide) (by decide) dX6_kept_30 ?_
    refine tt_dup G dX6_kept_31 rfl ?_
    refine tt_iconst (v := 2) G dX6_kept_32 (by decide) ?_
    refine tt_aload_n G dX6_kept_33 rfl ?_
    refine tt_get (i := (14, 0, 0)) (T := TX6) (k := 6) G uX6 mR14 rfl rfl (by decide) (by decide +kernel) rfl dX6_kept_34 ?_
    refine tt_clone (i := (17, 0, 0)) (m := 144) G G.hA9 hRQ2 mR17 rfl (by omega) (by omega) (by decide) (Nat.le_of_ble_eq_true rfl) dX6_kept_37 (fun q2 => ?_)
    refine tt_cast (j := 3) G rfl dX6_kept_40 ?_
    refine tt_aast (j := 0) (k := 2) (m := 6) (q1 := 10) G hAA rfl rfl rfl (by decide) (by decide) dX6_kept_43 ?_
    refine tt_dup G dX6_kept_44 rfl ?_
    refine tt_iconst (v := 3) G dX6_kept_45 (by decide) ?_
    refine tt_aload_n G dX6_kept_46 rfl ?_
    refine tt_get (i := (14, 0, 0)) (T := TX6) (k := 7) G uX6 mR14 rfl rfl (by decide) (by decide +kernel) rfl dX6_kept_47 ?_
    refine tt_clone (i := (18, 0, 0)) (m := 128) G G.hA9 hRQ2 mR18 rfl (by omega) (by omega) (by decide) (Nat.le_of_ble_eq_true rfl) dX6_kept_50 (fun q3 => ?_)
    refine tt_cast (j := 4) G rfl dX6_kept_53 ?_
    refine tt_aast (j := 0) (k := 3) (m := 6) (q1 := 11) G hAA rfl rfl rfl (by decide) (by decide) dX6_kept_56 ?_
    refine tt_dup G dX6_kept_57 rfl ?_
    refine tt_iconst (v := 4) G dX6_kept_58 (by decide) ?_
    refine tt_aload_n G dX6_kept_59 rfl ?_
    refine tt_get (i := (14, 0, 0)) (T := TX6) (k := 8) G uX6 mR14 rfl rfl (by decide) (by decide +kernel) rfl dX6_kept_60 ?_
    refine tt_clone (i := (19, 0, 0)) (m := 9) G G.hA9 hRQ2 mR19 rfl (by omega) (by omega) (by decide) (Nat.le_of_ble_eq_true rfl) dX6_kept_63 (fun q4 => ?_)
    refine tt_cast (j := 5) G rfl dX6_kept_66 ?_
    refine tt_aast (j := 0) (k := 4) (m := 6) (q1 := 12) G hAA rfl rfl rfl (by decide) (by decide) dX6_kept_69 ?_
    refine tt_dup G dX6_kept_70 rfl ?_
    refine tt_iconst (v := 5) G dX6_kept_71 (by decide) ?_
    refine tt_aload_n G dX6_kept_72 rfl ?_
    refine tt_get (i := (14, 0, 0)) (T := TX6) (k := 9) G uX6 mR14 rfl rfl (by decide) (by decide +kernel) rfl dX6_kept_73 ?_
    refine tt_clone (i := (20, 0, 0)) (m := 5) G G.hA9 hRQ2 mR20 rfl (by omega) (by omega) (by decide) (Nat.le_of_ble_eq_true rfl) dX6_kept_76 (fun q5 => ?_)
    refine tt_cast (j := 6) G rfl dX6_kept_79 ?_
    refine tt_aast (j := 0) (k := 5) (m := 6) (q1 := 13) G hAA rfl rfl rfl (by decide) (by decide) dX6_kept_82 ?_
    intro H locs ls2 hP2 hD2 hS2 hl2
    rw [hQ]
    have hS' := hS2
    rw [G.hA] at hS' hD2
    obtain ⟨as, has⟩ : ∃ as : Nat → Nat, as = fun j => if j = 0 then q0 else if j = 1 then q1 else if j = 2 then q2 else if j = 3 then q3 else if j = 4 then q4 else q5 := ⟨_, rfl⟩
    have a0 : as 0 = q0 := by rw [has]; rfl
    have a1 : as 1 = q1 := by rw [has]; rfl
    have a2 : as 2 = q2 := by rw [has]; rfl
    have a3 : as 3 = q3 := by rw [has]; rfl
    have a4 : as 4 = q4 := by rw [has]; rfl
    have a5 : as 5 = q5 := by rw [has]; rfl
    subst a0 a1 a2 a3 a4 a5
    refine W.aret (v := .ref K) G.hx G.hb hret (Or.inr ⟨_, rfl⟩) (Or.inr ⟨K, rfl⟩) (fun t ht hW => ⟨⟨K, as, cA, rfl, hAA.moved hW.alike, by rw [ht]; exact hP2, hD2⟩, hS'.F ht⟩) hS'.2.2 dX6_kept_83 G.hlk
  have hb2 := hb
  rw [hκ] at hb2
  exact hb2 s.heap [] ls hP va_S.rf hLV
/-- bringBack(): as a contract -/
def backd (N M' : Mem) : Prop := (∀ k, k < 48 → M' (15, 0, 0) k = N (15, 0, 0) k) ∧ (∀ k, k < 36 → M' (16, 0, 0) k = N (16, 0, 0) k) ∧ (∀ k, k < 144 → M' (17, 0, 0) k = N (17, 0, 0) k) ∧ (∀ k, k < 128 → M' (18, 0, 0) k = N (18, 0, 0) k) ∧ (∀ k, k < 9 → M' (19, 0, 0) k = N (19, 0, 0) k) ∧ ∀ k, k < 5 → M' (20, 0, 0) k = N (20, 0, 0) k
/-- what bringBack() may write, as its contract has it: the pool, what is new, and (as far as the rows tell) what was kept -/
def BA (E : EX) (as : Nat → Nat) (K : Nat) (cA : ClassId) (N : Mem) (sz : Nat) : Nat → Prop := fun q => Rg E idsR sz q ∨ ∃ (k : Nat) (y : va_E), (KWd E as K cA N)[k]? = some (q, y)
def BackC (E : EX) (as : Nat → Nat) (K : Nat) (cA : ClassId) (N M : Mem) : Prop := ∀ sz : Nat, Met E.l yX6_bringBack (Cond.code yX6_bringBack cX6_bringBack 4 none :: ALL) { frames := 1, cells := 1, slots := 6, locals := 40 } (va_Pc [.ref (E.ad (14, 0, 0)), .ref K] (fun U => U.heap.size = sz ∧ Wd E idsR M U ∧ RQ U ∧ KS E as K cA N U.heap ∧ AA E cA U)) (fun _ st oc t => (∃ (v : Option Value) (M' : Mem), oc = .returned v ∧ (v = none ∧ M' (14, 0, 0) = M (14, 0, 0) ∧ backd N M') ∧ Wd E idsR M' t) ∧ KS E as K cA N t.heap ∧ va_F (BA E as K cA N sz) st t) 1 6 (BA E as K cA N sz)
theorem cpy_at {f g : Nat → Int32} {n k : Nat} (hk : k < n) : va_cpy f g 0 0 n k = f k := by
  unfold va_cpy
  rw [if_pos ⟨Nat.zero_le _, by omega⟩, Nat.sub_zero, Nat.zero_add]
theorem r_back (E : EX) (as : Nat → Nat) (K : Nat) (cA : ClassId) (N M : Mem) : BackC E as K cA N M := by
  intro sz
  refine Met.ofW (cc := cX6_bringBack) (maxL := 4) (ret := none) (by decide) rfl ?_
  intro p e s m args9 below meth c s₁ B hml hv
  obtain ⟨rfl, hsz, ⟨hP, hK, hI⟩, hRQ, hKS, hAA⟩ := hv
  have hts := atoms_spec (ws := Cond.code yX6_bringBack cX6_bringBack 4 none :: ALL) B.pre
  have hown : s.vm.findClass RX6 = some m.cls := findClass_of_methodNamed B.named
  subst hsz
  have hl := lv_entry [.ref (E.ad (14, 0, 0)), .ref K] (n := 4) (Nat.le_of_ble_eq_true rfl)
  rw [lg_entry_eq]
  generalize hls9 : (lg_sl [.ref (E.ad (14, 0, 0)), .ref K] ++ List.replicate (4 - (lg_sl [.ref (E.ad (14, 0, 0)), .ref K]).length) Slot.unset).toArray = ls at hl ⊢
  have hLV : LV ls 4 [some (.ref (E.ad (14, 0, 0))), some (.ref K), none, none] := by
    refine ⟨_, hl, rfl, fun i v hi => ?_⟩
    match i, hi with
    | 0, hi => cases hi; exact List.mem_cons_self
    | 1, hi => cases hi; exact List.mem_cons_of_mem _ List.mem_cons_self
    | 2, hi => cases hi
    | 3, hi => cases hi
    | i + 4, hi => exact absurd (List.getElem?_eq_some_iff.mp hi).1 (by simp)
  obtain ⟨κ, hκ⟩ : ∃ κ : KX, κ = ((p, E, e, (headSpec (Cond.code yX6_bringBack cX6_bringBack 4 none :: ALL) { frames := 1, cells := 1, slots := 6, locals := 40 }).room, s), (m, ([.ref (E.ad (14, 0, 0)), .ref K] : List Value).toArray, below, meth, c), MQ below (fun _ st oc t => (∃ (v : Option Value) (M' : Mem), oc = .returned v ∧ (v = none ∧ M' (14, 0, 0) = M (14, 0, 0) ∧ backd N M') ∧ Wd E idsR M' t) ∧ KS E as K cA N t.heap ∧ va_F (BA E as K cA N s.heap.size) st t) ([.ref (E.ad (14, 0, 0)), .ref K] : List Value).toArray s 1 6 (BA E as K cA N s.heap.size), Rg E idsR s.heap.size, (0, 0)) := ⟨_, rfl⟩
  have G : Good κ idsR cX6_bringBack 4 RX6 1 40 := by
    rw [hκ]
    exact ⟨B.exec, B.bytes, hml, hown, fun w hw => hts w (List.mem_cons_of_mem _ hw), hK, hI, idsR_nd, rfl, B.notSynchronized, Nat.le_refl _, Nat.le_refl _, Nat.zero_le _, Nat.zero_le _⟩
  have hE : κ.E = E := by rw [hκ]
  have hQ9 : κ.Q = MQ κ.below (fun _ st oc t => (∃ (v : Option Value) (M' : Mem), oc = .returned v ∧ (v = none ∧ M' (14, 0, 0) = M (14, 0, 0) ∧ backd N M') ∧ Wd κ.E idsR M' t) ∧ KS κ.E as K cA N t.heap ∧ va_F (BA κ.E as K cA N κ.s.heap.size) st t) κ.args κ.s 1 6 (BA κ.E as K cA N κ.s.heap.size) := by rw [hκ]
  have hc9 : 1 ≤ κ.R.cells := by rw [hκ]; exact Nat.le_refl 1
  have hd9 : 6 ≤ κ.R.slots := by rw [hκ]; exact Nat.le_refl 6
  have hR9 : RQ κ.s := by rw [hκ]; exact hRQ
  have hA9 : ∀ q, κ.s.heap.size ≤ q → BA κ.E as K cA N κ.s.heap.size q := fun q hq => Or.inl (Or.inr hq)
  have hret : κ.meth.sig.returnType = none := by rw [hκ]; exact B.returns
  have hKS2 : KS κ.E as K cA N κ.s.heap := by rw [hκ]; exact hKS
  have hAA2 : AA κ.E cA κ.s := by rw [hκ]; exact hAA
  have hb : VT κ idsR (BA κ.E as K cA N κ.s.heap.size) (KWd κ.E as K cA N) 0 0 4 M [some (.ref (κ.E.ad (14, 0, 0))), some (.ref K), none, none] [] 0 := by
    clear hκ hKS hAA hLV hl
    refine tt_bipush (v := 6) G dX6_bringBack_0 (by decide) ?_
    refine tt_anewA (k := 6) G hA9 rfl (by decide) hR9 mA149 hc9 hd9 dX6_bringBack_2 (fun q cA2 hAB => ?_)
    refine tt_dup G dX6_bringBack_5 rfl ?_
    refine tt_iconst (v := 0) G dX6_bringBack_6 (by decide) ?_
    refine tt_aload_n G dX6_bringBack_7 rfl ?_
    refine tt_get (i := (14, 0, 0)) (T := TX6) (k := 4) G uX6 mR14 rfl rfl (by decide) (by decide +kernel) rfl dX6_bringBack_8 ?_
    refine tt_aast (j := 7) (k := 0) (m := 6) (q1 := 1) G hAB rfl rfl rfl (by decide) (by decide) dX6_bringBack_11 ?_
    refine tt_dup G dX6_bringBack_12 rfl ?_
    refine tt_iconst (v := 1) G dX6_bringBack_13 (by decide) ?_
    refine tt_aload_n G dX6_bringBack_14 rfl ?_
    refine tt_get (i := (14, 0, 0)) (T := TX6) (k := 5) G uX6 mR14 rfl rfl (by decide) (by decide +kernel) rfl dX6_bringBack_15 ?_
    refine tt_aast (j := 7) (k := 1) (m := 6) (q1 := 2) G hAB rfl rfl rfl (by decide) (by decide) dX6_bringBack_18 ?_
    refine tt_dup G dX6_bringBack_19 rfl ?_
    refine tt_iconst (v := 2) G dX6_bringBack_20 (by decide) ?_
    refine tt_aload_n G dX6_bringBack_21 rfl ?_
    refine tt_get (i := (14, 0, 0)) (T := TX6) (k := 6) G uX6 mR14 rfl rfl (by decide) (by decide +kernel) rfl dX6_bringBack_22 ?_
    refine tt_aast (j := 7) (k := 2) (m := 6) (q1 := 3) G hAB rfl rfl rfl (by decide) (by decide) dX6_bringBack_25 ?_
    refine tt_dup G dX6_bringBack_26 rfl ?_
    refine tt_iconst (v := 3) G dX6_bringBack_27 (by decide) ?_
    refine tt_aload_n G dX6_bringBack_28 rfl ?_
    refine tt_get (i := (14, 0, 0)) (T := TX6) (k := 7) G uX6 mR14 rfl rfl (by decide) (by decide +kernel) rfl dX6_bringBack_29 ?_
    refine tt_aast (j := 7) (k := 3) (m := 6) (q1 := 4) G hAB rfl rfl rfl (by decide) (by decide) dX6_bringBack_32 ?_
    refine tt_dup G dX6_bringBack_33 rfl ?_
    refine tt_iconst (v := 4) G dX6_bringBack_34 (by decide) ?_
    refine tt_aload_n G dX6_bringBack_35 rfl ?_
    refine tt_get (i := (14, 0, 0)) (T := TX6) (k := 8) G uX6 mR14 rfl rfl (by decide) (by decide +kernel) rfl dX6_bringBack_36 ?_
    refine tt_aast (j := 7) (k := 4) (m := 6) (q1 := 5) G hAB rfl rfl rfl (by decide) (by decide) dX6_bringBack_39 ?_
    refine tt_dup G dX6_bringBack_40 rfl ?_
    refine tt_iconst (v := 5) G dX6_bringBack_41 (by decide) ?_
    refine tt_aload_n G dX6_bringBack_42 rfl ?_
    refine tt_get (i := (14, 0, 0)) (T := TX6) (k := 9) G uX6 mR14 rfl rfl (by decide) (by decide +kernel) rfl dX6_bringBack_43 ?_
    refine tt_aast (j := 7) (k := 5) (m := 6) (q1 := 6) G hAB rfl rfl rfl (by decide) (by decide) dX6_bringBack_46 ?_
    refine tt_astore_n G dX6_bringBack_47 (by decide) rfl ?_
    refine tt_iconst (v := 0) G dX6_bringBack_48 (by decide) ?_
    refine tt_istore_n G dX6_bringBack_49 (by decide) rfl ?_
    refine tt_iload_n G dX6_bringBack_50 rfl ?_
    refine tt_aload_n G dX6_bringBack_51 rfl ?_
    refine tt_alenA (j := 7) (m := 6) G hAB rfl dX6_bringBack_52 ?_
    refine tt_icmp_ge G 77 dX6_bringBack_53 (by decide) (fun z => absurd z (by decide)) (fun _ => ?_)
    refine tt_aload_n G dX6_bringBack_56 rfl ?_
    refine tt_iload_n G dX6_bringBack_57 rfl ?_
    refine tt_aald (j := 0) (k := 0) (m := 6) (v := as 0) G hAA2 rfl rfl (by decide) (by decide) rfl dX6_bringBack_58 ?_
    refine tt_iconst (v := 0) G dX6_bringBack_59 (by decide) ?_
    refine tt_aload_n G dX6_bringBack_60 rfl ?_
    refine tt_iload_n G dX6_bringBack_61 rfl ?_
    refine tt_aald (j := 7) (k := 0) (m := 6) (v := κ.E.ad (15, 0, 0)) G hAB rfl rfl (by decide) (by decide) rfl dX6_bringBack_62 ?_
    refine tt_iconst (v := 0) G dX6_bringBack_63 (by decide) ?_
    refine tt_aload_n G dX6_bringBack_64 rfl ?_
    refine tt_iload_n G dX6_bringBack_65 rfl ?_
    refine tt_aald (j := 7) (k := 0) (m := 6) (v := κ.E.ad (15, 0, 0)) G hAB rfl rfl (by decide) (by decide) rfl dX6_bringBack_66 ?_
    refine tt_alenP (i := (15, 0, 0)) (m := 48) G mR15 rfl dX6_bringBack_67 ?_
    obtain ⟨A0, hA0⟩ : ∃ A, A = va_cpy (N (15, 0, 0)) (M (15, 0, 0)) 0 0 48 := ⟨_, rfl⟩
    refine tt_copyP (M' := upr (M) (15, 0, 0) A0) (j := 1) (i := (15, 0, 0)) (n0 := 48) (n1 := 48) (s0 := 0) (d0 := 0) (m0 := 48) G mA49 mA49n mA49s mA49i rfl mR15 rfl rfl rfl rfl (by decide) (by decide) (by decide) (by decide) (by rw [hA0]; rfl) (fun j hj => celR_upr hj) (by decide) (by decide) dX6_bringBack_68 ?_
    have b0 : ∀ k, k < 48 → A0 k = N (15, 0, 0) k := fun k hk => by rw [hA0]; exact cpy_at hk
    clear hA0
    refine tt_iinc G dX6_bringBack_71 rfl (by decide) rfl rfl ?_
    refine tt_goto G 50 dX6_bringBack_74 (by decide) ?_
    refine tt_iload_n G dX6_bringBack_50 rfl ?_
    refine tt_aload_n G dX6_bringBack_51 rfl ?_
    refine tt_alenA (j := 7) (m := 6) G hAB rfl dX6_bringBack_52 ?_
    refine tt_icmp_ge G 77 dX6_bringBack_53 (by decide) (fun z => absurd z (by decide)) (fun _ => ?_)
    refine tt_aload_n G dX6_bringBack_56 rfl ?_
    refine tt_iload_n G dX6_bringBack_57 rfl ?_
    refine tt_aald (j := 0) (k := 1) (m := 6) (v := as 1) G hAA2 rfl rfl (by decide) (by decide) rfl dX6_bringBack_58 ?_
    refine tt_iconst (v := 0) G dX6_bringBack_59 (by decide) ?_
    refine tt_aload_n G dX6_bringBack_60 rfl ?_
    refine tt_iload_n G dX6_bringBack_61 rfl ?_
    refine tt_aald (j := 7) (k := 1) (m := 6) (v := κ.E.ad (16, 0, 0)) G hAB rfl rfl (by decide) (by decide) rfl dX6_bringBack_62 ?_
    refine tt_iconst (v := 0) G dX6_bringBack_63 (by decide) ?_
    refine tt_aload_n G dX6_bringBack_64 rfl ?_
    refine tt_iload_n G dX6_bringBack_65 rfl ?_
    refine tt_aald (j := 7) (k := 1) (m := 6) (v := κ.E.ad (16, 0, 0)) G hAB rfl rfl (by decide) (by decide) rfl dX6_bringBack_66 ?_
    refine tt_alenP (i := (16, 0, 0)) (m := 36) G mR16 rfl dX6_bringBack_67 ?_
    obtain ⟨A1, hA1⟩ : ∃ A, A = va_cpy (N (16, 0, 0)) ((upr M (15, 0, 0) A0) (16, 0, 0)) 0 0 36 := ⟨_, rfl⟩
    refine tt_copyP (M' := upr ((upr M (15, 0, 0) A0)) (16, 0, 0) A1) (j := 2) (i := (16, 0, 0)) (n0 := 36) (n1 := 36) (s0 := 0) (d0 := 0) (m0 := 36) G mA49 mA49n mA49s mA49i rfl mR16 rfl rfl rfl rfl (by decide) (by decide) (by decide) (by decide) (by rw [hA1]; rfl) (fun j hj => celR_upr hj) (by decide) (by decide) dX6_bringBack_68 ?_
    have b1 : ∀ k, k < 36 → A1 k = N (16, 0, 0) k := fun k hk => by rw [hA1]; exact cpy_at hk
    clear hA1
    refine tt_iinc G dX6_bringBack_71 rfl (by decide) rfl rfl ?_
    refine tt_goto G 50 dX6_bringBack_74 (by decide) ?_
    refine tt_iload_n G dX6_bringBack_50 rfl ?_
    refine tt_aload_n G dX6_bringBack_51 rfl ?_
    refine tt_alenA (j := 7) (m := 6) G hAB rfl dX6_bringBack_52 ?_
    refine tt_icmp_ge G 77 dX6_bringBack_53 (by decide) (fun z => absurd z (by decide)) (fun _ => ?_)
    refine tt_aload_n G dX6_bringBack_56 rfl ?_
    refine tt_iload_n G dX6_bringBack_57 rfl ?_
    refine tt_aald (j := 0) (k := 2) (m := 6) (v := as 2) G hAA2 rfl rfl (by decide) (by decide) rfl dX6_bringBack_58 ?_
    refine tt_iconst (v := 0) G dX6_bringBack_59 (by decide) ?_
    refine tt_aload_n G dX6_bringBack_60 rfl ?_
    refine tt_iload_n G dX6_bringBack_61 rfl ?_
    refine tt_aald (j := 7) (k := 2) (m := 6) (v := κ.E.ad (17, 0, 0)) G hAB rfl rfl (by decide) (by decide) rfl dX6_bringBack_62 ?_
    refine tt_iconst (v := 0) G dX6_bringBack_63 (by decide) ?_
    refine tt_aload_n G dX6_bringBack_64 rfl ?_
    refine tt_iload_n G dX6_bringBack_65 rfl ?_
    refine tt_aald (j := 7) (k := 2) (m := 6) (v := κ.E.ad (17, 0, 0)) G hAB rfl rfl (by decide) (by decide) rfl dX6_bringBack_66 ?_
    refine tt_alenP (i := (17, 0, 0)) (m := 144) G mR17 rfl dX6_bringBack_67 ?_
    obtain ⟨A2, hA2⟩ : ∃ A, A = va_cpy (N (17, 0, 0)) ((upr (upr M (15, 0, 0) A0) (16, 0, 0) A1) (17, 0, 0)) 0 0 144 := ⟨_, rfl⟩
    refine tt_copyP (M' := upr ((upr (upr M (15, 0, 0) A0) (16, 0, 0) A1)) (17, 0, 0) A2) (j := 3) (i := (17, 0, 0)) (n0 := 144) (n1 := 144) (s0 := 0) (d0 := 0) (m0 := 144) G mA49 mA49n mA49s mA49i rfl mR17 rfl rfl rfl rfl (by decide) (by decide) (by decide) (by decide) (by rw [hA2]; rfl) (fun j hj => celR_upr hj) (by decide) (by decide) dX6_bringBack_68 ?_
    have b2 : ∀ k, k < 144 → A2 k = N (17, 0, 0) k := fun k hk => by rw [hA2]; exact cpy_at hk
    clear hA2
    refine tt_iinc G dX6_bringBack_71 rfl (by decide) rfl rfl ?_
    refine tt_goto G 50 dX6_bringBack_74 (by decide) ?_
    refine tt_iload_n G dX6_bringBack_50 rfl ?_
    refine tt_aload_n G dX6_bringBack_51 rfl ?_
    refine tt_alenA (j := 7) (m := 6) G hAB rfl dX6_bringBack_52 ?_
    refine tt_icmp_ge G 77 dX6_bringBack_53 (by decide) (fun z => absurd z (by decide)) (fun _ => ?_)
    refine tt_aload_n G dX6_bringBack_56 rfl ?_
    refine tt_iload_n G dX6_bringBack_57 rfl ?_
    refine tt_aald (j := 0) (k := 3) (m := 6) (v := as 3) G hAA2 rfl rfl (by decide) (by decide) rfl dX6_bringBack_58 ?_
    refine tt_iconst (v := 0) G dX6_bringBack_59 (by decide) ?_
    refine tt_aload_n G dX6_bringBack_60 rfl ?_
    refine tt_iload_n G dX6_bringBack_61 rfl ?_
    refine tt_aald (j := 7) (k := 3) (m := 6) (v := κ.E.ad (18, 0, 0)) G hAB rfl rfl (by decide) (by decide) rfl dX6_bringBack_62 ?_
    refine tt_iconst (v := 0) G dX6_bringBack_63 (by decide) ?_
    refine tt_aload_n G dX6_bringBack_64 rfl ?_
    refine tt_iload_n G dX6_bringBack_65 rfl ?_
    refine tt_aald (j := 7) (k := 3) (m := 6) (v := κ.E.ad (18, 0, 0)) G hAB rfl rfl (by decide) (by decide) rfl dX6_bringBack_66 ?_
    refine tt_alenP (i := (18, 0, 0)) (m := 128) G mR18 rfl dX6_bringBack_67 ?_
    obtain ⟨A3, hA3⟩ : ∃ A, A = va_cpy (N (18, 0, 0)) ((upr (upr (upr M (15, 0, 0) A0) (16, 0, 0) A1) (17, 0, 0) A2) (18, 0, 0)) 0 0 128 := ⟨_, rfl⟩
    refine tt_copyP (M' := upr ((upr (upr (upr M (15, 0, 0) A0) (16, 0, 0) A1) (17, 0, 0) A2)) (18, 0, 0) A3) (j := 4) (i := (18, 0, 0)) (n0 := 128) (n1 := 128) (s0 := 0) (d0 := 0) (m0 := 128) G mA49 mA49n mA49s mA49i rfl mR18 rfl rfl rfl rfl (by decide) (by decide) (by decide) (by decide) (by rw [hA3]; rfl) (fun j hj => celR_upr hj) (by decide) (by decide) dX6_bringBack_68 ?_
    have b3 : ∀ k, k < 128 → A3 k = N (18, 0, 0) k := fun k hk => by rw [hA3]; exact cpy_at hk
    clear hA3
    refine tt_iinc G dX6_bringBack_71 rfl (by decide) rfl rfl ?_
    refine tt_goto G 50 dX6_bringBack_74 (by decide) ?_
    refine tt_iload_n G dX6_bringBack_50 rfl ?_
    refine tt_aload_n G dX6_bringBack_51 rfl ?_
    refine tt_alenA (j := 7) (m := 6) G hAB rfl dX6_bringBack_52 ?_
    refine tt_icmp_ge G 77 dX6_bringBack_53 (by decide) (fun z => absurd z (by decide)) (fun _ => ?_)
    refine tt_aload_n G dX6_bringBack_56 rfl ?_
    refine tt_iload_n G dX6_bringBack_57 rfl ?_
    refine tt_aald (j := 0) (k := 4) (m := 6) (v := as 4) G hAA2 rfl rfl (by decide) (by decide) rfl dX6_bringBack_58 ?_
    refine tt_iconst (v := 0) G dX6_bringBack_59 (by decide) ?_
    refine tt_aload_n G dX6_bringBack_60 rfl ?_
    refine tt_iload_n G dX6_bringBack_61 rfl ?_
    refine tt_aald (j := 7) (k := 4) (m := 6) (v := κ.E.ad (19, 0, 0)) G hAB rfl rfl (by decide) (by decide) rfl dX6_bringBack_62 ?_
    refine tt_iconst (v := 0) G dX6_bringBack_63 (by decide) ?_
    refine tt_aload_n G dX6_bringBack_64 rfl ?_
    refine tt_iload_n G dX6_bringBack_65 rfl ?_
    refine tt_aald (j := 7) (k := 4) (m := 6) (v := κ.E.ad (19, 0, 0)) G hAB rfl rfl (by decide) (by decide) rfl dX6_bringBack_66 ?_
    refine tt_alenP (i := (19, 0, 0)) (m := 9) G mR19 rfl dX6_bringBack_67 ?_
    obtain ⟨A4, hA4⟩ : ∃ A, A = va_cpy (N (19, 0, 0)) ((upr (upr (upr (upr M (15, 0, 0) A0) (16, 0, 0) A1) (17, 0, 0) A2) (18, 0, 0) A3) (19, 0, 0)) 0 0 9 := ⟨_, rfl⟩
    refine tt_copyP (M' := upr ((upr (upr (upr (upr M (15, 0, 0) A0) (16, 0, 0) A1) (17, 0, 0) A2) (18, 0, 0) A3)) (19, 0, 0) A4) (j := 5) (i := (19, 0, 0)) (n0 := 9) (n1 := 9) (s0 := 0) (d0 := 0) (m0 := 9) G mA49 mA49n mA49s mA49i rfl mR19 rfl rfl rfl rfl (by decide) (by decide) (by decide) (by decide) (by rw [hA4]; rfl) (fun j hj => celR_upr hj) (by decide) (by decide) dX6_bringBack_68 ?_
    have b4 : ∀ k, k < 9 → A4 k = N (19, 0, 0) k := fun k hk => by rw [hA4]; exact cpy_at hk
    clear hA4
    refine tt_iinc G dX6_bringBack_71 rfl (by decide) rfl rfl ?_
    refine tt_goto G 50 dX6_bringBack_74 (by decide) ?_
    refine tt_iload_n G dX6_bringBack_50 rfl ?_
    refine tt_aload_n G dX6_bringBack_51 rfl ?_
    refine tt_alenA (j := 7) (m := 6) G hAB rfl dX6_bringBack_52 ?_
    refine tt_icmp_ge G 77 dX6_bringBack_53 (by decide) (fun z => absurd z (by decide)) (fun _ => ?_)
    refine tt_aload_n G dX6_bringBack_56 rfl ?_
    refine tt_iload_n G dX6_bringBack_57 rfl ?_
    refine tt_aald (j := 0) (k := 5) (m := 6) (v := as 5) G hAA2 rfl rfl (by decide) (by decide) rfl dX6_bringBack_58 ?_
    refine tt_iconst (v := 0) G dX6_bringBack_59 (by decide) ?_
    refine tt_aload_n G dX6_bringBack_60 rfl ?_
    refine tt_iload_n G dX6_bringBack_61 rfl ?_
    refine tt_aald (j := 7) (k := 5) (m := 6) (v := κ.E.ad (20, 0, 0)) G hAB rfl rfl (by decide) (by decide) rfl dX6_bringBack_62 ?_
    refine tt_iconst (v := 0) G dX6_bringBack_63 (by decide) ?_
    refine tt_aload_n G dX6_bringBack_64 rfl ?_
    refine tt_iload_n G dX6_bringBack_65 rfl ?_
    refine tt_aald (j := 7) (k := 5) (m := 6) (v := κ.E.ad (20, 0, 0)) G hAB rfl rfl (by decide) (by decide) rfl dX6_bringBack_66 ?_
    refine tt_alenP (i := (20, 0, 0)) (m := 5) G mR20 rfl dX6_bringBack_67 ?_
    obtain ⟨A5, hA5⟩ : ∃ A, A = va_cpy (N (20, 0, 0)) ((upr (upr (upr (upr (upr M (15, 0, 0) A0) (16, 0, 0) A1) (17, 0, 0) A2) (18, 0, 0) A3) (19, 0, 0) A4) (20, 0, 0)) 0 0 5 := ⟨_, rfl⟩
    refine tt_copyP (M' := upr ((upr (upr (upr (upr (upr M (15, 0, 0) A0) (16, 0, 0) A1) (17, 0, 0) A2) (18, 0, 0) A3) (19, 0, 0) A4)) (20, 0, 0) A5) (j := 6) (i := (20, 0, 0)) (n0 := 5) (n1 := 5) (s0 := 0) (d0 := 0) (m0 := 5) G mA49 mA49n mA49s mA49i rfl mR20 rfl rfl rfl rfl (by decide) (by decide) (by decide) (by decide) (by rw [hA5]; rfl) (fun j hj => celR_upr hj) (by decide) (by decide) dX6_bringBack_68 ?_
    have b5 : ∀ k, k < 5 → A5 k = N (20, 0, 0) k := fun k hk => by rw [hA5]; exact cpy_at hk
    clear hA5
    refine tt_iinc G dX6_bringBack_71 rfl (by decide) rfl rfl ?_
    refine tt_goto G 50 dX6_bringBack_74 (by decide) ?_
    refine tt_iload_n G dX6_bringBack_50 rfl ?_
    refine tt_aload_n G dX6_bringBack_51 rfl ?_
    refine tt_alenA (j := 7) (m := 6) G hAB rfl dX6_bringBack_52 ?_
    refine tt_icmp_ge G 77 dX6_bringBack_53 (by decide) (fun _ => ?_) (fun z => absurd (by decide) z)
    intro H locs ls2 hP2 hD2 hS2 hl2
    rw [hQ9]
    have hPp : ∀ M9 : Mem, ∀ tw9 : va_W, va_P κ.E.D vwCl (PW idsR κ.E.ad (κ.E.cel M9) ++ tw9) H → va_P κ.E.D vwCl (PW idsR κ.E.ad (κ.E.cel M9)) H := fun M9 tw9 h9 i q hq => h9 i q (by
      rw [List.getElem?_append_left (List.getElem?_eq_some_iff.mp hq).1]; exact hq)
    have hPk : va_P κ.E.D vwCl (KWd κ.E as K cA N) H := fun i q hq => by
      have hi7 : i < 7 := (List.getElem?_eq_some_iff.mp hq).1
      refine hP2 (7 + i) q ?_
      match i, hi7, hq with
      | 0, _, hq => exact hq
      | 1, _, hq => exact hq
      | 2, _, hq => exact hq
      | 3, _, hq => exact hq
      | 4, _, hq => exact hq
      | 5, _, hq => exact hq
      | 6, _, hq => exact hq
      | i + 7, h, _ => omega
    refine W.vret G.hx G.hb hret (fun t ht hW => ⟨⟨none, _, rfl, ⟨rfl, ?_, fun k hk => ?_, fun k hk => ?_, fun k hk => ?_, fun k hk => ?_, fun k hk => ?_, fun k hk => ?_⟩, ⟨by rw [ht]; exact hPp _ _ hP2, va_K.moved hW.alike G.hK, G.hinj⟩⟩, ⟨by rw [ht]; exact hPk, hKS2.2.weaken (fun k q hk hA => ⟨by rw [ht]; exact Nat.lt_of_lt_of_le hA.1 hS2.1, hA.2⟩)⟩, hS2.F ht⟩) hS2.2.2 dX6_bringBack_77 G.hlk
    · rw [upr_ne (by simp), upr_ne (by simp), upr_ne (by simp), upr_ne (by simp), upr_ne (by simp), upr_ne (by simp)]
    · rw [upr_ne (by simp), upr_ne (by simp), upr_ne (by simp), upr_ne (by simp), upr_ne (by simp), upr_at]; exact b0 k hk
    · rw [upr_ne (by simp), upr_ne (by simp), upr_ne (by simp), upr_ne (by simp), upr_at]; exact b1 k hk
    · rw [upr_ne (by simp), upr_ne (by simp), upr_ne (by simp), upr_at]; exact b2 k hk
    · rw [upr_ne (by simp), upr_ne (by simp), upr_at]; exact b3 k hk
    · rw [upr_ne (by simp), upr_at]; exact b4 k hk
    · rw [upr_at]; exact b5 k hk
  have hD0 : va_D (BA E as K cA N s.heap.size) (PW idsR E.ad (E.cel M) ++ KWd E as K cA N) := by
    refine va_D.app ((PW_D _ idsR_nd hI _).weaken (fun _ _ _ h => Or.inl h)) (hKS.2.weaken (fun k q hk _ => Or.inr ⟨k, q.2, hk⟩)) (fun i j p q hp hq e => ?_)
    have h2 := (hKS.2.2 j q hq).2
    simp only [PW, List.getElem?_map] at hp
    cases hi : idsR[i]? with
    | none => rw [hi] at hp; cases hp
    | some x =>
      rw [hi] at hp
      cases hp
      exact h2 x (List.mem_of_getElem? hi) e.symm
  have hb2 := hb
  rw [hκ] at hb2
  exact hb2 s.heap [] ls (hP.app hKS.1) hD0 va_S.rf hLV
