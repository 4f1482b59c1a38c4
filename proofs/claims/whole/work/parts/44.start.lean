/-! ===== the law's start: the two greens' objects, the reference's, the row of one long ===== -/
theorem va_D_app {A : Nat → Prop} {w1 w2 : va_W} (h : va_D A (w1 ++ w2)) : va_D A w1 ∧ va_D A w2 ∧ ∀ x, x ∈ w1 → ∀ y, y ∈ w2 → x.1 ≠ y.1 := by
  have hl : ∀ (i : Nat) (q : Nat × va_E), w1[i]? = some q → (w1 ++ w2)[i]? = some q := fun i q hq => by rw [List.getElem?_append_left (List.getElem?_eq_some_iff.mp hq).1]; exact hq
  have hr : ∀ (i : Nat) (q : Nat × va_E), w2[i]? = some q → (w1 ++ w2)[w1.length + i]? = some q := fun i q hq => by rw [List.getElem?_append_right (by omega), Nat.add_sub_cancel_left]; exact hq
  refine ⟨⟨fun i j p q hp hq e => h.1 i j p q (hl i p hp) (hl j q hq) e, fun k q hq => h.2 k q (hl k q hq)⟩, ⟨fun i j p q hp hq e => by
    have := h.1 _ _ p q (hr i p hp) (hr j q hq) e
    omega, fun k q hq => h.2 _ q (hr k q hq)⟩, fun x hx y hy e => ?_⟩
  obtain ⟨i, hi⟩ := List.getElem?_of_mem hx
  obtain ⟨j, hj⟩ := List.getElem?_of_mem hy
  have h1 := h.1 _ _ x y (hl i x hi) (hr j y hj) e
  have h2 := (List.getElem?_eq_some_iff.mp hi).1
  omega
/-- the reference's memory at the start -/
def N0 : Mem
  | (20, _, _) => num0
  | _ => fun _ => 0
def adL (q5 : Nat) (ad1 ad2 : Pid → Nat) (q6 r1 r2 r3 r4 r5 r6 : Nat) : Pid → Nat
  | (0, _, _) => q5
  | (14, _, _) => q6
  | (15, _, _) => r1
  | (16, _, _) => r2
  | (17, _, _) => r3
  | (18, _, _) => r4
  | (19, _, _) => r5
  | (20, _, _) => r6
  | (k, 0, x) => ad1 (k, 0, x)
  | (k, _, x) => ad2 (k, 0, x)
set_option maxRecDepth 100000 in
theorem twA_eq (cy : Nat → ClassId) (q5 : Nat) (ad1 ad2 : Pid → Nat) (q6 r1 r2 r3 r4 r5 r6 : Nat) : PW (idsF 0) ad1 (celF ad1 cy M0) = PW (idsF 0) (adL q5 ad1 ad2 q6 r1 r2 r3 r4 r5 r6) (celF (adL q5 ad1 ad2 q6 r1 r2 r3 r4 r5 r6) cy M0) := rfl
set_option maxRecDepth 100000 in
theorem twB_eq (cy : Nat → ClassId) (q5 : Nat) (ad1 ad2 : Pid → Nat) (q6 r1 r2 r3 r4 r5 r6 : Nat) : PW (idsF 0) ad2 (celF ad2 cy M0) = PW (idsF 1) (adL q5 ad1 ad2 q6 r1 r2 r3 r4 r5 r6) (celF (adL q5 ad1 ad2 q6 r1 r2 r3 r4 r5 r6) cy M0) := rfl
theorem tw5_eq (cy : Nat → ClassId) (q5 : Nat) (ad1 ad2 : Pid → Nat) (q6 r1 r2 r3 r4 r5 r6 : Nat) : ((q5, .inr (5, [.ref (ad1 (1, 0, 0)), .ref (ad2 (1, 0, 0))])) :: (PW (idsF 0) ad1 (celF ad1 cy M0) ++ PW (idsF 0) ad2 (celF ad2 cy M0)) : va_W) = PW idsC (adL q5 ad1 ad2 q6 r1 r2 r3 r4 r5 r6) (celF (adL q5 ad1 ad2 q6 r1 r2 r3 r4 r5 r6) cy M0) := by
  rw [twA_eq cy q5 ad1 ad2 q6 r1 r2 r3 r4 r5 r6, twB_eq cy q5 ad1 ad2 q6 r1 r2 r3 r4 r5 r6]
  unfold PW idsC
  rw [List.map_cons, List.map_append]
  rfl
theorem tw6_eq (cy : Nat → ClassId) (q5 : Nat) (ad1 ad2 : Pid → Nat) (q6 r1 r2 r3 r4 r5 r6 : Nat) : ([(q6, .inr (6, [.int 0, .int 0, .int 0, .int 0, .ref r1, .ref r2, .ref r3, .ref r4, .ref r5, .ref r6])), (r1, .inl (cy 0, pInts 48 (fun _ => 0))), (r2, .inl (cy 0, pInts 36 (fun _ => 0))), (r3, .inl (cy 0, pInts 144 (fun _ => 0))), (r4, .inl (cy 0, pInts 128 (fun _ => 0))), (r5, .inl (cy 0, pInts 9 (fun _ => 0))), (r6, .inl (cy 0, pInts 5 num0))] : va_W) = PW idsR (adL q5 ad1 ad2 q6 r1 r2 r3 r4 r5 r6) (celF (adL q5 ad1 ad2 q6 r1 r2 r3 r4 r5 r6) cy N0) := rfl
def g0 : GS := (fun kd _ k => if kd = 1 then (if k = 8 then 1 else if k = 9 then -1 else 0) else 0, fun _ => [], fun _ => 0, [])
theorem CI_0 : CI M0 g0 := by
  refine ⟨⟨⟨rfl, rfl, rfl, fun k _ _ => rfl⟩, fun b hb => absurd hb (Nat.not_lt_zero b), fun h hh => absurd hh (Nat.not_lt_zero h), fun v hv => absurd hv (Nat.not_lt_zero v), rfl, fun i x hx => by cases hx⟩, ⟨⟨Nat.zero_le _, Nat.zero_le _, Nat.zero_le _⟩, fun h hh => absurd hh (Nat.not_lt_zero h), fun v hv => absurd hv (Nat.not_lt_zero v), fun b hb => absurd hb (Nat.not_lt_zero b), Nat.zero_le _, fun x hx => absurd hx List.not_mem_nil, List.Pairwise.nil⟩, ⟨fun b _ _ => ⟨rfl, rfl, rfl, rfl⟩, fun h _ _ => rfl, fun v _ _ => ⟨⟨rfl, rfl, rfl, rfl, rfl⟩, fun b => rfl⟩⟩⟩
theorem SimR_0 : SimR N0 g0 0 := by
  have hn : ∀ (i : Nat) (x : Nat × Nat × Int32), g0.bd[i]? = some x → False := fun i x hx => by cases hx
  refine ⟨⟨rfl, rfl, rfl⟩, fun b hb => absurd hb (Nat.not_lt_zero b), fun h hh => absurd hh (Nat.not_lt_zero h), fun v hv => absurd hv (Nat.not_lt_zero v), fun v _ b _ => (if_neg (Nat.not_lt_zero v)).symm, fun b hb => absurd hb (Nat.not_lt_zero b), fun i x hx => (hn i x hx).elim, by decide, by decide, by decide, by decide, by decide⟩
theorem tn_newl {κ : KX} {cc : ByteArray} {nL fr lo : Nat} {own : String} {M : Mem} {l : LSt} {st : List Value} {pc c d : Nat} {A9 : Nat → Prop} {tw : va_W} (G : Good κ [] cc nL own fr lo) (hA9 : ∀ q, κ.s.heap.size ≤ q → A9 q) {cL : ClassId} (hLA : LA cL κ.s) {x : Int32} {k : Nat} (hx : x = nI k) (hk : k < 2 ^ 20) (harr : Cond.arrayClass .long ∈ ALL) (hc : c + 1 ≤ κ.R.cells) (hd : d + k ≤ κ.R.slots) (dg : decode cc pc = .ok (.newarray .long, 2)) (h : ∀ q : Nat, VT κ [] A9 (tw ++ [(q, .inl (cL, (k, .inr (.inl (fun _ => 0)))))]) (c + 1) (d + k) nL M l (.ref q :: st) (pc + 2)) : VT κ [] A9 tw c d nL M l (.int x :: st) pc := fun H locs ls hP hD hS hl => by
  subst hx
  refine va_newa (atype := .long) (ty := .long) (a0 := (k, .inr (.inl (fun _ => 0)))) G.hx G.hb (G.hw _ harr) rfl G.hK hP hD hS hA9 (fun cA => rfl) (nI_pos (by omega)) (nI_clamp (by omega)) (by show k * 8 ≤ _; omega) hc hd dg (fun q cA H1 hK1 hP1 hD1 hS1 => ?_)
  have e1 := (hK1.2 (tysF κ.E.cy).length (cA, .long) (by rw [List.getElem?_append_right (Nat.le_refl _), Nat.sub_self]; rfl)).2
  have e2 := hLA.2
  have e3 : cA = cL := Option.some.inj (e1.symm.trans e2)
  subst e3
  exact h q H1 locs ls hP1 hD1 hS1 hl
theorem tn_istore {κ : KX} {cc : ByteArray} {nL fr lo : Nat} {own : String} {M : Mem} {l : LSt} {st : List Value} {pc c d : Nat} {A9 : Nat → Prop} {tw : va_W} (G : Good κ [] cc nL own fr lo) {i : Nat} {x : Int32} (dg : decode cc pc = .ok (.istore i, 2)) (hn : i < nL) (hk : okSt l i = true) (h : VT κ [] A9 tw c d nL M (l.set i (some (.int x))) st (pc + 2)) : VT κ [] A9 tw c d nL M l (.int x :: st) pc := fun H locs ls hP hD hS ⟨lv, h1, h2, h3⟩ => lv_istore G.hx G.hb dg h1 hn rfl (fun ls' h4 => h H locs ls' hP hD hS (LV.wr h2 h3 hk h4))
/-- what the tables say of classes and rows, as numbers -/
theorem start_K {s : State} {a : Array Value} (hts : ∀ w ∈ ALL, w.before a s = true) (hts0 : ∀ w ∈ lw_tbl, w.before a s = true) : (∃ (D : va_G) (cy : Nat → ClassId), va_K D vwCl (tysF cy) s) ∧ (∃ cL, LA cL s) ∧ RN s ∧ RQ s := by
  obtain ⟨c0, i0, k0⟩ := u_known (C := RX0) (T := TX0) (N := 9) (n := 9) hts uX0 (hts (.instantiable RX0 9) (by decide +kernel))
  obtain ⟨c1, i1, k1⟩ := u_known (C := RX1) (T := TX1) (N := 4) (n := 4) hts uX1 (hts (.instantiable RX1 4) (by decide +kernel))
  obtain ⟨c2, i2, k2⟩ := u_known (C := RX2) (T := TX2) (N := 11) (n := 11) hts uX2 (hts (.instantiable RX2 11) (by decide +kernel))
  obtain ⟨c3, i3, k3⟩ := u_known (C := RX3) (T := TX3) (N := 3) (n := 3) hts uX3 (hts (.instantiable RX3 3) (by decide +kernel))
  obtain ⟨c4, i4, k4⟩ := u_known (C := RX4) (T := TX4) (N := 9) (n := 9) hts uX4 (hts (.instantiable RX4 9) (by decide +kernel))
  obtain ⟨c5, i5, k5⟩ := u_known (C := RX5) (T := TX5) (N := 2) (n := 2) hts uX5 (hts (.instantiable RX5 2) (by decide +kernel))
  obtain ⟨c6, i6, k6⟩ := u_known (C := RX6) (T := TX6) (N := 10) (n := 10) hts uX6 (hts (.instantiable RX6 10) (by decide +kernel))
  have ha : ∀ ty : FieldType, Cond.arrayClass ty ∈ ALL → (ty = .int ∨ ty = .long) → ∃ cA, ArrOfT s cA ty ∧ va_RA s cA ty := fun ty hty h9 => by
    obtain ⟨cA, kA, comp, h1, h2, h3⟩ := Cond.arrayClass_spec (hts _ hty)
    refine ⟨cA, fun N z => ⟨(fun k h => by cases h), kA, h2, comp, h3⟩, ?_⟩
    rcases h9 with rfl | rfl <;> exact h1
  have hq : ∀ C : String, va_AO C s → ∃ cA, ArrOfT s cA (.object C) ∧ va_RA s cA (.object C) := fun C hC => by
    obtain ⟨comp, cA, k, h1, h2, h3, h4, h5⟩ := Cond.arrayOver_spec hC
    exact ⟨cA, fun N z => ⟨(fun k h => by cases h), k, h3, comp, h4⟩, k, comp, h3, h4, h1, h5⟩
  have o0 : va_AO RX0 s := va_AO.of (hts0 (.arrayOver (.object RX0)) (by decide +kernel))
  have o3 : va_AO RX3 s := va_AO.of (hts0 (.arrayOver (.object RX3)) (by decide +kernel))
  have o4 : va_AO RX4 s := va_AO.of (hts0 (.arrayOver (.object RX4)) (by decide +kernel))
  obtain ⟨a0, b0⟩ := ha .int (by decide +kernel) (Or.inl rfl)
  obtain ⟨a1, b1⟩ := hq RX0 o0
  obtain ⟨a2, b2⟩ := hq RX3 o3
  obtain ⟨a3, b3⟩ := hq RX4 o4
  refine ⟨⟨(fun c => match c with | 0 => c0 | 1 => c1 | 2 => c2 | 3 => c3 | 4 => c4 | 5 => c5 | _ => c6, fun c => match c with | 0 => i0 | 1 => i1 | 2 => i2 | 3 => i3 | 4 => i4 | 5 => i5 | _ => i6), fun k => match k with | 0 => a0 | 1 => a1 | 2 => a2 | _ => a3, fun c q hq => ?_, fun k q hq => ?_⟩, ha .long (by decide +kernel) (Or.inr rfl), ⟨o0, o3, o4, fun q hq => va_Nw.of rfl (hts0 _ ((show ∀ q, q ∈ nests → Cond.methodLinkNest RX2 q.1 q.2 RX5 ∈ lw_tbl by decide +kernel) q hq))⟩, hts0 (.arrayOver (.array .int)) (by decide +kernel), va_Nw.of rfl (hts0 (.castable "[I" "java/lang/Cloneable") (by decide +kernel))⟩
  · match c, hq with
    | 0, hq => cases hq; exact k0
    | 1, hq => cases hq; exact k1
    | 2, hq => cases hq; exact k2
    | 3, hq => cases hq; exact k3
    | 4, hq => cases hq; exact k4
    | 5, hq => cases hq; exact k5
    | 6, hq => cases hq; exact k6
    | c + 7, hq => cases hq
  · match k, hq with
    | 0, hq => cases hq; exact b0
    | 1, hq => cases hq; exact b1
    | 2, hq => cases hq; exact b2
    | 3, hq => cases hq; exact b3
    | k + 4, hq => cases hq
/-- what the statement gives of throws -/
theorem start_X {s : State} {a : Array Value} (hts0 : ∀ w ∈ lw_tbl, w.before a s = true) (hgv : (Jvm.Cond.and given_1 narrow_1).before a s = true) : XFh (fun q => s.heap.size ≤ q) s s.heap ∧ XFq s ∧ CW s := by
  have hs := flat_of_before _ hgv
  have hA : ∀ q : Nat, q < s.heap.size → ¬ s.heap.size ≤ q := fun q h => Nat.not_le.mpr h
  have hini := hts0 (.initialized Bundle.tN) (by decide +kernel)
  refine ⟨⟨vx_Zqof (hts0 _ (by decide +kernel)) hini (hs _ (by decide +kernel)) hA, vx_Zqof (hts0 _ (by decide +kernel)) hini (hs _ (by decide +kernel)) hA⟩, ⟨fun w hw => va_Nw.of ((show ∀ w, w ∈ xdecl → w.onTables = true by decide +kernel) w hw) (hts0 w ((show ∀ w, w ∈ xdecl → w ∈ lw_tbl by decide +kernel) w hw)), va_Nw.of rfl (hts0 (.castable xIA xIA) (by decide +kernel)), va_Nw.of rfl (hts0 (.castable xIS xIS) (by decide +kernel)), va_Nw.of rfl (hts0 (.castable xIO xIO) (by decide +kernel)), fun q hq => ?_⟩, va_Nc.of (hs (.not (.castable xIS xIA)) (by decide +kernel)), va_Nc.of (hs (.not (.castable xIA xIO)) (by decide +kernel)), va_Nc.of (hs (.not (.castable xIS xIO)) (by decide +kernel))⟩
  have h1 := hts0 (.stringRef RX5 q.1 q.2) ((show ∀ q, q ∈ xstr → Cond.stringRef RX5 q.1 q.2 ∈ lw_tbl by decide +kernel) q hq)
  have h2 : (Cond.exactly (.string RX5 q.1) "java/lang/String").before a s = true := by
    simp only [xstr, List.mem_cons, List.not_mem_nil, or_false] at hq
    rcases hq with rfl | rfl | rfl | rfl | rfl | rfl | rfl | rfl | rfl | rfl | rfl <;> exact hs _ (by decide +kernel)
  obtain ⟨sa, c, cell, k, q1, -⟩ := Cond.exactly_spec h2
  exact ⟨sa, vk_R.of h1 q1⟩
/-- from the entry, for every script, the law comes to its end with true -/
theorem whole_start {p : Program} {e : Env} {s : State} {m : MethodId} {below : List Frame} {meth : Method} {c : Code} (l : Launch) (hflags : l.flags = flags0) {b L : Nat} {xs : Nat → Int32} (hL : L ≤ 2560) (C0 : lw_At p s m meth c b L xs) : W p l e room_1 s m #[Value.ref b] below meth c s.heap [] 0 0 (lw_Z below #[Value.ref b] s) (entryFrame m ([Value.ref b] : List Value).toArray 9) := by
  obtain ⟨hx, hb, hr, hml, hown, hts0, hX, hbl, hlk, hgv⟩ := id C0
  have hts : ∀ w ∈ ALL, w.before #[Value.ref b] s = true := fun w hw => hts0 w (List.mem_filter.mp hw).1
  obtain ⟨⟨D, cy, hK⟩, ⟨cL, hLA⟩, hRN, hRQ⟩ := start_K hts hts0
  obtain ⟨hXh, hXq, hCW⟩ := start_X hts0 hgv
  have hfl : l.stackTraces = false := by unfold Launch.stackTraces; rw [hflags]; decide
  refine W.base ?_
  have hl := lv_entry ([.ref b]) (n := 9) (Nat.le_of_ble_eq_true rfl)
  rw [lg_entry_eq]
  generalize (lg_sl ([.ref b]) ++ List.replicate (9 - (lg_sl ([.ref b])).length) Slot.unset).toArray = ls at hl ⊢
  have hLV : LV ls 9 [some (.ref b), none, none, none, none, none, none, none, none] := by
    refine ⟨_, hl, rfl, fun i v hi => ?_⟩
    match i, hi with
    | 0, hi => cases hi; exact List.mem_cons_self
    | 1, hi => cases hi
    | 2, hi => cases hi
    | 3, hi => cases hi
    | 4, hi => cases hi
    | 5, hi => cases hi
    | 6, hi => cases hi
    | 7, hi => cases hi
    | 8, hi => cases hi
    | i + 9, hi => cases hi
  obtain ⟨κ, hκ⟩ : ∃ κ : KX, κ = ((p, ((l, D, (fun _ => 0), cy) : EX), e, room_1, s.setDrawn s.drawn), (m, #[Value.ref b], below, meth, c), lw_Z below #[Value.ref b] s, Rg ((l, D, (fun _ => 0), cy) : EX) [] s.heap.size, (0, 0)) := ⟨_, rfl⟩
  have G : Good κ [] cL_law 9 RL 11 428 := by
    subst hκ
    exact ⟨hx, hb, hml, hown, fun w hw => dr_words hts s.drawn w hw, va_K.moved (U := s.setDrawn s.drawn) (Vm.Alike.refl s.vm) hK, fun i hi => absurd hi List.not_mem_nil, List.nodup_nil, rfl, hlk, Nat.le_refl _, Nat.le_refl _, Nat.zero_le _, Nat.zero_le _⟩
  have hA9 : ∀ q, κ.s.heap.size ≤ q → (fun q : Nat => s.heap.size ≤ q) q := by
    subst hκ
    exact fun q hq => hq
  have hRN2 : RN κ.s := by
    subst hκ
    exact RN.warm (s := s) (U := s.setDrawn s.drawn) (State.WarmedH.refl s) hRN
  have hLA2 : LA cL κ.s := by
    subst hκ
    exact hLA.moved (U := s.setDrawn s.drawn) (Vm.Alike.refl s.vm)
  have hRc : κ.R.cells = 601024 := by rw [hκ]; rfl
  have hRs : κ.R.slots = 7293034 := by rw [hκ]; rfl
  have walk : VT κ [] (fun q : Nat => s.heap.size ≤ q) [] 0 0 9 M00 [some (.ref b), none, none, none, none, none, none, none, none] [] 0 := by
    refine tn_new (T := TX5) (fs := [.null, .null]) (ci := 5) G hA9 uX5 tyX5 tyX5_ok (by decide +kernel) (by decide +kernel) (by decide +kernel) rfl (by decide) (by rw [hRc]; decide) (by rw [hRs]; decide) dL_law_0 (fun q5 => ?_)
    refine tt_dup G dL_law_3 rfl ?_
    refine tn_init G hA9 hRN2 (n5 κ.E q5) (by decide +kernel) (by decide +kernel) (by decide +kernel) (by decide +kernel) (by decide +kernel) rfl (by decide) (by rw [hRc]; decide) (by rw [hRs]; decide) (Nat.le_of_ble_eq_true rfl) dL_law_4 (fun tw2 htw => ?_)
    obtain ⟨ad1, ad2, rfl⟩ := htw
    refine tt_astore_n G dL_law_7 (by decide) rfl ?_
    refine tn_new (T := TX6) (fs := [.int 0, .int 0, .int 0, .int 0, .null, .null, .null, .null, .null, .null]) (ci := 6) G hA9 uX6 tyX6 tyX6_ok (by decide +kernel) (by decide +kernel) (by decide +kernel) rfl (by decide) (by rw [hRc]; decide) (by rw [hRs]; decide) dL_law_8 (fun q6 => ?_)
    refine tt_dup G dL_law_11 rfl ?_
    refine tn_init G hA9 hRN2 (n6 κ.E q6) (by decide +kernel) (by decide +kernel) (by decide +kernel) (by decide +kernel) (by decide +kernel) rfl (by decide) (by rw [hRc]; decide) (by rw [hRs]; decide) (Nat.le_of_ble_eq_true rfl) dL_law_12 (fun tw2 htw => ?_)
    obtain ⟨r1, r2, r3, r4, r5, r6, rfl⟩ := htw
    refine tt_astore_n G dL_law_15 (by decide) rfl ?_
    refine tt_iconst (v := nI 1) G dL_law_16 (by decide) ?_
    refine tn_newl (k := 1) G hA9 hLA2 rfl (by decide) (by decide +kernel) (by rw [hRc]; decide) (by rw [hRs]; decide) dL_law_17 (fun q7 => ?_)
    refine tt_astore_n G dL_law_19 (by decide) rfl ?_
    refine tt_iconst (v := nI 0) G dL_law_20 (by decide) ?_
    refine tn_istore G dL_law_21 (by decide) rfl ?_
    intro H locs ls hP hD hS hl
    subst hκ
    obtain ⟨z, hz⟩ : ∃ z : LX, z = ((p, ((l, D, adL q5 ad1 ad2 q6 r1 r2 r3 r4 r5 r6, cy) : EX), e, s), (m, below, meth, c), (b, L, xs), (q7, cL)) := ⟨_, rfl⟩
    have ew : LWd z M0 N0 (fun _ => 0) = (((q5, .inr (5, [.ref (ad1 (1, 0, 0)), .ref (ad2 (1, 0, 0))])) :: (PW (idsF 0) ad1 (celF ad1 cy M0) ++ PW (idsF 0) ad2 (celF ad2 cy M0)) : va_W) ++ ([(q6, .inr (6, [.int 0, .int 0, .int 0, .int 0, .ref r1, .ref r2, .ref r3, .ref r4, .ref r5, .ref r6])), (r1, .inl (cy 0, pInts 48 (fun _ => 0))), (r2, .inl (cy 0, pInts 36 (fun _ => 0))), (r3, .inl (cy 0, pInts 144 (fun _ => 0))), (r4, .inl (cy 0, pInts 128 (fun _ => 0))), (r5, .inl (cy 0, pInts 9 (fun _ => 0))), (r6, .inl (cy 0, pInts 5 num0))] : va_W)) ++ tO q7 cL (fun _ => 0) := by
      rw [hz, tw5_eq cy q5 ad1 ad2 q6 r1 r2 r3 r4 r5 r6, tw6_eq cy q5 ad1 ad2 q6 r1 r2 r3 r4 r5 r6, List.append_assoc]
      rfl
    have hP2 : va_P D vwCl (LWd z M0 N0 (fun _ => 0)) H := by rw [ew]; exact hP
    have hD2 : va_D (fun q : Nat => s.heap.size ≤ q) (LWd z M0 N0 (fun _ => 0)) := by rw [ew]; exact hD
    obtain ⟨d1, d2, d3⟩ := va_D_app hD2
    obtain ⟨d4, d5, d6⟩ := va_D_app d2
    obtain ⟨m1, m2⟩ := PW_in d1
    obtain ⟨m3, m4⟩ := PW_in d4
    have mC : ∀ i, i ∈ idsC → (z.E.ad i, z.E.cel M0 i) ∈ PW idsC z.E.ad (z.E.cel M0) := fun i hi => List.mem_map.mpr ⟨i, hi, rfl⟩
    have mR : ∀ i, i ∈ idsR → (z.E.ad i, z.E.cel N0 i) ∈ PW idsR z.E.ad (z.E.cel N0) := fun i hi => List.mem_map.mpr ⟨i, hi, rfl⟩
    have mO : ((z.o, .inl (z.cL, (1, .inr (.inl (fun _ => 0))))) : Nat × va_E) ∈ tO z.o z.cL (fun _ => 0) := List.mem_cons_self
    have n1 : ∀ i, i ∈ idsC → ∀ j, j ∈ idsR → z.E.ad i ≠ z.E.ad j := fun i hi j hj => d3 _ (mC i hi) _ (List.mem_append_left _ (mR j hj))
    have n2 : ∀ i, i ∈ idsC → z.E.ad i ≠ z.o := fun i hi => d3 _ (mC i hi) _ (List.mem_append_right _ mO)
    have n3 : ∀ i, i ∈ idsR → z.E.ad i ≠ z.o := fun i hi => d6 _ (mR i hi) _ mO
    have n4 : s.heap.size ≤ z.o := d5.2 0 _ rfl
    have GL : LG z := by
      subst hz
      exact ⟨hx, hb, hml, hr, hlk, hown, hts, hK, hX, hbl, hL, hRQ, hXh, hXq, hCW, hfl, hLA, m2, m4, n1, n2, n3, m1, m3, n4⟩
    have hgo := law_loop GL 512 0 145 1519 M0 N0 (fun _ => 0) g0 (by rw [hz]; show L < 2565; omega) (by decide) (by decide) (by decide) CI_0 SimR_0
    subst hz
    exact hgo s.drawn H locs ls _ _ (Drawn.sameBut.refl s.drawn lw_cs) hP2 hS hl (by decide) (by decide)
  have fin := walk s.heap [] ls (fun k q hq => (by cases hq)) ⟨fun i j p q hp _ _ => (by cases hp), fun k q hq => (by cases hq)⟩ (by subst hκ; exact va_S.rf) hLV
  subst hκ
  exact fin

