/-! ===== luck: doubles; a NaN's bits are drawn ===== -/
def lk (g : GS) : UInt64 := if plsN g g.nb = 0 then FP.dconst0 else FP.ddiv (FP.i2d (g.i 1 0 10)) (FP.i2d (plsN g g.nb))
theorem nan_dec {x : UInt64} (h : isNaN64 x = true) : FP.Core.decode FP.Core.b64 x.toNat = .nan := by
  have h1 : (x &&& 0x7fffffffffffffff) > 0x7ff0000000000000 := by simpa [isNaN64] using h
  have h2 : (0x7ff0000000000000 : UInt64).toNat < (x &&& 0x7fffffffffffffff).toNat := UInt64.lt_iff_toNat_lt.mp h1
  rw [UInt64.toNat_and, show (0x7fffffffffffffff : UInt64).toNat = 2 ^ 63 - 1 from rfl, Nat.and_two_pow_sub_one_eq_mod, show (0x7ff0000000000000 : UInt64).toNat = 2047 * 2 ^ 52 from rfl] at h2
  have hx := x.toNat_lt
  generalize x.toNat = n at h2 hx
  have e1 : FP.Core.fieldE FP.Core.b64 n = FP.Core.b64.exps - 1 := by
    show n / 2 ^ 52 % 2 ^ 11 = 2 ^ 11 - 1
    omega
  have e2 : FP.Core.fieldT FP.Core.b64 n ≠ 0 := by
    show n % 2 ^ 52 ≠ 0
    omega
  unfold FP.Core.decode
  rw [if_pos e1, if_neg e2]
theorem nan_cmp {x y : UInt64} (h : isNaN64 x = true) : FP.dcmp x y = none := by
  show FP.Core.order (FP.Core.decode FP.Core.b64 x.toNat) _ = none
  rw [nan_dec h]
  rfl
/-- what luck leaves -/
def LuckQ (E : EX) (ids : List Pid) (g : GS) (P : Mem → Prop) (sz : Nat) : Array Value → State → Outcome → State → Prop := fun _ st oc t => (∃ (r : UInt64) (M' : Mem), oc = .returned (some (.double r)) ∧ alike64 r (lk g) = true ∧ P M' ∧ Wd E ids M' t) ∧ va_F (Rg E ids sz) st t
def LuckC (E : EX) (ids : List Pid) (y : MethodName) (cc : ByteArray) (nL fr lo : Nat) (self : Pid) (M : Mem) (g : GS) (P : Mem → Prop) : Prop := ∀ sz : Nat, MetD lw_cs E.l y (Cond.code y cc nL (some .double) :: ALL) { frames := fr, cells := 0, slots := 0, locals := lo } (va_Pc [.ref (E.ad self)] (fun U => U.heap.size = sz ∧ Wd E ids M U)) (LuckQ E ids g P sz) 0 0 (Rg E ids sz)
theorem s_i2d {κ : KX} {ids : List Pid} {cc : ByteArray} {nL fr lo : Nat} {own : String} {M : Mem} {l : LSt} {st : List Value} {pc : Nat} (G : Good κ ids cc nL own fr lo) {x : Int32} (d : decode cc pc = .ok (.i2d, 1)) (h : V κ ids nL M l (.double (FP.i2d x) :: st) (pc + 1)) : V κ ids nL M l (.int x :: st) pc := fun H locs ls hP hS hl => lv_i2d G.hx G.hb d (h H locs ls hP hS hl)
theorem s_dconst0 {κ : KX} {ids : List Pid} {cc : ByteArray} {nL fr lo : Nat} {own : String} {M : Mem} {l : LSt} {st : List Value} {pc : Nat} (G : Good κ ids cc nL own fr lo) (d : decode cc pc = .ok (.dconst 0, 1)) (h : V κ ids nL M l (.double FP.dconst0 :: st) (pc + 1)) : V κ ids nL M l st pc := fun H locs ls hP hS hl => lv_dconst0 G.hx G.hb d (h H locs ls hP hS hl)
/-- from the walk to the contract: κ stands over the start with some record of draws -/
def EndsL (κ : KX) (ids : List Pid) (g : GS) (P : Mem → Prop) (s : State) : Prop := κ.Q = MQD lw_cs κ.below (LuckQ κ.E ids g P s.heap.size) κ.args s 0 0 (Rg κ.E ids s.heap.size) ∧ κ.n = (0, 0) ∧ κ.s = s.setDrawn s.drawn
theorem s_dret {κ : KX} {ids : List Pid} {cc : ByteArray} {nL fr lo : Nat} {own : String} {M : Mem} {l : LSt} {pc : Nat} {g : GS} {P : Mem → Prop} {s : State} (G : Good κ ids cc nL own fr lo) (E9 : EndsL κ ids g P s) (hr : κ.meth.sig.returnType = some .double) {r : UInt64} (d : decode cc pc = .ok (.dreturn, 1)) (hv : alike64 r (lk g) = true) (hp : P M) : V κ ids nL M l [.double r] pc := fun H locs ls hP hS hl => by
  obtain ⟨hQ, hn, hs⟩ := E9
  show W _ _ _ _ _ _ _ _ _ _ _ _ κ.n.1 κ.n.2 κ.Q _
  have hS' := hS
  rw [G.hA] at hS'
  have hK := G.hK
  have hlk := G.hlk
  rw [hs] at hS' hK
  rw [hQ, hn, hs]
  refine W.endD (Drawn.sameBut.refl _ _) ?_
  exact W.dret (v := r) G.hx G.hb hr (fun t ht hW => ⟨⟨r, M, rfl, hv, hp, by rw [ht]; exact hP, va_K.moved hW.alike hK, G.hinj⟩, hS'.F ht⟩) hS'.2.2 d hlk
theorem s_ddivret {κ : KX} {ids : List Pid} {cc : ByteArray} {nL fr lo : Nat} {own : String} {M : Mem} {l : LSt} {pc : Nat} {g : GS} {P : Mem → Prop} {s : State} (G : Good κ ids cc nL own fr lo) (E9 : EndsL κ ids g P s) (hr : κ.meth.sig.returnType = some .double) {x y : UInt64} (d : decode cc pc = .ok (.ddiv, 1)) (d1 : decode cc (pc + 1) = .ok (.dreturn, 1)) (hv : FP.ddiv x y = lk g) (hp : P M) : V κ ids nL M l [.double y, .double x] pc := fun H locs ls hP hS hl => by
  obtain ⟨hQ, hn, hs⟩ := E9
  show W _ _ _ _ _ _ _ _ _ _ _ _ κ.n.1 κ.n.2 κ.Q _
  have hS' := hS
  rw [G.hA] at hS'
  have hK := G.hK
  have hlk := G.hlk
  rw [hs] at hS' hK
  rw [hQ, hn, hs]
  refine lv_ddiv_any (Drawn.sameBut.refl s.drawn lw_cs) lw_bits G.hx G.hb d (fun r d2 hal hd2 => ?_)
  refine W.endD hd2 ?_
  exact W.dret (v := r) G.hx G.hb hr (fun t ht hW => ⟨⟨r, M, rfl, by rw [← hv]; exact hal, hp, by rw [ht]; exact hP, va_K.moved hW.alike hK, G.hinj⟩, hS'.F ht⟩) hS'.2.2 d1 hlk
theorem LuckC_of_V {E : EX} {ids : List Pid} {y : MethodName} {cc : ByteArray} {nL fr lo : Nat} {self : Pid} {M : Mem} {g : GS} {P : Mem → Prop} (own : String) (hy : plainName y.cls = true) (ho : y.cls = own) (hnd : ids.Nodup) (l0 : LSt) (hl0 : entL [.ref (E.ad self)] nL = l0) (hlen : 1 ≤ nL)
    (body : ∀ (κ : KX) (s : State), κ.E = E → Good κ ids cc nL own fr lo → EndsL κ ids g P s → κ.meth.sig.returnType = some .double → V κ ids nL M l0 [] 0) : LuckC E ids y cc nL fr lo self M g P := by
  intro sz
  refine MetD.ofW (cc := cc) (maxL := nL) (ret := some .double) hy rfl ?_
  intro p e s m args9 below meth c s₁ B hml hv hd0
  obtain ⟨rfl, hsz, hP, hK, hI⟩ := hv
  have hts := atoms_spec (ws := Cond.code y cc nL (some .double) :: ALL) B.pre
  have hown : s.vm.findClass own = some m.cls := by rw [← ho]; exact findClass_of_methodNamed B.named
  subst hsz
  subst hl0
  have hlg : (lg_sl [.ref (E.ad self)]).length ≤ nL := hlen
  have hl := lv_entry [.ref (E.ad self)] hlg
  rw [lg_entry_eq]
  generalize hls9 : (lg_sl [.ref (E.ad self)] ++ List.replicate (nL - (lg_sl [.ref (E.ad self)]).length) Slot.unset).toArray = ls at hl ⊢
  have hLV : LV ls nL (entL [.ref (E.ad self)] nL) := by
    refine ⟨_, hl, ?_, fun i v hi => ?_⟩
    · simp only [entL, List.length_append, List.length_replicate]
      have : (entA [.ref (E.ad self)]).length = 1 := rfl
      omega
    · simp only [entL] at hi
      by_cases hi9 : i < (entA [.ref (E.ad self)]).length
      · rw [List.getElem?_append_left hi9] at hi
        have := entA_mem [.ref (E.ad self)] 0 i v hi
        simpa using this
      · rw [List.getElem?_append_right (by omega)] at hi
        have := List.eq_of_mem_replicate (List.mem_of_getElem? hi)
        cases this
  have hb := body ((p, E, e, (headSpec (Cond.code y cc nL (some .double) :: ALL) { frames := fr, cells := 0, slots := 0, locals := lo }).room, s.setDrawn s.drawn), (m, ([.ref (E.ad self)] : List Value).toArray, below, meth, c), MQD lw_cs below (LuckQ E ids g P s.heap.size) ([.ref (E.ad self)] : List Value).toArray s 0 0 (Rg E ids s.heap.size), Rg E ids s.heap.size, (0, 0)) s rfl
    ⟨B.exec, B.bytes, hml, hown, fun w hw => dr_words (fun w hw => hts w (List.mem_cons_of_mem _ hw)) s.drawn w hw, hK, hI, hnd, rfl, B.notSynchronized, Nat.le_refl _, Nat.le_refl _, Nat.zero_le _, Nat.zero_le _⟩ ⟨rfl, rfl, rfl⟩ B.returns
  exact hb s.heap [] ls hP va_S.rf hLV
section Lu
variable {E : EX} {M N : Mem} {g : GS}
theorem c_luck (hS : SimC 0 M g) (hI : Inv g) : LuckC E idsC yX5_luck cX5_luck 2 1 22 (0, 0, 0) M g (fun M' => M = M') := by
  have h0 : 0 < 2 := by decide
  refine LuckC_of_V RX5 (by decide) rfl idsC_nd [some (.ref (E.ad (0, 0, 0))), none] rfl (by decide) (fun κ s hE G E9 hr => ?_)
  subst hE
  refine s_aload_n G dX5_luck_0 rfl ?_
  refine gX5_10 G dX5_luck_1 ?_
  refine iX5_167 G (by assumption) (c_allPlays h0 hS hI) (by decide) (Nat.le_of_ble_eq_true rfl) dX5_luck_4 (fun r9 M9 hp9 => ?_)
  obtain ⟨rfl, rfl⟩ := hp9
  refine s_istore_n G dX5_luck_7 (by decide) rfl ?_
  refine s_iload_n G dX5_luck_8 rfl ?_
  refine s_if_ne G 14 dX5_luck_9 (by decide) (fun h9 => ?_) (fun h9 => ?_)
  rotate_left
  · refine s_dconst0 G dX5_luck_12 ?_
    exact s_dret G E9 hr dX5_luck_13 (by rw [lk, if_pos h9]; exact alike64_refl _) rfl
  refine s_aload_n G dX5_luck_14 rfl ?_
  refine gX5_10 G dX5_luck_15 ?_
  refine gX5_170 G (by assumption) dX5_luck_18 ?_
  rw [hS.num (k := 10) (by decide) (by decide)]
  refine s_i2d G dX5_luck_21 ?_
  refine s_iload_n G dX5_luck_22 rfl ?_
  refine s_i2d G dX5_luck_23 ?_
  exact s_ddivret G E9 hr dX5_luck_24 dX5_luck_25 (by rw [lk, if_neg h9]) rfl
theorem r_luck (hS0 : SimR N g 0) (hI : Inv g) : LuckC E idsR yX6_luck cX6_luck 3 1 22 (14, 0, 0) N g (fun M' => M' (14, 0, 0) 0 = 0 ∧ SimR M' g 0) := by
  have hb8 := hI.nb8
  refine LuckC_of_V RX6 (by decide) rfl idsR_nd [some (.ref (E.ad (14, 0, 0))), none, none] rfl (by decide) (fun κ s hE G E9 hr => ?_)
  subst hE
  refine s_aload_n G dX6_luck_0 rfl ?_
  refine s_iconst (v := 0) G dX6_luck_1 (by decide) ?_
  refine pX6_28 G dX6_luck_2 ?_
  refine V.abs (fun M hM => ?_)
  have hS : SimR M g 0 := by rw [hM]; exact hS0.thr
  have hz : M (14, 0, 0) 0 = 0 := by rw [hM, up_at, if_pos rfl]
  clear hM
  have hwon : M (20, 0, 0) 3 = g.i 1 0 10 := by rw [← hS.n3, Int32.add_zero]
  have loop : ∀ n a, a + n = g.nb → V κ idsR 3 M [some (.ref (κ.E.ad (14, 0, 0))), some (.int (plsN g a)), some (.int (nI a))] [] 9 := by
    intro n
    induction n with
    | zero =>
      intro a ha
      have ha : a = g.nb := by omega
      subst ha
      refine s_iload_n G dX6_luck_9 rfl ?_
      refine s_aload_n G dX6_luck_10 rfl ?_
      refine gX6_32 G dX6_luck_11 ?_
      rw [hS.nb]
      refine s_icmp_ge G 32 dX6_luck_14 (by decide) (fun h14 => ?_) (fun h14 => ?_)
      rotate_left
      · exact absurd (Int32.le_refl _) h14
      refine s_iload_n G dX6_luck_32 rfl ?_
      refine s_if_ne G 40 dX6_luck_33 (by decide) (fun h33 => ?_) (fun h33 => ?_)
      rotate_left
      · refine s_dconst0 G dX6_luck_36 ?_
        refine s_goto G 50 dX6_luck_37 (by decide) ?_
        exact s_dret G E9 hr dX6_luck_50 (by rw [lk, if_pos h33]; exact alike64_refl _) ⟨hz, hS⟩
      refine s_aload_n G dX6_luck_40 rfl ?_
      refine gX6_25 G dX6_luck_41 ?_
      refine s_iconst (v := 3) G dX6_luck_44 (by decide) ?_
      refine al_20 G (show (3 : Int32) = nI 3 from rfl) (by decide) dX6_luck_45 ?_
      rw [hwon]
      refine s_i2d G dX6_luck_46 ?_
      refine s_iload_n G dX6_luck_47 rfl ?_
      refine s_i2d G dX6_luck_48 ?_
      exact s_ddivret G E9 hr dX6_luck_49 dX6_luck_50 (by rw [lk, if_neg h33]) ⟨hz, hS⟩
    | succ n ih =>
      intro a han
      have ha : a < g.nb := by omega
      have ha9 : a < 8 := by omega
      refine s_iload_n G dX6_luck_9 rfl ?_
      refine s_aload_n G dX6_luck_10 rfl ?_
      refine gX6_32 G dX6_luck_11 ?_
      rw [hS.nb]
      refine s_icmp_ge G 32 dX6_luck_14 (by decide) (fun h14 => ?_) (fun h14 => ?_)
      · exact absurd h14 (nI_ge ha (by omega))
      refine s_iload_n G dX6_luck_17 rfl ?_
      refine s_aload_n G dX6_luck_18 rfl ?_
      refine s_iload_n G dX6_luck_19 rfl ?_
      refine s_iconst (v := 4) G dX6_luck_20 (by decide) ?_
      refine iX6_71 G (r_bo (k := 4) ha9 (by decide)) (by decide) (Nat.le_of_ble_eq_true rfl) dX6_luck_21 (fun r9 M9 hp9 => ?_)
      obtain ⟨rfl, rfl⟩ := hp9
      rw [hS.b4 ha]
      refine s_iadd G dX6_luck_24 ?_
      refine s_istore_n G dX6_luck_25 (by decide) rfl ?_
      refine s_iinc G dX6_luck_26 rfl (by decide) rfl (nI_1 a) ?_
      refine s_goto G 9 dX6_luck_29 (by decide) ?_
      exact ih (a + 1) (by omega)
  refine s_iconst (v := 0) G dX6_luck_5 (by decide) ?_
  refine s_istore_n G dX6_luck_6 (by decide) rfl ?_
  refine s_iconst (v := 0) G dX6_luck_7 (by decide) ?_
  refine s_istore_n G dX6_luck_8 (by decide) rfl ?_
  exact loop g.nb 0 (by omega)
end Lu
