/-! ===== luck: a finite number by one that is not zero ===== -/
def lk (g : GS) : UInt64 := if plsN g g.nb = 0 then FP.dconst0 else FP.ddiv (FP.i2d (g.i 1 0 10)) (FP.i2d (plsN g g.nb))
theorem lk_div {a b : Int32} (h : b ≠ 0) : Jvm.FP.Core.val64 (FP.ddiv (FP.i2d a) (FP.i2d b)) ≠ .nan := by
  rw [← Jvm.FP.Core.notNaN_iff]
  refine Jvm.FP.Core.ddiv_out ?_ (Jvm.FP.Core.i2d_fin b) ?_
  · rw [Jvm.FP.Core.notNaN_iff]
    obtain ⟨s, c, q, e⟩ := Jvm.FP.Core.i2d_fin a
    rw [e]
    exact fun z => by cases z
  · rw [Jvm.FP.Core.zero_bits2]
    exact Jvm.FP.Core.i2d_ne_zero h
theorem lk_bits {r : UInt64} (h : Jvm.FP.Core.val64 r ≠ .nan) : vf_n64 r := by
  rw [Jvm.FP.Core.ne_nan] at h
  show r &&& 0x7fffffffffffffff ≤ 0x7ff0000000000000
  rw [UInt64.le_iff_toNat_le, UInt64.toNat_and, show (0x7fffffffffffffff : UInt64).toNat = 2 ^ 63 - 1 from rfl, Nat.and_two_pow_sub_one_eq_mod]
  exact h
theorem lk_0 : Jvm.FP.Core.val64 FP.dconst0 ≠ .nan := by decide
section Lu
variable {κ : KX} {ids : List Pid} {cc : ByteArray} {nL fr lo : Nat} {own : String} {M : Mem} {l : LSt} {st : List Value} {pc : Nat}
theorem s_i2d (G : Good κ ids cc nL own fr lo) {x : Int32} (d : decode cc pc = .ok (.i2d, 1)) (h : V κ ids nL M l (.double (FP.i2d x) :: st) (pc + 1)) : V κ ids nL M l (.int x :: st) pc := fun H locs ls hP hS hl => lv_i2d G.hx G.hb d (h H locs ls hP hS hl)
theorem s_dconst0 (G : Good κ ids cc nL own fr lo) (d : decode cc pc = .ok (.dconst 0, 1)) (h : V κ ids nL M l (.double FP.dconst0 :: st) (pc + 1)) : V κ ids nL M l st pc := fun H locs ls hP hS hl => lv_dconst0 G.hx G.hb d (h H locs ls hP hS hl)
theorem s_ddiv (G : Good κ ids cc nL own fr lo) {x y : UInt64} (d : decode cc pc = .ok (.ddiv, 1)) (hne : vf_n64 (FP.ddiv x y)) (h : V κ ids nL M l (.double (FP.ddiv x y) :: st) (pc + 1)) : V κ ids nL M l (.double y :: .double x :: st) pc := fun H locs ls hP hS hl => lv_ddiv G.hx G.hb d hne (h H locs ls hP hS hl)
theorem s_dret (G : Good κ ids cc nL own fr lo) {P : Option Value → Mem → Prop} (E9 : Ends κ ids P) (hr : κ.meth.sig.returnType = some .double) {v : UInt64} (d : decode cc pc = .ok (.dreturn, 1)) (hp : P (some (.double v)) M) : V κ ids nL M l [.double v] pc := fun H locs ls hP hS hl => by
  obtain ⟨hQ, hn⟩ := E9
  show W _ _ _ _ _ _ _ _ _ _ _ _ κ.n.1 κ.n.2 κ.Q _
  rw [hQ, hn]
  have hS' := hS
  rw [G.hA] at hS'
  exact W.dret (v := v) G.hx G.hb hr (fun t ht hW => ⟨⟨some (.double v), M, rfl, hp, by rw [ht]; exact hP, va_K.moved hW.alike G.hK, G.hinj⟩, hS'.F ht⟩) hS'.2.2 d G.hlk
end Lu
section Lf
variable {E : EX} {M : Mem} {g : GS}
theorem f_luck (hC : CI M g) : Ret E idsC yX5_luck cX5_luck 2 (some .double) 1 22 [.ref (E.ad (0, 0, 0))] M (fun r M' => r = some (.double (lk g)) ∧ M = M') := by
  have h0 : 0 < 2 := by decide
  have hI := hC.2.1
  have hS := hC.1
  refine Ret_of_V RX5 (by decide) rfl idsC_nd [some (.ref (E.ad (0, 0, 0))), none] rfl (Nat.le_of_ble_eq_true rfl) (fun κ hE G E9 hr => ?_)
  subst hE
  refine s_aload_n G dX5_luck_0 rfl ?_
  refine gX5_10 G dX5_luck_1 ?_
  refine iX5_167 G (by assumption) (c_allPlays h0 hS hI) (by decide) (Nat.le_of_ble_eq_true rfl) dX5_luck_4 (fun r9 M9 hp9 => ?_)
  obtain ⟨rfl, rfl⟩ := hp9
  refine s_istore_n G dX5_luck_7 (by decide) rfl ?_
  refine s_iload_n G dX5_luck_8 rfl ?_
  refine s_if_ne G 14 dX5_luck_9 (by decide) (fun h9 => ?_) (fun h9 => ?_)
  rotate_left
  · refine s_dconst0 G dX5_luck_12 ?_
    exact s_dret G E9 hr dX5_luck_13 ⟨by rw [lk, if_pos h9], rfl⟩
  refine s_aload_n G dX5_luck_14 rfl ?_
  refine gX5_10 G dX5_luck_15 ?_
  refine gX5_170 G (by assumption) dX5_luck_18 ?_
  rw [hS.num (k := 10) (by decide) (by decide)]
  refine s_i2d G dX5_luck_21 ?_
  refine s_iload_n G dX5_luck_22 rfl ?_
  refine s_i2d G dX5_luck_23 ?_
  refine s_ddiv G dX5_luck_24 (lk_bits (lk_div h9)) ?_
  exact s_dret G E9 hr dX5_luck_25 ⟨by rw [lk, if_neg h9], rfl⟩
end Lf
