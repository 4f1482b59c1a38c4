/-! ===== the face of the class, for calls that are allowed ===== -/
section Req
variable {E : EX} {M : Mem} {g : GS}
theorem c_reqRange (x lo hi : Int32) (hr9 : inR x lo hi) : Ret E idsC yX5_requireRange cX5_requireRange 3 none 0 0 [.int x, .int lo, .int hi] M (fun r M' => r = none ∧ M = M') := by
  refine Ret_of_V RX5 (by decide) rfl idsC_nd [some (.int x), some (.int lo), some (.int hi)] rfl (Nat.le_of_ble_eq_true rfl) (fun κ hE G E9 hr => ?_)
  subst hE
  refine s_iload_n G dX5_requireRange_0 rfl ?_
  refine s_iload_n G dX5_requireRange_1 rfl ?_
  refine s_icmp_lt G 10 dX5_requireRange_2 (by decide) (fun h2 => ?_) (fun h2 => ?_)
  · exact absurd h2 (i_nlt.mpr hr9.1)
  refine s_iload_n G dX5_requireRange_5 rfl ?_
  refine s_iload_n G dX5_requireRange_6 rfl ?_
  refine s_icmp_le G 20 dX5_requireRange_7 (by decide) (fun h7 => ?_) (fun h7 => ?_)
  · refine s_vret G E9 hr dX5_requireRange_20 ⟨rfl, rfl⟩
  · exact absurd hr9.2 h7
theorem c_reqFact {k n : Nat} (hn : n < 2 ^ 31) (hk : k < n) : Ret E idsC yX5_requireFact cX5_requireFact 2 none 0 0 [.int (nI k), .int (nI n)] M (fun r M' => r = none ∧ M = M') := by
  refine Ret_of_V RX5 (by decide) rfl idsC_nd [some (.int (nI k)), some (.int (nI n))] rfl (Nat.le_of_ble_eq_true rfl) (fun κ hE G E9 hr => ?_)
  subst hE
  refine s_iload_n G dX5_requireFact_0 rfl ?_
  refine s_if_lt G 9 dX5_requireFact_1 (by decide) (fun h1 => ?_) (fun h1 => ?_)
  · exact absurd h1 (nI_pos (by omega))
  refine s_iload_n G dX5_requireFact_4 rfl ?_
  refine s_iload_n G dX5_requireFact_5 rfl ?_
  refine s_icmp_lt G 19 dX5_requireFact_6 (by decide) (fun h6 => ?_) (fun h6 => ?_)
  · refine s_vret G E9 hr dX5_requireFact_19 ⟨rfl, rfl⟩
  · exact absurd (nI_lt hk hn) h6
theorem c_reqBooth (hC : CI M g) {k : Nat} (hk : k < g.nb) : Ret E idsC yX5_requireBooth cX5_requireBooth 2 none 1 21 [.ref (E.ad (0, 0, 0)), .int (nI k)] M (fun r M' => r = none ∧ M = M') := by
  have h0 : 0 < 2 := by decide
  have hI := hC.2.1
  refine Ret_of_V RX5 (by decide) rfl idsC_nd [some (.ref (E.ad (0, 0, 0))), some (.int (nI k))] rfl (Nat.le_of_ble_eq_true rfl) (fun κ hE G E9 hr => ?_)
  subst hE
  refine s_aload_n G dX5_requireBooth_0 rfl ?_
  refine gX5_10 G dX5_requireBooth_1 ?_
  refine s_iload_n G dX5_requireBooth_4 rfl ?_
  refine iX5_194 G (by assumption) (c_isBooth (n := g.nb) h0 hC.1.nb (by have := hI.nb8; have := hI.nh12; have := hI.nv16; omega) (nI k)) (by decide) (Nat.le_of_ble_eq_true rfl) dX5_requireBooth_5 (fun r9 M9 hp9 => ?_)
  obtain ⟨rfl, ⟨b, hb, hbx, rfl⟩ | ⟨hno, rfl⟩⟩ := hp9
  · refine s_if_ne G 21 dX5_requireBooth_8 (by decide) (fun h8 => ?_) (fun h8 => ?_)
    · refine s_vret G E9 hr dX5_requireBooth_21 ⟨rfl, rfl⟩
    · exact absurd h8 (by decide)
  · exact absurd rfl (hno k hk)
theorem c_reqHelper (hC : CI M g) {k : Nat} (hk : k < g.nh) : Ret E idsC yX5_requireHelper cX5_requireHelper 2 none 1 21 [.ref (E.ad (0, 0, 0)), .int (nI k)] M (fun r M' => r = none ∧ M = M') := by
  have h0 : 0 < 2 := by decide
  have hI := hC.2.1
  refine Ret_of_V RX5 (by decide) rfl idsC_nd [some (.ref (E.ad (0, 0, 0))), some (.int (nI k))] rfl (Nat.le_of_ble_eq_true rfl) (fun κ hE G E9 hr => ?_)
  subst hE
  refine s_aload_n G dX5_requireHelper_0 rfl ?_
  refine gX5_10 G dX5_requireHelper_1 ?_
  refine s_iload_n G dX5_requireHelper_4 rfl ?_
  refine iX5_200 G (by assumption) (c_isHelper (n := g.nh) h0 hC.1.nh (by have := hI.nb8; have := hI.nh12; have := hI.nv16; omega) (nI k)) (by decide) (Nat.le_of_ble_eq_true rfl) dX5_requireHelper_5 (fun r9 M9 hp9 => ?_)
  obtain ⟨rfl, ⟨b, hb, hbx, rfl⟩ | ⟨hno, rfl⟩⟩ := hp9
  · refine s_if_ne G 21 dX5_requireHelper_8 (by decide) (fun h8 => ?_) (fun h8 => ?_)
    · refine s_vret G E9 hr dX5_requireHelper_21 ⟨rfl, rfl⟩
    · exact absurd h8 (by decide)
  · exact absurd rfl (hno k hk)
theorem c_reqVisitor (hC : CI M g) {k : Nat} (hk : k < g.nv) : Ret E idsC yX5_requireVisitor cX5_requireVisitor 2 none 1 21 [.ref (E.ad (0, 0, 0)), .int (nI k)] M (fun r M' => r = none ∧ M = M') := by
  have h0 : 0 < 2 := by decide
  have hI := hC.2.1
  refine Ret_of_V RX5 (by decide) rfl idsC_nd [some (.ref (E.ad (0, 0, 0))), some (.int (nI k))] rfl (Nat.le_of_ble_eq_true rfl) (fun κ hE G E9 hr => ?_)
  subst hE
  refine s_aload_n G dX5_requireVisitor_0 rfl ?_
  refine gX5_10 G dX5_requireVisitor_1 ?_
  refine s_iload_n G dX5_requireVisitor_4 rfl ?_
  refine iX5_205 G (by assumption) (c_isVisitor (n := g.nv) h0 hC.1.nv (by have := hI.nb8; have := hI.nh12; have := hI.nv16; omega) (nI k)) (by decide) (Nat.le_of_ble_eq_true rfl) dX5_requireVisitor_5 (fun r9 M9 hp9 => ?_)
  obtain ⟨rfl, ⟨b, hb, hbx, rfl⟩ | ⟨hno, rfl⟩⟩ := hp9
  · refine s_if_ne G 21 dX5_requireVisitor_8 (by decide) (fun h8 => ?_) (fun h8 => ?_)
    · refine s_vret G E9 hr dX5_requireVisitor_21 ⟨rfl, rfl⟩
    · exact absurd h8 (by decide)
  · exact absurd rfl (hno k hk)
end Req
theorem inR_nat {x : Int32} {hi : Int32} {n : Nat} (hn : hi.toInt = n) (h : inR x 1 hi) : ∃ k : Nat, 1 ≤ k ∧ k ≤ n ∧ x = nI k ∧ x.toNatClampNeg = k := by
  have hn31 : n < 2 ^ 31 := by have := hi.toInt_lt; omega
  have h1 := h.1
  rw [Int32.le_iff_toInt_le] at h1
  have o : ((1 : Int32).toInt) = 1 := by decide
  have z : ((0 : Int32).toInt) = 0 := by decide
  obtain ⟨k, hk, rfl⟩ := nI_of2 hn (x := x) (i_nlt.mpr (by rw [Int32.le_iff_toInt_le]; omega)) h.2
  rw [nI_toInt (by omega)] at h1
  exact ⟨k, by omega, hk, rfl, nI_clamp (by omega)⟩
section Face
variable {E : EX} {M : Mem} {g : GS}
theorem f_addBooth (hC : CI M g) {c go p n : Int32} (r8 : g.nb < 8) (r1 : inR c 1 9) (r2 : inR go 0 60) (r3 : inR p 0 99) (r4 : inR n 1 3) : Ret E idsC yX5_addBooth cX5_addBooth 6 (some .int) 2 48 [.ref (E.ad (0, 0, 0)), .int c, .int go, .int p, .int n] M (fun r M' => r = some (.int (nI g.nb)) ∧ CI M' (addB g c go p n)) := by
  have h0 : 0 < 2 := by decide
  refine Ret_of_V RX5 (by decide) rfl idsC_nd [some (.ref (E.ad (0, 0, 0))), some (.int c), some (.int go), some (.int p), some (.int n), none] rfl (Nat.le_of_ble_eq_true rfl) (fun κ hE G E9 hr => ?_)
  subst hE
  refine s_iload_n G dX5_addBooth_0 rfl ?_
  refine s_iconst (v := 1) G dX5_addBooth_1 (by decide) ?_
  refine s_bipush (v := 9) G dX5_addBooth_2 (by decide) ?_
  refine iX5_19 G (c_reqRange c 1 9 r1) (by decide) (Nat.le_of_ble_eq_true rfl) dX5_addBooth_4 (fun r9 M9 hp9 => ?_)
  obtain ⟨rfl, rfl⟩ := hp9
  refine s_iload_n G dX5_addBooth_7 rfl ?_
  refine s_iconst (v := 0) G dX5_addBooth_8 (by decide) ?_
  refine s_bipush (v := 60) G dX5_addBooth_9 (by decide) ?_
  refine iX5_19 G (c_reqRange go 0 60 r2) (by decide) (Nat.le_of_ble_eq_true rfl) dX5_addBooth_11 (fun r9 M9 hp9 => ?_)
  obtain ⟨rfl, rfl⟩ := hp9
  refine s_iload_n G dX5_addBooth_14 rfl ?_
  refine s_iconst (v := 0) G dX5_addBooth_15 (by decide) ?_
  refine s_bipush (v := 99) G dX5_addBooth_16 (by decide) ?_
  refine iX5_19 G (c_reqRange p 0 99 r3) (by decide) (Nat.le_of_ble_eq_true rfl) dX5_addBooth_18 (fun r9 M9 hp9 => ?_)
  obtain ⟨rfl, rfl⟩ := hp9
  refine s_iload G dX5_addBooth_21 rfl ?_
  refine s_iconst (v := 1) G dX5_addBooth_23 (by decide) ?_
  refine s_iconst (v := 3) G dX5_addBooth_24 (by decide) ?_
  refine iX5_19 G (c_reqRange n 1 3 r4) (by decide) (Nat.le_of_ble_eq_true rfl) dX5_addBooth_25 (fun r9 M9 hp9 => ?_)
  obtain ⟨rfl, rfl⟩ := hp9
  refine s_aload_n G dX5_addBooth_28 rfl ?_
  refine gX5_10 G dX5_addBooth_29 ?_
  refine s_iload_n G dX5_addBooth_32 rfl ?_
  refine s_iload_n G dX5_addBooth_33 rfl ?_
  refine s_iload_n G dX5_addBooth_34 rfl ?_
  refine s_iload G dX5_addBooth_35 rfl ?_
  refine iX5_23 G (by assumption) (c_setUpBooth (c := c) (go := go) (p := p) (n := n) hC r3) (by decide) (Nat.le_of_ble_eq_true rfl) dX5_addBooth_37 (fun r9 M9 hp9 => ?_)
  obtain ⟨h8, rfl, rfl⟩ | ⟨h8, rfl, hC2⟩ := hp9
  · omega
  · refine s_istore G dX5_addBooth_40 (by decide) rfl ?_
    refine s_iload G dX5_addBooth_42 rfl ?_
    refine s_iconst (v := -1) G dX5_addBooth_44 (by decide) ?_
    refine s_icmp_ne G 58 dX5_addBooth_45 (by decide) (fun h45 => ?_) (fun h45 => ?_)
    · refine s_iload G dX5_addBooth_58 rfl ?_
      refine s_iret G E9 hr dX5_addBooth_60 ⟨rfl, hC2⟩
    · exact absurd h45 (nI_m1 (by omega))
theorem f_addHelper (hC : CI M g) (r8 : g.nh < 12) : Ret E idsC yX5_addHelper cX5_addHelper 2 (some .int) 2 40 [.ref (E.ad (0, 0, 0))] M (fun r M' => r = some (.int (nI g.nh)) ∧ CI M' (addH g)) := by
  have h0 : 0 < 2 := by decide
  refine Ret_of_V RX5 (by decide) rfl idsC_nd [some (.ref (E.ad (0, 0, 0))), none] rfl (Nat.le_of_ble_eq_true rfl) (fun κ hE G E9 hr => ?_)
  subst hE
  refine s_aload_n G dX5_addHelper_0 rfl ?_
  refine gX5_10 G dX5_addHelper_1 ?_
  refine iX5_34 G (by assumption) (c_takeOnHelper hC) (by decide) (Nat.le_of_ble_eq_true rfl) dX5_addHelper_4 (fun r9 M9 hp9 => ?_)
  obtain ⟨h8, rfl, rfl⟩ | ⟨h8, rfl, hC2⟩ := hp9
  · omega
  · refine s_istore_n G dX5_addHelper_7 (by decide) rfl ?_
    refine s_iload_n G dX5_addHelper_8 rfl ?_
    refine s_iconst (v := -1) G dX5_addHelper_9 (by decide) ?_
    refine s_icmp_ne G 23 dX5_addHelper_10 (by decide) (fun h10 => ?_) (fun h10 => ?_)
    · refine s_iload_n G dX5_addHelper_23 rfl ?_
      refine s_iret G E9 hr dX5_addHelper_24 ⟨rfl, hC2⟩
    · exact absurd h10 (nI_m1 (by omega))
theorem f_come (hC : CI M g) {t s : Int32} (r8 : g.nv < 16) (r1 : inR t 0 200) (r2 : inR s 0 30) : Ret E idsC yX5_come cX5_come 4 (some .int) 2 44 [.ref (E.ad (0, 0, 0)), .int t, .int s] M (fun r M' => r = some (.int (nI g.nv)) ∧ CI M' (addV g t s)) := by
  have h0 : 0 < 2 := by decide
  refine Ret_of_V RX5 (by decide) rfl idsC_nd [some (.ref (E.ad (0, 0, 0))), some (.int t), some (.int s), none] rfl (Nat.le_of_ble_eq_true rfl) (fun κ hE G E9 hr => ?_)
  subst hE
  refine s_iload_n G dX5_come_0 rfl ?_
  refine s_iconst (v := 0) G dX5_come_1 (by decide) ?_
  refine s_sipush (v := 200) G dX5_come_2 (by decide) ?_
  refine iX5_19 G (c_reqRange t 0 200 r1) (by decide) (Nat.le_of_ble_eq_true rfl) dX5_come_5 (fun r9 M9 hp9 => ?_)
  obtain ⟨rfl, rfl⟩ := hp9
  refine s_iload_n G dX5_come_8 rfl ?_
  refine s_iconst (v := 0) G dX5_come_9 (by decide) ?_
  refine s_bipush (v := 30) G dX5_come_10 (by decide) ?_
  refine iX5_19 G (c_reqRange s 0 30 r2) (by decide) (Nat.le_of_ble_eq_true rfl) dX5_come_12 (fun r9 M9 hp9 => ?_)
  obtain ⟨rfl, rfl⟩ := hp9
  refine s_aload_n G dX5_come_15 rfl ?_
  refine gX5_10 G dX5_come_16 ?_
  refine s_iload_n G dX5_come_19 rfl ?_
  refine s_iload_n G dX5_come_20 rfl ?_
  refine iX5_40 G (by assumption) (c_letIn (t := t) (s := s) hC) (by decide) (Nat.le_of_ble_eq_true rfl) dX5_come_21 (fun r9 M9 hp9 => ?_)
  obtain ⟨h8, rfl, rfl⟩ | ⟨h8, rfl, hC2⟩ := hp9
  · omega
  · refine s_istore_n G dX5_come_24 (by decide) rfl ?_
    refine s_iload_n G dX5_come_25 rfl ?_
    refine s_iconst (v := -1) G dX5_come_26 (by decide) ?_
    refine s_icmp_ne G 40 dX5_come_27 (by decide) (fun h27 => ?_) (fun h27 => ?_)
    · refine s_iload_n G dX5_come_40 rfl ?_
      refine s_iret G E9 hr dX5_come_41 ⟨rfl, hC2⟩
    · exact absurd h27 (nI_m1 (by omega))
theorem CI.of {M' : Mem} {g' : GS} (hC : CI M g) (hS : SimC 0 M' g') (hI : Inv g') (hF : Fr 0 g.2.2.1 M M') (hn : g'.2.2.1 = g.2.2.1) : CI M' g' := ⟨hS, hI, hC.2.2.of_Fr hF hn⟩
theorem f_setDart (hC : CI M g) {d : Int32} (r1 : inR d 1 65536) : Ret E idsC yX5_setDart cX5_setDart 3 (some .int) 1 22 [.ref (E.ad (0, 0, 0)), .int d] M (fun r M' => r = some (.int (g.i 1 0 8)) ∧ CI M' (g.set 1 0 8 d)) := by
  have h0 : 0 < 2 := by decide
  refine Ret_of_V RX5 (by decide) rfl idsC_nd [some (.ref (E.ad (0, 0, 0))), some (.int d), none] rfl (Nat.le_of_ble_eq_true rfl) (fun κ hE G E9 hr => ?_)
  subst hE
  refine s_iload_n G dX5_setDart_0 rfl ?_
  refine s_iconst (v := 1) G dX5_setDart_1 (by decide) ?_
  refine s_ldc (v := 65536) G dX5_setDart_2 (by decide +kernel) ?_
  refine iX5_19 G (c_reqRange d 1 65536 r1) (by decide) (Nat.le_of_ble_eq_true rfl) dX5_setDart_4 (fun r9 M9 hp9 => ?_)
  obtain ⟨rfl, rfl⟩ := hp9
  refine s_aload_n G dX5_setDart_7 rfl ?_
  refine gX5_10 G dX5_setDart_8 ?_
  refine gX5_47 G (by assumption) dX5_setDart_11 ?_
  rw [hC.1.num (k := 8) (by decide) (by decide)]
  refine s_istore_n G dX5_setDart_14 (by decide) rfl ?_
  refine s_aload_n G dX5_setDart_15 rfl ?_
  refine gX5_10 G dX5_setDart_16 ?_
  refine s_iload_n G dX5_setDart_19 rfl ?_
  refine pX5_47 G (by assumption) dX5_setDart_20 ?_
  refine s_iload_n G dX5_setDart_23 rfl ?_
  refine s_iret G E9 hr dX5_setDart_24 ⟨rfl, hC.of (hC.1.f1 (by decide)) hC.2.1.f1 (Fr.f1 Fr.rf) rfl⟩
theorem Inv.send {h : Nat} {x : Int32} (hI : Inv g) (hx : x = -1 ∨ ∃ b, b < g.nb ∧ x = nI b) : Inv (g.set 3 h 1 x) := by
  refine hI.of_h3 rfl (fun kd a k q => by rw [gi_set, if_neg (by omega)]) (fun a ha => ?_)
  have e0 : (g.set 3 h 1 x).i 3 a 0 = g.i 3 a 0 := by rw [gi_set, if_neg (by omega)]
  rw [e0, gi_set]
  refine ⟨?_, hI.hst ha⟩
  split
  · exact hx
  · exact hI.hat ha
theorem f_work (hC : CI M g) {h9 : Nat} {b : Int32} (hh : h9 < g.nh) (hbx : b = -1 ∨ ∃ k, k < g.nb ∧ b = nI k) : Ret E idsC yX5_work cX5_work 4 (some .int) 2 44 [.ref (E.ad (0, 0, 0)), .int (nI h9), .int b] M (fun r M' => r = some (.int (g.i 3 h9 1)) ∧ CI M' (g.set 3 h9 1 b)) := by
  have h0 : 0 < 2 := by decide
  have hI := hC.2.1
  have hb8 := hI.nb8
  have hh12 := hI.nh12
  refine Ret_of_V RX5 (by decide) rfl idsC_nd [some (.ref (E.ad (0, 0, 0))), some (.int (nI h9)), some (.int b), none] rfl (Nat.le_of_ble_eq_true rfl) (fun κ hE G E9 hr => ?_)
  subst hE
  refine s_aload_n G dX5_work_0 rfl ?_
  refine s_iload_n G dX5_work_1 rfl ?_
  refine iX5_51 G (c_reqHelper hC hh) (by decide) (Nat.le_of_ble_eq_true rfl) dX5_work_2 (fun r9 M9 hp9 => ?_)
  obtain ⟨rfl, rfl⟩ := hp9
  have hh9 : h9 < 12 := by omega
  refine s_iload_n G dX5_work_5 rfl ?_
  refine s_iconst (v := -1) G dX5_work_6 (by decide) ?_
  have fin : V κ idsC 4 M [some (.ref (κ.E.ad (0, 0, 0))), some (.int (nI h9)), some (.int b), none] [] 15 := by
    refine s_aload_n G dX5_work_15 rfl ?_
    refine gX5_10 G dX5_work_16 ?_
    refine gX5_58 G (by assumption) dX5_work_19 ?_
    refine s_iload_n G dX5_work_22 rfl ?_
    refine ar_7 G (by assumption) rfl (by first | assumption | omega) dX5_work_23 ?_
    refine gX5_62 G (by assumption) (by assumption) dX5_work_24 ?_
    rw [hC.1.he (k := 1) hh (by decide)]
    refine s_istore_n G dX5_work_27 (by decide) rfl ?_
    refine s_aload_n G dX5_work_28 rfl ?_
    refine gX5_10 G dX5_work_29 ?_
    refine s_iload_n G dX5_work_32 rfl ?_
    refine s_iload_n G dX5_work_33 rfl ?_
    refine iX5_67 G (by assumption) (c_send h0 hC.1 ⟨hb8, hh12⟩ hh hbx) (by decide) (Nat.le_of_ble_eq_true rfl) dX5_work_34 (fun r9 M9 hp9 => ?_)
    obtain ⟨rfl, hS2, hF2⟩ := hp9
    refine s_iload_n G dX5_work_37 rfl ?_
    refine s_iret G E9 hr dX5_work_38 ⟨rfl, hC.of hS2 (hI.send hbx) hF2 rfl⟩
  refine s_icmp_eq G 15 dX5_work_7 (by decide) (fun h7 => ?_) (fun h7 => ?_)
  · exact fin
  · refine s_aload_n G dX5_work_10 rfl ?_
    refine s_iload_n G dX5_work_11 rfl ?_
    obtain ⟨k, hk, rfl⟩ := hbx.resolve_left h7
    refine iX5_55 G (c_reqBooth hC hk) (by decide) (Nat.le_of_ble_eq_true rfl) dX5_work_12 (fun r9 M9 hp9 => ?_)
    obtain ⟨rfl, rfl⟩ := hp9
    exact fin
theorem f_bring (hC : CI M g) {b9 : Nat} {p : Int32} (hb : b9 < g.nb) (r1 : inR p 1 99) (r9 : g.i 2 b9 2 + p ≤ 99) : Ret E idsC yX5_bring cX5_bring 4 (some .int) 2 42 [.ref (E.ad (0, 0, 0)), .int (nI b9), .int p] M (fun r M' => r = some (.int (g.i 2 b9 2 + p)) ∧ CI M' (g.set 2 b9 2 (g.i 2 b9 2 + p))) := by
  have h0 : 0 < 2 := by decide
  have hI := hC.2.1
  have hb8 := hI.nb8
  refine Ret_of_V RX5 (by decide) rfl idsC_nd [some (.ref (E.ad (0, 0, 0))), some (.int (nI b9)), some (.int p), none] rfl (Nat.le_of_ble_eq_true rfl) (fun κ hE G E9 hr => ?_)
  subst hE
  refine s_aload_n G dX5_bring_0 rfl ?_
  refine s_iload_n G dX5_bring_1 rfl ?_
  refine iX5_55 G (c_reqBooth hC hb) (by decide) (Nat.le_of_ble_eq_true rfl) dX5_bring_2 (fun r9 M9 hp9 => ?_)
  obtain ⟨rfl, rfl⟩ := hp9
  have hb9 : b9 < 8 := by omega
  refine s_iload_n G dX5_bring_5 rfl ?_
  refine s_iconst (v := 1) G dX5_bring_6 (by decide) ?_
  refine s_bipush (v := 99) G dX5_bring_7 (by decide) ?_
  refine iX5_19 G (c_reqRange p 1 99 r1) (by decide) (Nat.le_of_ble_eq_true rfl) dX5_bring_9 (fun r9 M9 hp9 => ?_)
  obtain ⟨rfl, rfl⟩ := hp9
  refine s_aload_n G dX5_bring_12 rfl ?_
  refine gX5_10 G dX5_bring_13 ?_
  refine gX5_71 G (by assumption) dX5_bring_16 ?_
  refine s_iload_n G dX5_bring_19 rfl ?_
  refine ar_6 G (by assumption) rfl (by first | assumption | omega) dX5_bring_20 ?_
  refine s_astore_n G dX5_bring_21 (by decide) rfl ?_
  refine s_aload_n G dX5_bring_22 rfl ?_
  refine gX5_75 G (by assumption) (by assumption) dX5_bring_23 ?_
  rw [hC.1.bo (k := 2) hb (by decide) (by decide)]
  refine s_iload_n G dX5_bring_26 rfl ?_
  refine s_iadd G dX5_bring_27 ?_
  refine s_bipush (v := 99) G dX5_bring_28 (by decide) ?_
  refine s_icmp_le G 43 dX5_bring_30 (by decide) (fun h30 => ?_) (fun h30 => ?_)
  rotate_left
  · exact absurd r9 h30
  refine s_aload_n G dX5_bring_43 rfl ?_
  refine s_dup G dX5_bring_44 rfl ?_
  refine gX5_75 G (by assumption) (by assumption) dX5_bring_45 ?_
  rw [hC.1.bo (k := 2) hb (by decide) (by decide)]
  refine s_iload_n G dX5_bring_48 rfl ?_
  refine s_iadd G dX5_bring_49 ?_
  refine pX5_75 G (by assumption) (by assumption) dX5_bring_50 ?_
  refine s_aload_n G dX5_bring_53 rfl ?_
  refine gX5_75 G (by assumption) (by assumption) dX5_bring_54 ?_
  rw [up_at, if_pos rfl]
  have hpz := hI.bpz hb
  have hx : 0 ≤ g.i 2 b9 2 + p ∧ g.i 2 b9 2 + p ≤ 99 := by
    refine ⟨?_, h30⟩
    obtain ⟨j, hj, e⟩ := nI_of2 (M := 99) (n := 99) (by decide) (i_nlt.mpr hpz.1) hpz.2
    obtain ⟨k, hk1, hk, e2, -⟩ := inR_nat (n := 99) (by decide) r1
    rw [e, e2, nI_add]
    exact nI_pos' (by omega)
  refine s_iret G E9 hr dX5_bring_57 ⟨rfl, hC.of (hC.1.b2 (by decide) (by decide)) (hI.b2 (fun _ => hx)) (Fr.b2 Fr.rf hb) rfl⟩
theorem Inv.v4h (h : Inv g) {v : Nat} : Inv (g.set 4 v 2 0) := by
  obtain ⟨a1, a2, a3, a4, a5, a6, a7⟩ := h
  have ei : ∀ kd u k, ¬ (kd = 4 ∧ k = 2) → (g.set 4 v 2 0).i kd u k = g.i kd u k := fun kd u k q => by rw [gi_set, if_neg (by omega)]
  refine ⟨a1, fun h hh => ?_, fun u hu => ?_, fun b hb => ?_, a5, a6, a7⟩
  · rw [ei _ _ _ (by omega), ei _ _ _ (by omega)]; exact a2 h hh
  · obtain ⟨b1, b2, b3, b4⟩ := a3 u hu
    rw [ei 4 u 3 (by omega), gi_set]
    refine ⟨?_, b2, fun q => ?_, fun b hb => by rw [ei _ _ _ (by omega)]; exact b4 b hb⟩
    · split
      · exact Or.inl rfl
      · exact b1
    · split at q
      · exact absurd q (by decide)
      · exact b3 q
  · obtain ⟨b1, b2, b3⟩ := a4 b hb
    exact ⟨b1, fun u => by rw [ei _ _ _ (by omega)]; exact b2 u, by rw [ei _ _ _ (by omega)]; exact b3⟩
theorem f_sell (hC : CI M g) {b9 : Nat} {t : Int32} (hb : b9 < g.nv) (r1 : inR t 1 200) : Ret E idsC yX5_sell cX5_sell 4 (some .int) 2 42 [.ref (E.ad (0, 0, 0)), .int (nI b9), .int t] M (fun r M' => r = some (.int (g.i 4 b9 0 + t)) ∧ CI M' ((g.set 4 b9 0 (g.i 4 b9 0 + t)).set 4 b9 2 0)) := by
  have h0 : 0 < 2 := by decide
  have hI := hC.2.1
  have hv16 := hI.nv16
  refine Ret_of_V RX5 (by decide) rfl idsC_nd [some (.ref (E.ad (0, 0, 0))), some (.int (nI b9)), some (.int t), none] rfl (Nat.le_of_ble_eq_true rfl) (fun κ hE G E9 hr => ?_)
  subst hE
  refine s_aload_n G dX5_sell_0 rfl ?_
  refine s_iload_n G dX5_sell_1 rfl ?_
  refine iX5_82 G (c_reqVisitor hC hb) (by decide) (Nat.le_of_ble_eq_true rfl) dX5_sell_2 (fun r9 M9 hp9 => ?_)
  obtain ⟨rfl, rfl⟩ := hp9
  have hb9 : b9 < 16 := by omega
  refine s_iload_n G dX5_sell_5 rfl ?_
  refine s_iconst (v := 1) G dX5_sell_6 (by decide) ?_
  refine s_sipush (v := 200) G dX5_sell_7 (by decide) ?_
  refine iX5_19 G (c_reqRange t 1 200 r1) (by decide) (Nat.le_of_ble_eq_true rfl) dX5_sell_10 (fun r9 M9 hp9 => ?_)
  obtain ⟨rfl, rfl⟩ := hp9
  refine s_aload_n G dX5_sell_13 rfl ?_
  refine gX5_10 G dX5_sell_14 ?_
  refine gX5_85 G (by assumption) dX5_sell_17 ?_
  refine s_iload_n G dX5_sell_20 rfl ?_
  refine ar_8 G (by assumption) rfl (by first | assumption | omega) dX5_sell_21 ?_
  refine s_astore_n G dX5_sell_22 (by decide) rfl ?_
  refine s_aload_n G dX5_sell_23 rfl ?_
  refine s_dup G dX5_sell_24 rfl ?_
  refine gX5_89 G (by assumption) (by assumption) dX5_sell_25 ?_
  rw [hC.1.vi (k := 0) hb (by decide)]
  refine s_iload_n G dX5_sell_28 rfl ?_
  refine s_iadd G dX5_sell_29 ?_
  refine pX5_89 G (by assumption) (by assumption) dX5_sell_30 ?_
  refine s_aload_n G dX5_sell_33 rfl ?_
  refine s_iconst (v := 0) G dX5_sell_34 (by decide) ?_
  refine pX5_94 G (by assumption) (by assumption) (by decide) dX5_sell_35 ?_
  refine s_aload_n G dX5_sell_38 rfl ?_
  refine gX5_89 G (by assumption) (by assumption) dX5_sell_39 ?_
  rw [up_at, if_neg (by decide), up_at, if_pos rfl]
  refine s_iret G E9 hr dX5_sell_42 ⟨rfl, hC.of (hC.1.v4.v4) (hI.v4 (by decide) (by decide)).v4h (Fr.v4 (Fr.v4 Fr.rf hb) hb) rfl⟩
theorem f_leave (hC : CI M g) {b9 : Nat} (hb : b9 < g.nv) : Ret E idsC yX5_leave cX5_leave 2 (some .int) 2 46 [.ref (E.ad (0, 0, 0)), .int (nI b9)] M (fun r M' => r = some (.int (g.i 4 b9 3)) ∧ CI M' (leaveQ g b9)) := by
  have h0 : 0 < 2 := by decide
  have hI := hC.2.1
  have hv16 := hI.nv16
  refine Ret_of_V RX5 (by decide) rfl idsC_nd [some (.ref (E.ad (0, 0, 0))), some (.int (nI b9))] rfl (Nat.le_of_ble_eq_true rfl) (fun κ hE G E9 hr => ?_)
  subst hE
  refine s_aload_n G dX5_leave_0 rfl ?_
  refine s_iload_n G dX5_leave_1 rfl ?_
  refine iX5_82 G (c_reqVisitor hC hb) (by decide) (Nat.le_of_ble_eq_true rfl) dX5_leave_2 (fun r9 M9 hp9 => ?_)
  obtain ⟨rfl, rfl⟩ := hp9
  refine s_aload_n G dX5_leave_5 rfl ?_
  refine gX5_10 G dX5_leave_6 ?_
  refine s_iload_n G dX5_leave_9 rfl ?_
  refine iX5_98 G (by assumption) (c_take h0 hC.1 hI hb) (by decide) (Nat.le_of_ble_eq_true rfl) dX5_leave_10 (fun r9 M9 hp9 => ?_)
  obtain ⟨rfl, hS2, hF2⟩ := hp9
  refine s_iret G E9 hr dX5_leave_13 ⟨rfl, hC.of hS2 hI.leave hF2 rfl⟩
theorem f_booth (hC : CI M g) {b9 k : Nat} (hb : b9 < g.nb) (hk : k < 10) : Ret E idsC yX5_booth cX5_booth 3 (some .int) 2 44 [.ref (E.ad (0, 0, 0)), .int (nI b9), .int (nI k)] M (fun r M' => r = some (.int (bfc g b9 k)) ∧ M = M') := by
  have h0 : 0 < 2 := by decide
  have hI := hC.2.1
  have hb8 := hI.nb8
  refine Ret_of_V RX5 (by decide) rfl idsC_nd [some (.ref (E.ad (0, 0, 0))), some (.int (nI b9)), some (.int (nI k))] rfl (Nat.le_of_ble_eq_true rfl) (fun κ hE G E9 hr => ?_)
  subst hE
  refine s_aload_n G dX5_booth_0 rfl ?_
  refine s_iload_n G dX5_booth_1 rfl ?_
  refine iX5_55 G (c_reqBooth hC hb) (by decide) (Nat.le_of_ble_eq_true rfl) dX5_booth_2 (fun r9 M9 hp9 => ?_)
  obtain ⟨rfl, rfl⟩ := hp9
  refine s_iload_n G dX5_booth_5 rfl ?_
  refine s_bipush (v := 10) G dX5_booth_6 (by decide) ?_
  refine iX5_102 G (c_reqFact (n := 10) (by decide) hk) (by decide) (Nat.le_of_ble_eq_true rfl) dX5_booth_8 (fun r9 M9 hp9 => ?_)
  obtain ⟨rfl, rfl⟩ := hp9
  refine s_aload_n G dX5_booth_11 rfl ?_
  refine gX5_10 G dX5_booth_12 ?_
  refine s_iload_n G dX5_booth_15 rfl ?_
  refine s_iload_n G dX5_booth_16 rfl ?_
  refine iX5_105 G (by assumption) (c_boothFact h0 hC.1 hI hb hk) (by decide) (Nat.le_of_ble_eq_true rfl) dX5_booth_17 (fun r9 M9 hp9 => ?_)
  obtain ⟨rfl, rfl⟩ := hp9
  refine s_iret G E9 hr dX5_booth_20 ⟨rfl, rfl⟩
theorem f_queue (hC : CI M g) {b9 j u : Nat} (hb : b9 < g.nb) (hu : (g.q b9)[j]? = some u) : Ret E idsC yX5_queue cX5_queue 4 (some .int) 2 42 [.ref (E.ad (0, 0, 0)), .int (nI b9), .int (nI j)] M (fun r M' => r = some (.int (nI u)) ∧ M = M') := by
  have h0 : 0 < 2 := by decide
  have hI := hC.2.1
  have hb8 := hI.nb8
  have hj : j < (g.q b9).length := (List.getElem?_eq_some_iff.mp hu).1
  refine Ret_of_V RX5 (by decide) rfl idsC_nd [some (.ref (E.ad (0, 0, 0))), some (.int (nI b9)), some (.int (nI j)), none] rfl (Nat.le_of_ble_eq_true rfl) (fun κ hE G E9 hr => ?_)
  subst hE
  refine s_aload_n G dX5_queue_0 rfl ?_
  refine s_iload_n G dX5_queue_1 rfl ?_
  refine iX5_55 G (c_reqBooth hC hb) (by decide) (Nat.le_of_ble_eq_true rfl) dX5_queue_2 (fun r9 M9 hp9 => ?_)
  obtain ⟨rfl, rfl⟩ := hp9
  have hb9 : b9 < 8 := by omega
  have q16 := hI.ql16 hb
  refine s_aload_n G dX5_queue_5 rfl ?_
  refine gX5_10 G dX5_queue_6 ?_
  refine gX5_71 G (by assumption) dX5_queue_9 ?_
  refine s_iload_n G dX5_queue_12 rfl ?_
  refine ar_6 G (by assumption) rfl (by first | assumption | omega) dX5_queue_13 ?_
  refine s_astore_n G dX5_queue_14 (by decide) rfl ?_
  refine s_iload_n G dX5_queue_15 rfl ?_
  refine s_if_lt G 27 dX5_queue_16 (by decide) (fun h16 => ?_) (fun h16 => ?_)
  · exact absurd h16 (nI_pos (by omega))
  refine s_iload_n G dX5_queue_19 rfl ?_
  refine s_aload_n G dX5_queue_20 rfl ?_
  refine gX5_108 G (by assumption) (by assumption) dX5_queue_21 ?_
  rw [hC.1.ql hb]
  refine s_icmp_lt G 37 dX5_queue_24 (by decide) (fun h24 => ?_) (fun h24 => ?_)
  rotate_left
  · exact absurd (nI_lt hj (by omega)) h24
  have hj16 : j < 16 := by omega
  refine s_aload_n G dX5_queue_37 rfl ?_
  refine gX5_116 G (by assumption) (by assumption) dX5_queue_38 ?_
  refine s_iload_n G dX5_queue_41 rfl ?_
  refine al_9 G (by assumption) (by assumption) rfl (by first | assumption | omega) dX5_queue_42 ?_
  rw [hC.1.qe hb hu]
  refine s_iret G E9 hr dX5_queue_43 ⟨rfl, rfl⟩
theorem f_helper (hC : CI M g) {b9 k : Nat} (hb : b9 < g.nh) (hk : k < 3) : Ret E idsC yX5_helper cX5_helper 3 (some .int) 2 42 [.ref (E.ad (0, 0, 0)), .int (nI b9), .int (nI k)] M (fun r M' => r = some (.int (g.i 3 b9 k)) ∧ M = M') := by
  have h0 : 0 < 2 := by decide
  have hI := hC.2.1
  have hb8 := hI.nh12
  refine Ret_of_V RX5 (by decide) rfl idsC_nd [some (.ref (E.ad (0, 0, 0))), some (.int (nI b9)), some (.int (nI k))] rfl (Nat.le_of_ble_eq_true rfl) (fun κ hE G E9 hr => ?_)
  subst hE
  refine s_aload_n G dX5_helper_0 rfl ?_
  refine s_iload_n G dX5_helper_1 rfl ?_
  refine iX5_51 G (c_reqHelper hC hb) (by decide) (Nat.le_of_ble_eq_true rfl) dX5_helper_2 (fun r9 M9 hp9 => ?_)
  obtain ⟨rfl, rfl⟩ := hp9
  have hb9 : b9 < 12 := by omega
  refine s_iload_n G dX5_helper_5 rfl ?_
  refine s_iconst (v := 3) G dX5_helper_6 (by decide) ?_
  refine iX5_102 G (c_reqFact (n := 3) (by decide) hk) (by decide) (Nat.le_of_ble_eq_true rfl) dX5_helper_7 (fun r9 M9 hp9 => ?_)
  obtain ⟨rfl, rfl⟩ := hp9
  refine s_aload_n G dX5_helper_10 rfl ?_
  refine gX5_10 G dX5_helper_11 ?_
  refine gX5_58 G (by assumption) dX5_helper_14 ?_
  refine s_iload_n G dX5_helper_17 rfl ?_
  refine ar_7 G (by assumption) rfl (by first | assumption | omega) dX5_helper_18 ?_
  refine s_iload_n G dX5_helper_19 rfl ?_
  refine iX5_120 G (by assumption) (by assumption) (c_fact3 h0 hb9 hk) (by decide) (Nat.le_of_ble_eq_true rfl) dX5_helper_20 (fun r9 M9 hp9 => ?_)
  obtain ⟨rfl, rfl⟩ := hp9
  rw [hC.1.he hb hk]
  refine s_iret G E9 hr dX5_helper_23 ⟨rfl, rfl⟩
theorem f_visitor (hC : CI M g) {b9 k : Nat} (hb : b9 < g.nv) (hk : k < 8) : Ret E idsC yX5_visitor cX5_visitor 3 (some .int) 2 42 [.ref (E.ad (0, 0, 0)), .int (nI b9), .int (nI k)] M (fun r M' => r = some (.int (vfc g b9 k)) ∧ M = M') := by
  have h0 : 0 < 2 := by decide
  have hI := hC.2.1
  have hb8 := hI.nv16
  refine Ret_of_V RX5 (by decide) rfl idsC_nd [some (.ref (E.ad (0, 0, 0))), some (.int (nI b9)), some (.int (nI k))] rfl (Nat.le_of_ble_eq_true rfl) (fun κ hE G E9 hr => ?_)
  subst hE
  refine s_aload_n G dX5_visitor_0 rfl ?_
  refine s_iload_n G dX5_visitor_1 rfl ?_
  refine iX5_82 G (c_reqVisitor hC hb) (by decide) (Nat.le_of_ble_eq_true rfl) dX5_visitor_2 (fun r9 M9 hp9 => ?_)
  obtain ⟨rfl, rfl⟩ := hp9
  have hb9 : b9 < 16 := by omega
  refine s_iload_n G dX5_visitor_5 rfl ?_
  refine s_bipush (v := 8) G dX5_visitor_6 (by decide) ?_
  refine iX5_102 G (c_reqFact (n := 8) (by decide) hk) (by decide) (Nat.le_of_ble_eq_true rfl) dX5_visitor_8 (fun r9 M9 hp9 => ?_)
  obtain ⟨rfl, rfl⟩ := hp9
  refine s_aload_n G dX5_visitor_11 rfl ?_
  refine gX5_10 G dX5_visitor_12 ?_
  refine gX5_85 G (by assumption) dX5_visitor_15 ?_
  refine s_iload_n G dX5_visitor_18 rfl ?_
  refine ar_8 G (by assumption) rfl (by first | assumption | omega) dX5_visitor_19 ?_
  refine s_iload_n G dX5_visitor_20 rfl ?_
  refine iX5_123 G (by assumption) (by assumption) (c_fact4 h0 hC.1 hI hb hk) (by decide) (Nat.le_of_ble_eq_true rfl) dX5_visitor_21 (fun r9 M9 hp9 => ?_)
  obtain ⟨rfl, rfl⟩ := hp9
  refine s_iret G E9 hr dX5_visitor_24 ⟨rfl, rfl⟩
theorem f_practice (hC : CI M g) {v9 b9 : Nat} (hv : v9 < g.nv) (hb : b9 < g.nb) : Ret E idsC yX5_practice cX5_practice 3 (some .int) 2 42 [.ref (E.ad (0, 0, 0)), .int (nI v9), .int (nI b9)] M (fun r M' => r = some (.int (g.i 10 v9 b9)) ∧ M = M') := by
  have h0 : 0 < 2 := by decide
  have hI := hC.2.1
  have hv8 := hI.nv16
  have hb8 := hI.nb8
  refine Ret_of_V RX5 (by decide) rfl idsC_nd [some (.ref (E.ad (0, 0, 0))), some (.int (nI v9)), some (.int (nI b9))] rfl (Nat.le_of_ble_eq_true rfl) (fun κ hE G E9 hr => ?_)
  subst hE
  refine s_aload_n G dX5_practice_0 rfl ?_
  refine s_iload_n G dX5_practice_1 rfl ?_
  refine iX5_82 G (c_reqVisitor hC hv) (by decide) (Nat.le_of_ble_eq_true rfl) dX5_practice_2 (fun r9 M9 hp9 => ?_)
  obtain ⟨rfl, rfl⟩ := hp9
  have hv9 : v9 < 16 := by omega
  refine s_aload_n G dX5_practice_5 rfl ?_
  refine s_iload_n G dX5_practice_6 rfl ?_
  refine iX5_55 G (c_reqBooth hC hb) (by decide) (Nat.le_of_ble_eq_true rfl) dX5_practice_7 (fun r9 M9 hp9 => ?_)
  obtain ⟨rfl, rfl⟩ := hp9
  have hb9 : b9 < 8 := by omega
  refine s_aload_n G dX5_practice_10 rfl ?_
  refine gX5_10 G dX5_practice_11 ?_
  refine gX5_85 G (by assumption) dX5_practice_14 ?_
  refine s_iload_n G dX5_practice_17 rfl ?_
  refine ar_8 G (by assumption) rfl (by first | assumption | omega) dX5_practice_18 ?_
  refine gX5_124 G (by assumption) (by assumption) dX5_practice_19 ?_
  refine s_iload_n G dX5_practice_22 rfl ?_
  refine al_10 G (by assumption) (by assumption) rfl (by first | assumption | omega) dX5_practice_23 ?_
  rw [hC.1.pr hv hb9]
  refine s_iret G E9 hr dX5_practice_24 ⟨rfl, rfl⟩
theorem f_board (hC : CI M g) {j k : Nat} {x : Nat × Nat × Int32} (hx : g.bd[j]? = some x) (hk : k < 3) : Ret E idsC yX5_board cX5_board 3 (some .int) 1 22 [.ref (E.ad (0, 0, 0)), .int (nI j), .int (nI k)] M (fun r M' => r = some (.int (lfc x k)) ∧ M = M') := by
  have h0 : 0 < 2 := by decide
  have hI := hC.2.1
  have l3 := hI.bd3
  have hj : j < g.bd.length := (List.getElem?_eq_some_iff.mp hx).1
  refine Ret_of_V RX5 (by decide) rfl idsC_nd [some (.ref (E.ad (0, 0, 0))), some (.int (nI j)), some (.int (nI k))] rfl (Nat.le_of_ble_eq_true rfl) (fun κ hE G E9 hr => ?_)
  subst hE
  refine s_iload_n G dX5_board_0 rfl ?_
  refine s_if_lt G 18 dX5_board_1 (by decide) (fun h1 => ?_) (fun h1 => ?_)
  · exact absurd h1 (nI_pos (by omega))
  refine s_iload_n G dX5_board_4 rfl ?_
  refine s_aload_n G dX5_board_5 rfl ?_
  refine gX5_10 G dX5_board_6 ?_
  refine gX5_127 G (by assumption) dX5_board_9 ?_
  refine gX5_131 G (by assumption) dX5_board_12 ?_
  rw [hC.1.bdl]
  refine s_icmp_lt G 28 dX5_board_15 (by decide) (fun h15 => ?_) (fun h15 => ?_)
  rotate_left
  · exact absurd (nI_lt hj (by omega)) h15
  refine s_iload_n G dX5_board_28 rfl ?_
  refine s_iconst (v := 3) G dX5_board_29 (by decide) ?_
  refine iX5_102 G (c_reqFact (n := 3) (by decide) hk) (by decide) (Nat.le_of_ble_eq_true rfl) dX5_board_30 (fun r9 M9 hp9 => ?_)
  obtain ⟨rfl, rfl⟩ := hp9
  refine s_aload_n G dX5_board_33 rfl ?_
  refine gX5_10 G dX5_board_34 ?_
  refine gX5_127 G (by assumption) dX5_board_37 ?_
  refine s_iload_n G dX5_board_40 rfl ?_
  refine s_iload_n G dX5_board_41 rfl ?_
  refine iX5_138 G (by assumption) (c_fact1 h0 hC.1 hI hx hk) (by decide) (Nat.le_of_ble_eq_true rfl) dX5_board_42 (fun r9 M9 hp9 => ?_)
  obtain ⟨rfl, rfl⟩ := hp9
  refine s_iret G E9 hr dX5_board_45 ⟨rfl, rfl⟩
theorem f_pass (hC : CI M g) : Ret E idsC yX5_pass cX5_pass 2 (some .int) 6 141 [.ref (E.ad (0, 0, 0)), .int 1] M (fun r M' => r = some (.int ((round9 g).i 1 0 10 - g.i 1 0 10)) ∧ CI M' (round9 g)) := by
  have h0 : 0 < 2 := by decide
  have hI := hC.2.1
  refine Ret_of_V RX5 (by decide) rfl idsC_nd [some (.ref (E.ad (0, 0, 0))), some (.int 1)] rfl (Nat.le_of_ble_eq_true rfl) (fun κ hE G E9 hr => ?_)
  subst hE
  refine s_iload_n G dX5_pass_0 rfl ?_
  refine s_iconst (v := 1) G dX5_pass_1 (by decide) ?_
  refine s_sipush (v := 200) G dX5_pass_2 (by decide) ?_
  refine iX5_19 G (c_reqRange 1 1 200 ⟨by decide, by decide⟩) (by decide) (Nat.le_of_ble_eq_true rfl) dX5_pass_5 (fun r9 M9 hp9 => ?_)
  obtain ⟨rfl, rfl⟩ := hp9
  refine s_aload_n G dX5_pass_8 rfl ?_
  refine gX5_10 G dX5_pass_9 ?_
  refine s_iload_n G dX5_pass_12 rfl ?_
  refine iX5_140 G (by assumption) (c_goOn (k := 1) h0 hC.1 hI (by omega)) (by decide) (Nat.le_of_ble_eq_true rfl) dX5_pass_13 (fun r9 M9 hp9 => ?_)
  obtain ⟨rfl, hS2, hF2⟩ := hp9
  refine s_iret G E9 hr dX5_pass_16 ⟨rfl, hC.of hS2 (hI.rounds 1) hF2 (rounds_n 1)⟩
theorem f_count (hC : CI M g) {k : Nat} (hk : k < 11) : Ret E idsC yX5_count cX5_count 2 (some .int) 3 64 [.ref (E.ad (0, 0, 0)), .int (nI k)] M (fun r M' => r = some (.int (tot g k)) ∧ M = M') := by
  have h0 : 0 < 2 := by decide
  have hI := hC.2.1
  refine Ret_of_V RX5 (by decide) rfl idsC_nd [some (.ref (E.ad (0, 0, 0))), some (.int (nI k))] rfl (Nat.le_of_ble_eq_true rfl) (fun κ hE G E9 hr => ?_)
  subst hE
  refine s_iload_n G dX5_count_0 rfl ?_
  refine s_bipush (v := 11) G dX5_count_1 (by decide) ?_
  refine iX5_102 G (c_reqFact (n := 11) (by decide) hk) (by decide) (Nat.le_of_ble_eq_true rfl) dX5_count_3 (fun r9 M9 hp9 => ?_)
  obtain ⟨rfl, rfl⟩ := hp9
  refine s_aload_n G dX5_count_6 rfl ?_
  refine gX5_10 G dX5_count_7 ?_
  refine s_iload_n G dX5_count_10 rfl ?_
  refine iX5_143 G (by assumption) (c_total h0 hC.1 hI hk) (by decide) (Nat.le_of_ble_eq_true rfl) dX5_count_11 (fun r9 M9 hp9 => ?_)
  obtain ⟨rfl, rfl⟩ := hp9
  refine s_iret G E9 hr dX5_count_14 ⟨rfl, rfl⟩
theorem f_foresee (hC : CI M g) {v9 k : Nat} (hv : v9 < g.nv) (hk : k < 3) : Ret E idsC yX5_foresee cX5_foresee 4 (some .int) 6 141 [.ref (E.ad (0, 0, 0)), .int (nI v9), .int 1, .int (nI k)] M (fun r M' => r = some (.int (ffc (round9 g) v9 k)) ∧ CI M' g) := by
  have h0 : 0 < 2 := by decide
  have h19 : 1 < 2 := by decide
  have hI := hC.2.1
  have hb8 := hI.nv16
  refine Ret_of_V RX5 (by decide) rfl idsC_nd [some (.ref (E.ad (0, 0, 0))), some (.int (nI v9)), some (.int 1), some (.int (nI k))] rfl (Nat.le_of_ble_eq_true rfl) (fun κ hE G E9 hr => ?_)
  subst hE
  refine s_aload_n G dX5_foresee_0 rfl ?_
  refine s_iload_n G dX5_foresee_1 rfl ?_
  refine iX5_82 G (c_reqVisitor hC hv) (by decide) (Nat.le_of_ble_eq_true rfl) dX5_foresee_2 (fun r9 M9 hp9 => ?_)
  obtain ⟨rfl, rfl⟩ := hp9
  have hv9 : v9 < 16 := by omega
  refine s_iload_n G dX5_foresee_5 rfl ?_
  refine s_iconst (v := 3) G dX5_foresee_6 (by decide) ?_
  refine iX5_102 G (c_reqFact (n := 3) (by decide) hk) (by decide) (Nat.le_of_ble_eq_true rfl) dX5_foresee_7 (fun r9 M9 hp9 => ?_)
  obtain ⟨rfl, rfl⟩ := hp9
  refine s_iload_n G dX5_foresee_10 rfl ?_
  refine s_iconst (v := 1) G dX5_foresee_11 (by decide) ?_
  refine s_bipush (v := 100) G dX5_foresee_12 (by decide) ?_
  refine iX5_19 G (c_reqRange 1 1 100 ⟨by decide, by decide⟩) (by decide) (Nat.le_of_ble_eq_true rfl) dX5_foresee_14 (fun r9 M9 hp9 => ?_)
  obtain ⟨rfl, rfl⟩ := hp9
  refine s_aload_n G dX5_foresee_17 rfl ?_
  refine gX5_16 G dX5_foresee_18 ?_
  refine s_aload_n G dX5_foresee_21 rfl ?_
  refine gX5_10 G dX5_foresee_22 ?_
  refine iX5_146 G (by assumption) (c_copy2 hC.1 hI) (by decide) (Nat.le_of_ble_eq_true rfl) dX5_foresee_25 (fun r9 M9 hp9 => ?_)
  obtain ⟨rfl, hS1, ho1⟩ := hp9
  refine s_aload_n G dX5_foresee_28 rfl ?_
  refine gX5_16 G dX5_foresee_29 ?_
  refine s_iload_n G dX5_foresee_32 rfl ?_
  refine iX5_140 G (by assumption) (c_goOn (k := 1) h19 hS1 hI (by omega)) (by decide) (Nat.le_of_ble_eq_true rfl) dX5_foresee_33 (fun r9 M9 hp9 => ?_)
  obtain ⟨rfl, hS2, hF2⟩ := hp9
  have hv2 : v9 < (rounds9 g 1).nv := by rw [nv_of (rounds_n 1)]; exact hv
  refine s_pop G dX5_foresee_36 rfl ?_
  refine s_aload_n G dX5_foresee_37 rfl ?_
  refine gX5_16 G dX5_foresee_38 ?_
  refine gX5_85 G (by assumption) dX5_foresee_41 ?_
  refine s_iload_n G dX5_foresee_44 rfl ?_
  refine ar_8 G (by assumption) rfl (by first | assumption | omega) dX5_foresee_45 ?_
  refine s_iload_n G dX5_foresee_46 rfl ?_
  refine iX5_150 G (by assumption) (by assumption) (c_ffact h19 hS2 (hI.rounds 1) hv2 hk) (by decide) (Nat.le_of_ble_eq_true rfl) dX5_foresee_47 (fun r9 M9 hp9 => ?_)
  obtain ⟨rfl, rfl⟩ := hp9
  refine s_iret G E9 hr dX5_foresee_50 ⟨rfl, hC.same (fun kd a => (hF2 kd 0 a (Or.inl (by decide))).trans (ho1 kd 0 a (by decide)))⟩
end Face
