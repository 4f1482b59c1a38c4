/-! ===== the face of the class ===== -/
section Req
variable {E : EX} {M : Mem} {g : GS}
theorem c_reqRange (x lo hi : Int32) : RetX E idsC yX5_requireRange cX5_requireRange 3 none 6 90 1 6 [.int x, .int lo, .int hi] M (fun r M' => r = none ∧ M = M' ∧ inR x lo hi) (fun X M' => X = xIA ∧ M = M' ∧ ¬ inR x lo hi) := by
  refine RetX_of_V RX5 (by decide) rfl idsC_nd [some (.int x), some (.int lo), some (.int hi)] rfl (Nat.le_of_ble_eq_true rfl) (fun κ hE G E9 hr => ?_)
  subst hE
  refine s_iload_n G dX5_requireRange_0 rfl ?_
  refine s_iload_n G dX5_requireRange_1 rfl ?_
  refine s_icmp_lt G 10 dX5_requireRange_2 (by decide) (fun h2 => ?_) (fun h2 => ?_)
  · refine s_throwIA G E9 "a number out of its range" (by decide) dX5_requireRange_10 dX5_requireRange_13 dX5_requireRange_14 dX5_requireRange_16 dX5_requireRange_19 (by decide) (Nat.le_of_ble_eq_true rfl) ⟨rfl, rfl, fun q => i_nlt.mpr q.1 h2⟩
  refine s_iload_n G dX5_requireRange_5 rfl ?_
  refine s_iload_n G dX5_requireRange_6 rfl ?_
  refine s_icmp_le G 20 dX5_requireRange_7 (by decide) (fun h7 => ?_) (fun h7 => ?_)
  · refine sx_vret G E9 hr dX5_requireRange_20 ⟨rfl, rfl, i_nlt.mp h2, h7⟩
  · refine s_throwIA G E9 "a number out of its range" (by decide) dX5_requireRange_10 dX5_requireRange_13 dX5_requireRange_14 dX5_requireRange_16 dX5_requireRange_19 (by decide) (Nat.le_of_ble_eq_true rfl) ⟨rfl, rfl, fun q => h7 q.2⟩
theorem c_reqFact (x : Int32) {n : Nat} (hn : n < 2 ^ 31) : RetX E idsC yX5_requireFact cX5_requireFact 2 none 6 90 1 6 [.int x, .int (nI n)] M (fun r M' => r = none ∧ M = M' ∧ ∃ k, k < n ∧ x = nI k) (fun X M' => X = xIO ∧ M = M' ∧ ∀ k, k < n → x ≠ nI k) := by
  refine RetX_of_V RX5 (by decide) rfl idsC_nd [some (.int x), some (.int (nI n))] rfl (Nat.le_of_ble_eq_true rfl) (fun κ hE G E9 hr => ?_)
  subst hE
  refine s_iload_n G dX5_requireFact_0 rfl ?_
  refine s_if_lt G 9 dX5_requireFact_1 (by decide) (fun h1 => ?_) (fun h1 => ?_)
  · refine s_throwIO G E9 "no such fact" (by decide) dX5_requireFact_9 dX5_requireFact_12 dX5_requireFact_13 dX5_requireFact_15 dX5_requireFact_18 (by decide) (Nat.le_of_ble_eq_true rfl) ⟨rfl, rfl, fun k hk q => nI_pos (n := k) (by omega) (by rw [← q]; exact h1)⟩
  refine s_iload_n G dX5_requireFact_4 rfl ?_
  refine s_iload_n G dX5_requireFact_5 rfl ?_
  refine s_icmp_lt G 19 dX5_requireFact_6 (by decide) (fun h6 => ?_) (fun h6 => ?_)
  · refine sx_vret G E9 hr dX5_requireFact_19 ⟨rfl, rfl, ((pk_ix x hn).resolve_left h1).resolve_left (i_nle.mpr h6)⟩
  · refine s_throwIO G E9 "no such fact" (by decide) dX5_requireFact_9 dX5_requireFact_12 dX5_requireFact_13 dX5_requireFact_15 dX5_requireFact_18 (by decide) (Nat.le_of_ble_eq_true rfl) ⟨rfl, rfl, fun k hk q => h6 (by rw [q]; exact nI_lt hk hn)⟩
theorem c_reqBooth (hC : CI M g) (x : Int32) : RetX E idsC yX5_requireBooth cX5_requireBooth 2 none 6 90 1 6 [.ref (E.ad (0, 0, 0)), .int x] M (fun r M' => r = none ∧ M = M' ∧ ∃ k, k < g.nb ∧ x = nI k) (fun X M' => X = xIO ∧ M = M' ∧ ∀ k, k < g.nb → x ≠ nI k) := by
  have h0 : 0 < 2 := by decide
  have hI := hC.2.1
  refine RetX_of_V RX5 (by decide) rfl idsC_nd [some (.ref (E.ad (0, 0, 0))), some (.int x)] rfl (Nat.le_of_ble_eq_true rfl) (fun κ hE G E9 hr => ?_)
  subst hE
  refine s_aload_n G dX5_requireBooth_0 rfl ?_
  refine gX5_10 G dX5_requireBooth_1 ?_
  refine s_iload_n G dX5_requireBooth_4 rfl ?_
  refine iX5_194 G (by assumption) (c_isBooth (n := g.nb) h0 hC.1.nb (by have := hI.nb8; have := hI.nh12; have := hI.nv16; omega) x) (by decide) (Nat.le_of_ble_eq_true rfl) dX5_requireBooth_5 (fun r9 M9 hp9 => ?_)
  obtain ⟨rfl, ⟨b, hb, hbx, rfl⟩ | ⟨hno, rfl⟩⟩ := hp9
  · refine s_if_ne G 21 dX5_requireBooth_8 (by decide) (fun h8 => ?_) (fun h8 => ?_)
    · refine sx_vret G E9 hr dX5_requireBooth_21 ⟨rfl, rfl, b, hb, hbx⟩
    · exact absurd h8 (by decide)
  · refine s_if_ne G 21 dX5_requireBooth_8 (by decide) (fun h8 => ?_) (fun h8 => ?_)
    · exact absurd rfl h8
    · refine s_throwIO G E9 "no such booth" (by decide) dX5_requireBooth_11 dX5_requireBooth_14 dX5_requireBooth_15 dX5_requireBooth_17 dX5_requireBooth_20 (by decide) (Nat.le_of_ble_eq_true rfl) ⟨rfl, rfl, hno⟩
theorem c_reqHelper (hC : CI M g) (x : Int32) : RetX E idsC yX5_requireHelper cX5_requireHelper 2 none 6 90 1 6 [.ref (E.ad (0, 0, 0)), .int x] M (fun r M' => r = none ∧ M = M' ∧ ∃ k, k < g.nh ∧ x = nI k) (fun X M' => X = xIO ∧ M = M' ∧ ∀ k, k < g.nh → x ≠ nI k) := by
  have h0 : 0 < 2 := by decide
  have hI := hC.2.1
  refine RetX_of_V RX5 (by decide) rfl idsC_nd [some (.ref (E.ad (0, 0, 0))), some (.int x)] rfl (Nat.le_of_ble_eq_true rfl) (fun κ hE G E9 hr => ?_)
  subst hE
  refine s_aload_n G dX5_requireHelper_0 rfl ?_
  refine gX5_10 G dX5_requireHelper_1 ?_
  refine s_iload_n G dX5_requireHelper_4 rfl ?_
  refine iX5_200 G (by assumption) (c_isHelper (n := g.nh) h0 hC.1.nh (by have := hI.nb8; have := hI.nh12; have := hI.nv16; omega) x) (by decide) (Nat.le_of_ble_eq_true rfl) dX5_requireHelper_5 (fun r9 M9 hp9 => ?_)
  obtain ⟨rfl, ⟨b, hb, hbx, rfl⟩ | ⟨hno, rfl⟩⟩ := hp9
  · refine s_if_ne G 21 dX5_requireHelper_8 (by decide) (fun h8 => ?_) (fun h8 => ?_)
    · refine sx_vret G E9 hr dX5_requireHelper_21 ⟨rfl, rfl, b, hb, hbx⟩
    · exact absurd h8 (by decide)
  · refine s_if_ne G 21 dX5_requireHelper_8 (by decide) (fun h8 => ?_) (fun h8 => ?_)
    · exact absurd rfl h8
    · refine s_throwIO G E9 "no such helper" (by decide) dX5_requireHelper_11 dX5_requireHelper_14 dX5_requireHelper_15 dX5_requireHelper_17 dX5_requireHelper_20 (by decide) (Nat.le_of_ble_eq_true rfl) ⟨rfl, rfl, hno⟩
theorem c_reqVisitor (hC : CI M g) (x : Int32) : RetX E idsC yX5_requireVisitor cX5_requireVisitor 2 none 6 90 1 6 [.ref (E.ad (0, 0, 0)), .int x] M (fun r M' => r = none ∧ M = M' ∧ ∃ k, k < g.nv ∧ x = nI k) (fun X M' => X = xIO ∧ M = M' ∧ ∀ k, k < g.nv → x ≠ nI k) := by
  have h0 : 0 < 2 := by decide
  have hI := hC.2.1
  refine RetX_of_V RX5 (by decide) rfl idsC_nd [some (.ref (E.ad (0, 0, 0))), some (.int x)] rfl (Nat.le_of_ble_eq_true rfl) (fun κ hE G E9 hr => ?_)
  subst hE
  refine s_aload_n G dX5_requireVisitor_0 rfl ?_
  refine gX5_10 G dX5_requireVisitor_1 ?_
  refine s_iload_n G dX5_requireVisitor_4 rfl ?_
  refine iX5_205 G (by assumption) (c_isVisitor (n := g.nv) h0 hC.1.nv (by have := hI.nb8; have := hI.nh12; have := hI.nv16; omega) x) (by decide) (Nat.le_of_ble_eq_true rfl) dX5_requireVisitor_5 (fun r9 M9 hp9 => ?_)
  obtain ⟨rfl, ⟨b, hb, hbx, rfl⟩ | ⟨hno, rfl⟩⟩ := hp9
  · refine s_if_ne G 21 dX5_requireVisitor_8 (by decide) (fun h8 => ?_) (fun h8 => ?_)
    · refine sx_vret G E9 hr dX5_requireVisitor_21 ⟨rfl, rfl, b, hb, hbx⟩
    · exact absurd h8 (by decide)
  · refine s_if_ne G 21 dX5_requireVisitor_8 (by decide) (fun h8 => ?_) (fun h8 => ?_)
    · exact absurd rfl h8
    · refine s_throwIO G E9 "no such visitor" (by decide) dX5_requireVisitor_11 dX5_requireVisitor_14 dX5_requireVisitor_15 dX5_requireVisitor_17 dX5_requireVisitor_20 (by decide) (Nat.le_of_ble_eq_true rfl) ⟨rfl, rfl, hno⟩
end Req
theorem inR_nat {x : Int32} {hi : Int32} {n : Nat} (hn : hi.toInt = n) (h : inR x 1 hi) : ∃ k : Nat, 1 ≤ k ∧ k ≤ n ∧ x = nI k ∧ x.toNatClampNeg = k := by
  have hn31 : n < 2 ^ 31 := by have := hi.toInt_lt; omega
  have h1 := h.1
  rw [Int32.le_iff_toInt_le] at h1
  have o : ((1 : Int32).toInt) = 1 := by decide
  have z : ((0 : Int32).toInt) = 0 := by decide
  obtain ⟨k, hk, rfl⟩ := nI_of2 hn (x := x) (i_nlt.mpr (by rw [Int32.le_iff_toInt_le]; omega)) h.2
  rw [nI_toInt (by omega)] at h1
  exact ⟨k, by omega, hk, rfl, nI_clamp (by omega)⟩
section Face
variable {E : EX} {M : Mem} {g : GS}
theorem f_addBooth (hC : CI M g) (c go p n : Int32) : RetX E idsC yX5_addBooth cX5_addBooth 6 (some .int) 7 112 5 30 [.ref (E.ad (0, 0, 0)), .int c, .int go, .int p, .int n] M (fun r M' => ∃ v g', spAddBooth g c go p n = (0, v, g') ∧ r = some (.int v) ∧ CI M' g') (fun X M' => M = M' ∧ ((X = xIA ∧ spAddBooth g c go p n = (1, 0, g)) ∨ (X = xIS ∧ spAddBooth g c go p n = (2, 0, g)))) := by
  have h0 : 0 < 2 := by decide
  refine RetX_of_V RX5 (by decide) rfl idsC_nd [some (.ref (E.ad (0, 0, 0))), some (.int c), some (.int go), some (.int p), some (.int n), none] rfl (Nat.le_of_ble_eq_true rfl) (fun κ hE G E9 hr => ?_)
  subst hE
  refine s_iload_n G dX5_addBooth_0 rfl ?_
  refine s_iconst (v := 1) G dX5_addBooth_1 (by decide) ?_
  refine s_bipush (v := 9) G dX5_addBooth_2 (by decide) ?_
  refine ixX5_19 G E9 (c_reqRange c 1 9) (by decide) (Nat.le_of_ble_eq_true rfl) dX5_addBooth_4 (fun X9 M9 hp9 => ⟨hp9.2.1, Or.inl ⟨hp9.1, by unfold spAddBooth; rw [if_pos (Or.inl hp9.2.2)]⟩⟩) (fun r9 M9 hp9 => ?_)
  replace G := Good.add (a2 := 1) (b2 := 6) G E9
  replace E9 := EndsX.add (a2 := 1) (b2 := 6) E9
  obtain ⟨rfl, rfl, r1⟩ := hp9
  refine s_iload_n G dX5_addBooth_7 rfl ?_
  refine s_iconst (v := 0) G dX5_addBooth_8 (by decide) ?_
  refine s_bipush (v := 60) G dX5_addBooth_9 (by decide) ?_
  refine ixX5_19 G E9 (c_reqRange go 0 60) (by decide) (Nat.le_of_ble_eq_true rfl) dX5_addBooth_11 (fun X9 M9 hp9 => ⟨hp9.2.1, Or.inl ⟨hp9.1, by unfold spAddBooth; rw [if_pos (Or.inr (Or.inl hp9.2.2))]⟩⟩) (fun r9 M9 hp9 => ?_)
  replace G := Good.add (a2 := 1) (b2 := 6) G E9
  replace E9 := EndsX.add (a2 := 1) (b2 := 6) E9
  obtain ⟨rfl, rfl, r2⟩ := hp9
  refine s_iload_n G dX5_addBooth_14 rfl ?_
  refine s_iconst (v := 0) G dX5_addBooth_15 (by decide) ?_
  refine s_bipush (v := 99) G dX5_addBooth_16 (by decide) ?_
  refine ixX5_19 G E9 (c_reqRange p 0 99) (by decide) (Nat.le_of_ble_eq_true rfl) dX5_addBooth_18 (fun X9 M9 hp9 => ⟨hp9.2.1, Or.inl ⟨hp9.1, by unfold spAddBooth; rw [if_pos (Or.inr (Or.inr (Or.inl hp9.2.2)))]⟩⟩) (fun r9 M9 hp9 => ?_)
  replace G := Good.add (a2 := 1) (b2 := 6) G E9
  replace E9 := EndsX.add (a2 := 1) (b2 := 6) E9
  obtain ⟨rfl, rfl, r3⟩ := hp9
  refine s_iload G dX5_addBooth_21 rfl ?_
  refine s_iconst (v := 1) G dX5_addBooth_23 (by decide) ?_
  refine s_iconst (v := 3) G dX5_addBooth_24 (by decide) ?_
  refine ixX5_19 G E9 (c_reqRange n 1 3) (by decide) (Nat.le_of_ble_eq_true rfl) dX5_addBooth_25 (fun X9 M9 hp9 => ⟨hp9.2.1, Or.inl ⟨hp9.1, by unfold spAddBooth; rw [if_pos (Or.inr (Or.inr (Or.inr hp9.2.2)))]⟩⟩) (fun r9 M9 hp9 => ?_)
  replace G := Good.add (a2 := 1) (b2 := 6) G E9
  replace E9 := EndsX.add (a2 := 1) (b2 := 6) E9
  obtain ⟨rfl, rfl, r4⟩ := hp9
  have hs : spAddBooth g c go p n = if g.nb = 8 then (2, 0, g) else (0, nI g.nb, addB g c go p n) := by
    unfold spAddBooth
    rw [if_neg]
    rintro (q | q | q | q)
    · exact q r1
    · exact q r2
    · exact q r3
    · exact q r4
  refine s_aload_n G dX5_addBooth_28 rfl ?_
  refine gX5_10 G dX5_addBooth_29 ?_
  refine s_iload_n G dX5_addBooth_32 rfl ?_
  refine s_iload_n G dX5_addBooth_33 rfl ?_
  refine s_iload_n G dX5_addBooth_34 rfl ?_
  refine s_iload G dX5_addBooth_35 rfl ?_
  refine iX5_23 G (by assumption) (c_setUpBooth (c := c) (go := go) (p := p) (n := n) hC r3) (by decide) (Nat.le_of_ble_eq_true rfl) dX5_addBooth_37 (fun r9 M9 hp9 => ?_)
  obtain ⟨h8, rfl, rfl⟩ | ⟨h8, rfl, hC2⟩ := hp9
  · refine s_istore G dX5_addBooth_40 (by decide) rfl ?_
    refine s_iload G dX5_addBooth_42 rfl ?_
    refine s_iconst (v := -1) G dX5_addBooth_44 (by decide) ?_
    refine s_icmp_ne G 58 dX5_addBooth_45 (by decide) (fun h45 => ?_) (fun h45 => ?_)
    · exact absurd rfl h45
    · refine s_throwIS G E9 "no room for another booth" (by decide) dX5_addBooth_48 dX5_addBooth_51 dX5_addBooth_52 dX5_addBooth_54 dX5_addBooth_57 (by decide) (Nat.le_of_ble_eq_true rfl) ⟨rfl, Or.inr ⟨rfl, by rw [hs, if_pos h8]⟩⟩
  · refine s_istore G dX5_addBooth_40 (by decide) rfl ?_
    refine s_iload G dX5_addBooth_42 rfl ?_
    refine s_iconst (v := -1) G dX5_addBooth_44 (by decide) ?_
    refine s_icmp_ne G 58 dX5_addBooth_45 (by decide) (fun h45 => ?_) (fun h45 => ?_)
    · refine s_iload G dX5_addBooth_58 rfl ?_
      refine sx_iret G E9 hr dX5_addBooth_60 ⟨_, _, by rw [hs, if_neg (by omega)], rfl, hC2⟩
    · exact absurd h45 (nI_m1 (by omega))
theorem f_addHelper (hC : CI M g) : RetX E idsC yX5_addHelper cX5_addHelper 2 (some .int) 6 90 1 6 [.ref (E.ad (0, 0, 0))] M (fun r M' => ∃ v g', spAddHelper g = (0, v, g') ∧ r = some (.int v) ∧ CI M' g') (fun X M' => M = M' ∧ (X = xIS ∧ spAddHelper g = (1, 0, g))) := by
  have h0 : 0 < 2 := by decide
  refine RetX_of_V RX5 (by decide) rfl idsC_nd [some (.ref (E.ad (0, 0, 0))), none] rfl (Nat.le_of_ble_eq_true rfl) (fun κ hE G E9 hr => ?_)
  subst hE
  refine s_aload_n G dX5_addHelper_0 rfl ?_
  refine gX5_10 G dX5_addHelper_1 ?_
  refine iX5_34 G (by assumption) (c_takeOnHelper hC) (by decide) (Nat.le_of_ble_eq_true rfl) dX5_addHelper_4 (fun r9 M9 hp9 => ?_)
  obtain ⟨h8, rfl, rfl⟩ | ⟨h8, rfl, hC2⟩ := hp9
  · refine s_istore_n G dX5_addHelper_7 (by decide) rfl ?_
    refine s_iload_n G dX5_addHelper_8 rfl ?_
    refine s_iconst (v := -1) G dX5_addHelper_9 (by decide) ?_
    refine s_icmp_ne G 23 dX5_addHelper_10 (by decide) (fun h10 => ?_) (fun h10 => ?_)
    · exact absurd rfl h10
    · refine s_throwIS G E9 "no room for another helper" (by decide) dX5_addHelper_13 dX5_addHelper_16 dX5_addHelper_17 dX5_addHelper_19 dX5_addHelper_22 (by decide) (Nat.le_of_ble_eq_true rfl) ⟨rfl, rfl, by rw [spAddHelper, if_pos h8]⟩
  · refine s_istore_n G dX5_addHelper_7 (by decide) rfl ?_
    refine s_iload_n G dX5_addHelper_8 rfl ?_
    refine s_iconst (v := -1) G dX5_addHelper_9 (by decide) ?_
    refine s_icmp_ne G 23 dX5_addHelper_10 (by decide) (fun h10 => ?_) (fun h10 => ?_)
    · refine s_iload_n G dX5_addHelper_23 rfl ?_
      refine sx_iret G E9 hr dX5_addHelper_24 ⟨_, _, by rw [spAddHelper, if_neg (by omega)], rfl, hC2⟩
    · exact absurd h10 (nI_m1 (by omega))
theorem f_come (hC : CI M g) (t s : Int32) : RetX E idsC yX5_come cX5_come 4 (some .int) 7 112 3 18 [.ref (E.ad (0, 0, 0)), .int t, .int s] M (fun r M' => ∃ v g', spCome g t s = (0, v, g') ∧ r = some (.int v) ∧ CI M' g') (fun X M' => M = M' ∧ ((X = xIA ∧ spCome g t s = (1, 0, g)) ∨ (X = xIS ∧ spCome g t s = (2, 0, g)))) := by
  have h0 : 0 < 2 := by decide
  refine RetX_of_V RX5 (by decide) rfl idsC_nd [some (.ref (E.ad (0, 0, 0))), some (.int t), some (.int s), none] rfl (Nat.le_of_ble_eq_true rfl) (fun κ hE G E9 hr => ?_)
  subst hE
  refine s_iload_n G dX5_come_0 rfl ?_
  refine s_iconst (v := 0) G dX5_come_1 (by decide) ?_
  refine s_sipush (v := 200) G dX5_come_2 (by decide) ?_
  refine ixX5_19 G E9 (c_reqRange t 0 200) (by decide) (Nat.le_of_ble_eq_true rfl) dX5_come_5 (fun X9 M9 hp9 => ⟨hp9.2.1, Or.inl ⟨hp9.1, by unfold spCome; rw [if_pos (Or.inl hp9.2.2)]⟩⟩) (fun r9 M9 hp9 => ?_)
  replace G := Good.add (a2 := 1) (b2 := 6) G E9
  replace E9 := EndsX.add (a2 := 1) (b2 := 6) E9
  obtain ⟨rfl, rfl, r1⟩ := hp9
  refine s_iload_n G dX5_come_8 rfl ?_
  refine s_iconst (v := 0) G dX5_come_9 (by decide) ?_
  refine s_bipush (v := 30) G dX5_come_10 (by decide) ?_
  refine ixX5_19 G E9 (c_reqRange s 0 30) (by decide) (Nat.le_of_ble_eq_true rfl) dX5_come_12 (fun X9 M9 hp9 => ⟨hp9.2.1, Or.inl ⟨hp9.1, by unfold spCome; rw [if_pos (Or.inr hp9.2.2)]⟩⟩) (fun r9 M9 hp9 => ?_)
  replace G := Good.add (a2 := 1) (b2 := 6) G E9
  replace E9 := EndsX.add (a2 := 1) (b2 := 6) E9
  obtain ⟨rfl, rfl, r2⟩ := hp9
  have hs : spCome g t s = if g.nv = 16 then (2, 0, g) else (0, nI g.nv, addV g t s) := by
    unfold spCome
    rw [if_neg]
    rintro (q | q)
    · exact q r1
    · exact q r2
  refine s_aload_n G dX5_come_15 rfl ?_
  refine gX5_10 G dX5_come_16 ?_
  refine s_iload_n G dX5_come_19 rfl ?_
  refine s_iload_n G dX5_come_20 rfl ?_
  refine iX5_40 G (by assumption) (c_letIn (t := t) (s := s) hC) (by decide) (Nat.le_of_ble_eq_true rfl) dX5_come_21 (fun r9 M9 hp9 => ?_)
  obtain ⟨h8, rfl, rfl⟩ | ⟨h8, rfl, hC2⟩ := hp9
  · refine s_istore_n G dX5_come_24 (by decide) rfl ?_
    refine s_iload_n G dX5_come_25 rfl ?_
    refine s_iconst (v := -1) G dX5_come_26 (by decide) ?_
    refine s_icmp_ne G 40 dX5_come_27 (by decide) (fun h27 => ?_) (fun h27 => ?_)
    · exact absurd rfl h27
    · refine s_throwIS G E9 "no room for another visitor" (by decide) dX5_come_30 dX5_come_33 dX5_come_34 dX5_come_36 dX5_come_39 (by decide) (Nat.le_of_ble_eq_true rfl) ⟨rfl, Or.inr ⟨rfl, by rw [hs, if_pos h8]⟩⟩
  · refine s_istore_n G dX5_come_24 (by decide) rfl ?_
    refine s_iload_n G dX5_come_25 rfl ?_
    refine s_iconst (v := -1) G dX5_come_26 (by decide) ?_
    refine s_icmp_ne G 40 dX5_come_27 (by decide) (fun h27 => ?_) (fun h27 => ?_)
    · refine s_iload_n G dX5_come_40 rfl ?_
      refine sx_iret G E9 hr dX5_come_41 ⟨_, _, by rw [hs, if_neg (by omega)], rfl, hC2⟩
    · exact absurd h27 (nI_m1 (by omega))
theorem CI.of {M' : Mem} {g' : GS} (hC : CI M g) (hS : SimC 0 M' g') (hI : Inv g') (hF : Fr 0 g.2.2.1 M M') (hn : g'.2.2.1 = g.2.2.1) : CI M' g' := ⟨hS, hI, hC.2.2.of_Fr hF hn⟩
theorem f_setDart (hC : CI M g) (d : Int32) : RetX E idsC yX5_setDart cX5_setDart 3 (some .int) 7 112 1 6 [.ref (E.ad (0, 0, 0)), .int d] M (fun r M' => ∃ v g', spSetDart g d = (0, v, g') ∧ r = some (.int v) ∧ CI M' g') (fun X M' => M = M' ∧ (X = xIA ∧ spSetDart g d = (1, 0, g))) := by
  have h0 : 0 < 2 := by decide
  refine RetX_of_V RX5 (by decide) rfl idsC_nd [some (.ref (E.ad (0, 0, 0))), some (.int d), none] rfl (Nat.le_of_ble_eq_true rfl) (fun κ hE G E9 hr => ?_)
  subst hE
  refine s_iload_n G dX5_setDart_0 rfl ?_
  refine s_iconst (v := 1) G dX5_setDart_1 (by decide) ?_
  refine s_ldc (v := 65536) G dX5_setDart_2 (by decide +kernel) ?_
  refine ixX5_19 G E9 (c_reqRange d 1 65536) (by decide) (Nat.le_of_ble_eq_true rfl) dX5_setDart_4 (fun X9 M9 hp9 => ⟨hp9.2.1, hp9.1, by unfold spSetDart; rw [if_pos hp9.2.2]⟩) (fun r9 M9 hp9 => ?_)
  replace G := Good.add (a2 := 1) (b2 := 6) G E9
  replace E9 := EndsX.add (a2 := 1) (b2 := 6) E9
  obtain ⟨rfl, rfl, r1⟩ := hp9
  refine s_aload_n G dX5_setDart_7 rfl ?_
  refine gX5_10 G dX5_setDart_8 ?_
  refine gX5_47 G (by assumption) dX5_setDart_11 ?_
  rw [hC.1.num (k := 8) (by decide) (by decide)]
  refine s_istore_n G dX5_setDart_14 (by decide) rfl ?_
  refine s_aload_n G dX5_setDart_15 rfl ?_
  refine gX5_10 G dX5_setDart_16 ?_
  refine s_iload_n G dX5_setDart_19 rfl ?_
  refine pX5_47 G (by assumption) dX5_setDart_20 ?_
  refine s_iload_n G dX5_setDart_23 rfl ?_
  refine sx_iret G E9 hr dX5_setDart_24 ⟨_, _, by unfold spSetDart; rw [if_neg (fun q => q r1)], rfl, hC.of (hC.1.f1 (by decide)) hC.2.1.f1 (Fr.f1 Fr.rf) rfl⟩
theorem Inv.send {h : Nat} {x : Int32} (hI : Inv g) (hx : x = -1 ∨ ∃ b, b < g.nb ∧ x = nI b) : Inv (g.set 3 h 1 x) := by
  refine hI.of_h3 rfl (fun kd a k q => by rw [gi_set, if_neg (by omega)]) (fun a ha => ?_)
  have e0 : (g.set 3 h 1 x).i 3 a 0 = g.i 3 a 0 := by rw [gi_set, if_neg (by omega)]
  rw [e0, gi_set]
  refine ⟨?_, hI.hst ha⟩
  split
  · exact hx
  · exact hI.hat ha
theorem f_work (hC : CI M g) (h b : Int32) : RetX E idsC yX5_work cX5_work 4 (some .int) 7 111 2 12 [.ref (E.ad (0, 0, 0)), .int h, .int b] M (fun r M' => ∃ v g', spWork g h b = (0, v, g') ∧ r = some (.int v) ∧ CI M' g') (fun X M' => M = M' ∧ (X = xIO ∧ spWork g h b = (1, 0, g))) := by
  have h0 : 0 < 2 := by decide
  have hI := hC.2.1
  have hb8 := hI.nb8
  have hh12 := hI.nh12
  refine RetX_of_V RX5 (by decide) rfl idsC_nd [some (.ref (E.ad (0, 0, 0))), some (.int h), some (.int b), none] rfl (Nat.le_of_ble_eq_true rfl) (fun κ hE G E9 hr => ?_)
  subst hE
  refine s_aload_n G dX5_work_0 rfl ?_
  refine s_iload_n G dX5_work_1 rfl ?_
  refine ixX5_51 G E9 (c_reqHelper hC h) (by decide) (Nat.le_of_ble_eq_true rfl) dX5_work_2 (fun X9 M9 hp9 => ⟨hp9.2.1, hp9.1, by unfold spWork; rw [ix_out (by omega) hp9.2.2]⟩) (fun r9 M9 hp9 => ?_)
  replace G := Good.add (a2 := 1) (b2 := 6) G E9
  replace E9 := EndsX.add (a2 := 1) (b2 := 6) E9
  obtain ⟨rfl, rfl, h9, hh, rfl⟩ := hp9
  have hh9 : h9 < 12 := by omega
  have hs : spWork g (nI h9) b = if b = -1 ∨ (ix g.nb b).isSome = true then (0, g.i 3 h9 1, g.set 3 h9 1 b) else (1, 0, g) := by
    unfold spWork
    rw [ix_in hh (by omega)]
  refine s_iload_n G dX5_work_5 rfl ?_
  refine s_iconst (v := -1) G dX5_work_6 (by decide) ?_
  have fin : (b = -1 ∨ ∃ k, k < g.nb ∧ b = nI k) → ∀ κ9 : KX, κ9.E = κ.E → Good κ9 idsC cX5_work 4 RX5 7 111 → EndsX κ9 idsC (fun r M' => ∃ v g', spWork g (nI h9) b = (0, v, g') ∧ r = some (.int v) ∧ CI M' g') (fun X M' => M = M' ∧ (X = xIO ∧ spWork g (nI h9) b = (1, 0, g))) 0 0 → κ9.meth.sig.returnType = some .int → V κ9 idsC 4 M [some (.ref (κ9.E.ad (0, 0, 0))), some (.int (nI h9)), some (.int b), none] [] 15 := by
    intro hbx κ G9 G E9 hr
    clear G9
    have hs2 : spWork g (nI h9) b = (0, g.i 3 h9 1, g.set 3 h9 1 b) := by
      rw [hs, if_pos]
      rcases hbx with q | ⟨k, hk, rfl⟩
      · exact Or.inl q
      · right
        rw [ix_in hk (by omega)]
        rfl
    refine s_aload_n G dX5_work_15 rfl ?_
    refine gX5_10 G dX5_work_16 ?_
    refine gX5_58 G (by assumption) dX5_work_19 ?_
    refine s_iload_n G dX5_work_22 rfl ?_
    refine ar_7 G (by assumption) rfl (by first | assumption | omega) dX5_work_23 ?_
    refine gX5_62 G (by assumption) (by assumption) dX5_work_24 ?_
    rw [hC.1.he (k := 1) hh (by decide)]
    refine s_istore_n G dX5_work_27 (by decide) rfl ?_
    refine s_aload_n G dX5_work_28 rfl ?_
    refine gX5_10 G dX5_work_29 ?_
    refine s_iload_n G dX5_work_32 rfl ?_
    refine s_iload_n G dX5_work_33 rfl ?_
    refine iX5_67 G (by assumption) (c_send h0 hC.1 ⟨hb8, hh12⟩ hh hbx) (by decide) (Nat.le_of_ble_eq_true rfl) dX5_work_34 (fun r9 M9 hp9 => ?_)
    obtain ⟨rfl, hS2, hF2⟩ := hp9
    refine s_iload_n G dX5_work_37 rfl ?_
    refine sx_iret G E9 hr dX5_work_38 ⟨_, _, hs2, rfl, hC.of hS2 (hI.send hbx) hF2 rfl⟩
  refine s_icmp_eq G 15 dX5_work_7 (by decide) (fun h7 => ?_) (fun h7 => ?_)
  · exact fin (Or.inl h7) _ rfl G ⟨E9.choose, E9.choose_spec.choose, by obtain ⟨q1, q2, q3, q4, q5⟩ := E9.choose_spec.choose_spec; exact ⟨q1, by omega, by omega, q4, q5⟩⟩ hr
  · refine s_aload_n G dX5_work_10 rfl ?_
    refine s_iload_n G dX5_work_11 rfl ?_
    refine ixX5_55 G E9 (c_reqBooth hC b) (by decide) (Nat.le_of_ble_eq_true rfl) dX5_work_12 (fun X9 M9 hp9 => ⟨hp9.2.1, hp9.1, by rw [hs, if_neg]; rintro (q | q); exact h7 q; rw [ix_out (by omega) hp9.2.2] at q; cases q⟩) (fun r9 M9 hp9 => ?_)
    replace G := Good.add (a2 := 1) (b2 := 6) G E9
    replace E9 := EndsX.add (a2 := 1) (b2 := 6) E9
    obtain ⟨rfl, rfl, k, hk, hbk⟩ := hp9
    exact fin (Or.inr ⟨k, hk, hbk⟩) _ rfl G E9 hr
theorem f_bring (hC : CI M g) (b p : Int32) : RetX E idsC yX5_bring cX5_bring 4 (some .int) 7 112 3 18 [.ref (E.ad (0, 0, 0)), .int b, .int p] M (fun r M' => ∃ v g', spBring g b p = (0, v, g') ∧ r = some (.int v) ∧ CI M' g') (fun X M' => M = M' ∧ ((X = xIO ∧ spBring g b p = (1, 0, g)) ∨ (X = xIA ∧ spBring g b p = (2, 0, g)) ∨ (X = xIS ∧ spBring g b p = (3, 0, g)))) := by
  have h0 : 0 < 2 := by decide
  have hI := hC.2.1
  have hb8 := hI.nb8
  refine RetX_of_V RX5 (by decide) rfl idsC_nd [some (.ref (E.ad (0, 0, 0))), some (.int b), some (.int p), none] rfl (Nat.le_of_ble_eq_true rfl) (fun κ hE G E9 hr => ?_)
  subst hE
  refine s_aload_n G dX5_bring_0 rfl ?_
  refine s_iload_n G dX5_bring_1 rfl ?_
  refine ixX5_55 G E9 (c_reqBooth hC b) (by decide) (Nat.le_of_ble_eq_true rfl) dX5_bring_2 (fun X9 M9 hp9 => ⟨hp9.2.1, Or.inl ⟨hp9.1, by unfold spBring; rw [ix_out (by omega) hp9.2.2]⟩⟩) (fun r9 M9 hp9 => ?_)
  replace G := Good.add (a2 := 1) (b2 := 6) G E9
  replace E9 := EndsX.add (a2 := 1) (b2 := 6) E9
  obtain ⟨rfl, rfl, b9, hb, rfl⟩ := hp9
  have hb9 : b9 < 8 := by omega
  have hs : spBring g (nI b9) p = if ¬ inR p 1 99 then (2, 0, g) else if 99 < g.i 2 b9 2 + p then (3, 0, g) else (0, g.i 2 b9 2 + p, g.set 2 b9 2 (g.i 2 b9 2 + p)) := by
    unfold spBring
    rw [ix_in hb (by omega)]
  refine s_iload_n G dX5_bring_5 rfl ?_
  refine s_iconst (v := 1) G dX5_bring_6 (by decide) ?_
  refine s_bipush (v := 99) G dX5_bring_7 (by decide) ?_
  refine ixX5_19 G E9 (c_reqRange p 1 99) (by decide) (Nat.le_of_ble_eq_true rfl) dX5_bring_9 (fun X9 M9 hp9 => ⟨hp9.2.1, Or.inr (Or.inl ⟨hp9.1, by rw [hs, if_pos hp9.2.2]⟩)⟩) (fun r9 M9 hp9 => ?_)
  replace G := Good.add (a2 := 1) (b2 := 6) G E9
  replace E9 := EndsX.add (a2 := 1) (b2 := 6) E9
  obtain ⟨rfl, rfl, r1⟩ := hp9
  rw [if_neg (fun q => q r1)] at hs
  refine s_aload_n G dX5_bring_12 rfl ?_
  refine gX5_10 G dX5_bring_13 ?_
  refine gX5_71 G (by assumption) dX5_bring_16 ?_
  refine s_iload_n G dX5_bring_19 rfl ?_
  refine ar_6 G (by assumption) rfl (by first | assumption | omega) dX5_bring_20 ?_
  refine s_astore_n G dX5_bring_21 (by decide) rfl ?_
  refine s_aload_n G dX5_bring_22 rfl ?_
  refine gX5_75 G (by assumption) (by assumption) dX5_bring_23 ?_
  rw [hC.1.bo (k := 2) hb (by decide) (by decide)]
  refine s_iload_n G dX5_bring_26 rfl ?_
  refine s_iadd G dX5_bring_27 ?_
  refine s_bipush (v := 99) G dX5_bring_28 (by decide) ?_
  refine s_icmp_le G 43 dX5_bring_30 (by decide) (fun h30 => ?_) (fun h30 => ?_)
  rotate_left
  · refine s_throwIS G E9 "too many prizes for one booth" (by decide) dX5_bring_33 dX5_bring_36 dX5_bring_37 dX5_bring_39 dX5_bring_42 (by decide) (Nat.le_of_ble_eq_true rfl) ⟨rfl, Or.inr (Or.inr ⟨rfl, by rw [hs, if_pos (i_nle.mp h30)]⟩)⟩
  rw [if_neg (i_nlt.mpr h30)] at hs
  refine s_aload_n G dX5_bring_43 rfl ?_
  refine s_dup G dX5_bring_44 rfl ?_
  refine gX5_75 G (by assumption) (by assumption) dX5_bring_45 ?_
  rw [hC.1.bo (k := 2) hb (by decide) (by decide)]
  refine s_iload_n G dX5_bring_48 rfl ?_
  refine s_iadd G dX5_bring_49 ?_
  refine pX5_75 G (by assumption) (by assumption) dX5_bring_50 ?_
  refine s_aload_n G dX5_bring_53 rfl ?_
  refine gX5_75 G (by assumption) (by assumption) dX5_bring_54 ?_
  rw [up_at, if_pos rfl]
  have hpz := hI.bpz hb
  have hx : 0 ≤ g.i 2 b9 2 + p ∧ g.i 2 b9 2 + p ≤ 99 := by
    refine ⟨?_, h30⟩
    obtain ⟨j, hj, e⟩ := nI_of2 (M := 99) (n := 99) (by decide) (i_nlt.mpr hpz.1) hpz.2
    obtain ⟨k, hk1, hk, e2, -⟩ := inR_nat (n := 99) (by decide) r1
    rw [e, e2, nI_add]
    exact nI_pos' (by omega)
  refine sx_iret G E9 hr dX5_bring_57 ⟨_, _, hs, rfl, hC.of (hC.1.b2 (by decide) (by decide)) (hI.b2 (fun _ => hx)) (Fr.b2 Fr.rf hb) rfl⟩
theorem Inv.v4h (h : Inv g) {v : Nat} : Inv (g.set 4 v 2 0) := by
  obtain ⟨a1, a2, a3, a4, a5, a6, a7⟩ := h
  have ei : ∀ kd u k, ¬ (kd = 4 ∧ k = 2) → (g.set 4 v 2 0).i kd u k = g.i kd u k := fun kd u k q => by rw [gi_set, if_neg (by omega)]
  refine ⟨a1, fun h hh => ?_, fun u hu => ?_, fun b hb => ?_, a5, a6, a7⟩
  · rw [ei _ _ _ (by omega), ei _ _ _ (by omega)]; exact a2 h hh
  · obtain ⟨b1, b2, b3, b4⟩ := a3 u hu
    rw [ei 4 u 3 (by omega), gi_set]
    refine ⟨?_, b2, fun q => ?_, fun b hb => by rw [ei _ _ _ (by omega)]; exact b4 b hb⟩
    · split
      · exact Or.inl rfl
      · exact b1
    · split at q
      · exact absurd q (by decide)
      · exact b3 q
  · obtain ⟨b1, b2, b3⟩ := a4 b hb
    exact ⟨b1, fun u => by rw [ei _ _ _ (by omega)]; exact b2 u, by rw [ei _ _ _ (by omega)]; exact b3⟩
theorem f_sell (hC : CI M g) (v t : Int32) : RetX E idsC yX5_sell cX5_sell 4 (some .int) 7 112 2 12 [.ref (E.ad (0, 0, 0)), .int v, .int t] M (fun r M' => ∃ w g', spSell g v t = (0, w, g') ∧ r = some (.int w) ∧ CI M' g') (fun X M' => M = M' ∧ ((X = xIO ∧ spSell g v t = (1, 0, g)) ∨ (X = xIA ∧ spSell g v t = (2, 0, g)))) := by
  have h0 : 0 < 2 := by decide
  have hI := hC.2.1
  have hv16 := hI.nv16
  refine RetX_of_V RX5 (by decide) rfl idsC_nd [some (.ref (E.ad (0, 0, 0))), some (.int v), some (.int t), none] rfl (Nat.le_of_ble_eq_true rfl) (fun κ hE G E9 hr => ?_)
  subst hE
  refine s_aload_n G dX5_sell_0 rfl ?_
  refine s_iload_n G dX5_sell_1 rfl ?_
  refine ixX5_82 G E9 (c_reqVisitor hC v) (by decide) (Nat.le_of_ble_eq_true rfl) dX5_sell_2 (fun X9 M9 hp9 => ⟨hp9.2.1, Or.inl ⟨hp9.1, by unfold spSell; rw [ix_out (by omega) hp9.2.2]⟩⟩) (fun r9 M9 hp9 => ?_)
  replace G := Good.add (a2 := 1) (b2 := 6) G E9
  replace E9 := EndsX.add (a2 := 1) (b2 := 6) E9
  obtain ⟨rfl, rfl, b9, hb, rfl⟩ := hp9
  have hb9 : b9 < 16 := by omega
  have hs : spSell g (nI b9) t = if ¬ inR t 1 200 then (2, 0, g) else (0, g.i 4 b9 0 + t, (g.set 4 b9 0 (g.i 4 b9 0 + t)).set 4 b9 2 0) := by
    unfold spSell
    rw [ix_in hb (by omega)]
  refine s_iload_n G dX5_sell_5 rfl ?_
  refine s_iconst (v := 1) G dX5_sell_6 (by decide) ?_
  refine s_sipush (v := 200) G dX5_sell_7 (by decide) ?_
  refine ixX5_19 G E9 (c_reqRange t 1 200) (by decide) (Nat.le_of_ble_eq_true rfl) dX5_sell_10 (fun X9 M9 hp9 => ⟨hp9.2.1, Or.inr ⟨hp9.1, by rw [hs, if_pos hp9.2.2]⟩⟩) (fun r9 M9 hp9 => ?_)
  replace G := Good.add (a2 := 1) (b2 := 6) G E9
  replace E9 := EndsX.add (a2 := 1) (b2 := 6) E9
  obtain ⟨rfl, rfl, r1⟩ := hp9
  rw [if_neg (fun q => q r1)] at hs
  refine s_aload_n G dX5_sell_13 rfl ?_
  refine gX5_10 G dX5_sell_14 ?_
  refine gX5_85 G (by assumption) dX5_sell_17 ?_
  refine s_iload_n G dX5_sell_20 rfl ?_
  refine ar_8 G (by assumption) rfl (by first | assumption | omega) dX5_sell_21 ?_
  refine s_astore_n G dX5_sell_22 (by decide) rfl ?_
  refine s_aload_n G dX5_sell_23 rfl ?_
  refine s_dup G dX5_sell_24 rfl ?_
  refine gX5_89 G (by assumption) (by assumption) dX5_sell_25 ?_
  rw [hC.1.vi (k := 0) hb (by decide)]
  refine s_iload_n G dX5_sell_28 rfl ?_
  refine s_iadd G dX5_sell_29 ?_
  refine pX5_89 G (by assumption) (by assumption) dX5_sell_30 ?_
  refine s_aload_n G dX5_sell_33 rfl ?_
  refine s_iconst (v := 0) G dX5_sell_34 (by decide) ?_
  refine pX5_94 G (by assumption) (by assumption) (by decide) dX5_sell_35 ?_
  refine s_aload_n G dX5_sell_38 rfl ?_
  refine gX5_89 G (by assumption) (by assumption) dX5_sell_39 ?_
  rw [up_at, if_neg (by decide), up_at, if_pos rfl]
  refine sx_iret G E9 hr dX5_sell_42 ⟨_, _, hs, rfl, hC.of (hC.1.v4.v4) (hI.v4 (by decide) (by decide)).v4h (Fr.v4 (Fr.v4 Fr.rf hb) hb) rfl⟩
theorem f_leave (hC : CI M g) (v : Int32) : RetX E idsC yX5_leave cX5_leave 2 (some .int) 7 111 1 6 [.ref (E.ad (0, 0, 0)), .int v] M (fun r M' => ∃ w g', spLeave g v = (0, w, g') ∧ r = some (.int w) ∧ CI M' g') (fun X M' => M = M' ∧ (X = xIO ∧ spLeave g v = (1, 0, g))) := by
  have h0 : 0 < 2 := by decide
  have hI := hC.2.1
  have hv16 := hI.nv16
  refine RetX_of_V RX5 (by decide) rfl idsC_nd [some (.ref (E.ad (0, 0, 0))), some (.int v)] rfl (Nat.le_of_ble_eq_true rfl) (fun κ hE G E9 hr => ?_)
  subst hE
  refine s_aload_n G dX5_leave_0 rfl ?_
  refine s_iload_n G dX5_leave_1 rfl ?_
  refine ixX5_82 G E9 (c_reqVisitor hC v) (by decide) (Nat.le_of_ble_eq_true rfl) dX5_leave_2 (fun X9 M9 hp9 => ⟨hp9.2.1, hp9.1, by unfold spLeave; rw [ix_out (by omega) hp9.2.2]⟩) (fun r9 M9 hp9 => ?_)
  replace G := Good.add (a2 := 1) (b2 := 6) G E9
  replace E9 := EndsX.add (a2 := 1) (b2 := 6) E9
  obtain ⟨rfl, rfl, b9, hb, rfl⟩ := hp9
  refine s_aload_n G dX5_leave_5 rfl ?_
  refine gX5_10 G dX5_leave_6 ?_
  refine s_iload_n G dX5_leave_9 rfl ?_
  refine iX5_98 G (by assumption) (c_take h0 hC.1 hI hb) (by decide) (Nat.le_of_ble_eq_true rfl) dX5_leave_10 (fun r9 M9 hp9 => ?_)
  obtain ⟨rfl, hS2, hF2⟩ := hp9
  refine sx_iret G E9 hr dX5_leave_13 ⟨_, _, by unfold spLeave; rw [ix_in hb (by omega)], rfl, hC.of hS2 hI.leave hF2 rfl⟩
theorem f_booth (hC : CI M g) (b w : Int32) : RetX E idsC yX5_booth cX5_booth 3 (some .int) 7 111 2 12 [.ref (E.ad (0, 0, 0)), .int b, .int w] M (fun r M' => ∃ v g', spBooth g b w = (0, v, g') ∧ r = some (.int v) ∧ CI M' g') (fun X M' => M = M' ∧ (X = xIO ∧ spBooth g b w = (1, 0, g))) := by
  have h0 : 0 < 2 := by decide
  have hI := hC.2.1
  have hb8 := hI.nb8
  refine RetX_of_V RX5 (by decide) rfl idsC_nd [some (.ref (E.ad (0, 0, 0))), some (.int b), some (.int w)] rfl (Nat.le_of_ble_eq_true rfl) (fun κ hE G E9 hr => ?_)
  subst hE
  refine s_aload_n G dX5_booth_0 rfl ?_
  refine s_iload_n G dX5_booth_1 rfl ?_
  refine ixX5_55 G E9 (c_reqBooth hC b) (by decide) (Nat.le_of_ble_eq_true rfl) dX5_booth_2 (fun X9 M9 hp9 => ⟨hp9.2.1, hp9.1, by unfold spBooth; rw [ix_out (by omega) hp9.2.2]⟩) (fun r9 M9 hp9 => ?_)
  replace G := Good.add (a2 := 1) (b2 := 6) G E9
  replace E9 := EndsX.add (a2 := 1) (b2 := 6) E9
  obtain ⟨rfl, rfl, b9, hb, rfl⟩ := hp9
  refine s_iload_n G dX5_booth_5 rfl ?_
  refine s_bipush (v := 10) G dX5_booth_6 (by decide) ?_
  refine ixX5_102 G E9 (c_reqFact (n := 10) w (by decide)) (by decide) (Nat.le_of_ble_eq_true rfl) dX5_booth_8 (fun X9 M9 hp9 => ⟨hp9.2.1, hp9.1, by unfold spBooth; rw [ix_in hb (by omega), ix_out (by decide) hp9.2.2]⟩) (fun r9 M9 hp9 => ?_)
  replace G := Good.add (a2 := 1) (b2 := 6) G E9
  replace E9 := EndsX.add (a2 := 1) (b2 := 6) E9
  obtain ⟨rfl, rfl, k, hk, rfl⟩ := hp9
  refine s_aload_n G dX5_booth_11 rfl ?_
  refine gX5_10 G dX5_booth_12 ?_
  refine s_iload_n G dX5_booth_15 rfl ?_
  refine s_iload_n G dX5_booth_16 rfl ?_
  refine iX5_105 G (by assumption) (c_boothFact h0 hC.1 hI hb hk) (by decide) (Nat.le_of_ble_eq_true rfl) dX5_booth_17 (fun r9 M9 hp9 => ?_)
  obtain ⟨rfl, rfl⟩ := hp9
  refine sx_iret G E9 hr dX5_booth_20 ⟨_, _, by unfold spBooth; rw [ix_in hb (by omega), ix_in hk (by decide)], rfl, hC⟩
theorem f_queue (hC : CI M g) (b i : Int32) : RetX E idsC yX5_queue cX5_queue 4 (some .int) 7 111 2 12 [.ref (E.ad (0, 0, 0)), .int b, .int i] M (fun r M' => ∃ v g', spQueue g b i = (0, v, g') ∧ r = some (.int v) ∧ CI M' g') (fun X M' => M = M' ∧ (X = xIO ∧ spQueue g b i = (1, 0, g))) := by
  have h0 : 0 < 2 := by decide
  have hI := hC.2.1
  have hb8 := hI.nb8
  refine RetX_of_V RX5 (by decide) rfl idsC_nd [some (.ref (E.ad (0, 0, 0))), some (.int b), some (.int i), none] rfl (Nat.le_of_ble_eq_true rfl) (fun κ hE G E9 hr => ?_)
  subst hE
  refine s_aload_n G dX5_queue_0 rfl ?_
  refine s_iload_n G dX5_queue_1 rfl ?_
  refine ixX5_55 G E9 (c_reqBooth hC b) (by decide) (Nat.le_of_ble_eq_true rfl) dX5_queue_2 (fun X9 M9 hp9 => ⟨hp9.2.1, hp9.1, by unfold spQueue; rw [ix_out (by omega) hp9.2.2]⟩) (fun r9 M9 hp9 => ?_)
  replace G := Good.add (a2 := 1) (b2 := 6) G E9
  replace E9 := EndsX.add (a2 := 1) (b2 := 6) E9
  obtain ⟨rfl, rfl, b9, hb, rfl⟩ := hp9
  have hb9 : b9 < 8 := by omega
  have q16 := hI.ql16 hb
  have hs : spQueue g (nI b9) i = match ix (g.q b9).length i with
    | none => (1, 0, g)
    | some i => (0, nI ((g.q b9).getD i 0), g) := by
    unfold spQueue
    rw [ix_in hb (by omega)]
    rfl
  refine s_aload_n G dX5_queue_5 rfl ?_
  refine gX5_10 G dX5_queue_6 ?_
  refine gX5_71 G (by assumption) dX5_queue_9 ?_
  refine s_iload_n G dX5_queue_12 rfl ?_
  refine ar_6 G (by assumption) rfl (by first | assumption | omega) dX5_queue_13 ?_
  refine s_astore_n G dX5_queue_14 (by decide) rfl ?_
  refine s_iload_n G dX5_queue_15 rfl ?_
  refine s_if_lt G 27 dX5_queue_16 (by decide) (fun h16 => ?_) (fun h16 => ?_)
  · refine s_throwIO G E9 "no such place in the queue" (by decide) dX5_queue_27 dX5_queue_30 dX5_queue_31 dX5_queue_33 dX5_queue_36 (by decide) (Nat.le_of_ble_eq_true rfl) ⟨rfl, rfl, by rw [hs, ix_out (by omega) (fun k hk q => nI_pos (n := k) (by omega) (by rw [← q]; exact h16))]⟩
  refine s_iload_n G dX5_queue_19 rfl ?_
  refine s_aload_n G dX5_queue_20 rfl ?_
  refine gX5_108 G (by assumption) (by assumption) dX5_queue_21 ?_
  rw [hC.1.ql hb]
  refine s_icmp_lt G 37 dX5_queue_24 (by decide) (fun h24 => ?_) (fun h24 => ?_)
  rotate_left
  · refine s_throwIO G E9 "no such place in the queue" (by decide) dX5_queue_27 dX5_queue_30 dX5_queue_31 dX5_queue_33 dX5_queue_36 (by decide) (Nat.le_of_ble_eq_true rfl) ⟨rfl, rfl, by rw [hs, ix_out (by omega) (fun k hk q => h24 (by rw [q]; exact nI_lt hk (by omega)))]⟩
  obtain ⟨j, hj, rfl⟩ : ∃ j, j < (g.q b9).length ∧ i = nI j := ((pk_ix i (by omega)).resolve_left h16).resolve_left (i_nle.mpr h24)
  have hj16 : j < 16 := by omega
  refine s_aload_n G dX5_queue_37 rfl ?_
  refine gX5_116 G (by assumption) (by assumption) dX5_queue_38 ?_
  refine s_iload_n G dX5_queue_41 rfl ?_
  refine al_9 G (by assumption) (by assumption) rfl (by first | assumption | omega) dX5_queue_42 ?_
  rw [hC.1.qe hb (i := j) (u := (g.q b9)[j]) (List.getElem?_eq_getElem hj)]
  refine sx_iret G E9 hr dX5_queue_43 ⟨_, _, by rw [hs, ix_in hj (by omega)], by rw [List.getD_eq_getElem?_getD, List.getElem?_eq_getElem hj]; rfl, hC⟩
theorem f_helper (hC : CI M g) (h w : Int32) : RetX E idsC yX5_helper cX5_helper 3 (some .int) 7 111 2 12 [.ref (E.ad (0, 0, 0)), .int h, .int w] M (fun r M' => ∃ v g', spHelper g h w = (0, v, g') ∧ r = some (.int v) ∧ CI M' g') (fun X M' => M = M' ∧ (X = xIO ∧ spHelper g h w = (1, 0, g))) := by
  have h0 : 0 < 2 := by decide
  have hI := hC.2.1
  have hb8 := hI.nh12
  refine RetX_of_V RX5 (by decide) rfl idsC_nd [some (.ref (E.ad (0, 0, 0))), some (.int h), some (.int w)] rfl (Nat.le_of_ble_eq_true rfl) (fun κ hE G E9 hr => ?_)
  subst hE
  refine s_aload_n G dX5_helper_0 rfl ?_
  refine s_iload_n G dX5_helper_1 rfl ?_
  refine ixX5_51 G E9 (c_reqHelper hC h) (by decide) (Nat.le_of_ble_eq_true rfl) dX5_helper_2 (fun X9 M9 hp9 => ⟨hp9.2.1, hp9.1, by unfold spHelper; rw [ix_out (by omega) hp9.2.2]⟩) (fun r9 M9 hp9 => ?_)
  replace G := Good.add (a2 := 1) (b2 := 6) G E9
  replace E9 := EndsX.add (a2 := 1) (b2 := 6) E9
  obtain ⟨rfl, rfl, b9, hb, rfl⟩ := hp9
  have hb9 : b9 < 12 := by omega
  refine s_iload_n G dX5_helper_5 rfl ?_
  refine s_iconst (v := 3) G dX5_helper_6 (by decide) ?_
  refine ixX5_102 G E9 (c_reqFact (n := 3) w (by decide)) (by decide) (Nat.le_of_ble_eq_true rfl) dX5_helper_7 (fun X9 M9 hp9 => ⟨hp9.2.1, hp9.1, by unfold spHelper; rw [ix_in hb (by omega), ix_out (by decide) hp9.2.2]⟩) (fun r9 M9 hp9 => ?_)
  replace G := Good.add (a2 := 1) (b2 := 6) G E9
  replace E9 := EndsX.add (a2 := 1) (b2 := 6) E9
  obtain ⟨rfl, rfl, k, hk, rfl⟩ := hp9
  refine s_aload_n G dX5_helper_10 rfl ?_
  refine gX5_10 G dX5_helper_11 ?_
  refine gX5_58 G (by assumption) dX5_helper_14 ?_
  refine s_iload_n G dX5_helper_17 rfl ?_
  refine ar_7 G (by assumption) rfl (by first | assumption | omega) dX5_helper_18 ?_
  refine s_iload_n G dX5_helper_19 rfl ?_
  refine iX5_120 G (by assumption) (by assumption) (c_fact3 h0 hb9 hk) (by decide) (Nat.le_of_ble_eq_true rfl) dX5_helper_20 (fun r9 M9 hp9 => ?_)
  obtain ⟨rfl, rfl⟩ := hp9
  rw [hC.1.he hb hk]
  refine sx_iret G E9 hr dX5_helper_23 ⟨_, _, by unfold spHelper; rw [ix_in hb (by omega), ix_in hk (by decide)], rfl, hC⟩
theorem f_visitor (hC : CI M g) (v w : Int32) : RetX E idsC yX5_visitor cX5_visitor 3 (some .int) 7 111 2 12 [.ref (E.ad (0, 0, 0)), .int v, .int w] M (fun r M' => ∃ x g', spVisitor g v w = (0, x, g') ∧ r = some (.int x) ∧ CI M' g') (fun X M' => M = M' ∧ (X = xIO ∧ spVisitor g v w = (1, 0, g))) := by
  have h0 : 0 < 2 := by decide
  have hI := hC.2.1
  have hb8 := hI.nv16
  refine RetX_of_V RX5 (by decide) rfl idsC_nd [some (.ref (E.ad (0, 0, 0))), some (.int v), some (.int w)] rfl (Nat.le_of_ble_eq_true rfl) (fun κ hE G E9 hr => ?_)
  subst hE
  refine s_aload_n G dX5_visitor_0 rfl ?_
  refine s_iload_n G dX5_visitor_1 rfl ?_
  refine ixX5_82 G E9 (c_reqVisitor hC v) (by decide) (Nat.le_of_ble_eq_true rfl) dX5_visitor_2 (fun X9 M9 hp9 => ⟨hp9.2.1, hp9.1, by unfold spVisitor; rw [ix_out (by omega) hp9.2.2]⟩) (fun r9 M9 hp9 => ?_)
  replace G := Good.add (a2 := 1) (b2 := 6) G E9
  replace E9 := EndsX.add (a2 := 1) (b2 := 6) E9
  obtain ⟨rfl, rfl, b9, hb, rfl⟩ := hp9
  have hb9 : b9 < 16 := by omega
  refine s_iload_n G dX5_visitor_5 rfl ?_
  refine s_bipush (v := 8) G dX5_visitor_6 (by decide) ?_
  refine ixX5_102 G E9 (c_reqFact (n := 8) w (by decide)) (by decide) (Nat.le_of_ble_eq_true rfl) dX5_visitor_8 (fun X9 M9 hp9 => ⟨hp9.2.1, hp9.1, by unfold spVisitor; rw [ix_in hb (by omega), ix_out (by decide) hp9.2.2]⟩) (fun r9 M9 hp9 => ?_)
  replace G := Good.add (a2 := 1) (b2 := 6) G E9
  replace E9 := EndsX.add (a2 := 1) (b2 := 6) E9
  obtain ⟨rfl, rfl, k, hk, rfl⟩ := hp9
  refine s_aload_n G dX5_visitor_11 rfl ?_
  refine gX5_10 G dX5_visitor_12 ?_
  refine gX5_85 G (by assumption) dX5_visitor_15 ?_
  refine s_iload_n G dX5_visitor_18 rfl ?_
  refine ar_8 G (by assumption) rfl (by first | assumption | omega) dX5_visitor_19 ?_
  refine s_iload_n G dX5_visitor_20 rfl ?_
  refine iX5_123 G (by assumption) (by assumption) (c_fact4 h0 hC.1 hI hb hk) (by decide) (Nat.le_of_ble_eq_true rfl) dX5_visitor_21 (fun r9 M9 hp9 => ?_)
  obtain ⟨rfl, rfl⟩ := hp9
  refine sx_iret G E9 hr dX5_visitor_24 ⟨_, _, by unfold spVisitor; rw [ix_in hb (by omega), ix_in hk (by decide)], rfl, hC⟩
theorem f_practice (hC : CI M g) (v b : Int32) : RetX E idsC yX5_practice cX5_practice 3 (some .int) 7 111 2 12 [.ref (E.ad (0, 0, 0)), .int v, .int b] M (fun r M' => ∃ x g', spPractice g v b = (0, x, g') ∧ r = some (.int x) ∧ CI M' g') (fun X M' => M = M' ∧ (X = xIO ∧ spPractice g v b = (1, 0, g))) := by
  have h0 : 0 < 2 := by decide
  have hI := hC.2.1
  have hb8 := hI.nv16
  have hb8 := hI.nb8
  refine RetX_of_V RX5 (by decide) rfl idsC_nd [some (.ref (E.ad (0, 0, 0))), some (.int v), some (.int b)] rfl (Nat.le_of_ble_eq_true rfl) (fun κ hE G E9 hr => ?_)
  subst hE
  refine s_aload_n G dX5_practice_0 rfl ?_
  refine s_iload_n G dX5_practice_1 rfl ?_
  refine ixX5_82 G E9 (c_reqVisitor hC v) (by decide) (Nat.le_of_ble_eq_true rfl) dX5_practice_2 (fun X9 M9 hp9 => ⟨hp9.2.1, hp9.1, by unfold spPractice; rw [ix_out (by omega) hp9.2.2]⟩) (fun r9 M9 hp9 => ?_)
  replace G := Good.add (a2 := 1) (b2 := 6) G E9
  replace E9 := EndsX.add (a2 := 1) (b2 := 6) E9
  obtain ⟨rfl, rfl, v9, hv, rfl⟩ := hp9
  have hv9 : v9 < 16 := by omega
  refine s_aload_n G dX5_practice_5 rfl ?_
  refine s_iload_n G dX5_practice_6 rfl ?_
  refine ixX5_55 G E9 (c_reqBooth hC b) (by decide) (Nat.le_of_ble_eq_true rfl) dX5_practice_7 (fun X9 M9 hp9 => ⟨hp9.2.1, hp9.1, by unfold spPractice; rw [ix_in hv (by omega), ix_out (by omega) hp9.2.2]⟩) (fun r9 M9 hp9 => ?_)
  replace G := Good.add (a2 := 1) (b2 := 6) G E9
  replace E9 := EndsX.add (a2 := 1) (b2 := 6) E9
  obtain ⟨rfl, rfl, b9, hb, rfl⟩ := hp9
  have hb9 : b9 < 8 := by omega
  refine s_aload_n G dX5_practice_10 rfl ?_
  refine gX5_10 G dX5_practice_11 ?_
  refine gX5_85 G (by assumption) dX5_practice_14 ?_
  refine s_iload_n G dX5_practice_17 rfl ?_
  refine ar_8 G (by assumption) rfl (by first | assumption | omega) dX5_practice_18 ?_
  refine gX5_124 G (by assumption) (by assumption) dX5_practice_19 ?_
  refine s_iload_n G dX5_practice_22 rfl ?_
  refine al_10 G (by assumption) (by assumption) rfl (by first | assumption | omega) dX5_practice_23 ?_
  rw [hC.1.pr hv hb9]
  refine sx_iret G E9 hr dX5_practice_24 ⟨_, _, by unfold spPractice; rw [ix_in hv (by omega), ix_in hb (by omega)], rfl, hC⟩
theorem f_board (hC : CI M g) (l w : Int32) : RetX E idsC yX5_board cX5_board 3 (some .int) 7 111 2 12 [.ref (E.ad (0, 0, 0)), .int l, .int w] M (fun r M' => ∃ x g', spBoard g l w = (0, x, g') ∧ r = some (.int x) ∧ CI M' g') (fun X M' => M = M' ∧ (X = xIO ∧ spBoard g l w = (1, 0, g))) := by
  have h0 : 0 < 2 := by decide
  have hI := hC.2.1
  have l3 := hI.bd3
  refine RetX_of_V RX5 (by decide) rfl idsC_nd [some (.ref (E.ad (0, 0, 0))), some (.int l), some (.int w)] rfl (Nat.le_of_ble_eq_true rfl) (fun κ hE G E9 hr => ?_)
  subst hE
  refine s_iload_n G dX5_board_0 rfl ?_
  refine s_if_lt G 18 dX5_board_1 (by decide) (fun h1 => ?_) (fun h1 => ?_)
  · refine s_throwIO G E9 "no such line" (by decide) dX5_board_18 dX5_board_21 dX5_board_22 dX5_board_24 dX5_board_27 (by decide) (Nat.le_of_ble_eq_true rfl) ⟨rfl, rfl, by unfold spBoard; rw [ix_out (by omega) (fun k hk q => nI_pos (n := k) (by omega) (by rw [← q]; exact h1))]⟩
  refine s_iload_n G dX5_board_4 rfl ?_
  refine s_aload_n G dX5_board_5 rfl ?_
  refine gX5_10 G dX5_board_6 ?_
  refine gX5_127 G (by assumption) dX5_board_9 ?_
  refine gX5_131 G (by assumption) dX5_board_12 ?_
  rw [hC.1.bdl]
  refine s_icmp_lt G 28 dX5_board_15 (by decide) (fun h15 => ?_) (fun h15 => ?_)
  rotate_left
  · refine s_throwIO G E9 "no such line" (by decide) dX5_board_18 dX5_board_21 dX5_board_22 dX5_board_24 dX5_board_27 (by decide) (Nat.le_of_ble_eq_true rfl) ⟨rfl, rfl, by unfold spBoard; rw [ix_out (by omega) (fun k hk q => h15 (by rw [q]; exact nI_lt hk (by omega)))]⟩
  obtain ⟨j, hj, rfl⟩ : ∃ j, j < g.bd.length ∧ l = nI j := ((pk_ix l (by omega)).resolve_left h1).resolve_left (i_nle.mpr h15)
  refine s_iload_n G dX5_board_28 rfl ?_
  refine s_iconst (v := 3) G dX5_board_29 (by decide) ?_
  refine ixX5_102 G E9 (c_reqFact (n := 3) w (by decide)) (by decide) (Nat.le_of_ble_eq_true rfl) dX5_board_30 (fun X9 M9 hp9 => ⟨hp9.2.1, hp9.1, by unfold spBoard; rw [ix_in hj (by omega), ix_out (by decide) hp9.2.2]⟩) (fun r9 M9 hp9 => ?_)
  replace G := Good.add (a2 := 1) (b2 := 6) G E9
  replace E9 := EndsX.add (a2 := 1) (b2 := 6) E9
  obtain ⟨rfl, rfl, k, hk, rfl⟩ := hp9
  refine s_aload_n G dX5_board_33 rfl ?_
  refine gX5_10 G dX5_board_34 ?_
  refine gX5_127 G (by assumption) dX5_board_37 ?_
  refine s_iload_n G dX5_board_40 rfl ?_
  refine s_iload_n G dX5_board_41 rfl ?_
  refine iX5_138 G (by assumption) (c_fact1 h0 hC.1 hI (List.getElem?_eq_getElem hj) hk) (by decide) (Nat.le_of_ble_eq_true rfl) dX5_board_42 (fun r9 M9 hp9 => ?_)
  obtain ⟨rfl, rfl⟩ := hp9
  refine sx_iret G E9 hr dX5_board_45 ⟨_, _, by unfold spBoard; rw [ix_in hj (by omega), ix_in hk (by decide)], by rw [List.getD_eq_getElem?_getD, List.getElem?_eq_getElem hj]; rfl, hC⟩
theorem f_pass (hC : CI M g) (n : Int32) : RetX E idsC yX5_pass cX5_pass 2 (some .int) 7 141 1 6 [.ref (E.ad (0, 0, 0)), .int n] M (fun r M' => ∃ v g', spPass g n = (0, v, g') ∧ r = some (.int v) ∧ CI M' g') (fun X M' => M = M' ∧ (X = xIA ∧ spPass g n = (1, 0, g))) := by
  have h0 : 0 < 2 := by decide
  have hI := hC.2.1
  refine RetX_of_V RX5 (by decide) rfl idsC_nd [some (.ref (E.ad (0, 0, 0))), some (.int n)] rfl (Nat.le_of_ble_eq_true rfl) (fun κ hE G E9 hr => ?_)
  subst hE
  refine s_iload_n G dX5_pass_0 rfl ?_
  refine s_iconst (v := 1) G dX5_pass_1 (by decide) ?_
  refine s_sipush (v := 200) G dX5_pass_2 (by decide) ?_
  refine ixX5_19 G E9 (c_reqRange n 1 200) (by decide) (Nat.le_of_ble_eq_true rfl) dX5_pass_5 (fun X9 M9 hp9 => ⟨hp9.2.1, hp9.1, by unfold spPass; rw [if_pos hp9.2.2]⟩) (fun r9 M9 hp9 => ?_)
  replace G := Good.add (a2 := 1) (b2 := 6) G E9
  replace E9 := EndsX.add (a2 := 1) (b2 := 6) E9
  obtain ⟨rfl, rfl, r1⟩ := hp9
  have hs : spPass g n = (0, (rounds9 g n.toNatClampNeg).i 1 0 10 - g.i 1 0 10, rounds9 g n.toNatClampNeg) := by
    unfold spPass
    rw [if_neg (fun q => q r1)]
  obtain ⟨k, hk1, hk2, rfl, hk4⟩ := inR_nat (n := 200) (by decide) r1
  rw [hk4] at hs
  refine s_aload_n G dX5_pass_8 rfl ?_
  refine gX5_10 G dX5_pass_9 ?_
  refine s_iload_n G dX5_pass_12 rfl ?_
  refine iX5_140 G (by assumption) (c_goOn (k := k) h0 hC.1 hI (by omega)) (by decide) (Nat.le_of_ble_eq_true rfl) dX5_pass_13 (fun r9 M9 hp9 => ?_)
  obtain ⟨rfl, hS2, hF2⟩ := hp9
  refine sx_iret G E9 hr dX5_pass_16 ⟨_, _, hs, rfl, hC.of hS2 (hI.rounds k) hF2 (rounds_n k)⟩
theorem f_count (hC : CI M g) (w : Int32) : RetX E idsC yX5_count cX5_count 2 (some .int) 7 111 1 6 [.ref (E.ad (0, 0, 0)), .int w] M (fun r M' => ∃ v g', spCount g w = (0, v, g') ∧ r = some (.int v) ∧ CI M' g') (fun X M' => M = M' ∧ (X = xIO ∧ spCount g w = (1, 0, g))) := by
  have h0 : 0 < 2 := by decide
  have hI := hC.2.1
  refine RetX_of_V RX5 (by decide) rfl idsC_nd [some (.ref (E.ad (0, 0, 0))), some (.int w)] rfl (Nat.le_of_ble_eq_true rfl) (fun κ hE G E9 hr => ?_)
  subst hE
  refine s_iload_n G dX5_count_0 rfl ?_
  refine s_bipush (v := 11) G dX5_count_1 (by decide) ?_
  refine ixX5_102 G E9 (c_reqFact (n := 11) w (by decide)) (by decide) (Nat.le_of_ble_eq_true rfl) dX5_count_3 (fun X9 M9 hp9 => ⟨hp9.2.1, hp9.1, by unfold spCount; rw [ix_out (by decide) hp9.2.2]⟩) (fun r9 M9 hp9 => ?_)
  replace G := Good.add (a2 := 1) (b2 := 6) G E9
  replace E9 := EndsX.add (a2 := 1) (b2 := 6) E9
  obtain ⟨rfl, rfl, k, hk, rfl⟩ := hp9
  refine s_aload_n G dX5_count_6 rfl ?_
  refine gX5_10 G dX5_count_7 ?_
  refine s_iload_n G dX5_count_10 rfl ?_
  refine iX5_143 G (by assumption) (c_total h0 hC.1 hI hk) (by decide) (Nat.le_of_ble_eq_true rfl) dX5_count_11 (fun r9 M9 hp9 => ?_)
  obtain ⟨rfl, rfl⟩ := hp9
  refine sx_iret G E9 hr dX5_count_14 ⟨_, _, by unfold spCount; rw [ix_in hk (by decide)], rfl, hC⟩
theorem f_foresee (hC : CI M g) (v n w : Int32) : RetX E idsC yX5_foresee cX5_foresee 4 (some .int) 7 141 3 18 [.ref (E.ad (0, 0, 0)), .int v, .int n, .int w] M (fun r M' => ∃ x g', spForesee g v n w = (0, x, g') ∧ r = some (.int x) ∧ CI M' g') (fun X M' => M = M' ∧ ((X = xIO ∧ spForesee g v n w = (1, 0, g)) ∨ (X = xIA ∧ spForesee g v n w = (2, 0, g)))) := by
  have h0 : 0 < 2 := by decide
  have h19 : 1 < 2 := by decide
  have hI := hC.2.1
  have hb8 := hI.nv16
  refine RetX_of_V RX5 (by decide) rfl idsC_nd [some (.ref (E.ad (0, 0, 0))), some (.int v), some (.int n), some (.int w)] rfl (Nat.le_of_ble_eq_true rfl) (fun κ hE G E9 hr => ?_)
  subst hE
  refine s_aload_n G dX5_foresee_0 rfl ?_
  refine s_iload_n G dX5_foresee_1 rfl ?_
  refine ixX5_82 G E9 (c_reqVisitor hC v) (by decide) (Nat.le_of_ble_eq_true rfl) dX5_foresee_2 (fun X9 M9 hp9 => ⟨hp9.2.1, Or.inl ⟨hp9.1, by unfold spForesee; rw [ix_out (by omega) hp9.2.2]⟩⟩) (fun r9 M9 hp9 => ?_)
  replace G := Good.add (a2 := 1) (b2 := 6) G E9
  replace E9 := EndsX.add (a2 := 1) (b2 := 6) E9
  obtain ⟨rfl, rfl, v9, hv, rfl⟩ := hp9
  have hv9 : v9 < 16 := by omega
  refine s_iload_n G dX5_foresee_5 rfl ?_
  refine s_iconst (v := 3) G dX5_foresee_6 (by decide) ?_
  refine ixX5_102 G E9 (c_reqFact (n := 3) w (by decide)) (by decide) (Nat.le_of_ble_eq_true rfl) dX5_foresee_7 (fun X9 M9 hp9 => ⟨hp9.2.1, Or.inl ⟨hp9.1, by unfold spForesee; rw [ix_in hv (by omega), ix_out (by decide) hp9.2.2]⟩⟩) (fun r9 M9 hp9 => ?_)
  replace G := Good.add (a2 := 1) (b2 := 6) G E9
  replace E9 := EndsX.add (a2 := 1) (b2 := 6) E9
  obtain ⟨rfl, rfl, k, hk, rfl⟩ := hp9
  have hs : spForesee g (nI v9) n (nI k) = if ¬ inR n 1 100 then (2, 0, g) else (0, ffc (rounds9 g n.toNatClampNeg) v9 k, g) := by
    unfold spForesee
    rw [ix_in hv (by omega), ix_in hk (by decide)]
  refine s_iload_n G dX5_foresee_10 rfl ?_
  refine s_iconst (v := 1) G dX5_foresee_11 (by decide) ?_
  refine s_bipush (v := 100) G dX5_foresee_12 (by decide) ?_
  refine ixX5_19 G E9 (c_reqRange n 1 100) (by decide) (Nat.le_of_ble_eq_true rfl) dX5_foresee_14 (fun X9 M9 hp9 => ⟨hp9.2.1, Or.inr ⟨hp9.1, by rw [hs, if_pos hp9.2.2]⟩⟩) (fun r9 M9 hp9 => ?_)
  replace G := Good.add (a2 := 1) (b2 := 6) G E9
  replace E9 := EndsX.add (a2 := 1) (b2 := 6) E9
  obtain ⟨rfl, rfl, r1⟩ := hp9
  rw [if_neg (fun q => q r1)] at hs
  obtain ⟨m, hm1, hm2, rfl, hm4⟩ := inR_nat (n := 100) (by decide) r1
  rw [hm4] at hs
  refine s_aload_n G dX5_foresee_17 rfl ?_
  refine gX5_16 G dX5_foresee_18 ?_
  refine s_aload_n G dX5_foresee_21 rfl ?_
  refine gX5_10 G dX5_foresee_22 ?_
  refine iX5_146 G (by assumption) (c_copy2 hC.1 hI) (by decide) (Nat.le_of_ble_eq_true rfl) dX5_foresee_25 (fun r9 M9 hp9 => ?_)
  obtain ⟨rfl, hS1, ho1⟩ := hp9
  refine s_aload_n G dX5_foresee_28 rfl ?_
  refine gX5_16 G dX5_foresee_29 ?_
  refine s_iload_n G dX5_foresee_32 rfl ?_
  refine iX5_140 G (by assumption) (c_goOn (k := m) h19 hS1 hI (by omega)) (by decide) (Nat.le_of_ble_eq_true rfl) dX5_foresee_33 (fun r9 M9 hp9 => ?_)
  obtain ⟨rfl, hS2, hF2⟩ := hp9
  have hv2 : v9 < (rounds9 g m).nv := by rw [nv_of (rounds_n m)]; exact hv
  refine s_pop G dX5_foresee_36 rfl ?_
  refine s_aload_n G dX5_foresee_37 rfl ?_
  refine gX5_16 G dX5_foresee_38 ?_
  refine gX5_85 G (by assumption) dX5_foresee_41 ?_
  refine s_iload_n G dX5_foresee_44 rfl ?_
  refine ar_8 G (by assumption) rfl (by first | assumption | omega) dX5_foresee_45 ?_
  refine s_iload_n G dX5_foresee_46 rfl ?_
  refine iX5_150 G (by assumption) (by assumption) (c_ffact h19 hS2 (hI.rounds m) hv2 hk) (by decide) (Nat.le_of_ble_eq_true rfl) dX5_foresee_47 (fun r9 M9 hp9 => ?_)
  obtain ⟨rfl, rfl⟩ := hp9
  refine sx_iret G E9 hr dX5_foresee_50 ⟨_, _, hs, rfl, hC.same (fun kd a => (hF2 kd 0 a (Or.inl (by decide))).trans (ho1 kd 0 a (by decide)))⟩
theorem f_closes (hC : CI M g) (b : Int32) : RetX E idsC yX5_closes cX5_closes 3 (some .int) 7 118 1 6 [.ref (E.ad (0, 0, 0)), .int b] M (fun r M' => ∃ v g', spCloses g b = (0, v, g') ∧ r = some (.int v) ∧ CI M' g') (fun X M' => M = M' ∧ (X = xIO ∧ spCloses g b = (1, 0, g))) := by
  have h0 : 0 < 2 := by decide
  have h19 : 1 < 2 := by decide
  have hI := hC.2.1
  have hb8 := hI.nb8
  refine RetX_of_V RX5 (by decide) rfl idsC_nd [some (.ref (E.ad (0, 0, 0))), some (.int b), none] rfl (Nat.le_of_ble_eq_true rfl) (fun κ hE G E9 hr => ?_)
  subst hE
  refine s_aload_n G dX5_closes_0 rfl ?_
  refine s_iload_n G dX5_closes_1 rfl ?_
  refine ixX5_55 G E9 (c_reqBooth hC b) (by decide) (Nat.le_of_ble_eq_true rfl) dX5_closes_2 (fun X9 M9 hp9 => ⟨hp9.2.1, hp9.1, by unfold spCloses; rw [ix_out (by omega) hp9.2.2]⟩) (fun r9 M9 hp9 => ?_)
  replace G := Good.add (a2 := 1) (b2 := 6) G E9
  replace E9 := EndsX.add (a2 := 1) (b2 := 6) E9
  obtain ⟨rfl, rfl, b9, hb, rfl⟩ := hp9
  have hb9 : b9 < 8 := by omega
  have hs : spCloses g (nI b9) = (0, clsN g b9 0 101, g) := by
    unfold spCloses
    rw [ix_in hb (by omega)]
  refine s_aload_n G dX5_closes_5 rfl ?_
  refine gX5_16 G dX5_closes_6 ?_
  refine s_aload_n G dX5_closes_9 rfl ?_
  refine gX5_10 G dX5_closes_10 ?_
  refine iX5_146 G (by assumption) (c_copy2 hC.1 hI) (by decide) (Nat.le_of_ble_eq_true rfl) dX5_closes_13 (fun r9 M9 hp9 => ?_)
  obtain ⟨rfl, hS1, ho1⟩ := hp9
  have loop : ∀ n k, k + n = 101 → ∀ M2 : Mem, SimC 1 M2 (rounds9 g k) → (∀ kd a, M2 (kd, 0, a) = M (kd, 0, a)) → clsN g b9 k n = clsN g b9 0 101 → V (κ.add 1 6) idsC 3 M2 [some (.ref (κ.E.ad (0, 0, 0))), some (.int (nI b9)), some (.int (nI k))] [] 18 := by
    intro n
    induction n with
    | zero =>
      intro k hk M2 hS2 hM2 hc
      have hk : k = 101 := by omega
      subst hk
      refine s_iload_n G dX5_closes_18 rfl ?_
      refine s_bipush (v := 100) G dX5_closes_19 (by decide) ?_
      refine s_icmp_gt G 54 dX5_closes_21 (by decide) (fun h21 => ?_) (fun h21 => ?_)
      · refine s_iconst (v := -1) G dX5_closes_54 (by decide) ?_
        refine sx_iret G E9 hr dX5_closes_55 ⟨_, _, by rw [hs, ← hc]; rfl, rfl, hC.same hM2⟩
      · exact absurd (show ((100 : Int32) < nI 101) by decide) h21
    | succ n ih =>
      intro k hk M2 hS2 hM2 hc
      have hkl : k ≤ 100 := by omega
      have hb2 : b9 < (rounds9 g k).nb := by rw [nb_of (rounds_n k)]; exact hb
      have hI2 := hI.rounds k
      refine s_iload_n G dX5_closes_18 rfl ?_
      refine s_bipush (v := 100) G dX5_closes_19 (by decide) ?_
      refine s_icmp_gt G 54 dX5_closes_21 (by decide) (fun h21 => ?_) (fun h21 => ?_)
      · exact absurd h21 (nI_nlt (b := k) (a := 100) hkl (by decide))
      refine s_aload_n G dX5_closes_24 rfl ?_
      refine gX5_16 G dX5_closes_25 ?_
      refine gX5_71 G (by assumption) dX5_closes_28 ?_
      refine s_iload_n G dX5_closes_31 rfl ?_
      refine ar_6 G (by assumption) rfl (by first | assumption | omega) dX5_closes_32 ?_
      refine iX5_153 G (by assumption) (by assumption) (c_isOpenG h19 hS2 hI2 hb2) (by decide) (Nat.le_of_ble_eq_true rfl) dX5_closes_33 (fun r9 M9 hp9 => ?_)
      obtain ⟨rfl, rfl⟩ := hp9
      rw [clsN] at hc
      refine s_if_ne G 41 dX5_closes_36 (by decide) (fun h36 => ?_) (fun h36 => ?_)
      · have ho : opn (rounds9 g k) b9 := Decidable.byContradiction (fun q => h36 (by rw [if_neg q]))
        rw [if_pos ho] at hc
        refine s_aload_n G dX5_closes_41 rfl ?_
        refine gX5_16 G dX5_closes_42 ?_
        refine iX5_157 G (by assumption) (c_round h19 hS2 hI2) (by decide) (Nat.le_of_ble_eq_true rfl) dX5_closes_45 (fun r9 M9 hp9 => ?_)
        obtain ⟨rfl, hS3, hF3⟩ := hp9
        refine s_iinc G dX5_closes_48 rfl (by decide) rfl (nI_1 k) ?_
        refine s_goto G 18 dX5_closes_51 (by decide) ?_
        exact ih (k + 1) (by omega) _ hS3 (fun kd a => (hF3 kd 0 a (Or.inl (by decide))).trans (hM2 kd a)) hc
      · have ho : ¬ opn (rounds9 g k) b9 := fun q => by rw [if_pos q] at h36; exact absurd h36 (by decide)
        rw [if_neg ho] at hc
        refine s_iload_n G dX5_closes_39 rfl ?_
        refine sx_iret G E9 hr dX5_closes_40 ⟨_, _, by rw [hs, ← hc], rfl, hC.same hM2⟩
  refine s_iconst (v := 0) G dX5_closes_16 (by decide) ?_
  refine s_istore_n G dX5_closes_17 (by decide) rfl ?_
  exact loop 101 0 (by omega) _ hS1 (fun kd a => ho1 kd 0 a (by decide)) rfl
theorem c_pww {h n : Nat} {x : Int32} (hC : CI M g) (hh : h < g.nh) (hx : x = -1 ∨ ∃ b, b < g.nb ∧ x = nI b) (hn : n < 2 ^ 31) : Ret E idsC yX5_prizesWonWith cX5_prizesWonWith 4 (some .int) 6 141 [.ref (E.ad (0, 0, 0)), .int (nI h), .int x, .int (nI n)] M (fun r M' => r = some (.int (wonW g h x n)) ∧ ∀ kd a, M' (kd, 0, a) = M (kd, 0, a)) := by
  have h0 : 0 < 2 := by decide
  have h19 : 1 < 2 := by decide
  have hI := hC.2.1
  refine Ret_of_V RX5 (by decide) rfl idsC_nd [some (.ref (E.ad (0, 0, 0))), some (.int (nI h)), some (.int x), some (.int (nI n))] rfl (Nat.le_of_ble_eq_true rfl) (fun κ hE G E9 hr => ?_)
  subst hE
  refine s_aload_n G dX5_prizesWonWith_0 rfl ?_
  refine gX5_16 G dX5_prizesWonWith_1 ?_
  refine s_aload_n G dX5_prizesWonWith_4 rfl ?_
  refine gX5_10 G dX5_prizesWonWith_5 ?_
  refine iX5_146 G (by assumption) (c_copy2 hC.1 hI) (by decide) (Nat.le_of_ble_eq_true rfl) dX5_prizesWonWith_8 (fun r9 M9 hp9 => ?_)
  obtain ⟨rfl, hS1, ho1⟩ := hp9
  refine s_aload_n G dX5_prizesWonWith_11 rfl ?_
  refine gX5_16 G dX5_prizesWonWith_12 ?_
  refine s_iload_n G dX5_prizesWonWith_15 rfl ?_
  refine s_iload_n G dX5_prizesWonWith_16 rfl ?_
  refine iX5_67 G (by assumption) (c_send h19 hS1 ⟨hI.nb8, hI.nh12⟩ hh hx) (by decide) (Nat.le_of_ble_eq_true rfl) dX5_prizesWonWith_17 (fun r9 M9 hp9 => ?_)
  obtain ⟨rfl, hS2, hF2⟩ := hp9
  refine s_aload_n G dX5_prizesWonWith_20 rfl ?_
  refine gX5_16 G dX5_prizesWonWith_21 ?_
  refine s_iload_n G dX5_prizesWonWith_24 rfl ?_
  refine iX5_140 G (by assumption) (c_goOn (k := n) h19 hS2 (hI.send hx) hn) (by decide) (Nat.le_of_ble_eq_true rfl) dX5_prizesWonWith_25 (fun r9 M9 hp9 => ?_)
  obtain ⟨rfl, hS3, hF3⟩ := hp9
  refine s_iret G E9 hr dX5_prizesWonWith_28 ⟨rfl, fun kd a => ((hF3 kd 0 a (Or.inl (by decide))).trans (hF2 kd 0 a (Or.inl (by decide)))).trans (ho1 kd 0 a (by decide))⟩
theorem f_advise (hC : CI M g) (h n : Int32) : RetX E idsC yX5_advise cX5_advise 7 (some .int) 7 164 2 12 [.ref (E.ad (0, 0, 0)), .int h, .int n] M (fun r M' => ∃ v g', spAdvise g h n = (0, v, g') ∧ r = some (.int v) ∧ CI M' g') (fun X M' => M = M' ∧ ((X = xIO ∧ spAdvise g h n = (1, 0, g)) ∨ (X = xIA ∧ spAdvise g h n = (2, 0, g)))) := by
  have h0 : 0 < 2 := by decide
  have hI := hC.2.1
  have hb8 := hI.nb8
  have hh12 := hI.nh12
  refine RetX_of_V RX5 (by decide) rfl idsC_nd [some (.ref (E.ad (0, 0, 0))), some (.int h), some (.int n), none, none, none, none] rfl (Nat.le_of_ble_eq_true rfl) (fun κ hE G E9 hr => ?_)
  subst hE
  refine s_aload_n G dX5_advise_0 rfl ?_
  refine s_iload_n G dX5_advise_1 rfl ?_
  refine ixX5_51 G E9 (c_reqHelper hC h) (by decide) (Nat.le_of_ble_eq_true rfl) dX5_advise_2 (fun X9 M9 hp9 => ⟨hp9.2.1, Or.inl ⟨hp9.1, by unfold spAdvise; rw [ix_out (by omega) hp9.2.2]⟩⟩) (fun r9 M9 hp9 => ?_)
  replace G := Good.add (a2 := 1) (b2 := 6) G E9
  replace E9 := EndsX.add (a2 := 1) (b2 := 6) E9
  obtain ⟨rfl, rfl, h9, hh, rfl⟩ := hp9
  have hs : spAdvise g (nI h9) n = if ¬ inR n 1 60 then (2, 0, g) else (0, (advN g h9 n.toNatClampNeg g.nb).1, g) := by
    unfold spAdvise
    rw [ix_in hh (by omega)]
  refine s_iload_n G dX5_advise_5 rfl ?_
  refine s_iconst (v := 1) G dX5_advise_6 (by decide) ?_
  refine s_bipush (v := 60) G dX5_advise_7 (by decide) ?_
  refine ixX5_19 G E9 (c_reqRange n 1 60) (by decide) (Nat.le_of_ble_eq_true rfl) dX5_advise_9 (fun X9 M9 hp9 => ⟨hp9.2.1, Or.inr ⟨hp9.1, by rw [hs, if_pos hp9.2.2]⟩⟩) (fun r9 M9 hp9 => ?_)
  replace G := Good.add (a2 := 1) (b2 := 6) G E9
  replace E9 := EndsX.add (a2 := 1) (b2 := 6) E9
  obtain ⟨rfl, rfl, r1⟩ := hp9
  rw [if_neg (fun q => q r1)] at hs
  obtain ⟨m, hm1, hm2, rfl, hm4⟩ := inR_nat (n := 60) (by decide) r1
  rw [hm4] at hs
  have loop : ∀ k b, b + k = g.nb → ∀ M2 : Mem, (∀ kd a, M2 (kd, 0, a) = M (kd, 0, a)) → V ((κ.add 1 6).add 1 6) idsC 7 M2 [some (.ref (κ.E.ad (0, 0, 0))), some (.int (nI h9)), some (.int (nI m)), some (.int (advN g h9 m b).1), some (.int (advN g h9 m b).2), some (.int (nI b)), none] [] 26 := by
    intro k
    induction k with
    | zero =>
      intro b hb M2 hM2
      have hb : b = g.nb := by omega
      subst hb
      have hC2 := hC.same hM2
      refine s_iload G dX5_advise_26 rfl ?_
      refine s_aload_n G dX5_advise_28 rfl ?_
      refine gX5_10 G dX5_advise_29 ?_
      refine gX5_164 G (by assumption) dX5_advise_32 ?_
      rw [hC2.1.nb]
      refine s_icmp_ge G 68 dX5_advise_35 (by decide) (fun h35 => ?_) (fun h35 => ?_)
      · refine s_iload_n G dX5_advise_68 rfl ?_
        refine sx_iret G E9 hr dX5_advise_69 ⟨_, _, hs, rfl, hC2⟩
      · exact absurd (Int32.le_refl _) h35
    | succ k ih =>
      intro b hbk M2 hM2
      have hb : b < g.nb := by omega
      have hC2 := hC.same hM2
      refine s_iload G dX5_advise_26 rfl ?_
      refine s_aload_n G dX5_advise_28 rfl ?_
      refine gX5_10 G dX5_advise_29 ?_
      refine gX5_164 G (by assumption) dX5_advise_32 ?_
      rw [hC2.1.nb]
      refine s_icmp_ge G 68 dX5_advise_35 (by decide) (fun h35 => ?_) (fun h35 => ?_)
      · exact absurd h35 (nI_ge hb (by omega))
      refine s_aload_n G dX5_advise_38 rfl ?_
      refine s_iload_n G dX5_advise_39 rfl ?_
      refine s_iload G dX5_advise_40 rfl ?_
      refine s_iload_n G dX5_advise_42 rfl ?_
      refine iX5_160 G (c_pww (n := m) hC2 hh (Or.inr ⟨b, hb, rfl⟩) (by omega)) (by decide) (Nat.le_of_ble_eq_true rfl) dX5_advise_43 (fun r9 M9 hp9 => ?_)
      obtain ⟨rfl, hM3⟩ := hp9
      rename Mem => M3
      have hM4 : ∀ kd a, M3 (kd, 0, a) = M (kd, 0, a) := fun kd a => (hM3 kd a).trans (hM2 kd a)
      have go : ∀ x y : Int32, (x, y) = advN g h9 m (b + 1) → V ((κ.add 1 6).add 1 6) idsC 7 M3 [some (.ref (κ.E.ad (0, 0, 0))), some (.int (nI h9)), some (.int (nI m)), some (.int x), some (.int y), some (.int (nI b)), some (.int (wonW g h9 (nI b) m))] [] 62 := by
        intro x y e
        refine s_iinc G dX5_advise_62 rfl (by decide) rfl (nI_1 b) ?_
        refine s_goto G 26 dX5_advise_65 (by decide) ?_
        refine V.drop1 6 ?_
        have := ih (b + 1) (by omega) M3 hM4
        rw [← e] at this
        exact this
      refine s_istore G dX5_advise_46 (by decide) rfl ?_
      refine s_iload G dX5_advise_48 rfl ?_
      refine s_iload G dX5_advise_50 rfl ?_
      refine s_icmp_le G 62 dX5_advise_52 (by decide) (fun h52 => ?_) (fun h52 => ?_)
      · exact go _ _ (by rw [advN, if_neg (i_nlt.mpr h52)])
      · refine s_iload G dX5_advise_55 rfl ?_
        refine s_istore G dX5_advise_57 (by decide) rfl ?_
        refine s_iload G dX5_advise_59 rfl ?_
        refine s_istore_n G dX5_advise_61 (by decide) rfl ?_
        exact go _ _ (by rw [advN, if_pos (i_nle.mp h52)])
  refine s_iconst (v := -1) G dX5_advise_12 (by decide) ?_
  refine s_istore_n G dX5_advise_13 (by decide) rfl ?_
  refine s_aload_n G dX5_advise_14 rfl ?_
  refine s_iload_n G dX5_advise_15 rfl ?_
  refine s_iconst (v := -1) G dX5_advise_16 (by decide) ?_
  refine s_iload_n G dX5_advise_17 rfl ?_
  refine iX5_160 G (c_pww (n := m) hC hh (Or.inl rfl) (by omega)) (by decide) (Nat.le_of_ble_eq_true rfl) dX5_advise_18 (fun r9 M9 hp9 => ?_)
  obtain ⟨rfl, hM3⟩ := hp9
  refine s_istore G dX5_advise_21 (by decide) rfl ?_
  refine s_iconst (v := 0) G dX5_advise_23 (by decide) ?_
  refine s_istore G dX5_advise_24 (by decide) rfl ?_
  exact loop g.nb 0 (by omega) _ hM3
end Face
