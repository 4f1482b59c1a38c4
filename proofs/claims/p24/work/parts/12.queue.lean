/-! ===== queues: leaving, choosing ===== -/
section Fete2
variable {E : EX} {M : Mem} {f : Nat} {g : GS}
theorem c_isOpenG {b : Nat} (hf : f < 2) (hS : SimC f M g) (hI : Inv g) (hb : b < g.nb) : Ret E idsC yX0_isOpen cX0_isOpen 1 (some .boolean) 0 0 [.ref (E.ad (2, f, b))] M (fun r M' => r = some (.int (if opn g b then 1 else 0)) ∧ M = M') := by
  refine (c_isOpen hf (Nat.lt_of_lt_of_le hb hI.nb8)).weak (fun v M' h => ⟨?_, h.2⟩)
  rw [h.1, hS.wks hb, hS.bo (k := 3) hb (by decide) (by decide)]
  by_cases ho : opn g b
  · rw [if_pos ho, if_neg (i_nlt.mpr ho)]
  · rw [if_neg ho, if_pos (i_nle.mp ho)]
theorem c_strollsG {v : Nat} (hf : f < 2) (hS : SimC f M g) (hI : Inv g) (hv : v < g.nv) : Ret E idsC yX4_strolls cX4_strolls 1 (some .boolean) 0 0 [.ref (E.ad (4, f, v))] M (fun r M' => r = some (.int (if strl g v then 1 else 0)) ∧ M = M') := by
  refine (c_strolls hf (Nat.lt_of_lt_of_le hv hI.nv16)).weak (fun w M' h => ⟨?_, h.2⟩)
  rw [h.1, hS.vi (k := 2) hv (by decide), hS.vi (k := 3) hv (by decide)]
theorem c_take {v : Nat} (hf : f < 2) (hS : SimC f M g) (hI : Inv g) (hv : v < g.nv) : Ret E idsC yX2_takeFromQueue cX2_takeFromQueue 4 (some .int) 1 23 [.ref (E.ad (1, f, 0)), .int (nI v)] M (fun r M' => r = some (.int (g.i 4 v 3)) ∧ SimC f M' (leaveQ g v) ∧ Fr f g.2.2.1 M M') := by
  have hb8 := hI.nb8
  have hv16 : v < 16 := Nat.lt_of_lt_of_le hv hI.nv16
  have ea := hS.vi (k := 3) hv (by decide)
  refine Ret_of_V RX2 (by decide) rfl idsC_nd [some (.ref (E.ad (1, f, 0))), some (.int (nI v)), none, none] rfl (Nat.le_of_ble_eq_true rfl) (fun κ hE G E9 hr => ?_)
  subst hE
  refine s_aload_n G dX2_takeFromQueue_0 rfl ?_
  refine s_iload_n G dX2_takeFromQueue_1 rfl ?_
  refine iX2_96 G (by assumption) (c_isVisitor hf hS.nv (by have := hI.nv16; omega) (nI v)) (by decide) (Nat.le_of_ble_eq_true rfl) dX2_takeFromQueue_2 (fun r9 M9 hp9 => ?_)
  obtain ⟨rfl, ⟨j, hj, hjx, rfl⟩ | ⟨hno, rfl⟩⟩ := hp9
  rotate_left
  · exact absurd rfl (hno v hv)
  clear hjx hj
  refine s_if_ne G 10 dX2_takeFromQueue_5 (by decide) (fun h5 => ?_) (fun h5 => ?_)
  rotate_left
  · exact absurd h5 (by decide)
  refine s_aload_n G dX2_takeFromQueue_10 rfl ?_
  refine gX2_25 G (by assumption) dX2_takeFromQueue_11 ?_
  refine s_iload_n G dX2_takeFromQueue_14 rfl ?_
  refine ar_8 G (by assumption) rfl (by first | assumption | omega) dX2_takeFromQueue_15 ?_
  refine s_astore_n G dX2_takeFromQueue_16 (by decide) rfl ?_
  refine s_aload_n G dX2_takeFromQueue_17 rfl ?_
  refine gX2_99 G (by assumption) (by assumption) dX2_takeFromQueue_18 ?_
  refine s_istore_n G dX2_takeFromQueue_21 (by decide) rfl ?_
  refine s_aload_n G dX2_takeFromQueue_22 rfl ?_
  refine s_iload_n G dX2_takeFromQueue_23 rfl ?_
  rw [ea]
  refine iX2_90 G (by assumption) (c_isBooth (n := g.nb) hf hS.nb (by omega) (g.i 4 v 3)) (by decide) (Nat.le_of_ble_eq_true rfl) dX2_takeFromQueue_24 (fun r9 M9 hp9 => ?_)
  obtain ⟨rfl, ⟨b0, hb0, hbx, rfl⟩ | ⟨hno, rfl⟩⟩ := hp9
  · refine s_if_eq G 40 dX2_takeFromQueue_27 (by decide) (fun h27 => ?_) (fun h27 => ?_)
    · exact absurd h27 (by decide)
    have hb08 : b0 < 8 := by omega
    refine s_aload_n G dX2_takeFromQueue_30 rfl ?_
    refine gX2_11 G (by assumption) dX2_takeFromQueue_31 ?_
    refine s_iload_n G dX2_takeFromQueue_34 rfl ?_
    refine ar_6 G (by assumption) hbx hb08 dX2_takeFromQueue_35 ?_
    refine s_iload_n G dX2_takeFromQueue_36 rfl ?_
    refine iX2_100 G (by assumption) (by assumption) (c_dequeue hf hb08 (hS.ql hb0) (hI.ql16 hb0) (fun i u hu => hS.qe hb0 hu) (fun u hu => Nat.lt_of_lt_of_le ((hI.qm hb0).mp hu).1 hI.nv16) hv16) (by decide) (Nat.le_of_ble_eq_true rfl) dX2_takeFromQueue_37 (fun r9 M9 hp9 => ?_)
    obtain ⟨rfl, A, rfl, hA⟩ := hp9
    refine s_aload_n G dX2_takeFromQueue_40 rfl ?_
    refine s_iconst (v := -1) G dX2_takeFromQueue_41 (by decide) ?_
    refine pX2_99 G (by assumption) (by assumption) dX2_takeFromQueue_42 ?_
    refine s_iload_n G dX2_takeFromQueue_45 rfl ?_
    refine s_iret G E9 hr dX2_takeFromQueue_46 ⟨rfl, ?_, Fr.v4 (Fr.b2 (Fr.r9 Fr.rf hb0) hb0) hv⟩
    show SimC f _ ((g.setq (fun a => (g.q a).filter (fun u => u != v))).set 4 v 3 (-1))
    refine SimC.v4 (hS.setq (fun kd a k h1 h2 => ?_) (fun b hb => ?_))
    · simp only [up]
      rw [if_neg (by rintro ⟨q, q2⟩; cases q; exact h2 ⟨rfl, q2⟩), upr_ne (by intro q; cases q; exact h1 rfl)]
    · by_cases hbb : b = b0
      · subst hbb
        refine ⟨by rw [up_at, if_pos rfl], fun i u hu => ?_⟩
        rw [up_ne (by simp), upr_at]
        exact hA i u hu
      · have hnm : v ∉ g.q b := fun q => hbb (nI_inj (by omega) (by omega) (((hI.qm hb).mp q).2.symm.trans hbx))
        rw [filter_id hnm]
        refine ⟨by rw [up_ne (by simp [hbb]), upr_ne (by simp)]; exact hS.ql hb, fun i u hu => ?_⟩
        rw [up_ne (by simp), upr_ne (by simp [hbb])]
        exact hS.qe hb hu
  · refine s_if_eq G 40 dX2_takeFromQueue_27 (by decide) (fun h27 => ?_) (fun h27 => ?_)
    rotate_left
    · exact absurd rfl h27
    refine s_aload_n G dX2_takeFromQueue_40 rfl ?_
    refine s_iconst (v := -1) G dX2_takeFromQueue_41 (by decide) ?_
    refine pX2_99 G (by assumption) (by assumption) dX2_takeFromQueue_42 ?_
    refine s_iload_n G dX2_takeFromQueue_45 rfl ?_
    refine s_iret G E9 hr dX2_takeFromQueue_46 ⟨rfl, ?_, Fr.v4 Fr.rf hv⟩
    show SimC f _ ((g.setq (fun a => (g.q a).filter (fun u => u != v))).set 4 v 3 (-1))
    refine SimC.v4 (hS.setq (fun kd a k h1 h2 => rfl) (fun b hb => ?_))
    have hnm : v ∉ g.q b := fun q => hno b hb ((hI.qm hb).mp q).2
    rw [filter_id hnm]
    exact ⟨hS.ql hb, fun i u hu => hS.qe hb hu⟩
theorem c_invites {v b : Nat} (hf : f < 2) (hS : SimC f M g) (hI : Inv g) (hv : v < g.nv) (hb : b < g.nb) : Ret E idsC yX2_invites cX2_invites 4 (some .boolean) 1 21 [.ref (E.ad (1, f, 0)), .int (nI b), .ref (E.ad (4, f, v))] M (fun r M' => r = some (.int (if invites g v b then 1 else 0)) ∧ M = M') := by
  have hb8 : b < 8 := Nat.lt_of_lt_of_le hb hI.nb8
  have hv16 : v < 16 := Nat.lt_of_lt_of_le hv hI.nv16
  have e1 := hS.bo (k := 2) hb (by decide) (by decide)
  have e2 := hS.vi (k := 0) hv (by decide)
  refine Ret_of_V RX2 (by decide) rfl idsC_nd [some (.ref (E.ad (1, f, 0))), some (.int (nI b)), some (.ref (E.ad (4, f, v))), none] rfl (Nat.le_of_ble_eq_true rfl) (fun κ hE G E9 hr => ?_)
  subst hE
  refine s_aload_n G dX2_invites_0 rfl ?_
  refine gX2_11 G (by assumption) dX2_invites_1 ?_
  refine s_iload_n G dX2_invites_4 rfl ?_
  refine ar_6 G (by assumption) rfl (by first | assumption | omega) dX2_invites_5 ?_
  refine s_astore_n G dX2_invites_6 (by decide) rfl ?_
  refine s_aload_n G dX2_invites_7 rfl ?_
  refine iX2_120 G (by assumption) (by assumption) (c_isOpenG hf hS hI hb) (by decide) (Nat.le_of_ble_eq_true rfl) dX2_invites_8 (fun r9 M9 hp9 => ?_)
  obtain ⟨rfl, rfl⟩ := hp9
  refine s_if_eq G 37 dX2_invites_11 (by decide) (fun h11 => ?_) (fun h11 => ?_)
  · refine s_iconst (v := 0) G dX2_invites_37 (by decide) ?_
    refine s_zret G E9 hr (Or.inl rfl) dX2_invites_38 ⟨by rw [if_neg (fun q => by rw [if_pos q.1] at h11; exact absurd h11 (by decide))], rfl⟩
  refine s_aload_n G dX2_invites_14 rfl ?_
  refine gX2_151 G (by assumption) (by assumption) dX2_invites_15 ?_
  refine s_if_le G 37 dX2_invites_18 (by decide) (fun h18 => ?_) (fun h18 => ?_)
  · refine s_iconst (v := 0) G dX2_invites_37 (by decide) ?_
    refine s_zret G E9 hr (Or.inl rfl) dX2_invites_38 ⟨by rw [if_neg (fun q => by rw [e1] at h18; exact i_nlt.mpr h18 q.2.1)], rfl⟩
  refine s_aload_n G dX2_invites_21 rfl ?_
  refine s_iload_n G dX2_invites_22 rfl ?_
  refine iX2_154 G (by assumption) (c_costNow hf hS hI hb) (by decide) (Nat.le_of_ble_eq_true rfl) dX2_invites_23 (fun r9 M9 hp9 => ?_)
  obtain ⟨rfl, rfl⟩ := hp9
  refine s_aload_n G dX2_invites_26 rfl ?_
  refine gX2_144 G (by assumption) (by assumption) dX2_invites_27 ?_
  refine s_icmp_gt G 37 dX2_invites_30 (by decide) (fun h30 => ?_) (fun h30 => ?_)
  · refine s_iconst (v := 0) G dX2_invites_37 (by decide) ?_
    refine s_zret G E9 hr (Or.inl rfl) dX2_invites_38 ⟨by rw [if_neg (fun q => by rw [e2] at h30; exact i_nle.mpr h30 q.2.2)], rfl⟩
  · refine s_iconst (v := 1) G dX2_invites_33 (by decide) ?_
    refine s_goto G 38 dX2_invites_34 (by decide) ?_
    refine s_zret G E9 hr (Or.inr rfl) dX2_invites_38 ⟨by rw [if_pos ⟨Decidable.byContradiction (fun q => h11 (by rw [if_neg q])), i_nle.mp (by rw [← e1]; exact h18), i_nlt.mp (by rw [← e2]; exact h30)⟩], rfl⟩
theorem c_isBetter {v b o : Nat} (hf : f < 2) (hS : SimC f M g) (hI : Inv g) (hv : v < g.nv) (hb : b < g.nb) (ho : o < g.nb) : Ret E idsC yX2_isBetter cX2_isBetter 5 (some .boolean) 0 0 [.ref (E.ad (1, f, 0)), .int (nI b), .int (nI o), .ref (E.ad (4, f, v))] M (fun r M' => r = some (.int (if better g v b o then 1 else 0)) ∧ M = M') := by
  have hb8 : b < 8 := Nat.lt_of_lt_of_le hb hI.nb8
  have ho8 : o < 8 := Nat.lt_of_lt_of_le ho hI.nb8
  have hv16 : v < 16 := Nat.lt_of_lt_of_le hv hI.nv16
  have l1 := hI.ql16 hb
  have l2 := hI.ql16 ho
  have e3 := hS.pr hv hb8
  have e4 := hS.pr hv ho8
  have ht : (nI (g.q o).length - nI (g.q b).length).toInt = ((g.q o).length : Int) - (g.q b).length := pk_sub_toInt (by omega) (by omega)
  refine Ret_of_V RX2 (by decide) rfl idsC_nd [some (.ref (E.ad (1, f, 0))), some (.int (nI b)), some (.int (nI o)), some (.ref (E.ad (4, f, v))), none] rfl (Nat.le_of_ble_eq_true rfl) (fun κ hE G E9 hr => ?_)
  subst hE
  refine s_aload_n G dX2_isBetter_0 rfl ?_
  refine gX2_11 G (by assumption) dX2_isBetter_1 ?_
  refine s_iload_n G dX2_isBetter_4 rfl ?_
  refine ar_6 G (by assumption) rfl ho8 dX2_isBetter_5 ?_
  refine gX2_158 G (by assumption) (by assumption) dX2_isBetter_6 ?_
  refine s_aload_n G dX2_isBetter_9 rfl ?_
  refine gX2_11 G (by assumption) dX2_isBetter_10 ?_
  refine s_iload_n G dX2_isBetter_13 rfl ?_
  refine ar_6 G (by assumption) rfl hb8 dX2_isBetter_14 ?_
  refine gX2_158 G (by assumption) (by assumption) dX2_isBetter_15 ?_
  rw [hS.ql hb, hS.ql ho]
  refine s_isub G dX2_isBetter_18 ?_
  refine s_istore G dX2_isBetter_19 (by decide) rfl ?_
  refine s_iload G dX2_isBetter_21 rfl ?_
  have z0 : (nI (g.q o).length - nI (g.q b).length) = 0 ↔ (g.q b).length = (g.q o).length := by
    constructor
    · intro q
      rw [q] at ht
      have : ((0 : Int32).toInt) = 0 := by decide
      omega
    · intro q
      rw [q]
      exact Int32.sub_self _
  refine s_if_eq G 37 dX2_isBetter_23 (by decide) (fun h23 => ?_) (fun h23 => ?_)
  · rw [z0] at h23
    refine s_aload_n G dX2_isBetter_37 rfl ?_
    refine gX2_161 G (by assumption) (by assumption) dX2_isBetter_38 ?_
    refine s_iload_n G dX2_isBetter_41 rfl ?_
    refine al_10 G (by assumption) (by assumption) rfl hb8 dX2_isBetter_42 ?_
    refine s_aload_n G dX2_isBetter_43 rfl ?_
    refine gX2_161 G (by assumption) (by assumption) dX2_isBetter_44 ?_
    refine s_iload_n G dX2_isBetter_47 rfl ?_
    refine al_10 G (by assumption) (by assumption) rfl ho8 dX2_isBetter_48 ?_
    rw [e3, e4]
    refine s_icmp_le G 56 dX2_isBetter_49 (by decide) (fun h49 => ?_) (fun h49 => ?_)
    · refine s_iconst (v := 0) G dX2_isBetter_56 (by decide) ?_
      refine s_zret G E9 hr (Or.inl rfl) dX2_isBetter_57 ⟨by rw [if_neg (fun q => q.elim (fun q => by omega) (fun q => i_nlt.mpr h49 q.2))], rfl⟩
    · refine s_iconst (v := 1) G dX2_isBetter_52 (by decide) ?_
      refine s_goto G 57 dX2_isBetter_53 (by decide) ?_
      refine s_zret G E9 hr (Or.inr rfl) dX2_isBetter_57 ⟨by rw [if_pos (Or.inr ⟨h23, i_nle.mp h49⟩)], rfl⟩
  · rw [z0] at h23
    refine s_iload G dX2_isBetter_26 rfl ?_
    refine s_if_le G 35 dX2_isBetter_28 (by decide) (fun h28 => ?_) (fun h28 => ?_)
    · refine s_iconst (v := 0) G dX2_isBetter_35 (by decide) ?_
      rw [Int32.le_iff_toInt_le, ht] at h28
      have : ((0 : Int32).toInt) = 0 := by decide
      refine s_zret G E9 hr (Or.inl rfl) dX2_isBetter_36 ⟨by rw [if_neg (fun q => q.elim (fun q => by omega) (fun q => h23 q.1))], rfl⟩
    · refine s_iconst (v := 1) G dX2_isBetter_31 (by decide) ?_
      refine s_goto G 36 dX2_isBetter_32 (by decide) ?_
      rw [Int32.le_iff_toInt_le, ht] at h28
      have : ((0 : Int32).toInt) = 0 := by decide
      refine s_zret G E9 hr (Or.inr rfl) dX2_isBetter_36 ⟨by rw [if_pos (Or.inl (by omega))], rfl⟩
theorem c_choose {v : Nat} (hf : f < 2) (hS : SimC f M g) (hI : Inv g) (hv : v < g.nv) (hat : g.i 4 v 3 = -1) : Ret E idsC yX2_choose cX2_choose 5 none 2 44 [.ref (E.ad (1, f, 0)), .int (nI v)] M (fun r M' => r = none ∧ SimC f M' (choose9 g v) ∧ Fr f g.2.2.1 M M') := by
  have hb8 := hI.nb8
  have hv16 : v < 16 := Nat.lt_of_lt_of_le hv hI.nv16
  refine Ret_of_V RX2 (by decide) rfl idsC_nd [some (.ref (E.ad (1, f, 0))), some (.int (nI v)), none, none, none] rfl (Nat.le_of_ble_eq_true rfl) (fun κ hE G E9 hr => ?_)
  subst hE
  have fin : V κ idsC 5 M [some (.ref (κ.E.ad (1, f, 0))), some (.int (nI v)), some (.ref (κ.E.ad (4, f, v))), some (.int (enc (bestN g v g.nb))), some (.int (nI g.nb))] [] 56 := by
    refine s_aload_n G dX2_choose_56 rfl ?_
    refine s_iload_n G dX2_choose_57 rfl ?_
    refine iX2_90 G (by assumption) (c_isBooth (n := g.nb) hf hS.nb (by omega) (enc (bestN g v g.nb))) (by decide) (Nat.le_of_ble_eq_true rfl) dX2_choose_58 (fun r9 M9 hp9 => ?_)
    obtain ⟨rfl, ⟨b, hb, hbx, rfl⟩ | ⟨hno, rfl⟩⟩ := hp9
    · refine s_if_eq G 85 dX2_choose_61 (by decide) (fun h61 => ?_) (fun h61 => ?_)
      · exact absurd h61 (by decide)
      have hbn : bestN g v g.nb = some b := by
        cases hq : bestN g v g.nb with
        | none => rw [hq] at hbx; exact absurd hbx.symm (nI_m1 (by omega))
        | some o =>
          have := bestN_lt hq
          rw [hq] at hbx
          rw [nI_inj (a := o) (b := b) (by omega) (by omega) hbx]
      have hb9 : b < 8 := by omega
      have hvn : v ∉ g.q b := fun q => absurd (((hI.qm hb).mp q).2.symm.trans hat) (nI_m1 (by omega))
      have hlen : (g.q b).length < 16 := by
        have := nodup_len g.nv (v :: g.q b) (List.nodup_cons.mpr ⟨hvn, hI.qnd hb⟩) (fun u hu => by
          rcases List.mem_cons.mp hu with q | q
          · rw [q]; exact hv
          · exact ((hI.qm hb).mp q).1)
        have h2 := hI.nv16
        simp only [List.length_cons] at this
        omega
      refine s_aload_n G dX2_choose_64 rfl ?_
      refine gX2_11 G (by assumption) dX2_choose_65 ?_
      refine s_iload_n G dX2_choose_68 rfl ?_
      refine ar_6 G (by assumption) hbx hb9 dX2_choose_69 ?_
      refine s_iload_n G dX2_choose_70 rfl ?_
      refine iX2_141 G (by assumption) (by assumption) (c_enqueue hf hb9 hlen (hS.ql hb) (nI v)) (by decide) (Nat.le_of_ble_eq_true rfl) dX2_choose_71 (fun r9 M9 hp9 => ?_)
      obtain ⟨rfl, rfl⟩ := hp9
      refine s_if_eq G 97 dX2_choose_74 (by decide) (fun h74 => ?_) (fun h74 => ?_)
      · exact absurd h74 (by decide)
      refine s_aload_n G dX2_choose_77 rfl ?_
      refine s_iload_n G dX2_choose_78 rfl ?_
      refine pX2_99 G (by assumption) (by assumption) dX2_choose_79 ?_
      refine s_goto G 97 dX2_choose_82 (by decide) ?_
      refine s_vret G E9 hr dX2_choose_97 ⟨rfl, ?_, Fr.v4 (Fr.b2 (Fr.q9 Fr.rf hb) hb) hv⟩
      have hc : choose9 g v = (g.setq (fun a => if a = b then g.q b ++ [v] else g.q a)).set 4 v 3 (nI b) := by
        unfold choose9
        rw [hbn]
        rfl
      rw [hc, hbx]
      refine SimC.v4 (hS.setq (fun kd a k h1 h2 => ?_) (fun a ha => ?_))
      · simp only [up]
        rw [if_neg (by rintro ⟨q, q2⟩; cases q; exact h2 ⟨rfl, q2⟩), if_neg (by rintro ⟨q, q2⟩; cases q; exact h1 rfl)]
      · by_cases hbb : a = b
        · subst hbb
          rw [if_pos rfl]
          refine ⟨by rw [up_at, if_pos rfl]; simp, fun i u hu => ?_⟩
          rw [up_ne (by simp), up_at]
          by_cases hi : i = (g.q a).length
          · subst hi
            rw [List.getElem?_append_right (Nat.le_refl _), Nat.sub_self] at hu
            cases hu
            rw [if_pos rfl]
          · rw [if_neg hi]
            have hlt : i < (g.q a).length := by
              have := (List.getElem?_eq_some_iff.mp hu).1
              simp only [List.length_append, List.length_cons, List.length_nil] at this
              omega
            rw [List.getElem?_append_left hlt] at hu
            exact hS.qe hb hu
        · rw [if_neg hbb]
          refine ⟨by rw [up_ne (by simp [hbb]), up_ne (by simp)]; exact hS.ql ha, fun i u hu => ?_⟩
          rw [up_ne (by simp), up_ne (by simp [hbb])]
          exact hS.qe ha hu
    · refine s_if_eq G 85 dX2_choose_61 (by decide) (fun h61 => ?_) (fun h61 => ?_)
      rotate_left
      · exact absurd rfl h61
      have hbn : bestN g v g.nb = none := by
        cases hq : bestN g v g.nb with
        | none => rfl
        | some o =>
          rw [hq] at hno
          exact absurd rfl (hno o (bestN_lt hq))
      refine s_aload_n G dX2_choose_85 rfl ?_
      refine gX2_144 G (by assumption) (by assumption) dX2_choose_86 ?_
      rw [hS.vi (k := 0) hv (by decide)]
      have hc : choose9 g v = if g.i 4 v 0 = 0 then g.set 4 v 2 1 else g := by
        unfold choose9
        rw [hbn]
      refine s_if_ne G 97 dX2_choose_89 (by decide) (fun h89 => ?_) (fun h89 => ?_)
      · refine s_vret G E9 hr dX2_choose_97 ⟨rfl, by rw [hc, if_neg h89]; exact hS, Fr.rf⟩
      · refine s_aload_n G dX2_choose_92 rfl ?_
        refine s_iconst (v := 1) G dX2_choose_93 (by decide) ?_
        refine pX2_147 G (by assumption) (by assumption) (by decide) dX2_choose_94 ?_
        refine s_vret G E9 hr dX2_choose_97 ⟨rfl, by rw [hc, if_pos h89]; exact hS.v4, Fr.v4 Fr.rf hv⟩
  have loop : ∀ n b, b + n = g.nb → V κ idsC 5 M [some (.ref (κ.E.ad (1, f, 0))), some (.int (nI v)), some (.ref (κ.E.ad (4, f, v))), some (.int (enc (bestN g v b))), some (.int (nI b))] [] 12 := by
    intro n
    induction n with
    | zero =>
      intro b hb
      have hb : b = g.nb := by omega
      subst hb
      refine s_iload G dX2_choose_12 rfl ?_
      refine s_aload_n G dX2_choose_14 rfl ?_
      refine gX2_46 G (by assumption) dX2_choose_15 ?_
      refine s_icmp_ge G 56 dX2_choose_18 (by decide) (fun h18 => ?_) (fun h18 => ?_)
      · exact fin
      · rw [hS.nb] at h18
        exact absurd (nI_le (Nat.le_refl _) (by omega)) h18
    | succ n ih =>
      intro b hbn
      have hb : b < g.nb := by omega
      refine s_iload G dX2_choose_12 rfl ?_
      refine s_aload_n G dX2_choose_14 rfl ?_
      refine gX2_46 G (by assumption) dX2_choose_15 ?_
      refine s_icmp_ge G 56 dX2_choose_18 (by decide) (fun h18 => ?_) (fun h18 => ?_)
      · rw [hS.nb] at h18
        exact absurd h18 (nI_ge hb (by omega))
      have next : ∀ x : Int32, x = enc (bestN g v (b + 1)) → V κ idsC 5 M [some (.ref (κ.E.ad (1, f, 0))), some (.int (nI v)), some (.ref (κ.E.ad (4, f, v))), some (.int x), some (.int (nI b))] [] 50 := by
        rintro x rfl
        refine s_iinc G dX2_choose_50 rfl (by decide) rfl (nI_1 b) ?_
        refine s_goto G 12 dX2_choose_53 (by decide) ?_
        exact ih (b + 1) (by omega)
      refine s_aload_n G dX2_choose_21 rfl ?_
      refine s_iload G dX2_choose_22 rfl ?_
      refine s_aload_n G dX2_choose_24 rfl ?_
      refine iX2_133 G (by assumption) (c_invites hf hS hI hv hb) (by decide) (Nat.le_of_ble_eq_true rfl) dX2_choose_25 (fun r9 M9 hp9 => ?_)
      obtain ⟨rfl, rfl⟩ := hp9
      refine s_if_eq G 50 dX2_choose_28 (by decide) (fun h28 => ?_) (fun h28 => ?_)
      · have hni : ¬ invites g v b := fun q => by rw [if_pos q] at h28; exact absurd h28 (by decide)
        exact next _ (by rw [bestN, if_neg (fun q => hni q.1)])
      have hin : invites g v b := Decidable.byContradiction (fun q => h28 (by rw [if_neg q]))
      have take : takes g v b (bestN g v b) = true → V κ idsC 5 M [some (.ref (κ.E.ad (1, f, 0))), some (.int (nI v)), some (.ref (κ.E.ad (4, f, v))), some (.int (enc (bestN g v b))), some (.int (nI b))] [] 47 := by
        intro ht
        refine s_iload G dX2_choose_47 rfl ?_
        refine s_istore_n G dX2_choose_49 (by decide) rfl ?_
        exact next _ (by rw [bestN, if_pos ⟨hin, ht⟩]; rfl)
      refine s_iload_n G dX2_choose_31 rfl ?_
      refine s_iconst (v := -1) G dX2_choose_32 (by decide) ?_
      cases hq : bestN g v b with
      | none =>
        refine s_icmp_eq G 47 dX2_choose_33 (by decide) (fun h33 => ?_) (fun h33 => ?_)
        · rw [hq] at take
          exact take rfl
        · exact absurd rfl h33
      | some o =>
        have ho : o < g.nb := by have := bestN_lt hq; omega
        refine s_icmp_eq G 47 dX2_choose_33 (by decide) (fun h33 => ?_) (fun h33 => ?_)
        · exact absurd h33 (nI_m1 (by omega))
        refine s_aload_n G dX2_choose_36 rfl ?_
        refine s_iload G dX2_choose_37 rfl ?_
        refine s_iload_n G dX2_choose_39 rfl ?_
        refine s_aload_n G dX2_choose_40 rfl ?_
        refine iX2_137 G (by assumption) (c_isBetter hf hS hI hv hb ho) (by decide) (Nat.le_of_ble_eq_true rfl) dX2_choose_41 (fun r9 M9 hp9 => ?_)
        obtain ⟨rfl, rfl⟩ := hp9
        refine s_if_eq G 50 dX2_choose_44 (by decide) (fun h44 => ?_) (fun h44 => ?_)
        · have hnb : ¬ better g v b o := fun q => by rw [if_pos q] at h44; exact absurd h44 (by decide)
          refine next _ ?_
          rw [bestN, if_neg (fun q => by rw [hq] at q; exact hnb (of_decide_eq_true q.2)), hq]
        · rw [hq] at take
          exact take (decide_eq_true (Decidable.byContradiction (fun q => h44 (by rw [if_neg q]))))
  refine s_aload_n G dX2_choose_0 rfl ?_
  refine gX2_25 G (by assumption) dX2_choose_1 ?_
  refine s_iload_n G dX2_choose_4 rfl ?_
  refine ar_8 G (by assumption) rfl (by first | assumption | omega) dX2_choose_5 ?_
  refine s_astore_n G dX2_choose_6 (by decide) rfl ?_
  refine s_iconst (v := -1) G dX2_choose_7 (by decide) ?_
  refine s_istore_n G dX2_choose_8 (by decide) rfl ?_
  refine s_iconst (v := 0) G dX2_choose_9 (by decide) ?_
  refine s_istore G dX2_choose_10 (by decide) rfl ?_
  exact loop g.nb 0 (by omega)
end Fete2
