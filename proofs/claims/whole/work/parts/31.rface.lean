/-! ===== the reference's face: the calls that make no arrays ===== -/
def RPost (sp : Sp) (r : Option Value) (M' : Mem) : Prop := ∃ x : Int32, r = some (.int x) ∧ M' (14, 0, 0) 0 = nI sp.1 ∧ (sp.1 = 0 → x = sp.2.1) ∧ SimR M' sp.2.2 0
theorem rp_ok {sp : Sp} {v : Int32} {g' : GS} {M' : Mem} (h : sp = (0, v, g')) (h0 : M' (14, 0, 0) 0 = 0) (hS : SimR M' g' 0) : RPost sp (some (.int v)) M' := by
  subst h
  exact ⟨v, rfl, h0, fun _ => rfl, hS⟩
theorem rp_fail {sp : Sp} {k : Nat} {x : Int32} {g : GS} {N1 : Mem} (h : sp = (k, 0, g)) (hk : k ≠ 0) (hx : x = nI k) (hS : SimR N1 g 0) : RPost sp (some (.int 0)) (up N1 (14, 0, 0) 0 x) := by
  subst h
  exact ⟨0, rfl, by rw [up_at, if_pos rfl, hx], fun q => absurd q hk, hS.thr⟩
theorem inR_pred {n : Nat} (hn : n < 2 ^ 30) (x : Int32) {hi : Int32} (hh : hi = nI n - 1) : (inR x 0 hi → ∃ j, j < n ∧ x = nI j) ∧ (¬ inR x 0 hi → ∀ j, j < n → x ≠ nI j) := by
  have ht : (nI n - nI 1).toInt = (n : Int) - (1 : Nat) := pk_sub_toInt (by omega) (by decide)
  have e1 : (nI n - 1).toInt = (n : Int) - (1 : Nat) := ht
  have z : ((0 : Int32).toInt) = 0 := by decide
  subst hh
  constructor
  · intro hin
    have h1 := hin.1
    have h2 := hin.2
    rw [Int32.le_iff_toInt_le] at h1 h2
    rw [e1] at h2
    rw [z] at h1
    obtain ⟨j, hj, rfl⟩ := nI_of (x := x) (i_nlt.mpr (by rw [Int32.le_iff_toInt_le, z]; exact h1))
    rw [nI_toInt hj] at h2
    exact ⟨j, by omega, rfl⟩
  · intro hno b hb q
    refine hno ?_
    rw [q]
    refine ⟨nI_pos' (by omega), ?_⟩
    rw [Int32.le_iff_toInt_le, e1, nI_toInt (by omega)]
    omega
theorem SimR.wake {N : Mem} {g : GS} {w : Int32} (hS : SimR N g w) {v : Nat} (h3 : g.i 4 v 3 = -1) : SimR (up N (17, 0, 0) (9 * v + 2) 0) (g.set 4 v 2 0) w := by
  obtain ⟨g1, hg1⟩ : ∃ g1, g1 = g.set 4 v 2 0 := ⟨_, rfl⟩
  have gi : ∀ p q r, ¬ (p = 4 ∧ q = v ∧ r = 2) → g1.i p q r = g.i p q r := fun p q r hno => by rw [hg1, gi_set, if_neg hno]
  have g3 : g1.i 4 v 2 = 0 := by rw [hg1, gi_set, if_pos ⟨rfl, rfl, rfl⟩]
  have hn : g1.2 = g.2 := by rw [hg1]; rfl
  have hbd : g1.bd = g.bd := congrArg (fun z => z.2.2) hn
  have hq : g1.q = g.q := congrArg Prod.fst hn
  rw [← hg1]
  have e17 : ∀ k, k ≠ 9 * v + 2 → up N (17, 0, 0) (9 * v + 2) 0 (17, 0, 0) k = N (17, 0, 0) k := fun k h1 => by
    rw [up_at, if_neg h1]
  have hst : ∀ u, u ≠ v → stt g1 u = stt g u := fun u hu => by unfold stt; rw [gi _ _ _ (by omega), gi _ _ _ (by omega)]
  refine hS.of (congrArg (fun z => z.2.1) hn) (fun k _ => by rw [up_ne (by simp)]) (fun b hb => ⟨fun k hk => ?_, ?_, ?_⟩) (fun a ha k hk => ?_) (fun u hu => ⟨?_, ?_, ?_, ?_, ?_, ?_, ?_, ?_⟩) (fun u hu b hb => ?_) (fun a ha i u hu => ?_) (fun l x hx => ?_) ?_
  · rw [up_ne (by simp), gi _ _ _ (by omega)]; exact hS.bo hb hk
  · rw [up_ne (by simp), gi _ _ _ (by omega)]; exact hS.b4 hb
  · rw [up_ne (by simp), gi _ _ _ (by omega)]; exact hS.b5 hb
  · rw [up_ne (by simp), gi _ _ _ (by omega)]; exact hS.he ha hk
  · rw [e17 _ (by omega), gi _ _ _ (by omega)]; exact hS.v0 hu
  · rw [e17 _ (by omega), gi _ _ _ (by omega)]; exact hS.v1 hu
  · by_cases q : u = v
    · subst q
      rw [up_at, if_pos rfl]
      unfold stt
      rw [g3, gi _ _ _ (by omega), h3, if_pos rfl, if_pos rfl]
    · rw [e17 _ (by omega), hst u q]; exact hS.v2 hu
  · rw [e17 _ (by omega), gi _ _ _ (by omega)]; exact hS.v3 hu
  · rw [e17 _ (by omega), gi _ _ _ (by omega)]; exact hS.v5 hu
  · rw [e17 _ (by omega), gi _ _ _ (by omega)]; exact hS.v6 hu
  · rw [e17 _ (by omega), gi _ _ _ (by omega)]; exact hS.v7 hu
  · rw [e17 _ (by omega), gi _ _ _ (by omega)]; exact hS.v8 hu
  · rw [up_ne (by simp), gi _ _ _ (by omega)]; exact hS.2.2.2.2.1 u hu b hb
  · rw [hq] at hu
    rw [e17 _ (by omega)]
    exact hS.pl ha hu
  · rw [hbd] at hx
    rw [up_ne (by simp)]
    exact hS.bde hx
  · rw [up_ne (by simp), gi _ _ _ (by omega), gi _ _ _ (by omega), gi _ _ _ (by omega), gi _ _ _ (by omega), hbd]
    exact hS.2.2.2.2.2.2.2
section RF
variable {E : EX} {N : Mem} {g g' : GS} {w : Int32}
theorem e_setDart (hS : SimR N g 0) (hI : Inv g) (d : Int32) : Ret E idsR yX6_setDart cX6_setDart 3 (some .int) 1 22 [.ref (E.ad (14, 0, 0)), .int d] N (RPost (spSetDart g d)) := by
  have hb8 := hI.nb8
  have hh12 := hI.nh12
  have hv16 := hI.nv16
  have hb31 : g.nb < 2 ^ 31 := by omega
  have hh31 : g.nh < 2 ^ 31 := by omega
  have hv31 : g.nv < 2 ^ 31 := by omega
  refine Ret_of_V RX6 (by decide) rfl idsR_nd [some (.ref (E.ad (14, 0, 0))), some (.int d), none] rfl (Nat.le_of_ble_eq_true rfl) (fun κ hE G E9 hr => ?_)
  subst hE
  refine s_aload_n G dX6_setDart_0 rfl ?_
  refine s_iconst (v := 0) G dX6_setDart_1 (by decide) ?_
  refine pX6_28 G dX6_setDart_2 ?_
  refine V.abs (fun M1 hM1 => ?_)
  have hS1 : SimR M1 g 0 := by rw [hM1]; exact hS.thr
  have hz : M1 (14, 0, 0) 0 = 0 := by rw [hM1, up_at, if_pos rfl]
  clear hM1
  refine s_iload_n G dX6_setDart_5 rfl ?_
  refine s_iconst (v := 1) G dX6_setDart_6 (by decide) ?_
  refine s_ldc (v := 65536) G dX6_setDart_7 (by decide +kernel) ?_
  refine iX6_35 G (r_isIn d 1 65536) (by decide) (Nat.le_of_ble_eq_true rfl) dX6_setDart_9 (fun r9 M9 hp9 => ?_)
  obtain ⟨rfl, ⟨hin, rfl⟩ | ⟨hin, rfl⟩⟩ := hp9
  rotate_left
  · refine s_if_ne G 21 dX6_setDart_12 (by decide) (fun h12 => ?_) (fun h12 => ?_)
    · exact absurd rfl h12
    refine s_aload_n G dX6_setDart_15 rfl ?_
    refine s_iconst (v := 1) G dX6_setDart_16 (by decide) ?_
    refine iX6_45 G (r_fail 1) (by decide) (Nat.le_of_ble_eq_true rfl) dX6_setDart_17 (fun r9 M9 hp9 => ?_)
    obtain ⟨rfl, rfl⟩ := hp9
    refine s_iret G E9 hr dX6_setDart_20 (rp_fail (k := 1) (by unfold spSetDart; rw [if_pos hin]) (by decide) rfl hS1)
  refine s_if_ne G 21 dX6_setDart_12 (by decide) (fun h12 => ?_) (fun h12 => ?_)
  rotate_left
  · exact absurd h12 (by decide)
  refine s_aload_n G dX6_setDart_21 rfl ?_
  refine gX6_25 G dX6_setDart_22 ?_
  refine s_iconst (v := 1) G dX6_setDart_25 (by decide) ?_
  refine al_20 G (show (1 : Int32) = nI 1 from rfl) (by decide) dX6_setDart_26 ?_
  rw [hS1.n1]
  refine s_istore_n G dX6_setDart_27 (by decide) rfl ?_
  refine s_aload_n G dX6_setDart_28 rfl ?_
  refine gX6_25 G dX6_setDart_29 ?_
  refine s_iconst (v := 1) G dX6_setDart_32 (by decide) ?_
  refine s_iload_n G dX6_setDart_33 rfl ?_
  refine as_20 G (show (1 : Int32) = nI 1 from rfl) (by decide) dX6_setDart_34 ?_
  refine s_iload_n G dX6_setDart_35 rfl ?_
  refine s_iret G E9 hr dX6_setDart_36 (rp_ok (by unfold spSetDart; rw [if_neg (fun q => q hin)]) (by rw [up_ne (by simp)]; exact hz) hS1.sn1)
theorem e_work (hS : SimR N g 0) (hI : Inv g) (h b : Int32) : Ret E idsR yX6_work cX6_work 4 (some .int) 2 43 [.ref (E.ad (14, 0, 0)), .int h, .int b] N (RPost (spWork g h b)) := by
  have hb8 := hI.nb8
  have hh12 := hI.nh12
  have hv16 := hI.nv16
  have hb31 : g.nb < 2 ^ 31 := by omega
  have hh31 : g.nh < 2 ^ 31 := by omega
  have hv31 : g.nv < 2 ^ 31 := by omega
  refine Ret_of_V RX6 (by decide) rfl idsR_nd [some (.ref (E.ad (14, 0, 0))), some (.int h), some (.int b), none] rfl (Nat.le_of_ble_eq_true rfl) (fun κ hE G E9 hr => ?_)
  subst hE
  refine s_aload_n G dX6_work_0 rfl ?_
  refine s_iconst (v := 0) G dX6_work_1 (by decide) ?_
  refine pX6_28 G dX6_work_2 ?_
  refine V.abs (fun M1 hM1 => ?_)
  have hS1 : SimR M1 g 0 := by rw [hM1]; exact hS.thr
  have hz : M1 (14, 0, 0) 0 = 0 := by rw [hM1, up_at, if_pos rfl]
  clear hM1
  refine s_aload_n G dX6_work_5 rfl ?_
  refine s_iload_n G dX6_work_6 rfl ?_
  refine iX6_56 G (r_isHelper (n := g.nh) hS1.nh (by omega) h) (by decide) (Nat.le_of_ble_eq_true rfl) dX6_work_7 (fun r9 M9 hp9 => ?_)
  obtain ⟨rfl, ⟨h1, hh1, rfl, rfl⟩ | ⟨hno, rfl⟩⟩ := hp9
  rotate_left
  · refine s_if_eq G 26 dX6_work_10 (by decide) (fun h10 => ?_) (fun h10 => ?_)
    rotate_left
    · exact absurd rfl h10
    refine s_aload_n G dX6_work_26 rfl ?_
    refine s_iconst (v := 1) G dX6_work_27 (by decide) ?_
    refine iX6_45 G (r_fail 1) (by decide) (Nat.le_of_ble_eq_true rfl) dX6_work_28 (fun r9 M9 hp9 => ?_)
    obtain ⟨rfl, rfl⟩ := hp9
    refine s_iret G E9 hr dX6_work_31 (rp_fail (k := 1) (by unfold spWork; rw [ix_out hh31 hno]) (by decide) rfl hS1)
  have hh9 : h1 < 12 := by omega
  refine s_if_eq G 26 dX6_work_10 (by decide) (fun h10 => ?_) (fun h10 => ?_)
  · exact absurd h10 (by decide)
  have good : ∀ q : b = -1 ∨ (ix g.nb b).isSome = true, V κ idsR 4 M1 [some (.ref (κ.E.ad (14, 0, 0))), some (.int (nI h1)), some (.int b), none] [] 32 := by
    intro q
    refine s_aload_n G dX6_work_32 rfl ?_
    refine s_iload_n G dX6_work_33 rfl ?_
    refine s_iconst (v := 1) G dX6_work_34 (by decide) ?_
    refine iX6_63 G (r_he (k := 1) hh9 (by decide)) (by decide) (Nat.le_of_ble_eq_true rfl) dX6_work_35 (fun r9 M9 hp9 => ?_)
    obtain ⟨rfl, rfl⟩ := hp9
    rw [hS1.he (k := 1) hh1 (by decide)]
    refine s_istore_n G dX6_work_38 (by decide) rfl ?_
    refine s_aload_n G dX6_work_39 rfl ?_
    refine s_iload_n G dX6_work_40 rfl ?_
    refine s_iconst (v := 1) G dX6_work_41 (by decide) ?_
    refine s_iload_n G dX6_work_42 rfl ?_
    refine iX6_67 G (r_setHe (k := 1) hh9 (by decide) b) (by decide) (Nat.le_of_ble_eq_true rfl) dX6_work_43 (fun r9 M9 hp9 => ?_)
    obtain ⟨rfl, rfl⟩ := hp9
    refine s_iload_n G dX6_work_46 rfl ?_
    refine s_iret G E9 hr dX6_work_47 (rp_ok (by unfold spWork; rw [ix_in hh1 hh31]; simp only; rw [if_pos q]) (by rw [up_ne (by simp)]; exact hz) (hS1.sh (by decide)))
  refine s_iload_n G dX6_work_13 rfl ?_
  refine s_iconst (v := -1) G dX6_work_14 (by decide) ?_
  refine s_icmp_eq G 32 dX6_work_15 (by decide) (fun h15 => ?_) (fun h15 => ?_)
  · exact good (Or.inl h15)
  refine s_aload_n G dX6_work_18 rfl ?_
  refine s_iload_n G dX6_work_19 rfl ?_
  refine iX6_60 G (r_isBooth (n := g.nb) hS1.nb (by omega) b) (by decide) (Nat.le_of_ble_eq_true rfl) dX6_work_20 (fun r9 M9 hp9 => ?_)
  obtain ⟨rfl, ⟨b1, hb1, rfl, rfl⟩ | ⟨hno, rfl⟩⟩ := hp9
  · refine s_if_ne G 32 dX6_work_23 (by decide) (fun h23 => ?_) (fun h23 => ?_)
    · exact good (Or.inr (by rw [ix_in hb1 hb31]; rfl))
    · exact absurd h23 (by decide)
  · refine s_if_ne G 32 dX6_work_23 (by decide) (fun h23 => ?_) (fun h23 => ?_)
    · exact absurd rfl h23
    refine s_aload_n G dX6_work_26 rfl ?_
    refine s_iconst (v := 1) G dX6_work_27 (by decide) ?_
    refine iX6_45 G (r_fail 1) (by decide) (Nat.le_of_ble_eq_true rfl) dX6_work_28 (fun r9 M9 hp9 => ?_)
    obtain ⟨rfl, rfl⟩ := hp9
    refine s_iret G E9 hr dX6_work_31 (rp_fail (k := 1) (by unfold spWork; rw [ix_in hh1 hh31]; simp only; rw [if_neg (fun q => q.elim h15 (fun q => by rw [ix_out hb31 hno] at q; cases q))]) (by decide) rfl hS1)
theorem e_bring (hS : SimR N g 0) (hI : Inv g) (b n : Int32) : Ret E idsR yX6_bring cX6_bring 3 (some .int) 2 43 [.ref (E.ad (14, 0, 0)), .int b, .int n] N (RPost (spBring g b n)) := by
  have hb8 := hI.nb8
  have hh12 := hI.nh12
  have hv16 := hI.nv16
  have hb31 : g.nb < 2 ^ 31 := by omega
  have hh31 : g.nh < 2 ^ 31 := by omega
  have hv31 : g.nv < 2 ^ 31 := by omega
  refine Ret_of_V RX6 (by decide) rfl idsR_nd [some (.ref (E.ad (14, 0, 0))), some (.int b), some (.int n)] rfl (Nat.le_of_ble_eq_true rfl) (fun κ hE G E9 hr => ?_)
  subst hE
  refine s_aload_n G dX6_bring_0 rfl ?_
  refine s_iconst (v := 0) G dX6_bring_1 (by decide) ?_
  refine pX6_28 G dX6_bring_2 ?_
  refine V.abs (fun M1 hM1 => ?_)
  have hS1 : SimR M1 g 0 := by rw [hM1]; exact hS.thr
  have hz : M1 (14, 0, 0) 0 = 0 := by rw [hM1, up_at, if_pos rfl]
  clear hM1
  refine s_aload_n G dX6_bring_5 rfl ?_
  refine s_iload_n G dX6_bring_6 rfl ?_
  refine iX6_60 G (r_isBooth (n := g.nb) hS1.nb (by omega) b) (by decide) (Nat.le_of_ble_eq_true rfl) dX6_bring_7 (fun r9 M9 hp9 => ?_)
  obtain ⟨rfl, ⟨b1, hb1, rfl, rfl⟩ | ⟨hno, rfl⟩⟩ := hp9
  rotate_left
  · refine s_if_ne G 19 dX6_bring_10 (by decide) (fun h10 => ?_) (fun h10 => ?_)
    · exact absurd rfl h10
    refine s_aload_n G dX6_bring_13 rfl ?_
    refine s_iconst (v := 1) G dX6_bring_14 (by decide) ?_
    refine iX6_45 G (r_fail 1) (by decide) (Nat.le_of_ble_eq_true rfl) dX6_bring_15 (fun r9 M9 hp9 => ?_)
    obtain ⟨rfl, rfl⟩ := hp9
    refine s_iret G E9 hr dX6_bring_18 (rp_fail (k := 1) (by unfold spBring; rw [ix_out hb31 hno]) (by decide) rfl hS1)
  have hb9 : b1 < 8 := by omega
  refine s_if_ne G 19 dX6_bring_10 (by decide) (fun h10 => ?_) (fun h10 => ?_)
  rotate_left
  · exact absurd h10 (by decide)
  refine s_iload_n G dX6_bring_19 rfl ?_
  refine s_iconst (v := 1) G dX6_bring_20 (by decide) ?_
  refine s_bipush (v := 99) G dX6_bring_21 (by decide) ?_
  refine iX6_35 G (r_isIn n 1 99) (by decide) (Nat.le_of_ble_eq_true rfl) dX6_bring_23 (fun r9 M9 hp9 => ?_)
  obtain ⟨rfl, ⟨hin, rfl⟩ | ⟨hin, rfl⟩⟩ := hp9
  rotate_left
  · refine s_if_ne G 35 dX6_bring_26 (by decide) (fun h26 => ?_) (fun h26 => ?_)
    · exact absurd rfl h26
    refine s_aload_n G dX6_bring_29 rfl ?_
    refine s_iconst (v := 2) G dX6_bring_30 (by decide) ?_
    refine iX6_45 G (r_fail 2) (by decide) (Nat.le_of_ble_eq_true rfl) dX6_bring_31 (fun r9 M9 hp9 => ?_)
    obtain ⟨rfl, rfl⟩ := hp9
    refine s_iret G E9 hr dX6_bring_34 (rp_fail (k := 2) (by unfold spBring; rw [ix_in hb1 hb31]; simp only; rw [if_pos hin]) (by decide) rfl hS1)
  refine s_if_ne G 35 dX6_bring_26 (by decide) (fun h26 => ?_) (fun h26 => ?_)
  rotate_left
  · exact absurd h26 (by decide)
  refine s_aload_n G dX6_bring_35 rfl ?_
  refine s_iload_n G dX6_bring_36 rfl ?_
  refine s_iconst (v := 2) G dX6_bring_37 (by decide) ?_
  refine iX6_71 G (r_bo (k := 2) hb9 (by decide)) (by decide) (Nat.le_of_ble_eq_true rfl) dX6_bring_38 (fun r9 M9 hp9 => ?_)
  obtain ⟨rfl, rfl⟩ := hp9
  rw [hS1.bo (k := 2) hb1 (by decide)]
  refine s_iload_n G dX6_bring_41 rfl ?_
  refine s_iadd G dX6_bring_42 ?_
  refine s_bipush (v := 99) G dX6_bring_43 (by decide) ?_
  refine s_icmp_le G 54 dX6_bring_45 (by decide) (fun h45 => ?_) (fun h45 => ?_)
  rotate_left
  · refine s_aload_n G dX6_bring_48 rfl ?_
    refine s_iconst (v := 3) G dX6_bring_49 (by decide) ?_
    refine iX6_45 G (r_fail 3) (by decide) (Nat.le_of_ble_eq_true rfl) dX6_bring_50 (fun r9 M9 hp9 => ?_)
    obtain ⟨rfl, rfl⟩ := hp9
    refine s_iret G E9 hr dX6_bring_53 (rp_fail (k := 3) (by unfold spBring; rw [ix_in hb1 hb31]; simp only; rw [if_neg (fun q => q hin), if_pos (i_nle.mp h45)]) (by decide) rfl hS1)
  refine s_aload_n G dX6_bring_54 rfl ?_
  refine s_iload_n G dX6_bring_55 rfl ?_
  refine s_iconst (v := 2) G dX6_bring_56 (by decide) ?_
  refine s_aload_n G dX6_bring_57 rfl ?_
  refine s_iload_n G dX6_bring_58 rfl ?_
  refine s_iconst (v := 2) G dX6_bring_59 (by decide) ?_
  refine iX6_71 G (r_bo (k := 2) hb9 (by decide)) (by decide) (Nat.le_of_ble_eq_true rfl) dX6_bring_60 (fun r9 M9 hp9 => ?_)
  obtain ⟨rfl, rfl⟩ := hp9
  rw [hS1.bo (k := 2) hb1 (by decide)]
  refine s_iload_n G dX6_bring_63 rfl ?_
  refine s_iadd G dX6_bring_64 ?_
  refine iX6_74 G (r_setBo (k := 2) hb9 (by decide) (g.i 2 b1 2 + n)) (by decide) (Nat.le_of_ble_eq_true rfl) dX6_bring_65 (fun r9 M9 hp9 => ?_)
  obtain ⟨rfl, rfl⟩ := hp9
  refine s_aload_n G dX6_bring_68 rfl ?_
  refine s_iload_n G dX6_bring_69 rfl ?_
  refine s_iconst (v := 2) G dX6_bring_70 (by decide) ?_
  refine iX6_71 G (r_bo (k := 2) hb9 (by decide)) (by decide) (Nat.le_of_ble_eq_true rfl) dX6_bring_71 (fun r9 M9 hp9 => ?_)
  obtain ⟨rfl, rfl⟩ := hp9
  rw [up_at, if_pos rfl]
  refine s_iret G E9 hr dX6_bring_74 (rp_ok (by unfold spBring; rw [ix_in hb1 hb31]; simp only; rw [if_neg (fun q => q hin), if_neg (i_nlt.mpr h45)]) (by rw [up_ne (by simp)]; exact hz) hS1.sb2)
theorem e_sell (hS : SimR N g 0) (hI : Inv g) (v n : Int32) : Ret E idsR yX6_sell cX6_sell 3 (some .int) 2 43 [.ref (E.ad (14, 0, 0)), .int v, .int n] N (RPost (spSell g v n)) := by
  have hb8 := hI.nb8
  have hh12 := hI.nh12
  have hv16 := hI.nv16
  have hb31 : g.nb < 2 ^ 31 := by omega
  have hh31 : g.nh < 2 ^ 31 := by omega
  have hv31 : g.nv < 2 ^ 31 := by omega
  refine Ret_of_V RX6 (by decide) rfl idsR_nd [some (.ref (E.ad (14, 0, 0))), some (.int v), some (.int n)] rfl (Nat.le_of_ble_eq_true rfl) (fun κ hE G E9 hr => ?_)
  subst hE
  refine s_aload_n G dX6_sell_0 rfl ?_
  refine s_iconst (v := 0) G dX6_sell_1 (by decide) ?_
  refine pX6_28 G dX6_sell_2 ?_
  refine V.abs (fun M1 hM1 => ?_)
  have hS1 : SimR M1 g 0 := by rw [hM1]; exact hS.thr
  have hz : M1 (14, 0, 0) 0 = 0 := by rw [hM1, up_at, if_pos rfl]
  clear hM1
  refine s_aload_n G dX6_sell_5 rfl ?_
  refine s_iload_n G dX6_sell_6 rfl ?_
  refine iX6_77 G (r_isVisitor (n := g.nv) hS1.nv (by omega) v) (by decide) (Nat.le_of_ble_eq_true rfl) dX6_sell_7 (fun r9 M9 hp9 => ?_)
  obtain ⟨rfl, ⟨v1, hv1, rfl, rfl⟩ | ⟨hno, rfl⟩⟩ := hp9
  rotate_left
  · refine s_if_ne G 19 dX6_sell_10 (by decide) (fun h10 => ?_) (fun h10 => ?_)
    · exact absurd rfl h10
    refine s_aload_n G dX6_sell_13 rfl ?_
    refine s_iconst (v := 1) G dX6_sell_14 (by decide) ?_
    refine iX6_45 G (r_fail 1) (by decide) (Nat.le_of_ble_eq_true rfl) dX6_sell_15 (fun r9 M9 hp9 => ?_)
    obtain ⟨rfl, rfl⟩ := hp9
    refine s_iret G E9 hr dX6_sell_18 (rp_fail (k := 1) (by unfold spSell; rw [ix_out hv31 hno]) (by decide) rfl hS1)
  have hv9 : v1 < 16 := by omega
  refine s_if_ne G 19 dX6_sell_10 (by decide) (fun h10 => ?_) (fun h10 => ?_)
  rotate_left
  · exact absurd h10 (by decide)
  refine s_iload_n G dX6_sell_19 rfl ?_
  refine s_iconst (v := 1) G dX6_sell_20 (by decide) ?_
  refine s_sipush (v := 200) G dX6_sell_21 (by decide) ?_
  refine iX6_35 G (r_isIn n 1 200) (by decide) (Nat.le_of_ble_eq_true rfl) dX6_sell_24 (fun r9 M9 hp9 => ?_)
  obtain ⟨rfl, ⟨hin, rfl⟩ | ⟨hin, rfl⟩⟩ := hp9
  rotate_left
  · refine s_if_ne G 36 dX6_sell_27 (by decide) (fun h27 => ?_) (fun h27 => ?_)
    · exact absurd rfl h27
    refine s_aload_n G dX6_sell_30 rfl ?_
    refine s_iconst (v := 2) G dX6_sell_31 (by decide) ?_
    refine iX6_45 G (r_fail 2) (by decide) (Nat.le_of_ble_eq_true rfl) dX6_sell_32 (fun r9 M9 hp9 => ?_)
    obtain ⟨rfl, rfl⟩ := hp9
    refine s_iret G E9 hr dX6_sell_35 (rp_fail (k := 2) (by unfold spSell; rw [ix_in hv1 hv31]; simp only; rw [if_pos hin]) (by decide) rfl hS1)
  refine s_if_ne G 36 dX6_sell_27 (by decide) (fun h27 => ?_) (fun h27 => ?_)
  rotate_left
  · exact absurd h27 (by decide)
  have hsp : spSell g (nI v1) n = (0, g.i 4 v1 0 + n, (g.set 4 v1 0 (g.i 4 v1 0 + n)).set 4 v1 2 0) := by unfold spSell; rw [ix_in hv1 hv31]; simp only; rw [if_neg (fun q => q hin)]
  refine s_aload_n G dX6_sell_36 rfl ?_
  refine s_iload_n G dX6_sell_37 rfl ?_
  refine s_iconst (v := 0) G dX6_sell_38 (by decide) ?_
  refine s_aload_n G dX6_sell_39 rfl ?_
  refine s_iload_n G dX6_sell_40 rfl ?_
  refine s_iconst (v := 0) G dX6_sell_41 (by decide) ?_
  refine iX6_80 G (r_vi (k := 0) hv9 (by decide)) (by decide) (Nat.le_of_ble_eq_true rfl) dX6_sell_42 (fun r9 M9 hp9 => ?_)
  obtain ⟨rfl, rfl⟩ := hp9
  rw [hS1.v0 hv1]
  refine s_iload_n G dX6_sell_45 rfl ?_
  refine s_iadd G dX6_sell_46 ?_
  refine iX6_83 G (r_setVi (k := 0) hv9 (by decide) (g.i 4 v1 0 + n)) (by decide) (Nat.le_of_ble_eq_true rfl) dX6_sell_47 (fun r9 M9 hp9 => ?_)
  obtain ⟨rfl, rfl⟩ := hp9
  refine V.abs (fun M2 hM2 => ?_)
  obtain ⟨g2, hg2⟩ : ∃ g2, g2 = g.set 4 v1 0 (g.i 4 v1 0 + n) := ⟨_, rfl⟩
  have hS2 : SimR M2 g2 0 := by rw [hM2, hg2]; exact hS1.sv0
  have hz2 : M2 (14, 0, 0) 0 = 0 := by rw [hM2, up_ne (by simp)]; exact hz
  have hv2 : v1 < g2.nv := by rw [hg2]; exact hv1
  have e2 : g2.i 4 v1 2 = g.i 4 v1 2 := by rw [hg2]; simp [gi_set]
  have e0 : g2.i 4 v1 0 = g.i 4 v1 0 + n := by rw [hg2]; simp [gi_set]
  rw [← hg2] at hsp
  clear hM2
  have hat : stt g2 v1 = 2 ↔ g2.i 4 v1 2 ≠ 0 := by
    unfold stt
    by_cases q : g2.i 4 v1 2 = 0
    · rw [if_pos q]
      refine ⟨fun z => ?_, fun z => absurd q z⟩
      split at z <;> exact absurd z (by decide)
    · rw [if_neg q]; exact ⟨fun _ => q, fun _ => rfl⟩
  refine s_aload_n G dX6_sell_50 rfl ?_
  refine s_iload_n G dX6_sell_51 rfl ?_
  refine s_iconst (v := 2) G dX6_sell_52 (by decide) ?_
  refine iX6_80 G (r_vi (k := 2) hv9 (by decide)) (by decide) (Nat.le_of_ble_eq_true rfl) dX6_sell_53 (fun r9 M9 hp9 => ?_)
  obtain ⟨rfl, rfl⟩ := hp9
  rw [hS2.v2 hv2]
  refine s_iconst (v := 2) G dX6_sell_56 (by decide) ?_
  refine s_icmp_ne G 67 dX6_sell_57 (by decide) (fun h57 => ?_) (fun h57 => ?_)
  · have h0 : g2.i 4 v1 2 = 0 := Decidable.byContradiction (fun q => h57 (hat.mpr q))
    refine s_aload_n G dX6_sell_67 rfl ?_
    refine s_iload_n G dX6_sell_68 rfl ?_
    refine s_iconst (v := 0) G dX6_sell_69 (by decide) ?_
    refine iX6_80 G (r_vi (k := 0) hv9 (by decide)) (by decide) (Nat.le_of_ble_eq_true rfl) dX6_sell_70 (fun r9 M9 hp9 => ?_)
    obtain ⟨rfl, rfl⟩ := hp9
    rw [hS2.v0 hv2, e0]
    refine s_iret G E9 hr dX6_sell_73 (rp_ok hsp hz2 (hS2.congr rfl (fun kd a k => ?_) (fun _ _ => rfl)))
    rw [gi_set]
    split
    · rename_i q; obtain ⟨rfl, rfl, rfl⟩ := q; exact h0.symm
    · rfl
  · have h1 : g2.i 4 v1 2 = 1 := (hI.vho hv1).elim (fun q => absurd (e2.trans q) (hat.mp h57)) (fun q => e2.trans q)
    have h3 : g.i 4 v1 3 = -1 := hI.vha hv1 (by rw [← e2]; exact h1)
    refine s_aload_n G dX6_sell_60 rfl ?_
    refine s_iload_n G dX6_sell_61 rfl ?_
    refine s_iconst (v := 2) G dX6_sell_62 (by decide) ?_
    refine s_iconst (v := 0) G dX6_sell_63 (by decide) ?_
    refine iX6_83 G (r_setVi (k := 2) hv9 (by decide) 0) (by decide) (Nat.le_of_ble_eq_true rfl) dX6_sell_64 (fun r9 M9 hp9 => ?_)
    obtain ⟨rfl, rfl⟩ := hp9
    refine s_aload_n G dX6_sell_67 rfl ?_
    refine s_iload_n G dX6_sell_68 rfl ?_
    refine s_iconst (v := 0) G dX6_sell_69 (by decide) ?_
    refine iX6_80 G (r_vi (k := 0) hv9 (by decide)) (by decide) (Nat.le_of_ble_eq_true rfl) dX6_sell_70 (fun r9 M9 hp9 => ?_)
    obtain ⟨rfl, rfl⟩ := hp9
    rw [up_at, if_neg (by omega), hS2.v0 hv2, e0]
    refine s_iret G E9 hr dX6_sell_73 (rp_ok hsp (by rw [up_ne (by simp)]; exact hz2) (hS2.wake (by rw [hg2, gi_set, if_neg (by omega)]; exact h3)))
theorem e_leave (hS : SimR N g 0) (hI : Inv g) (v : Int32) : Ret E idsR yX6_leave cX6_leave 3 (some .int) 2 45 [.ref (E.ad (14, 0, 0)), .int v] N (RPost (spLeave g v)) := by
  have hb8 := hI.nb8
  have hh12 := hI.nh12
  have hv16 := hI.nv16
  have hb31 : g.nb < 2 ^ 31 := by omega
  have hh31 : g.nh < 2 ^ 31 := by omega
  have hv31 : g.nv < 2 ^ 31 := by omega
  refine Ret_of_V RX6 (by decide) rfl idsR_nd [some (.ref (E.ad (14, 0, 0))), some (.int v), none] rfl (Nat.le_of_ble_eq_true rfl) (fun κ hE G E9 hr => ?_)
  subst hE
  refine s_aload_n G dX6_leave_0 rfl ?_
  refine s_iconst (v := 0) G dX6_leave_1 (by decide) ?_
  refine pX6_28 G dX6_leave_2 ?_
  refine V.abs (fun M1 hM1 => ?_)
  have hS1 : SimR M1 g 0 := by rw [hM1]; exact hS.thr
  have hz : M1 (14, 0, 0) 0 = 0 := by rw [hM1, up_at, if_pos rfl]
  clear hM1
  refine s_aload_n G dX6_leave_5 rfl ?_
  refine s_iload_n G dX6_leave_6 rfl ?_
  refine iX6_77 G (r_isVisitor (n := g.nv) hS1.nv (by omega) v) (by decide) (Nat.le_of_ble_eq_true rfl) dX6_leave_7 (fun r9 M9 hp9 => ?_)
  obtain ⟨rfl, ⟨v1, hv1, rfl, rfl⟩ | ⟨hno, rfl⟩⟩ := hp9
  rotate_left
  · refine s_if_ne G 19 dX6_leave_10 (by decide) (fun h10 => ?_) (fun h10 => ?_)
    · exact absurd rfl h10
    refine s_aload_n G dX6_leave_13 rfl ?_
    refine s_iconst (v := 1) G dX6_leave_14 (by decide) ?_
    refine iX6_45 G (r_fail 1) (by decide) (Nat.le_of_ble_eq_true rfl) dX6_leave_15 (fun r9 M9 hp9 => ?_)
    obtain ⟨rfl, rfl⟩ := hp9
    refine s_iret G E9 hr dX6_leave_18 (rp_fail (k := 1) (by unfold spLeave; rw [ix_out hv31 hno]) (by decide) rfl hS1)
  have hv9 : v1 < 16 := by omega
  refine s_if_ne G 19 dX6_leave_10 (by decide) (fun h10 => ?_) (fun h10 => ?_)
  rotate_left
  · exact absurd h10 (by decide)
  have hsp : spLeave g (nI v1) = (0, g.i 4 v1 3, leaveQ g v1) := by unfold spLeave; rw [ix_in hv1 hv31]
  refine s_aload_n G dX6_leave_19 rfl ?_
  refine s_iload_n G dX6_leave_20 rfl ?_
  refine s_iconst (v := 3) G dX6_leave_21 (by decide) ?_
  refine iX6_80 G (r_vi (k := 3) hv9 (by decide)) (by decide) (Nat.le_of_ble_eq_true rfl) dX6_leave_22 (fun r9 M9 hp9 => ?_)
  obtain ⟨rfl, rfl⟩ := hp9
  rw [hS1.v3 hv1]
  refine s_istore_n G dX6_leave_25 (by decide) rfl ?_
  refine s_iload_n G dX6_leave_26 rfl ?_
  refine s_iconst (v := -1) G dX6_leave_27 (by decide) ?_
  rcases hI.vat hv1 with hat | ⟨b, hb, hat⟩
  · refine s_icmp_eq G 36 dX6_leave_28 (by decide) (fun h28 => ?_) (fun h28 => ?_)
    rotate_left
    · exact absurd hat h28
    refine s_iload_n G dX6_leave_36 rfl ?_
    refine s_iret G E9 hr dX6_leave_37 (rp_ok hsp hz (hS1.congr rfl (fun kd a k => ?_) (fun b hb => ?_)))
    · show (g.set 4 v1 3 (-1)).i kd a k = _
      rw [gi_set]
      split
      · rename_i q; obtain ⟨rfl, rfl, rfl⟩ := q; exact hat.symm
      · rfl
    · exact filter_id (fun q => absurd (((hI.qm hb).mp q).2.symm.trans hat) (nI_m1 (by omega)))
  · refine s_icmp_eq G 36 dX6_leave_28 (by decide) (fun h28 => ?_) (fun h28 => ?_)
    · exact absurd (hat.symm.trans h28) (nI_m1 (by omega))
    obtain ⟨i, hi⟩ := List.getElem?_of_mem ((hI.qm hb).mpr ⟨hv1, hat⟩)
    refine s_aload_n G dX6_leave_31 rfl ?_
    refine s_iload_n G dX6_leave_32 rfl ?_
    refine iX6_86 G (r_stroll hS1 hI hb hi) (by decide) (Nat.le_of_ble_eq_true rfl) dX6_leave_33 (fun r9 M9 hp9 => ?_)
    obtain ⟨rfl, hS2, hF2⟩ := hp9
    refine s_iload_n G dX6_leave_36 rfl ?_
    refine s_iret G E9 hr dX6_leave_37 (rp_ok hsp (by rw [hF2]; exact hz) hS2)
theorem e_booth (hS : SimR N g 0) (hI : Inv g) (b x : Int32) : Ret E idsR yX6_booth cX6_booth 3 (some .int) 4 88 [.ref (E.ad (14, 0, 0)), .int b, .int x] N (RPost (spBooth g b x)) := by
  have hb8 := hI.nb8
  have hh12 := hI.nh12
  have hv16 := hI.nv16
  have hb31 : g.nb < 2 ^ 31 := by omega
  have hh31 : g.nh < 2 ^ 31 := by omega
  have hv31 : g.nv < 2 ^ 31 := by omega
  refine Ret_of_V RX6 (by decide) rfl idsR_nd [some (.ref (E.ad (14, 0, 0))), some (.int b), some (.int x)] rfl (Nat.le_of_ble_eq_true rfl) (fun κ hE G E9 hr => ?_)
  subst hE
  refine s_aload_n G dX6_booth_0 rfl ?_
  refine s_iconst (v := 0) G dX6_booth_1 (by decide) ?_
  refine pX6_28 G dX6_booth_2 ?_
  refine V.abs (fun M1 hM1 => ?_)
  have hS1 : SimR M1 g 0 := by rw [hM1]; exact hS.thr
  have hz : M1 (14, 0, 0) 0 = 0 := by rw [hM1, up_at, if_pos rfl]
  clear hM1
  refine s_aload_n G dX6_booth_5 rfl ?_
  refine s_iload_n G dX6_booth_6 rfl ?_
  refine iX6_60 G (r_isBooth (n := g.nb) hS1.nb (by omega) b) (by decide) (Nat.le_of_ble_eq_true rfl) dX6_booth_7 (fun r9 M9 hp9 => ?_)
  obtain ⟨rfl, ⟨b1, hb1, rfl, rfl⟩ | ⟨hno, rfl⟩⟩ := hp9
  rotate_left
  · refine s_if_eq G 32 dX6_booth_10 (by decide) (fun h10 => ?_) (fun h10 => ?_)
    rotate_left
    · exact absurd rfl h10
    refine s_aload_n G dX6_booth_32 rfl ?_
    refine s_iconst (v := 1) G dX6_booth_33 (by decide) ?_
    refine iX6_45 G (r_fail 1) (by decide) (Nat.le_of_ble_eq_true rfl) dX6_booth_34 (fun r9 M9 hp9 => ?_)
    obtain ⟨rfl, rfl⟩ := hp9
    refine s_iret G E9 hr dX6_booth_37 (rp_fail (k := 1) (by unfold spBooth; rw [ix_out hb31 hno]) (by decide) rfl hS1)
  refine s_if_eq G 32 dX6_booth_10 (by decide) (fun h10 => ?_) (fun h10 => ?_)
  · exact absurd h10 (by decide)
  refine s_iload_n G dX6_booth_13 rfl ?_
  refine s_iconst (v := 0) G dX6_booth_14 (by decide) ?_
  refine s_bipush (v := 9) G dX6_booth_15 (by decide) ?_
  refine iX6_35 G (r_isIn x 0 9) (by decide) (Nat.le_of_ble_eq_true rfl) dX6_booth_17 (fun r9 M9 hp9 => ?_)
  obtain ⟨rfl, ⟨hin, rfl⟩ | ⟨hin, rfl⟩⟩ := hp9
  rotate_left
  · refine s_if_eq G 32 dX6_booth_20 (by decide) (fun h20 => ?_) (fun h20 => ?_)
    rotate_left
    · exact absurd rfl h20
    refine s_aload_n G dX6_booth_32 rfl ?_
    refine s_iconst (v := 1) G dX6_booth_33 (by decide) ?_
    refine iX6_45 G (r_fail 1) (by decide) (Nat.le_of_ble_eq_true rfl) dX6_booth_34 (fun r9 M9 hp9 => ?_)
    obtain ⟨rfl, rfl⟩ := hp9
    refine s_iret G E9 hr dX6_booth_37 (rp_fail (k := 1) (by unfold spBooth; rw [ix_in hb1 hb31, ix_out (n := 10) (by decide) ((inR_pred (n := 10) (by decide) x (by decide)).2 hin)]) (by decide) rfl hS1)
  obtain ⟨k, hk, rfl⟩ := (inR_pred (n := 10) (by decide) x (by decide)).1 hin
  refine s_if_eq G 32 dX6_booth_20 (by decide) (fun h20 => ?_) (fun h20 => ?_)
  · exact absurd h20 (by decide)
  refine s_aload_n G dX6_booth_23 rfl ?_
  refine s_iload_n G dX6_booth_24 rfl ?_
  refine s_iload_n G dX6_booth_25 rfl ?_
  refine iX6_102 G (r_boothTold hS1 hI hb1 hk) (by decide) (Nat.le_of_ble_eq_true rfl) dX6_booth_26 (fun r9 M9 hp9 => ?_)
  obtain ⟨rfl, rfl⟩ := hp9
  refine s_goto G 37 dX6_booth_29 (by decide) ?_
  refine s_iret G E9 hr dX6_booth_37 (rp_ok (by unfold spBooth; rw [ix_in hb1 hb31, ix_in hk (by decide)]) hz hS1)
theorem e_queue (hS : SimR N g 0) (hI : Inv g) (b x : Int32) : Ret E idsR yX6_queue cX6_queue 3 (some .int) 2 45 [.ref (E.ad (14, 0, 0)), .int b, .int x] N (RPost (spQueue g b x)) := by
  have hb8 := hI.nb8
  have hh12 := hI.nh12
  have hv16 := hI.nv16
  have hb31 : g.nb < 2 ^ 31 := by omega
  have hh31 : g.nh < 2 ^ 31 := by omega
  have hv31 : g.nv < 2 ^ 31 := by omega
  refine Ret_of_V RX6 (by decide) rfl idsR_nd [some (.ref (E.ad (14, 0, 0))), some (.int b), some (.int x)] rfl (Nat.le_of_ble_eq_true rfl) (fun κ hE G E9 hr => ?_)
  subst hE
  refine s_aload_n G dX6_queue_0 rfl ?_
  refine s_iconst (v := 0) G dX6_queue_1 (by decide) ?_
  refine pX6_28 G dX6_queue_2 ?_
  refine V.abs (fun M1 hM1 => ?_)
  have hS1 : SimR M1 g 0 := by rw [hM1]; exact hS.thr
  have hz : M1 (14, 0, 0) 0 = 0 := by rw [hM1, up_at, if_pos rfl]
  clear hM1
  refine s_aload_n G dX6_queue_5 rfl ?_
  refine s_iload_n G dX6_queue_6 rfl ?_
  refine iX6_60 G (r_isBooth (n := g.nb) hS1.nb (by omega) b) (by decide) (Nat.le_of_ble_eq_true rfl) dX6_queue_7 (fun r9 M9 hp9 => ?_)
  obtain ⟨rfl, ⟨b1, hb1, rfl, rfl⟩ | ⟨hno, rfl⟩⟩ := hp9
  rotate_left
  · refine s_if_eq G 37 dX6_queue_10 (by decide) (fun h10 => ?_) (fun h10 => ?_)
    rotate_left
    · exact absurd rfl h10
    refine s_aload_n G dX6_queue_37 rfl ?_
    refine s_iconst (v := 1) G dX6_queue_38 (by decide) ?_
    refine iX6_45 G (r_fail 1) (by decide) (Nat.le_of_ble_eq_true rfl) dX6_queue_39 (fun r9 M9 hp9 => ?_)
    obtain ⟨rfl, rfl⟩ := hp9
    refine s_iret G E9 hr dX6_queue_42 (rp_fail (k := 1) (by unfold spQueue; rw [ix_out hb31 hno]) (by decide) rfl hS1)
  have hl16 := hI.ql16 hb1
  have hl31 : (g.q b1).length < 2 ^ 31 := by omega
  refine s_if_eq G 37 dX6_queue_10 (by decide) (fun h10 => ?_) (fun h10 => ?_)
  · exact absurd h10 (by decide)
  refine s_iload_n G dX6_queue_13 rfl ?_
  refine s_iconst (v := 0) G dX6_queue_14 (by decide) ?_
  refine s_aload_n G dX6_queue_15 rfl ?_
  refine s_iload_n G dX6_queue_16 rfl ?_
  refine iX6_99 G (r_length hS1 hI hb1) (by decide) (Nat.le_of_ble_eq_true rfl) dX6_queue_17 (fun r9 M9 hp9 => ?_)
  obtain ⟨rfl, rfl⟩ := hp9
  refine s_iconst (v := 1) G dX6_queue_20 (by decide) ?_
  refine s_isub G dX6_queue_21 ?_
  refine iX6_35 G (r_isIn x 0 (nI (g.q b1).length - 1)) (by decide) (Nat.le_of_ble_eq_true rfl) dX6_queue_22 (fun r9 M9 hp9 => ?_)
  obtain ⟨rfl, ⟨hin, rfl⟩ | ⟨hin, rfl⟩⟩ := hp9
  rotate_left
  · refine s_if_eq G 37 dX6_queue_25 (by decide) (fun h25 => ?_) (fun h25 => ?_)
    rotate_left
    · exact absurd rfl h25
    refine s_aload_n G dX6_queue_37 rfl ?_
    refine s_iconst (v := 1) G dX6_queue_38 (by decide) ?_
    refine iX6_45 G (r_fail 1) (by decide) (Nat.le_of_ble_eq_true rfl) dX6_queue_39 (fun r9 M9 hp9 => ?_)
    obtain ⟨rfl, rfl⟩ := hp9
    refine s_iret G E9 hr dX6_queue_42 (rp_fail (k := 1) (by unfold spQueue; rw [ix_in hb1 hb31]; simp only; rw [ix_out hl31 ((inR_pred (n := (g.q b1).length) (by omega) x rfl).2 hin)]) (by decide) rfl hS1)
  obtain ⟨k, hk, rfl⟩ := (inR_pred (n := (g.q b1).length) (by omega) x rfl).1 hin
  have hx : (g.q b1)[k]? = some (g.q b1)[k] := List.getElem?_eq_getElem hk
  refine s_if_eq G 37 dX6_queue_25 (by decide) (fun h25 => ?_) (fun h25 => ?_)
  · exact absurd h25 (by decide)
  refine s_aload_n G dX6_queue_28 rfl ?_
  refine s_iload_n G dX6_queue_29 rfl ?_
  refine s_iload_n G dX6_queue_30 rfl ?_
  refine iX6_105 G (r_at hS1 hI hb1 hx) (by decide) (Nat.le_of_ble_eq_true rfl) dX6_queue_31 (fun r9 M9 hp9 => ?_)
  obtain ⟨rfl, rfl⟩ := hp9
  refine s_goto G 42 dX6_queue_34 (by decide) ?_
  refine s_iret G E9 hr dX6_queue_42 (rp_ok (by unfold spQueue; rw [ix_in hb1 hb31]; simp only; rw [ix_in hk hl31]; simp only [List.getD_eq_getElem?_getD, hx, Option.getD_some]) hz hS1)
theorem e_helper (hS : SimR N g 0) (hI : Inv g) (h x : Int32) : Ret E idsR yX6_helper cX6_helper 3 (some .int) 2 43 [.ref (E.ad (14, 0, 0)), .int h, .int x] N (RPost (spHelper g h x)) := by
  have hb8 := hI.nb8
  have hh12 := hI.nh12
  have hv16 := hI.nv16
  have hb31 : g.nb < 2 ^ 31 := by omega
  have hh31 : g.nh < 2 ^ 31 := by omega
  have hv31 : g.nv < 2 ^ 31 := by omega
  refine Ret_of_V RX6 (by decide) rfl idsR_nd [some (.ref (E.ad (14, 0, 0))), some (.int h), some (.int x)] rfl (Nat.le_of_ble_eq_true rfl) (fun κ hE G E9 hr => ?_)
  subst hE
  refine s_aload_n G dX6_helper_0 rfl ?_
  refine s_iconst (v := 0) G dX6_helper_1 (by decide) ?_
  refine pX6_28 G dX6_helper_2 ?_
  refine V.abs (fun M1 hM1 => ?_)
  have hS1 : SimR M1 g 0 := by rw [hM1]; exact hS.thr
  have hz : M1 (14, 0, 0) 0 = 0 := by rw [hM1, up_at, if_pos rfl]
  clear hM1
  refine s_aload_n G dX6_helper_5 rfl ?_
  refine s_iload_n G dX6_helper_6 rfl ?_
  refine iX6_56 G (r_isHelper (n := g.nh) hS1.nh (by omega) h) (by decide) (Nat.le_of_ble_eq_true rfl) dX6_helper_7 (fun r9 M9 hp9 => ?_)
  obtain ⟨rfl, ⟨h1, hh1, rfl, rfl⟩ | ⟨hno, rfl⟩⟩ := hp9
  rotate_left
  · refine s_if_eq G 31 dX6_helper_10 (by decide) (fun h10 => ?_) (fun h10 => ?_)
    rotate_left
    · exact absurd rfl h10
    refine s_aload_n G dX6_helper_31 rfl ?_
    refine s_iconst (v := 1) G dX6_helper_32 (by decide) ?_
    refine iX6_45 G (r_fail 1) (by decide) (Nat.le_of_ble_eq_true rfl) dX6_helper_33 (fun r9 M9 hp9 => ?_)
    obtain ⟨rfl, rfl⟩ := hp9
    refine s_iret G E9 hr dX6_helper_36 (rp_fail (k := 1) (by unfold spHelper; rw [ix_out hh31 hno]) (by decide) rfl hS1)
  have hh9 : h1 < 12 := by omega
  refine s_if_eq G 31 dX6_helper_10 (by decide) (fun h10 => ?_) (fun h10 => ?_)
  · exact absurd h10 (by decide)
  refine s_iload_n G dX6_helper_13 rfl ?_
  refine s_iconst (v := 0) G dX6_helper_14 (by decide) ?_
  refine s_iconst (v := 2) G dX6_helper_15 (by decide) ?_
  refine iX6_35 G (r_isIn x 0 2) (by decide) (Nat.le_of_ble_eq_true rfl) dX6_helper_16 (fun r9 M9 hp9 => ?_)
  obtain ⟨rfl, ⟨hin, rfl⟩ | ⟨hin, rfl⟩⟩ := hp9
  rotate_left
  · refine s_if_eq G 31 dX6_helper_19 (by decide) (fun h19 => ?_) (fun h19 => ?_)
    rotate_left
    · exact absurd rfl h19
    refine s_aload_n G dX6_helper_31 rfl ?_
    refine s_iconst (v := 1) G dX6_helper_32 (by decide) ?_
    refine iX6_45 G (r_fail 1) (by decide) (Nat.le_of_ble_eq_true rfl) dX6_helper_33 (fun r9 M9 hp9 => ?_)
    obtain ⟨rfl, rfl⟩ := hp9
    refine s_iret G E9 hr dX6_helper_36 (rp_fail (k := 1) (by unfold spHelper; rw [ix_in hh1 hh31, ix_out (n := 3) (by decide) ((inR_pred (n := 3) (by decide) x (by decide)).2 hin)]) (by decide) rfl hS1)
  obtain ⟨k, hk, rfl⟩ := (inR_pred (n := 3) (by decide) x (by decide)).1 hin
  refine s_if_eq G 31 dX6_helper_19 (by decide) (fun h19 => ?_) (fun h19 => ?_)
  · exact absurd h19 (by decide)
  refine s_aload_n G dX6_helper_22 rfl ?_
  refine s_iload_n G dX6_helper_23 rfl ?_
  refine s_iload_n G dX6_helper_24 rfl ?_
  refine iX6_63 G (r_he hh9 hk) (by decide) (Nat.le_of_ble_eq_true rfl) dX6_helper_25 (fun r9 M9 hp9 => ?_)
  obtain ⟨rfl, rfl⟩ := hp9
  rw [hS1.he hh1 hk]
  refine s_goto G 36 dX6_helper_28 (by decide) ?_
  refine s_iret G E9 hr dX6_helper_36 (rp_ok (by unfold spHelper; rw [ix_in hh1 hh31, ix_in hk (by decide)]) hz hS1)
theorem e_visitor (hS : SimR N g 0) (hI : Inv g) (v x : Int32) : Ret E idsR yX6_visitor cX6_visitor 3 (some .int) 2 44 [.ref (E.ad (14, 0, 0)), .int v, .int x] N (RPost (spVisitor g v x)) := by
  have hb8 := hI.nb8
  have hh12 := hI.nh12
  have hv16 := hI.nv16
  have hb31 : g.nb < 2 ^ 31 := by omega
  have hh31 : g.nh < 2 ^ 31 := by omega
  have hv31 : g.nv < 2 ^ 31 := by omega
  refine Ret_of_V RX6 (by decide) rfl idsR_nd [some (.ref (E.ad (14, 0, 0))), some (.int v), some (.int x)] rfl (Nat.le_of_ble_eq_true rfl) (fun κ hE G E9 hr => ?_)
  subst hE
  refine s_aload_n G dX6_visitor_0 rfl ?_
  refine s_iconst (v := 0) G dX6_visitor_1 (by decide) ?_
  refine pX6_28 G dX6_visitor_2 ?_
  refine V.abs (fun M1 hM1 => ?_)
  have hS1 : SimR M1 g 0 := by rw [hM1]; exact hS.thr
  have hz : M1 (14, 0, 0) 0 = 0 := by rw [hM1, up_at, if_pos rfl]
  clear hM1
  refine s_aload_n G dX6_visitor_5 rfl ?_
  refine s_iload_n G dX6_visitor_6 rfl ?_
  refine iX6_77 G (r_isVisitor (n := g.nv) hS1.nv (by omega) v) (by decide) (Nat.le_of_ble_eq_true rfl) dX6_visitor_7 (fun r9 M9 hp9 => ?_)
  obtain ⟨rfl, ⟨v1, hv1, rfl, rfl⟩ | ⟨hno, rfl⟩⟩ := hp9
  rotate_left
  · refine s_if_eq G 32 dX6_visitor_10 (by decide) (fun h10 => ?_) (fun h10 => ?_)
    rotate_left
    · exact absurd rfl h10
    refine s_aload_n G dX6_visitor_32 rfl ?_
    refine s_iconst (v := 1) G dX6_visitor_33 (by decide) ?_
    refine iX6_45 G (r_fail 1) (by decide) (Nat.le_of_ble_eq_true rfl) dX6_visitor_34 (fun r9 M9 hp9 => ?_)
    obtain ⟨rfl, rfl⟩ := hp9
    refine s_iret G E9 hr dX6_visitor_37 (rp_fail (k := 1) (by unfold spVisitor; rw [ix_out hv31 hno]) (by decide) rfl hS1)
  refine s_if_eq G 32 dX6_visitor_10 (by decide) (fun h10 => ?_) (fun h10 => ?_)
  · exact absurd h10 (by decide)
  refine s_iload_n G dX6_visitor_13 rfl ?_
  refine s_iconst (v := 0) G dX6_visitor_14 (by decide) ?_
  refine s_bipush (v := 7) G dX6_visitor_15 (by decide) ?_
  refine iX6_35 G (r_isIn x 0 7) (by decide) (Nat.le_of_ble_eq_true rfl) dX6_visitor_17 (fun r9 M9 hp9 => ?_)
  obtain ⟨rfl, ⟨hin, rfl⟩ | ⟨hin, rfl⟩⟩ := hp9
  rotate_left
  · refine s_if_eq G 32 dX6_visitor_20 (by decide) (fun h20 => ?_) (fun h20 => ?_)
    rotate_left
    · exact absurd rfl h20
    refine s_aload_n G dX6_visitor_32 rfl ?_
    refine s_iconst (v := 1) G dX6_visitor_33 (by decide) ?_
    refine iX6_45 G (r_fail 1) (by decide) (Nat.le_of_ble_eq_true rfl) dX6_visitor_34 (fun r9 M9 hp9 => ?_)
    obtain ⟨rfl, rfl⟩ := hp9
    refine s_iret G E9 hr dX6_visitor_37 (rp_fail (k := 1) (by unfold spVisitor; rw [ix_in hv1 hv31, ix_out (n := 8) (by decide) ((inR_pred (n := 8) (by decide) x (by decide)).2 hin)]) (by decide) rfl hS1)
  obtain ⟨k, hk, rfl⟩ := (inR_pred (n := 8) (by decide) x (by decide)).1 hin
  refine s_if_eq G 32 dX6_visitor_20 (by decide) (fun h20 => ?_) (fun h20 => ?_)
  · exact absurd h20 (by decide)
  refine s_aload_n G dX6_visitor_23 rfl ?_
  refine s_iload_n G dX6_visitor_24 rfl ?_
  refine s_iload_n G dX6_visitor_25 rfl ?_
  refine iX6_108 G (r_visitorTold hS1 hI hv1 hk) (by decide) (Nat.le_of_ble_eq_true rfl) dX6_visitor_26 (fun r9 M9 hp9 => ?_)
  obtain ⟨rfl, rfl⟩ := hp9
  refine s_goto G 37 dX6_visitor_29 (by decide) ?_
  refine s_iret G E9 hr dX6_visitor_37 (rp_ok (by unfold spVisitor; rw [ix_in hv1 hv31, ix_in hk (by decide)]) hz hS1)
theorem e_practice (hS : SimR N g 0) (hI : Inv g) (v b : Int32) : Ret E idsR yX6_practice cX6_practice 3 (some .int) 2 43 [.ref (E.ad (14, 0, 0)), .int v, .int b] N (RPost (spPractice g v b)) := by
  have hb8 := hI.nb8
  have hh12 := hI.nh12
  have hv16 := hI.nv16
  have hb31 : g.nb < 2 ^ 31 := by omega
  have hh31 : g.nh < 2 ^ 31 := by omega
  have hv31 : g.nv < 2 ^ 31 := by omega
  refine Ret_of_V RX6 (by decide) rfl idsR_nd [some (.ref (E.ad (14, 0, 0))), some (.int v), some (.int b)] rfl (Nat.le_of_ble_eq_true rfl) (fun κ hE G E9 hr => ?_)
  subst hE
  refine s_aload_n G dX6_practice_0 rfl ?_
  refine s_iconst (v := 0) G dX6_practice_1 (by decide) ?_
  refine pX6_28 G dX6_practice_2 ?_
  refine V.abs (fun M1 hM1 => ?_)
  have hS1 : SimR M1 g 0 := by rw [hM1]; exact hS.thr
  have hz : M1 (14, 0, 0) 0 = 0 := by rw [hM1, up_at, if_pos rfl]
  clear hM1
  refine s_aload_n G dX6_practice_5 rfl ?_
  refine s_iload_n G dX6_practice_6 rfl ?_
  refine iX6_77 G (r_isVisitor (n := g.nv) hS1.nv (by omega) v) (by decide) (Nat.le_of_ble_eq_true rfl) dX6_practice_7 (fun r9 M9 hp9 => ?_)
  obtain ⟨rfl, ⟨v1, hv1, rfl, rfl⟩ | ⟨hno, rfl⟩⟩ := hp9
  rotate_left
  · refine s_if_eq G 35 dX6_practice_10 (by decide) (fun h10 => ?_) (fun h10 => ?_)
    rotate_left
    · exact absurd rfl h10
    refine s_aload_n G dX6_practice_35 rfl ?_
    refine s_iconst (v := 1) G dX6_practice_36 (by decide) ?_
    refine iX6_45 G (r_fail 1) (by decide) (Nat.le_of_ble_eq_true rfl) dX6_practice_37 (fun r9 M9 hp9 => ?_)
    obtain ⟨rfl, rfl⟩ := hp9
    refine s_iret G E9 hr dX6_practice_40 (rp_fail (k := 1) (by unfold spPractice; rw [ix_out hv31 hno]) (by decide) rfl hS1)
  have hv9 : v1 < 16 := by omega
  refine s_if_eq G 35 dX6_practice_10 (by decide) (fun h10 => ?_) (fun h10 => ?_)
  · exact absurd h10 (by decide)
  refine s_aload_n G dX6_practice_13 rfl ?_
  refine s_iload_n G dX6_practice_14 rfl ?_
  refine iX6_60 G (r_isBooth (n := g.nb) hS1.nb (by omega) b) (by decide) (Nat.le_of_ble_eq_true rfl) dX6_practice_15 (fun r9 M9 hp9 => ?_)
  obtain ⟨rfl, ⟨b1, hb1, rfl, rfl⟩ | ⟨hno, rfl⟩⟩ := hp9
  rotate_left
  · refine s_if_eq G 35 dX6_practice_18 (by decide) (fun h18 => ?_) (fun h18 => ?_)
    rotate_left
    · exact absurd rfl h18
    refine s_aload_n G dX6_practice_35 rfl ?_
    refine s_iconst (v := 1) G dX6_practice_36 (by decide) ?_
    refine iX6_45 G (r_fail 1) (by decide) (Nat.le_of_ble_eq_true rfl) dX6_practice_37 (fun r9 M9 hp9 => ?_)
    obtain ⟨rfl, rfl⟩ := hp9
    refine s_iret G E9 hr dX6_practice_40 (rp_fail (k := 1) (by unfold spPractice; rw [ix_in hv1 hv31, ix_out hb31 hno]) (by decide) rfl hS1)
  have hb9 : b1 < 8 := by omega
  refine s_if_eq G 35 dX6_practice_18 (by decide) (fun h18 => ?_) (fun h18 => ?_)
  · exact absurd h18 (by decide)
  refine s_aload_n G dX6_practice_21 rfl ?_
  refine gX6_19 G dX6_practice_22 ?_
  refine s_bipush (v := 8) G dX6_practice_25 (by decide) ?_
  refine s_iload_n G dX6_practice_27 rfl ?_
  refine s_imul G dX6_practice_28 ?_
  refine s_iload_n G dX6_practice_29 rfl ?_
  refine s_iadd G dX6_practice_30 ?_
  refine al_18 G (ix8 v1 b1) (by omega) dX6_practice_31 ?_
  rw [hS1.pr hv1 hv9 hb9]
  refine s_goto G 40 dX6_practice_32 (by decide) ?_
  refine s_iret G E9 hr dX6_practice_40 (rp_ok (by unfold spPractice; rw [ix_in hv1 hv31, ix_in hb1 hb31]) hz hS1)
theorem e_board (hS : SimR N g 0) (hI : Inv g) (l x : Int32) : Ret E idsR yX6_board cX6_board 3 (some .int) 1 22 [.ref (E.ad (14, 0, 0)), .int l, .int x] N (RPost (spBoard g l x)) := by
  have hb8 := hI.nb8
  have hh12 := hI.nh12
  have hv16 := hI.nv16
  have hb31 : g.nb < 2 ^ 31 := by omega
  have hh31 : g.nh < 2 ^ 31 := by omega
  have hv31 : g.nv < 2 ^ 31 := by omega
  refine Ret_of_V RX6 (by decide) rfl idsR_nd [some (.ref (E.ad (14, 0, 0))), some (.int l), some (.int x)] rfl (Nat.le_of_ble_eq_true rfl) (fun κ hE G E9 hr => ?_)
  subst hE
  refine s_aload_n G dX6_board_0 rfl ?_
  refine s_iconst (v := 0) G dX6_board_1 (by decide) ?_
  refine pX6_28 G dX6_board_2 ?_
  refine V.abs (fun M1 hM1 => ?_)
  have hS1 : SimR M1 g 0 := by rw [hM1]; exact hS.thr
  have hz : M1 (14, 0, 0) 0 = 0 := by rw [hM1, up_at, if_pos rfl]
  clear hM1
  have hl3 := hI.bd3
  have hl31 : g.bd.length < 2 ^ 31 := by omega
  refine s_iload_n G dX6_board_5 rfl ?_
  refine s_iconst (v := 0) G dX6_board_6 (by decide) ?_
  refine s_aload_n G dX6_board_7 rfl ?_
  refine gX6_25 G dX6_board_8 ?_
  refine s_iconst (v := 4) G dX6_board_11 (by decide) ?_
  refine al_20 G (show (4 : Int32) = nI 4 from rfl) (by decide) dX6_board_12 ?_
  rw [hS1.n4]
  refine s_iconst (v := 1) G dX6_board_13 (by decide) ?_
  refine s_isub G dX6_board_14 ?_
  refine iX6_35 G (r_isIn l 0 (nI g.bd.length - 1)) (by decide) (Nat.le_of_ble_eq_true rfl) dX6_board_15 (fun r9 M9 hp9 => ?_)
  obtain ⟨rfl, ⟨hin, rfl⟩ | ⟨hin, rfl⟩⟩ := hp9
  rotate_left
  · refine s_if_eq G 43 dX6_board_18 (by decide) (fun h18 => ?_) (fun h18 => ?_)
    rotate_left
    · exact absurd rfl h18
    refine s_aload_n G dX6_board_43 rfl ?_
    refine s_iconst (v := 1) G dX6_board_44 (by decide) ?_
    refine iX6_45 G (r_fail 1) (by decide) (Nat.le_of_ble_eq_true rfl) dX6_board_45 (fun r9 M9 hp9 => ?_)
    obtain ⟨rfl, rfl⟩ := hp9
    refine s_iret G E9 hr dX6_board_48 (rp_fail (k := 1) (by unfold spBoard; rw [ix_out hl31 ((inR_pred (n := g.bd.length) (by omega) l rfl).2 hin)]) (by decide) rfl hS1)
  obtain ⟨l1, hl1, rfl⟩ := (inR_pred (n := g.bd.length) (by omega) l rfl).1 hin
  have hx : g.bd[l1]? = some g.bd[l1] := List.getElem?_eq_getElem hl1
  refine s_if_eq G 43 dX6_board_18 (by decide) (fun h18 => ?_) (fun h18 => ?_)
  · exact absurd h18 (by decide)
  refine s_iload_n G dX6_board_21 rfl ?_
  refine s_iconst (v := 0) G dX6_board_22 (by decide) ?_
  refine s_iconst (v := 2) G dX6_board_23 (by decide) ?_
  refine iX6_35 G (r_isIn x 0 2) (by decide) (Nat.le_of_ble_eq_true rfl) dX6_board_24 (fun r9 M9 hp9 => ?_)
  obtain ⟨rfl, ⟨hin2, rfl⟩ | ⟨hin2, rfl⟩⟩ := hp9
  rotate_left
  · refine s_if_eq G 43 dX6_board_27 (by decide) (fun h27 => ?_) (fun h27 => ?_)
    rotate_left
    · exact absurd rfl h27
    refine s_aload_n G dX6_board_43 rfl ?_
    refine s_iconst (v := 1) G dX6_board_44 (by decide) ?_
    refine iX6_45 G (r_fail 1) (by decide) (Nat.le_of_ble_eq_true rfl) dX6_board_45 (fun r9 M9 hp9 => ?_)
    obtain ⟨rfl, rfl⟩ := hp9
    refine s_iret G E9 hr dX6_board_48 (rp_fail (k := 1) (by unfold spBoard; rw [ix_in hl1 hl31, ix_out (n := 3) (by decide) ((inR_pred (n := 3) (by decide) x (by decide)).2 hin2)]) (by decide) rfl hS1)
  obtain ⟨k, hk, rfl⟩ := (inR_pred (n := 3) (by decide) x (by decide)).1 hin2
  refine s_if_eq G 43 dX6_board_27 (by decide) (fun h27 => ?_) (fun h27 => ?_)
  · exact absurd h27 (by decide)
  have hsp : spBoard g (nI l1) (nI k) = (0, lfc g.bd[l1] k, g) := by
    unfold spBoard
    rw [ix_in hl1 hl31, ix_in hk (by decide)]
    simp only [List.getD_eq_getElem?_getD, hx, Option.getD_some]
  have hl := hS1.bde hx
  have hv : M1 (19, 0, 0) (3 * l1 + k) = lfc g.bd[l1] k := by
    match k, hk with
    | 0, _ => exact hl.1
    | 1, _ => exact hl.2.1
    | 2, _ => exact hl.2.2
    | k + 3, h => omega
  refine s_aload_n G dX6_board_30 rfl ?_
  refine gX6_22 G dX6_board_31 ?_
  refine s_iconst (v := 3) G dX6_board_34 (by decide) ?_
  refine s_iload_n G dX6_board_35 rfl ?_
  refine s_imul G dX6_board_36 ?_
  refine s_iload_n G dX6_board_37 rfl ?_
  refine s_iadd G dX6_board_38 ?_
  refine al_19 G (ix3 l1 k) (by omega) dX6_board_39 ?_
  rw [hv]
  refine s_goto G 48 dX6_board_40 (by decide) ?_
  refine s_iret G E9 hr dX6_board_48 (rp_ok hsp hz hS1)
theorem e_pass (hS : SimR N g 0) (hI : Inv g) (n : Int32) : Ret E idsR yX6_pass cX6_pass 2 (some .int) 6 136 [.ref (E.ad (14, 0, 0)), .int n] N (RPost (spPass g n)) := by
  have hb8 := hI.nb8
  have hh12 := hI.nh12
  have hv16 := hI.nv16
  have hb31 : g.nb < 2 ^ 31 := by omega
  have hh31 : g.nh < 2 ^ 31 := by omega
  have hv31 : g.nv < 2 ^ 31 := by omega
  refine Ret_of_V RX6 (by decide) rfl idsR_nd [some (.ref (E.ad (14, 0, 0))), some (.int n)] rfl (Nat.le_of_ble_eq_true rfl) (fun κ hE G E9 hr => ?_)
  subst hE
  refine s_aload_n G dX6_pass_0 rfl ?_
  refine s_iconst (v := 0) G dX6_pass_1 (by decide) ?_
  refine pX6_28 G dX6_pass_2 ?_
  refine V.abs (fun M1 hM1 => ?_)
  have hS1 : SimR M1 g 0 := by rw [hM1]; exact hS.thr
  have hz : M1 (14, 0, 0) 0 = 0 := by rw [hM1, up_at, if_pos rfl]
  clear hM1
  refine s_iload_n G dX6_pass_5 rfl ?_
  refine s_iconst (v := 1) G dX6_pass_6 (by decide) ?_
  refine s_sipush (v := 200) G dX6_pass_7 (by decide) ?_
  refine iX6_35 G (r_isIn n 1 200) (by decide) (Nat.le_of_ble_eq_true rfl) dX6_pass_10 (fun r9 M9 hp9 => ?_)
  obtain ⟨rfl, ⟨hin, rfl⟩ | ⟨hin, rfl⟩⟩ := hp9
  rotate_left
  · refine s_if_eq G 24 dX6_pass_13 (by decide) (fun h13 => ?_) (fun h13 => ?_)
    rotate_left
    · exact absurd rfl h13
    refine s_aload_n G dX6_pass_24 rfl ?_
    refine s_iconst (v := 1) G dX6_pass_25 (by decide) ?_
    refine iX6_45 G (r_fail 1) (by decide) (Nat.le_of_ble_eq_true rfl) dX6_pass_26 (fun r9 M9 hp9 => ?_)
    obtain ⟨rfl, rfl⟩ := hp9
    refine s_iret G E9 hr dX6_pass_29 (rp_fail (k := 1) (by unfold spPass; rw [if_pos hin]) (by decide) rfl hS1)
  obtain ⟨k, hk1, hk2, hnk, hck⟩ := inR_nat (n := 200) (by decide) hin
  refine s_if_eq G 24 dX6_pass_13 (by decide) (fun h13 => ?_) (fun h13 => ?_)
  · exact absurd h13 (by decide)
  have hsp : spPass g n = (0, (rounds9 g k).i 1 0 10 - g.i 1 0 10, rounds9 g k) := by unfold spPass; rw [if_neg (fun q => q hin), hck]
  rw [hnk]
  refine s_aload_n G dX6_pass_16 rfl ?_
  refine s_iload_n G dX6_pass_17 rfl ?_
  refine iX6_140 G (r_roundsOn hS1 hI (by omega)) (by decide) (Nat.le_of_ble_eq_true rfl) dX6_pass_18 (fun r9 M9 hp9 => ?_)
  obtain ⟨rfl, hS2, hF2⟩ := hp9
  refine s_goto G 29 dX6_pass_21 (by decide) ?_
  rw [← hnk]
  refine s_iret G E9 hr dX6_pass_29 (rp_ok hsp (by rw [hF2]; exact hz) hS2)
theorem e_count (hS : SimR N g 0) (hI : Inv g) (x : Int32) : Ret E idsR yX6_count cX6_count 2 (some .int) 4 89 [.ref (E.ad (14, 0, 0)), .int x] N (RPost (spCount g x)) := by
  have hb8 := hI.nb8
  have hh12 := hI.nh12
  have hv16 := hI.nv16
  have hb31 : g.nb < 2 ^ 31 := by omega
  have hh31 : g.nh < 2 ^ 31 := by omega
  have hv31 : g.nv < 2 ^ 31 := by omega
  refine Ret_of_V RX6 (by decide) rfl idsR_nd [some (.ref (E.ad (14, 0, 0))), some (.int x)] rfl (Nat.le_of_ble_eq_true rfl) (fun κ hE G E9 hr => ?_)
  subst hE
  refine s_aload_n G dX6_count_0 rfl ?_
  refine s_iconst (v := 0) G dX6_count_1 (by decide) ?_
  refine pX6_28 G dX6_count_2 ?_
  refine V.abs (fun M1 hM1 => ?_)
  have hS1 : SimR M1 g 0 := by rw [hM1]; exact hS.thr
  have hz : M1 (14, 0, 0) 0 = 0 := by rw [hM1, up_at, if_pos rfl]
  clear hM1
  refine s_iload_n G dX6_count_5 rfl ?_
  refine s_iconst (v := 0) G dX6_count_6 (by decide) ?_
  refine s_bipush (v := 10) G dX6_count_7 (by decide) ?_
  refine iX6_35 G (r_isIn x 0 10) (by decide) (Nat.le_of_ble_eq_true rfl) dX6_count_9 (fun r9 M9 hp9 => ?_)
  obtain ⟨rfl, ⟨hin, rfl⟩ | ⟨hin, rfl⟩⟩ := hp9
  rotate_left
  · refine s_if_eq G 23 dX6_count_12 (by decide) (fun h12 => ?_) (fun h12 => ?_)
    rotate_left
    · exact absurd rfl h12
    refine s_aload_n G dX6_count_23 rfl ?_
    refine s_iconst (v := 1) G dX6_count_24 (by decide) ?_
    refine iX6_45 G (r_fail 1) (by decide) (Nat.le_of_ble_eq_true rfl) dX6_count_25 (fun r9 M9 hp9 => ?_)
    obtain ⟨rfl, rfl⟩ := hp9
    refine s_iret G E9 hr dX6_count_28 (rp_fail (k := 1) (by unfold spCount; rw [ix_out (n := 11) (by decide) ((inR_pred (n := 11) (by decide) x (by decide)).2 hin)]) (by decide) rfl hS1)
  obtain ⟨k, hk, rfl⟩ := (inR_pred (n := 11) (by decide) x (by decide)).1 hin
  refine s_if_eq G 23 dX6_count_12 (by decide) (fun h12 => ?_) (fun h12 => ?_)
  · exact absurd h12 (by decide)
  refine s_aload_n G dX6_count_15 rfl ?_
  refine s_iload_n G dX6_count_16 rfl ?_
  refine iX6_146 G (r_counted hS1 hI hk) (by decide) (Nat.le_of_ble_eq_true rfl) dX6_count_17 (fun r9 M9 hp9 => ?_)
  obtain ⟨rfl, rfl⟩ := hp9
  refine s_goto G 28 dX6_count_20 (by decide) ?_
  refine s_iret G E9 hr dX6_count_28 (rp_ok (by unfold spCount; rw [ix_in hk (by decide)]) hz hS1)
end RF
