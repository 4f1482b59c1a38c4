/-! ===== a play, a booth's turn, a helper's ===== -/
theorem V.abs {κ : KX} {ids : List Pid} {nL : Nat} {M : Mem} {l : LSt} {st : List Value} {pc : Nat} (h : ∀ M', M' = M → V κ ids nL M' l st pc) : V κ ids nL M l st pc := h M rfl
section InvKeep
variable {g : GS} {x : Int32}
theorem Inv.v4 (h : Inv g) {v k : Nat} (h2 : k ≠ 2) (h3 : k ≠ 3) : Inv (g.set 4 v k x) := by
  obtain ⟨a1, a2, a3, a4, a5, a6, a7⟩ := h
  refine ⟨a1, fun h hh => ?_, fun u hu => ?_, fun b hb => ?_, a5, a6, a7⟩
  · simpa [gi_set, gnb_set, gnv_set, gq_set] using a2 h hh
  · have e2 : (g.set 4 v k x).i 4 u 2 = g.i 4 u 2 := by rw [gi_set, if_neg (by omega)]
    have e3 : (g.set 4 v k x).i 4 u 3 = g.i 4 u 3 := by rw [gi_set, if_neg (by omega)]
    have e4 : ∀ b, (g.set 4 v k x).i 10 u b = g.i 10 u b := fun b => by rw [gi_set, if_neg (by omega)]
    rw [e2, e3]
    simp only [e4]
    exact a3 u hu
  · have e3 : ∀ u, (g.set 4 v k x).i 4 u 3 = g.i 4 u 3 := fun u => by rw [gi_set, if_neg (by omega)]
    have e5 : (g.set 4 v k x).i 2 b 2 = g.i 2 b 2 := by rw [gi_set, if_neg (by omega)]
    rw [e5]
    simp only [e3]
    exact a4 b hb
theorem Inv.b2 (h : Inv g) {v k : Nat} (h2 : k = 2 → 0 ≤ x ∧ x ≤ 99) : Inv (g.set 2 v k x) := by
  obtain ⟨a1, a2, a3, a4, a5, a6, a7⟩ := h
  refine ⟨a1, fun h hh => ?_, fun u hu => ?_, fun b hb => ?_, a5, a6, a7⟩
  · simpa [gi_set, gnb_set, gnv_set, gq_set] using a2 h hh
  · simpa [gi_set, gnb_set, gnv_set, gq_set] using a3 u hu
  · have e3 : ∀ u, (g.set 2 v k x).i 4 u 3 = g.i 4 u 3 := fun u => by rw [gi_set, if_neg (by omega)]
    simp only [e3]
    refine ⟨(a4 b hb).1, (a4 b hb).2.1, ?_⟩
    rw [gi_set]
    split
    · rename_i q; exact h2 q.2.2.symm
    · exact (a4 b hb).2.2
theorem Inv.p10 (h : Inv g) {v k : Nat} (h1 : 0 ≤ x) (h2 : x ≤ 9) : Inv (g.set 10 v k x) := by
  obtain ⟨a1, a2, a3, a4, a5, a6, a7⟩ := h
  refine ⟨a1, fun h hh => ?_, fun u hu => ?_, fun b hb => ?_, a5, a6, a7⟩
  · simpa [gi_set, gnb_set, gnv_set, gq_set] using a2 h hh
  · have e2 : (g.set 10 v k x).i 4 u 2 = g.i 4 u 2 := by rw [gi_set, if_neg (by omega)]
    have e3 : (g.set 10 v k x).i 4 u 3 = g.i 4 u 3 := by rw [gi_set, if_neg (by omega)]
    rw [e2, e3]
    refine ⟨(a3 u hu).1, (a3 u hu).2.1, (a3 u hu).2.2.1, fun b hb => ?_⟩
    rw [gi_set]
    split
    · exact ⟨h1, h2⟩
    · exact (a3 u hu).2.2.2 b hb
  · have e3 : ∀ u, (g.set 10 v k x).i 4 u 3 = g.i 4 u 3 := fun u => by rw [gi_set, if_neg (by omega)]
    have e5 : (g.set 10 v k x).i 2 b 2 = g.i 2 b 2 := by rw [gi_set, if_neg (by omega)]
    rw [e5]
    simp only [e3]
    exact a4 b hb
theorem Inv.f1 (h : Inv g) {v k : Nat} : Inv (g.set 1 v k x) := by
  obtain ⟨a1, a2, a3, a4, a5, a6, a7⟩ := h
  exact ⟨a1, fun h hh => by simpa [gi_set, gnb_set, gnv_set, gq_set] using a2 h hh, fun u hu => by simpa [gi_set, gnb_set, gnv_set, gq_set] using a3 u hu, fun b hb => by simpa [gi_set, gnb_set, gnv_set, gq_set] using a4 b hb, a5, a6, a7⟩
theorem Inv.setbd (h : Inv g) {L : List (Nat × Nat × Int32)} (h1 : L.length ≤ 3) (h2 : ∀ x, x ∈ L → x.1 < g.nv) (h3 : L.Pairwise (fun x y => y.2.2 ≤ x.2.2)) : Inv (g.setbd L) := by
  obtain ⟨a1, a2, a3, a4, a5, a6, a7⟩ := h
  exact ⟨a1, a2, a3, a4, h1, h2, h3⟩
end InvKeep
section Pl
variable {E : EX} {M : Mem} {f : Nat} {g : GS}
theorem c_pointsOf {v b : Nat} (hf : f < 2) (hS : SimC f M g) (hI : Inv g) (hv : v < g.nv) (hb : b < g.nb) : Ret E idsC yX2_pointsOf cX2_pointsOf 5 (some .int) 0 0 [.ref (E.ad (1, f, 0)), .ref (E.ad (4, f, v)), .int (nI b)] M (fun r M' => r = some (.int (pts g v b)) ∧ M = M') := by
  have hb8 : b < 8 := Nat.lt_of_lt_of_le hb hI.nb8
  have hv16 : v < 16 := Nat.lt_of_lt_of_le hv hI.nv16
  have e1 := hS.num (k := 9) (by decide) (by decide)
  have e2 := hS.bo (k := 3) hb (by decide) (by decide)
  have e3 := hS.wks hb
  have e4 := hS.vi (k := 1) hv (by decide)
  have e5 := hS.pr hv hb8
  refine Ret_of_V RX2 (by decide) rfl idsC_nd [some (.ref (E.ad (1, f, 0))), some (.ref (E.ad (4, f, v))), some (.int (nI b)), none, none] rfl (Nat.le_of_ble_eq_true rfl) (fun κ hE G E9 hr => ?_)
  subst hE
  refine s_aload_n G dX2_pointsOf_0 rfl ?_
  refine gX2_11 G (by assumption) dX2_pointsOf_1 ?_
  refine s_iload_n G dX2_pointsOf_4 rfl ?_
  refine ar_6 G (by assumption) rfl (by first | assumption | omega) dX2_pointsOf_5 ?_
  refine s_astore_n G dX2_pointsOf_6 (by decide) rfl ?_
  refine s_aload_n G dX2_pointsOf_7 rfl ?_
  refine gX2_205 G (by assumption) (by assumption) dX2_pointsOf_8 ?_
  rw [e4]
  refine s_iconst (v := 3) G dX2_pointsOf_11 (by decide) ?_
  refine s_aload_n G dX2_pointsOf_12 rfl ?_
  refine gX2_161 G (by assumption) (by assumption) dX2_pointsOf_13 ?_
  refine s_iload_n G dX2_pointsOf_16 rfl ?_
  refine al_10 G (by assumption) (by assumption) rfl (by first | assumption | omega) dX2_pointsOf_17 ?_
  rw [e5]
  refine s_imul G dX2_pointsOf_18 ?_
  refine s_iadd G dX2_pointsOf_19 ?_
  refine s_iconst (v := 5) G dX2_pointsOf_20 (by decide) ?_
  refine s_aload_n G dX2_pointsOf_21 rfl ?_
  refine gX2_93 G (by assumption) (by assumption) dX2_pointsOf_22 ?_
  rw [e3]
  refine s_aload_n G dX2_pointsOf_25 rfl ?_
  refine gX2_208 G (by assumption) (by assumption) dX2_pointsOf_26 ?_
  rw [e2]
  refine s_isub G dX2_pointsOf_29 ?_
  refine s_imul G dX2_pointsOf_30 ?_
  refine s_iadd G dX2_pointsOf_31 ?_
  refine s_istore G dX2_pointsOf_32 (by decide) rfl ?_
  refine s_iload_n G dX2_pointsOf_34 rfl ?_
  refine s_aload_n G dX2_pointsOf_35 rfl ?_
  refine gX2_40 G (by assumption) dX2_pointsOf_36 ?_
  rw [e1]
  refine s_icmp_ne G 49 dX2_pointsOf_39 (by decide) (fun h39 => ?_) (fun h39 => ?_)
  · refine s_iload G dX2_pointsOf_49 rfl ?_
    refine s_iret G E9 hr dX2_pointsOf_51 ⟨by unfold pts; rw [if_neg h39], rfl⟩
  · refine s_iconst (v := 2) G dX2_pointsOf_42 (by decide) ?_
    refine s_iload G dX2_pointsOf_43 rfl ?_
    refine s_imul G dX2_pointsOf_45 ?_
    refine s_goto G 51 dX2_pointsOf_46 (by decide) ?_
    refine s_iret G E9 hr dX2_pointsOf_51 ⟨by unfold pts; rw [if_pos h39], rfl⟩
/-- a fact's set, seen from the others -/
theorem cst_congr {g g' : GS} (b : Nat) (h1 : g'.i 1 0 9 = g.i 1 0 9) (h2 : g'.i 2 b 0 = g.i 2 b 0) : cst g' b = cst g b := by
  unfold cst
  rw [h1, h2]
theorem pts_congr {g g' : GS} {v b : Nat} (h1 : g'.i 4 v 1 = g.i 4 v 1) (h2 : g'.i 10 v b = g.i 10 v b) (h3 : wk g' b = wk g b) (h4 : g'.i 2 b 3 = g.i 2 b 3) (h5 : g'.i 1 0 9 = g.i 1 0 9) : pts g' v b = pts g v b := by
  unfold pts
  rw [h1, h2, h3, h4, h5]
theorem c_play {v b : Nat} (hf : f < 2) (hS : SimC f M g) (hI : Inv g) (hv : v < g.nv) (hb : b < g.nb) : Ret E idsC yX2_play cX2_play 7 none 2 46 [.ref (E.ad (1, f, 0)), .int (nI v), .int (nI b)] M (fun r M' => r = none ∧ SimC f M' (play9 g v b) ∧ Fr f g.2.2.1 M M') := by
  have hb8 : b < 8 := Nat.lt_of_lt_of_le hb hI.nb8
  have hv16 : v < 16 := Nat.lt_of_lt_of_le hv hI.nv16
  refine Ret_of_V RX2 (by decide) rfl idsC_nd [some (.ref (E.ad (1, f, 0))), some (.int (nI v)), some (.int (nI b)), none, none, none, none] rfl (Nat.le_of_ble_eq_true rfl) (fun κ hE G E9 hr => ?_)
  subst hE
  refine s_aload_n G dX2_play_0 rfl ?_
  refine gX2_25 G (by assumption) dX2_play_1 ?_
  refine s_iload_n G dX2_play_4 rfl ?_
  refine ar_8 G (by assumption) rfl (by first | assumption | omega) dX2_play_5 ?_
  refine s_astore_n G dX2_play_6 (by decide) rfl ?_
  refine s_aload_n G dX2_play_7 rfl ?_
  refine gX2_11 G (by assumption) dX2_play_8 ?_
  refine s_iload_n G dX2_play_11 rfl ?_
  refine ar_6 G (by assumption) rfl (by first | assumption | omega) dX2_play_12 ?_
  refine s_astore G dX2_play_13 (by decide) rfl ?_
  refine s_aload_n G dX2_play_15 rfl ?_
  refine s_iload_n G dX2_play_16 rfl ?_
  refine iX2_154 G (by assumption) (c_costNow hf hS hI hb) (by decide) (Nat.le_of_ble_eq_true rfl) dX2_play_17 (fun r9 M9 hp9 => ?_)
  obtain ⟨rfl, rfl⟩ := hp9
  refine s_istore G dX2_play_20 (by decide) rfl ?_
  refine s_aload_n G dX2_play_22 rfl ?_
  refine s_dup G dX2_play_23 rfl ?_
  refine gX2_144 G (by assumption) (by assumption) dX2_play_24 ?_
  rw [hS.vi (k := 0) hv (by decide)]
  refine s_iload G dX2_play_27 rfl ?_
  refine s_isub G dX2_play_29 ?_
  refine pX2_144 G (by assumption) (by assumption) dX2_play_30 ?_
  refine V.abs (fun M1 hM1 => ?_)
  obtain ⟨g1, hg1⟩ : ∃ g1, g1 = g.set 4 v 0 (g.i 4 v 0 - cst g b) := ⟨_, rfl⟩
  have hS1 : SimC f M1 g1 := by rw [hM1, hg1]; exact hS.v4
  have hF1 : Fr f g.2.2.1 M M1 := by rw [hM1]; exact Fr.v4 Fr.rf hv
  have hI1 : Inv g1 := by rw [hg1]; exact hI.v4 (by decide) (by decide)
  have hn1 : g1.2.2.1 = g.2.2.1 := by rw [hg1]; rfl
  have hb1 : b < g1.nb := by rw [hg1]; exact hb
  have hv1 : v < g1.nv := by rw [hg1]; exact hv
  clear hM1
  refine s_aload G dX2_play_33 rfl ?_
  refine s_dup G dX2_play_35 rfl ?_
  refine gX2_180 G (by assumption) (by assumption) dX2_play_36 ?_
  rw [hS1.bo (k := 6) hb1 (by decide) (by decide), show g1.i 2 b 6 = g.i 2 b 6 by rw [hg1, gi_set, if_neg (by omega)]]
  refine s_iload G dX2_play_39 rfl ?_
  refine s_iadd G dX2_play_41 ?_
  refine pX2_180 G (by assumption) (by assumption) dX2_play_42 ?_
  refine V.abs (fun M2 hM2 => ?_)
  obtain ⟨g2, hg2⟩ : ∃ g2, g2 = g1.set 2 b 6 (g.i 2 b 6 + cst g b) := ⟨_, rfl⟩
  have hS2 : SimC f M2 g2 := by rw [hM2, hg2]; exact hS1.b2 (by decide) (by decide)
  have hF2 : Fr f g.2.2.1 M M2 := by rw [hM2]; exact Fr.b2 hF1 hb
  have hI2 : Inv g2 := by rw [hg2]; exact hI1.b2 (fun q => by cases q)
  have hb2 : b < g2.nb := by rw [hg2]; exact hb1
  have hv2 : v < g2.nv := by rw [hg2]; exact hv1
  clear hM2
  have hp : pts g2 v b = pts g v b := by
    apply pts_congr
    · rw [hg2, hg1]; simp [gi_set]
    · rw [hg2, hg1]; simp [gi_set]
    · rw [hg2, hg1, wk_set (by omega), wk_set (by omega)]
    · rw [hg2, hg1]; simp [gi_set]
    · rw [hg2, hg1]; simp [gi_set]
  have hbd2 : g2.bd = g.bd := by rw [hg2, hg1]; rfl
  refine s_aload_n G dX2_play_45 rfl ?_
  refine s_aload_n G dX2_play_46 rfl ?_
  refine s_iload_n G dX2_play_47 rfl ?_
  refine iX2_183 G (by assumption) (c_pointsOf hf hS2 hI2 hv2 hb2) (by decide) (Nat.le_of_ble_eq_true rfl) dX2_play_48 (fun r9 M9 hp9 => ?_)
  obtain ⟨rfl, rfl⟩ := hp9
  rw [hp]
  refine s_istore G dX2_play_51 (by decide) rfl ?_
  refine s_aload_n G dX2_play_53 rfl ?_
  refine gX2_32 G (by assumption) dX2_play_54 ?_
  refine s_iload_n G dX2_play_57 rfl ?_
  refine s_iload_n G dX2_play_58 rfl ?_
  refine s_iload G dX2_play_59 rfl ?_
  refine iX2_187 G (by assumption) (c_write hf hS2.bdl hI2.bd3 (fun l x hx => hS2.bde hx) hI2.bds v b (pts g v b)) (by decide) (Nat.le_of_ble_eq_true rfl) dX2_play_61 (fun r9 M9 hp9 => ?_)
  obtain ⟨rfl, hnb, hl3, he3⟩ := hp9
  rw [hbd2] at hl3 he3
  rename Mem => M3
  obtain ⟨g3, hg3⟩ : ∃ g3, g3 = g2.setbd (bdIns g.bd (v, b, pts g v b)) := ⟨_, rfl⟩
  have hS3 : SimC f M3 g3 := by
    rw [hg3]
    refine hS2.setbd (fun kd a k h1 h2 h3 h4 => ?_) hl3 he3
    by_cases h5 : kd = 5 ∧ a = 0
    · obtain ⟨rfl, rfl⟩ := h5
      exact hnb.2 k (fun q => h4 ⟨rfl, q⟩)
    · rw [hnb.1 _ (by simpa using h5) (by simp [h1]) (by simp [h2]) (by simp [h3])]
  have hF3 : Fr f g.2.2.1 M M3 := by
    refine hF2.trans (fun kd f' a hf' => hnb.1 _ ?_ ?_ ?_ ?_) <;> (intro q; cases q; unfold oR at hf'; omega)
  have hb3 : b < g3.nb := by rw [hg3]; exact hb2
  have hv3 : v < g3.nv := by rw [hg3]; exact hv2
  refine s_aload_n G dX2_play_64 rfl ?_
  refine gX2_161 G (by assumption) (by assumption) dX2_play_65 ?_
  refine s_iload_n G dX2_play_68 rfl ?_
  refine s_aload_n G dX2_play_69 rfl ?_
  refine gX2_161 G (by assumption) (by assumption) dX2_play_70 ?_
  refine s_iload_n G dX2_play_73 rfl ?_
  refine al_10 G (by assumption) (by assumption) rfl (by first | assumption | omega) dX2_play_74 ?_
  rw [hS3.pr hv3 hb8, show g3.i 10 v b = g.i 10 v b by rw [hg3, hg2, hg1]; simp [gi_set, gi_setbd]]
  refine s_iconst (v := 1) G dX2_play_75 (by decide) ?_
  refine s_iadd G dX2_play_76 ?_
  refine s_bipush (v := 9) G dX2_play_77 (by decide) ?_
  refine iX2_165 G dX2_play_79 (by decide) (Nat.le_of_ble_eq_true rfl) ?_
  refine as_10 G (by assumption) (by assumption) rfl (by first | assumption | omega) dX2_play_82 ?_
  refine V.abs (fun M4 hM4 => ?_)
  obtain ⟨g4, hg4⟩ : ∃ g4, g4 = g3.set 10 v b (min9 (g.i 10 v b + 1) 9) := ⟨_, rfl⟩
  have hS4 : SimC f M4 g4 := by rw [hM4, hg4]; exact hS3.p10
  have hF4 : Fr f g.2.2.1 M M4 := by rw [hM4]; exact Fr.p10 hF3 hv
  have hb4 : b < g4.nb := by rw [hg4]; exact hb3
  have hv4 : v < g4.nv := by rw [hg4]; exact hv3
  clear hM4
  refine s_aload_n G dX2_play_83 rfl ?_
  refine s_dup G dX2_play_84 rfl ?_
  refine gX2_191 G (by assumption) (by assumption) dX2_play_85 ?_
  rw [hS4.vi (k := 6) hv4 (by decide), show g4.i 4 v 6 = g.i 4 v 6 by rw [hg4, hg3, hg2, hg1]; simp [gi_set, gi_setbd]]
  refine s_iconst (v := 1) G dX2_play_88 (by decide) ?_
  refine s_iadd G dX2_play_89 ?_
  refine pX2_191 G (by assumption) (by assumption) dX2_play_90 ?_
  refine V.abs (fun M5 hM5 => ?_)
  obtain ⟨g5, hg5⟩ : ∃ g5, g5 = g4.set 4 v 6 (g.i 4 v 6 + 1) := ⟨_, rfl⟩
  have hS5 : SimC f M5 g5 := by rw [hM5, hg5]; exact hS4.v4
  have hF5 : Fr f g.2.2.1 M M5 := by rw [hM5]; exact Fr.v4 hF4 hv
  have hb5 : b < g5.nb := by rw [hg5]; exact hb4
  have hv5 : v < g5.nv := by rw [hg5]; exact hv4
  clear hM5
  refine s_aload G dX2_play_93 rfl ?_
  refine s_dup G dX2_play_95 rfl ?_
  refine gX2_194 G (by assumption) (by assumption) dX2_play_96 ?_
  rw [hS5.bo (k := 5) hb5 (by decide) (by decide), show g5.i 2 b 5 = g.i 2 b 5 by rw [hg5, hg4, hg3, hg2, hg1]; simp [gi_set, gi_setbd]]
  refine s_iconst (v := 1) G dX2_play_99 (by decide) ?_
  refine s_iadd G dX2_play_100 ?_
  refine pX2_194 G (by assumption) (by assumption) dX2_play_101 ?_
  refine V.abs (fun M6 hM6 => ?_)
  obtain ⟨g6, hg6⟩ : ∃ g6, g6 = g5.set 2 b 5 (g.i 2 b 5 + 1) := ⟨_, rfl⟩
  have hS6 : SimC f M6 g6 := by rw [hM6, hg6]; exact hS5.b2 (by decide) (by decide)
  have hF6 : Fr f g.2.2.1 M M6 := by rw [hM6]; exact Fr.b2 hF5 hb
  have hb6 : b < g6.nb := by rw [hg6]; exact hb5
  have hv6 : v < g6.nv := by rw [hg6]; exact hv5
  clear hM6
  refine s_aload_n G dX2_play_104 rfl ?_
  refine s_aload_n G dX2_play_105 rfl ?_
  refine gX2_195 G (by assumption) (by assumption) dX2_play_106 ?_
  rw [hS6.vi (k := 7) hv6 (by decide), show g6.i 4 v 7 = g.i 4 v 7 by rw [hg6, hg5, hg4, hg3, hg2, hg1]; simp [gi_set, gi_setbd]]
  refine s_iload G dX2_play_109 rfl ?_
  refine iX2_198 G dX2_play_111 (by decide) (Nat.le_of_ble_eq_true rfl) ?_
  refine pX2_195 G (by assumption) (by assumption) dX2_play_114 ?_
  refine V.abs (fun M7 hM7 => ?_)
  obtain ⟨g7, hg7⟩ : ∃ g7, g7 = g6.set 4 v 7 (max9 (g.i 4 v 7) (pts g v b)) := ⟨_, rfl⟩
  have hS7 : SimC f M7 g7 := by rw [hM7, hg7]; exact hS6.v4
  have hF7 : Fr f g.2.2.1 M M7 := by rw [hM7]; exact Fr.v4 hF6 hv
  have hb7 : b < g7.nb := by rw [hg7]; exact hb6
  have hv7 : v < g7.nv := by rw [hg7]; exact hv6
  clear hM7
  have hpl : play9 g v b = if g.i 2 b 1 ≤ pts g v b ∧ 0 < g.i 2 b 2 then ((g7.set 2 b 2 (g.i 2 b 2 - 1)).set 4 v 4 (g.i 4 v 4 + 1)).set 1 0 10 (g.i 1 0 10 + 1) else g7 := by
    rw [hg7, hg6, hg5, hg4, hg3, hg2, hg1]
    unfold play9
    simp only [gi_set, gi_setbd]
  refine s_iload G dX2_play_117 rfl ?_
  refine s_aload G dX2_play_119 rfl ?_
  refine gX2_201 G (by assumption) (by assumption) dX2_play_121 ?_
  rw [hS7.bo (k := 1) hb7 (by decide) (by decide), show g7.i 2 b 1 = g.i 2 b 1 by rw [hg7, hg6, hg5, hg4, hg3, hg2, hg1]; simp [gi_set, gi_setbd]]
  refine s_icmp_lt G 166 dX2_play_124 (by decide) (fun h124 => ?_) (fun h124 => ?_)
  · refine s_vret G E9 hr dX2_play_166 ⟨rfl, by rw [hpl, if_neg (fun q => i_nlt.mpr q.1 h124)]; exact hS7, hF7⟩
  refine s_aload G dX2_play_127 rfl ?_
  refine gX2_151 G (by assumption) (by assumption) dX2_play_129 ?_
  rw [hS7.bo (k := 2) hb7 (by decide) (by decide), show g7.i 2 b 2 = g.i 2 b 2 by rw [hg7, hg6, hg5, hg4, hg3, hg2, hg1]; simp [gi_set, gi_setbd]]
  refine s_if_le G 166 dX2_play_132 (by decide) (fun h132 => ?_) (fun h132 => ?_)
  · refine s_vret G E9 hr dX2_play_166 ⟨rfl, by rw [hpl, if_neg (fun q => i_nlt.mpr h132 q.2)]; exact hS7, hF7⟩
  refine s_aload G dX2_play_135 rfl ?_
  refine s_dup G dX2_play_137 rfl ?_
  refine gX2_151 G (by assumption) (by assumption) dX2_play_138 ?_
  rw [hS7.bo (k := 2) hb7 (by decide) (by decide), show g7.i 2 b 2 = g.i 2 b 2 by rw [hg7, hg6, hg5, hg4, hg3, hg2, hg1]; simp [gi_set, gi_setbd]]
  refine s_iconst (v := 1) G dX2_play_141 (by decide) ?_
  refine s_isub G dX2_play_142 ?_
  refine pX2_151 G (by assumption) (by assumption) dX2_play_143 ?_
  refine V.abs (fun M8 hM8 => ?_)
  have hS8 : SimC f M8 (g7.set 2 b 2 (g.i 2 b 2 - 1)) := by rw [hM8]; exact hS7.b2 (by decide) (by decide)
  have hF8 : Fr f g.2.2.1 M M8 := by rw [hM8]; exact Fr.b2 hF7 hb
  clear hM8
  refine s_aload_n G dX2_play_146 rfl ?_
  refine s_dup G dX2_play_147 rfl ?_
  refine gX2_204 G (by assumption) (by assumption) dX2_play_148 ?_
  rw [hS8.vi (k := 4) hv7 (by decide), show (g7.set 2 b 2 (g.i 2 b 2 - 1)).i 4 v 4 = g.i 4 v 4 by rw [hg7, hg6, hg5, hg4, hg3, hg2, hg1]; simp [gi_set, gi_setbd]]
  refine s_iconst (v := 1) G dX2_play_151 (by decide) ?_
  refine s_iadd G dX2_play_152 ?_
  refine pX2_204 G (by assumption) (by assumption) dX2_play_153 ?_
  refine V.abs (fun M10 hM10 => ?_)
  have hS10 : SimC f M10 ((g7.set 2 b 2 (g.i 2 b 2 - 1)).set 4 v 4 (g.i 4 v 4 + 1)) := by rw [hM10]; exact hS8.v4
  have hF10 : Fr f g.2.2.1 M M10 := by rw [hM10]; exact Fr.v4 hF8 hv
  clear hM10
  refine s_aload_n G dX2_play_156 rfl ?_
  refine s_dup G dX2_play_157 rfl ?_
  refine gX2_58 G (by assumption) dX2_play_158 ?_
  rw [hS10.num (k := 10) (by decide) (by decide), show ((g7.set 2 b 2 (g.i 2 b 2 - 1)).set 4 v 4 (g.i 4 v 4 + 1)).i 1 0 10 = g.i 1 0 10 by rw [hg7, hg6, hg5, hg4, hg3, hg2, hg1]; simp [gi_set, gi_setbd]]
  refine s_iconst (v := 1) G dX2_play_161 (by decide) ?_
  refine s_iadd G dX2_play_162 ?_
  refine pX2_58 G (by assumption) dX2_play_163 ?_
  refine s_vret G E9 hr dX2_play_166 ⟨rfl, by rw [hpl, if_pos ⟨i_nlt.mp h124, i_nle.mp h132⟩]; exact hS10.f1 (by decide), Fr.f1 hF10⟩
end Pl
