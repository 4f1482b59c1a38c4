/-! ===== act: something that a number chooses, done to both ===== -/
def LI (t e : Nat) (g : GS) : Prop :=
  ((1 ≤ g.nb ∧ g.nb ≤ 7) ∧ (1 ≤ g.nh ∧ g.nh ≤ 11) ∧ (1 ≤ g.nv ∧ g.nv ≤ 14)) ∧
  g.i 1 0 7 = nI t ∧ (∃ d, d ≤ 65536 ∧ g.i 1 0 8 = nI d) ∧ (t = 0 ∨ ∃ m, m < g.nb ∧ g.i 1 0 9 = nI m) ∧
  (∀ v, v < g.nv → (∃ k, k ≤ 200 + 45 * t + e ∧ g.i 4 v 0 = nI k) ∧ (∃ k, k ≤ 200 * t ∧ g.i 4 v 4 = nI k) ∧ ∃ k, k ≤ 200 * t ∧ g.i 4 v 6 = nI k) ∧
  ∀ b, b < g.nb → (∃ c, 1 ≤ c ∧ c ≤ 9 ∧ g.i 2 b 0 = nI c) ∧ ∃ n, 1 ≤ n ∧ n ≤ 3 ∧ g.i 2 b 3 = nI n
section Li
variable {g : GS} {t e : Nat}
theorem LI.set (h : LI t e g) {kd a k : Nat} {x : Int32} (h1 : ¬ kd = 1) (h2 : ¬ (kd = 4 ∧ (k = 0 ∨ k = 4 ∨ k = 6))) (h3 : ¬ (kd = 2 ∧ (k = 0 ∨ k = 3))) : LI t e (g.set kd a k x) := by
  have e1 : ∀ j, (g.set kd a k x).i 1 0 j = g.i 1 0 j := fun j => by rw [gi_set, if_neg (by omega)]
  have e4 : ∀ v j, (j = 0 ∨ j = 4 ∨ j = 6) → (g.set kd a k x).i 4 v j = g.i 4 v j := fun v j hj => by rw [gi_set, if_neg (by omega)]
  have e2 : ∀ b j, (j = 0 ∨ j = 3) → (g.set kd a k x).i 2 b j = g.i 2 b j := fun b j hj => by rw [gi_set, if_neg (by omega)]
  obtain ⟨a1, a2, a3, a4, a5, a6⟩ := h
  refine ⟨a1, by rw [e1]; exact a2, by rw [e1]; exact a3, by rw [e1]; exact a4, fun v hv => ?_, fun b hb => ?_⟩
  · rw [e4 v 0 (by omega), e4 v 4 (by omega), e4 v 6 (by omega)]; exact a5 v hv
  · rw [e2 b 0 (by omega), e2 b 3 (by omega)]; exact a6 b hb
theorem LI.mono (h : LI t e g) {e2 : Nat} (he : e ≤ e2) : LI t e2 g := by
  obtain ⟨a1, a2, a3, a4, a5, a6⟩ := h
  refine ⟨a1, a2, a3, a4, fun v hv => ?_, a6⟩
  obtain ⟨⟨k, h1, h2⟩, h3⟩ := a5 v hv
  exact ⟨⟨k, by omega, h2⟩, h3⟩
theorem LI.dart (h : LI t e g) {d : Nat} (hd : d ≤ 65536) : LI t e (g.set 1 0 8 (nI d)) := by
  have e4 : ∀ v j, (g.set 1 0 8 (nI d)).i 4 v j = g.i 4 v j := fun v j => by rw [gi_set, if_neg (by omega)]
  have e7 : (g.set 1 0 8 (nI d)).i 1 0 7 = g.i 1 0 7 := by rw [gi_set, if_neg (by omega)]
  have e9 : (g.set 1 0 8 (nI d)).i 1 0 9 = g.i 1 0 9 := by rw [gi_set, if_neg (by omega)]
  have e2 : ∀ b j, (g.set 1 0 8 (nI d)).i 2 b j = g.i 2 b j := fun b j => by rw [gi_set, if_neg (by omega)]
  obtain ⟨a1, a2, a3, a4, a5, a6⟩ := h
  refine ⟨a1, by rw [e7]; exact a2, ⟨d, hd, by rw [gi_set, if_pos ⟨rfl, rfl, rfl⟩]⟩, by rw [e9]; exact a4, fun v hv => ?_, fun b hb => ?_⟩
  · rw [e4, e4, e4]; exact a5 v hv
  · rw [e2, e2]; exact a6 b hb
theorem LI.sell (h : LI t e g) {v j : Nat} (hv : v < g.nv) (hj : j ≤ 20) : LI t (e + 20) (g.set 4 v 0 (g.i 4 v 0 + nI j)) := by
  have e1 : ∀ k, (g.set 4 v 0 (g.i 4 v 0 + nI j)).i 1 0 k = g.i 1 0 k := fun k => by rw [gi_set, if_neg (by omega)]
  have e2 : ∀ b k, (g.set 4 v 0 (g.i 4 v 0 + nI j)).i 2 b k = g.i 2 b k := fun b k => by rw [gi_set, if_neg (by omega)]
  obtain ⟨a1, a2, a3, a4, a5, a6⟩ := h
  refine ⟨a1, by rw [e1]; exact a2, by rw [e1]; exact a3, by rw [e1]; exact a4, fun u hu => ?_, fun b hb => ?_⟩
  · have e4 : ∀ k, k ≠ 0 → (g.set 4 v 0 (g.i 4 v 0 + nI j)).i 4 u k = g.i 4 u k := fun k hk => by rw [gi_set, if_neg (by omega)]
    rw [e4 4 (by omega), e4 6 (by omega)]
    obtain ⟨⟨k, h1, h2⟩, h3⟩ := a5 u hu
    refine ⟨?_, h3⟩
    by_cases q : u = v
    · subst q
      exact ⟨k + j, by omega, by rw [gi_set, if_pos ⟨rfl, rfl, rfl⟩, h2, nI_add]⟩
    · exact ⟨k, by omega, by rw [gi_set, if_neg (fun z => q z.2.1), h2]⟩
  · rw [e2, e2]; exact a6 b hb
theorem LI.congr (h : LI t e g) {g' : GS} (h1 : g'.1 = g.1) (h2 : g'.2.2.1 = g.2.2.1) : LI t e g' := by
  have ei : ∀ kd a k, g'.i kd a k = g.i kd a k := fun kd a k => by unfold GS.i; rw [h1]
  unfold LI at h ⊢
  simp only [ei, nb_of h2, nh_of h2, nv_of h2]
  exact h
theorem SimG.leave0 {ω : WS} {w : Int32} (h : SimG ω g w) (hI : Inv g) {v : Nat} (hat : g.i 4 v 3 = -1) : SimG ω (leaveQ g v) w := by
  have e : leaveQ g v = g.setq (fun a => (g.q a).filter (fun u => u != v)) := by
    unfold leaveQ
    rw [set_same hat]
  rw [e]
  refine h.congr rfl rfl (fun b hb => ?_)
  refine List.filter_eq_self.mpr (fun u hu => ?_)
  have h1 := ((hI.qm hb).mp hu).2
  simp only [bne_iff_ne, ne_eq]
  intro z
  rw [z, hat] at h1
  exact absurd h1.symm (nI_m1 (by have := hI.nb8; omega))
end Li
theorem SimG.wn {ω : WS} {g : GS} {w w' : Int32} (h : SimG ω g w) (e : w' = w) : SimG ω g w' := by rw [e]; exact h
def AP (E : EX) (t e a : Nat) (N : Nat → Nat) (σ' : Sg) : Prop := ∃ ω' g' M', LayS E σ' ω' ∧ SimG ω' g' (g'.i 1 0 10) ∧ ClsP E σ' M' ∧ CI M' g' ∧ ω'.ad (21, 0, 0) = a ∧ LI t e g' ∧ g'.2.2.1 = N
section Ac
variable {E : EX} {σ : Sg} {ω : WS} {g : GS} {M : Mem} {t e : Nat}
theorem m_act (hL : LayS E σ ω) (hG : SimG ω g (g.i 1 0 10)) (hC : ClsP E σ M) (hI : CI M g) (hLI : LI t e g) {x : Int32} : RetS E yL_act cL_act 12 (some .boolean) 3 67 1 16 [.ref (E.ad (0, 0, 0)), .ref (ω.ad (21, 0, 0)), .int x] σ (fun r σ' => r = some (.int 1) ∧ AP E t (e + 20) (ω.ad (21, 0, 0)) g.2.2.1 σ') := by
  obtain ⟨⟨hb1, hb7⟩, ⟨hh1, hh11⟩, hv1, hv14⟩ := hLI.1
  refine RetS_of RL (by decide) rfl [some (.ref (E.ad (0, 0, 0))), some (.ref (ω.ad (21, 0, 0))), some (.int x), none, none, none, none, none, none, none, none, none] rfl (Nat.le_of_ble_eq_true rfl) (fun κ hE G E9 hr => ?_)
  subst hE
  have hc9 := E9.2.2.1
  have hd9 := E9.2.2.2
  have hst : Stb ω ω := Stb.rf
  have hk : KpS σ σ := KpS.rf
  refine h_iload_n G dL_act_0 rfl ?_
  refine h_aload_n G dL_act_1 rfl ?_
  refine wgL_28 G hL dL_act_2 ?_
  refine wle_22 G hL dL_act_5 ?_
  rw [hG.nb]
  refine wiL_18 G (m_below _ (m := g.nb) (by omega) (by omega)) (by decide) (Nat.le_of_ble_eq_true rfl) (by omega) (by omega) dL_act_6 (fun r9 σ9 hp9 => ?_)
  obtain ⟨⟨b, hb, rfl⟩, rfl⟩ := hp9
  refine h_istore_n G dL_act_9 (by decide) rfl ?_
  refine h_iload_n G dL_act_10 rfl ?_
  refine h_iconst (v := 3) G dL_act_11 (by decide) ?_
  refine h_ishr G dL_act_12 ?_
  refine h_aload_n G dL_act_13 rfl ?_
  refine wgL_43 G hL dL_act_14 ?_
  refine wle_24 G hL dL_act_17 ?_
  rw [hG.nh]
  refine wiL_18 G (m_below _ (m := g.nh) (by omega) (by omega)) (by decide) (Nat.le_of_ble_eq_true rfl) (by omega) (by omega) dL_act_18 (fun r9 σ9 hp9 => ?_)
  obtain ⟨⟨h, hh, rfl⟩, rfl⟩ := hp9
  refine h_istore G dL_act_21 (by decide) rfl ?_
  refine h_iload_n G dL_act_23 rfl ?_
  refine h_iconst (v := 2) G dL_act_24 (by decide) ?_
  refine h_ishr G dL_act_25 ?_
  refine h_aload_n G dL_act_26 rfl ?_
  refine wgL_61 G hL dL_act_27 ?_
  refine wle_25 G hL dL_act_30 ?_
  rw [hG.nv]
  refine wiL_18 G (m_below _ (m := g.nv) (by omega) (by omega)) (by decide) (Nat.le_of_ble_eq_true rfl) (by omega) (by omega) dL_act_31 (fun r9 σ9 hp9 => ?_)
  obtain ⟨⟨v, hv, rfl⟩, rfl⟩ := hp9
  refine h_istore G dL_act_34 (by decide) rfl ?_
  refine h_aload_n G dL_act_36 rfl ?_
  refine wgL_61 G hL dL_act_37 ?_
  refine h_iload G dL_act_40 rfl ?_
  refine war_25 G hL rfl (by rw [hG.nv]; exact hv) dL_act_42 ?_
  refine h_astore G dL_act_43 (by decide) rfl ?_
  refine h_iload_n G dL_act_45 rfl ?_
  refine h_bipush (v := 8) G dL_act_46 (by decide) ?_
  refine h_ishr G dL_act_48 ?_
  refine h_bipush (v := 7) G dL_act_49 (by decide) ?_
  refine wiL_18 G (m_below _ (m := 7) (by decide) (by decide)) (by decide) (Nat.le_of_ble_eq_true rfl) (by omega) (by omega) dL_act_51 (fun r9 σ9 hp9 => ?_)
  obtain ⟨⟨j7, hj7, rfl⟩, rfl⟩ := hp9
  have eC : ∀ {σ' : Sg}, KpS σ σ' → ClsP κ.E σ' M := fun hk i hi => hk _ _ _ (hC i hi) (fun z => absurd (idsC_lt _ hi) (by omega))
  have Kw : HV κ 12 σ 0 0 [some (.ref (κ.E.ad (0, 0, 0))), some (.ref (ω.ad (21, 0, 0))), some (.int x), some (.int (nI b)), some (.int (nI h)), some (.int (nI v)), some (.ref (ω.ad (35, v, 0))), none, none, none, none, none] [] 92 := by
    refine h_aload_n G dL_act_92 rfl ?_
    refine wgL_43 G hL dL_act_93 ?_
    refine h_iload G dL_act_96 rfl ?_
    refine war_24 G hL rfl (by rw [hG.nh]; exact hh) dL_act_98 ?_
    refine h_iconst (v := 1) G dL_act_99 (by decide) ?_
    refine wal_34 G hL (by first | assumption | omega | (rw [hG.nb]; omega) | (rw [hG.nh]; omega) | (rw [hG.nv]; omega)) (show (1 : Int32) = nI 1 from rfl) (by decide) dL_act_100 ?_
    rw [hG.he hh (by decide)]
    refine h_istore G dL_act_101 (by decide) rfl ?_
    refine h_aload_n G dL_act_103 rfl ?_
    refine wgL_43 G hL dL_act_104 ?_
    refine h_iload G dL_act_107 rfl ?_
    refine war_24 G hL rfl (by rw [hG.nh]; exact hh) dL_act_109 ?_
    refine h_iconst (v := 1) G dL_act_110 (by decide) ?_
    refine h_iload_n G dL_act_111 rfl ?_
    refine h_bipush (v := 6) G dL_act_112 (by decide) ?_
    refine h_ishr G dL_act_114 ?_
    refine h_iconst (v := 5) G dL_act_115 (by decide) ?_
    refine wiL_18 G (m_below _ (m := 5) (by decide) (by decide)) (by decide) (Nat.le_of_ble_eq_true rfl) (by omega) (by omega) dL_act_116 (fun r9 σ9 hp9 => ?_)
    obtain ⟨⟨j5, hj5, rfl⟩, rfl⟩ := hp9
    have K127 : ∀ x9 : Int32, (x9 = -1 ∨ ∃ k, k < g.nb ∧ x9 = nI k) → HV κ 12 σ 0 0 [some (.ref (κ.E.ad (0, 0, 0))), some (.ref (ω.ad (21, 0, 0))), some (.int x), some (.int (nI b)), some (.int (nI h)), some (.int (nI v)), some (.ref (ω.ad (35, v, 0))), some (.int (g.i 3 h 1)), none, none, none, none] [.int x9, .int 1, .ref (ω.ad (34, h, 0))] 127 := fun x9 hx9 => by
      refine was_34 G hL (by first | assumption | omega | (rw [hG.nb]; omega) | (rw [hG.nh]; omega) | (rw [hG.nv]; omega)) (show (1 : Int32) = nI 1 from rfl) (by decide) dL_act_127 (fun σ9 ω9 ha9 hs9 hL9 hk9 => ?_)
      try rw [← ha9]
      replace hk := KpS.tr hk hk9
      replace hst := hst.tr (Stb.of_ad ha9)
      clear hL hk9 ha9
      have hL := hL9
      clear hL9
      replace hG := hs9 (fun z => SimG z _ _) (hG.h34 (x := x9))
      clear hs9
      have hh9 : h < ω9.nh := by rw [hG.nh]; exact hh
      refine h_aload_n G dL_act_128 rfl ?_
      refine h_iload G dL_act_129 rfl ?_
      refine h_aload_n G dL_act_131 rfl ?_
      refine wgL_43 G hL dL_act_132 ?_
      refine h_iload G dL_act_135 rfl ?_
      refine war_24 G hL rfl hh9 dL_act_137 ?_
      refine h_iconst (v := 1) G dL_act_138 (by decide) ?_
      refine wal_34 G hL (by first | assumption | omega | (rw [hG.nb]; omega) | (rw [hG.nh]; omega) | (rw [hG.nv]; omega)) (show (1 : Int32) = nI 1 from rfl) (by decide) dL_act_139 ?_
      rw [hG.he hh (by decide), gi_set, if_pos ⟨rfl, rfl, rfl⟩]
      replace hC := eC hk
      refine wiL_40 G hC (f_work hI hh hx9) (by decide) (Nat.le_of_ble_eq_true rfl) (by omega) (by omega) dL_act_140 (fun r9 M9 hp9 => ?_)
      obtain ⟨rfl, hI9⟩ := hp9
      replace hL := hL.kc (setC_keep hC (M' := M9))
      replace hC := setC_cls (E := κ.E) (σ := σ9) (M := M9) G.hinj
      generalize setC κ.E σ9 M9 = σ8 at hL hC ⊢
      refine h_iload G dL_act_143 rfl ?_
      refine h_icmp_ne G 152 dL_act_145 (by decide) (fun h145 => ?_) (fun h145 => ?_)
      · exact absurd rfl h145
      refine h_iconst (v := 1) G dL_act_148 (by decide) ?_
      refine h_goto G 153 dL_act_149 (by decide) ?_
      refine h_zret G E9 (by omega) (by omega) hr (Or.inr rfl) dL_act_153 ⟨rfl, _, _, _, hL, hG.wn (gi_set.trans (if_neg (by omega))), hC, hI9, hst (21, 0, 0) (by decide) (by decide), (hLI.mono (by omega)).set (by decide) (by decide) (by decide), rfl⟩
    refine h_if_ne G 126 dL_act_119 (by decide) (fun h119 => ?_) (fun h119 => ?_)
    · refine h_iload_n G dL_act_126 rfl ?_
      exact K127 _ (Or.inr ⟨b, hb, rfl⟩)
    · refine h_iconst (v := -1) G dL_act_122 (by decide) ?_
      refine h_goto G 127 dL_act_123 (by decide) ?_
      exact K127 _ (Or.inl rfl)
  have Ks : HV κ 12 σ 0 0 [some (.ref (κ.E.ad (0, 0, 0))), some (.ref (ω.ad (21, 0, 0))), some (.int x), some (.int (nI b)), some (.int (nI h)), some (.int (nI v)), some (.ref (ω.ad (35, v, 0))), none, none, none, none, none] [] 154 := by
    refine h_iconst (v := 1) G dL_act_154 (by decide) ?_
    refine h_iload_n G dL_act_155 rfl ?_
    refine h_iconst (v := 4) G dL_act_156 (by decide) ?_
    refine h_ishr G dL_act_157 ?_
    refine h_bipush (v := 20) G dL_act_158 (by decide) ?_
    refine wiL_18 G (m_below _ (m := 20) (by decide) (by decide)) (by decide) (Nat.le_of_ble_eq_true rfl) (by omega) (by omega) dL_act_160 (fun r9 σ9 hp9 => ?_)
    obtain ⟨⟨j5, hj5, rfl⟩, rfl⟩ := hp9
    refine h_iadd G dL_act_163 ?_
    rw [one_nI]
    have hs35 : ∀ {ω' : WS}, Stb ω ω' → ω'.ad (35, v, 0) = ω.ad (35, v, 0) := fun h => h _ (by show (35 : Nat) ≠ 33; decide) (by show (35 : Nat) ≠ 26; decide)
    have K193 : ∀ σ', SPost κ.E σ ω ((g.set 4 v 0 (g.i 4 v 0 + nI (1 + j5))).set 4 v 2 0) (g.i 1 0 10) σ' → HV κ 12 σ' 0 0 [some (.ref (κ.E.ad (0, 0, 0))), some (.ref (ω.ad (21, 0, 0))), some (.int x), some (.int (nI b)), some (.int (nI h)), some (.int (nI v)), some (.ref (ω.ad (35, v, 0))), none, some (.int (nI (1 + j5))), none, none, none] [] 193 := fun σ' hP => by
      clear hL hG hst hk
      obtain ⟨ω', hL, hG, hst, hk⟩ := hP
      rw [← hs35 hst]
      replace hC := eC hk
      have hr2 : inR (nI (1 + j5)) 1 200 := inR_nI (lo := 1) (hi := 200) (by omega) (by omega) (by decide)
      refine h_aload_n G dL_act_193 rfl ?_
      refine h_iload G dL_act_194 rfl ?_
      refine h_iload G dL_act_196 rfl ?_
      refine wiL_73 G hC (f_sell hI hv hr2) (by decide) (Nat.le_of_ble_eq_true rfl) (by omega) (by omega) dL_act_198 (fun r9 M9 hp9 => ?_)
      obtain ⟨rfl, hI9⟩ := hp9
      replace hL := hL.kc (setC_keep hC (M' := M9))
      replace hC := setC_cls (E := κ.E) (σ := σ') (M := M9) G.hinj
      generalize setC κ.E σ' M9 = σ8 at hL hC ⊢
      refine h_aload G dL_act_201 rfl ?_
      refine wgL_65 G hL (by rw [hG.nv]; exact hv) dL_act_203 ?_
      rw [hG.vi hv (by decide), show vfc ((g.set 4 v 0 (g.i 4 v 0 + nI (1 + j5))).set 4 v 2 0) v 0 = g.i 4 v 0 + nI (1 + j5) from (gi_set.trans (if_neg (by omega))).trans (gi_set.trans (if_pos ⟨rfl, rfl, rfl⟩))]
      refine h_icmp_ne G 213 dL_act_206 (by decide) (fun h206 => ?_) (fun h206 => ?_)
      · exact absurd rfl h206
      refine h_iconst (v := 1) G dL_act_209 (by decide) ?_
      refine h_goto G 214 dL_act_210 (by decide) ?_
      refine h_zret G E9 (by omega) (by omega) hr (Or.inr rfl) dL_act_214 ⟨rfl, _, _, _, hL, hG.wn ((gi_set.trans (if_neg (by omega))).trans (gi_set.trans (if_neg (by omega)))), hC, hI9, hst (21, 0, 0) (by decide) (by decide), (hLI.sell hv (by omega)).set (by decide) (by decide) (by decide), rfl⟩
    refine h_istore G dL_act_164 (by decide) rfl ?_
    refine h_aload G dL_act_166 rfl ?_
    refine h_dup G dL_act_168 rfl ?_
    refine wgL_65 G hL (by rw [hG.nv]; exact hv) dL_act_169 ?_
    rw [hG.vi hv (by decide), show vfc g v 0 = g.i 4 v 0 from rfl]
    refine h_iload G dL_act_172 rfl ?_
    refine h_iadd G dL_act_174 ?_
    refine wpL_65 G hL (by rw [hG.nv]; exact hv) dL_act_175 (fun σ9 ω9 ha9 hs9 hL9 hk9 => ?_)
    try rw [← ha9]
    replace hk := KpS.tr hk hk9
    replace hst := hst.tr (Stb.of_ad ha9)
    clear hL hk9 ha9
    have hL := hL9
    clear hL9
    replace hG := hs9 (fun z => SimG z _ _) (hG.v35 (x := g.i 4 v 0 + nI (1 + j5)) (by decide) (by decide) (by decide))
    clear hs9
    refine h_aload G dL_act_178 rfl ?_
    refine wgL_70 G hL (by rw [hG.nv]; exact hv) dL_act_180 ?_
    rw [hG.vi hv (by decide), show vfc (g.set 4 v 0 (g.i 4 v 0 + nI (1 + j5))) v 2 = stt (g.set 4 v 0 (g.i 4 v 0 + nI (1 + j5))) v from rfl]
    refine h_iconst (v := 2) G dL_act_183 (by decide) ?_
    refine h_icmp_ne G 193 dL_act_184 (by decide) (fun h184 => ?_) (fun h184 => ?_)
    · rw [hs35 hst, hst (21, 0, 0) (by decide) (by decide)]
      refine K193 _ ⟨_, hL, ?_, hst, hk⟩
      rw [set_same (g := g.set 4 v 0 (g.i 4 v 0 + nI (1 + j5))) (kd := 4) (a := v) (k := 2) (x := 0) ?_]
      · exact hG
      · refine Decidable.byContradiction (fun z => h184 ?_)
        unfold stt
        rw [if_neg z]
    · have e20 : (g.set 4 v 0 (g.i 4 v 0 + nI (1 + j5))).i 4 v 2 ≠ 0 := fun z => by
        have h184 : stt (g.set 4 v 0 (g.i 4 v 0 + nI (1 + j5))) v = 2 := h184
        unfold stt at h184
        rw [if_pos z] at h184
        split at h184
        · exact absurd h184 (by decide)
        · exact absurd h184 (by decide)
      have e30 : (g.set 4 v 0 (g.i 4 v 0 + nI (1 + j5))).i 4 v 3 = -1 := by
        have e2 : (g.set 4 v 0 (g.i 4 v 0 + nI (1 + j5))).i 4 v 2 = g.i 4 v 2 := gi_set.trans (if_neg (by omega))
        rw [e2] at e20
        rcases hI.2.1.vho hv with q | q
        · exact absurd q e20
        · exact (gi_set.trans (if_neg (by omega))).trans (hI.2.1.vha hv q)
      refine h_aload G dL_act_187 rfl ?_
      refine h_iconst (v := 0) G dL_act_189 (by decide) ?_
      refine wpL_70 G hL (by rw [hG.nv]; exact hv) dL_act_190 (fun σ9 ω9 ha9 hs9 hL9 hk9 => ?_)
      try rw [← ha9]
      replace hk := KpS.tr hk hk9
      replace hst := hst.tr (Stb.of_ad ha9)
      clear hL hk9 ha9
      have hL := hL9
      clear hL9
      replace hG := hs9 (fun z => SimG z _ _) (hG.s2 (s := 0) (g' := (g.set 4 v 0 (g.i 4 v 0 + nI (1 + j5))).set 4 v 2 0) rfl rfl (fun kd a k hno => gi_set.trans (if_neg hno)) (by unfold stt; rw [if_pos (gi_set.trans (if_pos ⟨rfl, rfl, rfl⟩)), if_pos ((gi_set.trans (if_neg (by omega))).trans e30)]))
      clear hs9
      rw [hs35 hst, hst (21, 0, 0) (by decide) (by decide)]
      exact K193 _ ⟨_, hL, hG, hst, hk⟩
  have Kl : HV κ 12 σ 0 0 [some (.ref (κ.E.ad (0, 0, 0))), some (.ref (ω.ad (21, 0, 0))), some (.int x), some (.int (nI b)), some (.int (nI h)), some (.int (nI v)), some (.ref (ω.ad (35, v, 0))), none, none, none, none, none] [] 215 := by
    refine h_aload G dL_act_215 rfl ?_
    refine wgL_76 G hL (by rw [hG.nv]; exact hv) dL_act_217 ?_
    rw [hG.vi hv (by decide), show vfc g v 3 = g.i 4 v 3 from rfl]
    have K233 : ∀ σ', SPost κ.E σ ω (leaveQ g v) (g.i 1 0 10) σ' → HV κ 12 σ' 1 16 [some (.ref (κ.E.ad (0, 0, 0))), some (.ref (ω.ad (21, 0, 0))), some (.int x), some (.int (nI b)), some (.int (nI h)), some (.int (nI v)), some (.ref (ω.ad (35, v, 0))), none, none, some (.int (g.i 4 v 3)), none, none] [] 233 := fun σ' hP => by
      clear hL hG hst hk
      obtain ⟨ω', hL, hG, hst, hk⟩ := hP
      replace hC := eC hk
      refine h_aload_n G dL_act_233 rfl ?_
      refine h_iload G dL_act_234 rfl ?_
      refine wiL_83 G hC (f_leave hI hv) (by decide) (Nat.le_of_ble_eq_true rfl) (by omega) (by omega) dL_act_236 (fun r9 M9 hp9 => ?_)
      obtain ⟨rfl, hI9⟩ := hp9
      replace hL := hL.kc (setC_keep hC (M' := M9))
      replace hC := setC_cls (E := κ.E) (σ := σ') (M := M9) G.hinj
      generalize setC κ.E σ' M9 = σ8 at hL hC ⊢
      refine h_iload G dL_act_239 rfl ?_
      refine h_icmp_ne G 248 dL_act_241 (by decide) (fun h241 => ?_) (fun h241 => ?_)
      · exact absurd rfl h241
      refine h_iconst (v := 1) G dL_act_244 (by decide) ?_
      refine h_goto G 249 dL_act_245 (by decide) ?_
      refine h_zret G E9 (by omega) (by omega) hr (Or.inr rfl) dL_act_249 ⟨rfl, _, _, _, hL, hG.wn (show (g.set 4 v 3 (-1)).i 1 0 10 = g.i 1 0 10 from gi_set.trans (if_neg (by omega))), hC, hI9, hst (21, 0, 0) (by decide) (by decide), ((hLI.mono (by omega)).set (kd := 4) (a := v) (k := 3) (x := -1) (by decide) (by decide) (by decide)).congr rfl rfl, rfl⟩
    rcases hI.2.1.vat hv with q | ⟨b', hb', q⟩
    · refine h_istore G dL_act_220 (by decide) rfl ?_
      refine h_iload G dL_act_222 rfl ?_
      refine h_if_lt G 233 dL_act_224 (by decide) (fun h224 => ?_) (fun h224 => ?_)
      · exact HV.wid (by omega) (by omega) (K233 σ ⟨ω, hL, hG.leave0 hI.2.1 q, hst, hk⟩)
      · exact absurd (by rw [q]; decide) h224
    · refine h_istore G dL_act_220 (by decide) rfl ?_
      refine h_iload G dL_act_222 rfl ?_
      refine h_if_lt G 233 dL_act_224 (by decide) (fun h224 => ?_) (fun h224 => ?_)
      · rw [q] at h224
        exact absurd h224 (nI_pos (by have := hI.2.1.nb8; omega))
      · refine h_aload_n G dL_act_227 rfl ?_
        refine h_iload G dL_act_228 rfl ?_
        refine wiL_79 G (hL.1 (21, 0, 0) trivial) (m_exit hL hG hI.2.1 hv hb' q) (by decide) (Nat.le_of_ble_eq_true rfl) (by omega) (by omega) dL_act_230 (fun r9 σ9 hp9 => ?_)
        obtain ⟨rfl, hP⟩ := hp9
        exact HV.wid (by omega) (by omega) (K233 _ hP)
  have Kb : HV κ 12 σ 0 0 [some (.ref (κ.E.ad (0, 0, 0))), some (.ref (ω.ad (21, 0, 0))), some (.int x), some (.int (nI b)), some (.int (nI h)), some (.int (nI v)), some (.ref (ω.ad (35, v, 0))), none, none, none, none, none] [] 250 := by
    refine h_iconst (v := 1) G dL_act_250 (by decide) ?_
    refine h_iload_n G dL_act_251 rfl ?_
    refine h_iconst (v := 4) G dL_act_252 (by decide) ?_
    refine h_ishr G dL_act_253 ?_
    refine h_bipush (v := 9) G dL_act_254 (by decide) ?_
    refine wiL_18 G (m_below _ (m := 9) (by decide) (by decide)) (by decide) (Nat.le_of_ble_eq_true rfl) (by omega) (by omega) dL_act_256 (fun r9 σ9 hp9 => ?_)
    obtain ⟨⟨j5, hj5, rfl⟩, rfl⟩ := hp9
    refine h_iadd G dL_act_259 ?_
    rw [one_nI]
    refine h_istore G dL_act_260 (by decide) rfl ?_
    refine h_aload_n G dL_act_262 rfl ?_
    refine wgL_28 G hL dL_act_263 ?_
    refine h_iload_n G dL_act_266 rfl ?_
    refine war_22 G hL rfl (by rw [hG.nb]; exact hb) dL_act_267 ?_
    refine h_iconst (v := 2) G dL_act_268 (by decide) ?_
    refine wal_32 G hL (by first | assumption | omega | (rw [hG.nb]; omega) | (rw [hG.nh]; omega) | (rw [hG.nv]; omega)) (show (2 : Int32) = nI 2 from rfl) (by decide) dL_act_269 ?_
    rw [hG.bo hb (by decide)]
    refine h_iload G dL_act_270 rfl ?_
    refine h_iadd G dL_act_272 ?_
    refine h_bipush (v := 99) G dL_act_273 (by decide) ?_
    refine h_icmp_le G 280 dL_act_275 (by decide) (fun h275 => ?_) (fun h275 => ?_)
    · have hr2 : inR (nI (1 + j5)) 1 99 := inR_nI (lo := 1) (hi := 99) (by omega) (by omega) (by decide)
      refine h_aload_n G dL_act_280 rfl ?_
      refine wgL_28 G hL dL_act_281 ?_
      refine h_iload_n G dL_act_284 rfl ?_
      refine war_22 G hL rfl (by rw [hG.nb]; exact hb) dL_act_285 ?_
      refine h_iconst (v := 2) G dL_act_286 (by decide) ?_
      refine h_dup2 G dL_act_287 rfl rfl ?_
      refine wal_32 G hL (by first | assumption | omega | (rw [hG.nb]; omega) | (rw [hG.nh]; omega) | (rw [hG.nv]; omega)) (show (2 : Int32) = nI 2 from rfl) (by decide) dL_act_288 ?_
      rw [hG.bo hb (by decide)]
      refine h_iload G dL_act_289 rfl ?_
      refine h_iadd G dL_act_291 ?_
      refine was_32 G hL (by first | assumption | omega | (rw [hG.nb]; omega) | (rw [hG.nh]; omega) | (rw [hG.nv]; omega)) (show (2 : Int32) = nI 2 from rfl) (by decide) dL_act_292 (fun σ9 ω9 ha9 hs9 hL9 hk9 => ?_)
      try rw [← ha9]
      replace hk := KpS.tr hk hk9
      replace hst := hst.tr (Stb.of_ad ha9)
      clear hL hk9 ha9
      have hL := hL9
      clear hL9
      replace hG := hs9 (fun z => SimG z _ _) (hG.b32 (x := g.i 2 b 2 + nI (1 + j5)) (Or.inl ⟨by decide, rfl⟩))
      clear hs9
      refine h_aload_n G dL_act_293 rfl ?_
      refine h_iload_n G dL_act_294 rfl ?_
      refine h_iload G dL_act_295 rfl ?_
      have hb9 : b < ω9.nb := by rw [hG.nb]; exact hb
      replace hC := eC hk
      refine wiL_86 G hC (f_bring hI hb hr2 h275) (by decide) (Nat.le_of_ble_eq_true rfl) (by omega) (by omega) dL_act_297 (fun r9 M9 hp9 => ?_)
      obtain ⟨rfl, hI9⟩ := hp9
      replace hL := hL.kc (setC_keep hC (M' := M9))
      replace hC := setC_cls (E := κ.E) (σ := σ9) (M := M9) G.hinj
      generalize setC κ.E σ9 M9 = σ8 at hL hC ⊢
      refine h_aload_n G dL_act_300 rfl ?_
      refine wgL_28 G hL dL_act_301 ?_
      refine h_iload_n G dL_act_304 rfl ?_
      refine war_22 G hL rfl hb9 dL_act_305 ?_
      refine h_iconst (v := 2) G dL_act_306 (by decide) ?_
      refine wal_32 G hL (by first | assumption | omega | (rw [hG.nb]; omega) | (rw [hG.nh]; omega) | (rw [hG.nv]; omega)) (show (2 : Int32) = nI 2 from rfl) (by decide) dL_act_307 ?_
      rw [hG.bo hb (by decide), gi_set, if_pos ⟨rfl, rfl, rfl⟩]
      refine h_icmp_ne G 315 dL_act_308 (by decide) (fun h308 => ?_) (fun h308 => ?_)
      · exact absurd rfl h308
      refine h_iconst (v := 1) G dL_act_311 (by decide) ?_
      refine h_goto G 316 dL_act_312 (by decide) ?_
      refine h_zret G E9 (by omega) (by omega) hr (Or.inr rfl) dL_act_316 ⟨rfl, _, _, _, hL, hG.wn (gi_set.trans (if_neg (by omega))), hC, hI9, hst (21, 0, 0) (by decide) (by decide), (hLI.mono (by omega)).set (by decide) (by decide) (by decide), rfl⟩
    · refine h_iconst (v := 1) G dL_act_278 (by decide) ?_
      refine h_zret G E9 (by omega) (by omega) hr (Or.inr rfl) dL_act_279 ⟨rfl, _, _, _, hL, hG, hC, hI, rfl, hLI.mono (by omega), rfl⟩
  have Kd : HV κ 12 σ 0 0 [some (.ref (κ.E.ad (0, 0, 0))), some (.ref (ω.ad (21, 0, 0))), some (.int x), some (.int (nI b)), some (.int (nI h)), some (.int (nI v)), some (.ref (ω.ad (35, v, 0))), none, none, none, none, none] [] 317 := by
    refine h_iload_n G dL_act_317 rfl ?_
    refine h_iconst (v := 5) G dL_act_318 (by decide) ?_
    refine h_ishr G dL_act_319 ?_
    refine h_iconst (v := 4) G dL_act_320 (by decide) ?_
    refine wiL_18 G (m_below _ (m := 4) (by decide) (by decide)) (by decide) (Nat.le_of_ble_eq_true rfl) (by omega) (by omega) dL_act_321 (fun r9 σ9 hp9 => ?_)
    obtain ⟨⟨j5, hj5, rfl⟩, rfl⟩ := hp9
    refine h_if_le G 329 dL_act_324 (by decide) (fun h324 => ?_) (fun h324 => ?_)
    · refine h_aload_n G dL_act_329 rfl ?_
      refine wgL_53 G hL dL_act_330 ?_
      rw [hG.da]
      refine h_istore G dL_act_333 (by decide) rfl ?_
      refine h_aload_n G dL_act_335 rfl ?_
      refine h_iconst (v := 1) G dL_act_336 (by decide) ?_
      refine h_iload_n G dL_act_337 rfl ?_
      refine h_ldc G dL_act_338 (v := 65536) (by decide +kernel) ?_
      refine wiL_18 G (m_below _ (m := 65536) (by decide) (by decide)) (by decide) (Nat.le_of_ble_eq_true rfl) (by omega) (by omega) dL_act_340 (fun r9 σ9 hp9 => ?_)
      obtain ⟨⟨jd, hjd, rfl⟩, rfl⟩ := hp9
      refine h_iadd G dL_act_343 ?_
      rw [one_nI]
      refine wpL_53 G hL dL_act_344 (fun σ9 ω9 ha9 hs9 hL9 hk9 => ?_)
      try rw [← ha9]
      replace hk := KpS.tr hk hk9
      replace hst := hst.tr (Stb.of_ad ha9)
      clear hL hk9 ha9
      have hL := hL9
      clear hL9
      replace hG := hs9 (fun z => SimG z _ _) (hG.n21 (x := nI (1 + jd)) (j := 1) (by decide))
      clear hs9
      refine h_aload_n G dL_act_347 rfl ?_
      refine h_aload_n G dL_act_348 rfl ?_
      refine wgL_53 G hL dL_act_349 ?_
      rw [hG.da, gi_set, if_pos ⟨rfl, rfl, rfl⟩]
      have hd : inR (nI (1 + jd)) 1 65536 := inR_nI (lo := 1) (hi := 65536) (by omega) (by omega) (by decide)
      replace hC := eC hk
      refine wiL_57 G hC (f_setDart hI hd) (by decide) (Nat.le_of_ble_eq_true rfl) (by omega) (by omega) dL_act_352 (fun r9 M9 hp9 => ?_)
      obtain ⟨rfl, hI9⟩ := hp9
      replace hL := hL.kc (setC_keep hC (M' := M9))
      replace hC := setC_cls (E := κ.E) (σ := σ9) (M := M9) G.hinj
      generalize setC κ.E σ9 M9 = σ8 at hL hC ⊢
      refine h_iload G dL_act_355 rfl ?_
      refine h_icmp_ne G 364 dL_act_357 (by decide) (fun h357 => ?_) (fun h357 => ?_)
      · exact absurd rfl h357
      refine h_iconst (v := 1) G dL_act_360 (by decide) ?_
      refine h_goto G 365 dL_act_361 (by decide) ?_
      refine h_zret G E9 (by omega) (by omega) hr (Or.inr rfl) dL_act_365 ⟨rfl, _, _, _, hL, hG.wn (gi_set.trans (if_neg (by omega))), hC, hI9, hst (21, 0, 0) (by decide) (by decide), (hLI.mono (by omega)).dart (by omega), rfl⟩
    · refine h_iconst (v := 1) G dL_act_327 (by decide) ?_
      refine h_zret G E9 (by omega) (by omega) hr (Or.inr rfl) dL_act_328 ⟨rfl, _, _, _, hL, hG, hC, hI, rfl, hLI.mono (by omega), rfl⟩
  have e7 : j7 = 0 ∨ j7 = 1 ∨ j7 = 2 ∨ j7 = 3 ∨ j7 = 4 ∨ j7 = 5 ∨ j7 = 6 := by omega
  rcases e7 with rfl | rfl | rfl | rfl | rfl | rfl | rfl
  · exact h_tableIn (off := 38) G 92 dL_act_54 (by decide) (by decide) (by decide) (by decide) Kw
  · exact h_tableIn (off := 38) G 92 dL_act_54 (by decide) (by decide) (by decide) (by decide) Kw
  · exact h_tableIn (off := 38) G 92 dL_act_54 (by decide) (by decide) (by decide) (by decide) Kw
  · exact h_tableIn (off := 100) G 154 dL_act_54 (by decide) (by decide) (by decide) (by decide) Ks
  · exact h_tableIn (off := 161) G 215 dL_act_54 (by decide) (by decide) (by decide) (by decide) Kl
  · exact h_tableIn (off := 196) G 250 dL_act_54 (by decide) (by decide) (by decide) (by decide) Kb
  · exact h_tableOut G 317 dL_act_54 (by decide) (by decide) Kd
end Ac
