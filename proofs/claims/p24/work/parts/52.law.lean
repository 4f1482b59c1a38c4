/-! ===== the law, from its build to its end ===== -/
theorem L0.li {g : GS} (h : L0 g) (hs : (1 ≤ g.nb ∧ g.nb ≤ 7) ∧ (1 ≤ g.nh ∧ g.nh ≤ 11) ∧ (1 ≤ g.nv ∧ g.nv ≤ 14)) (hd : ∃ d, d ≤ 65536 ∧ g.i 1 0 8 = nI d) : LI 0 0 g := ⟨hs, h.1, hd, Or.inl rfl, fun v hv => ⟨(h.2.2.1 v hv).1, ⟨0, by omega, (h.2.2.1 v hv).2.1⟩, 0, by omega, (h.2.2.1 v hv).2.2⟩, h.2.2.2⟩
section Lw
variable {κ : KX} {σ : Sg} {ω : WS} {g : GS} {M : Mem} {cN dN aS : Nat}
theorem p_loop (G : Gd κ cL_law 34 RL 7 164) (hc9 : cN + 84000 ≤ κ.R.cells) (hd9 : dN + 480000 ≤ κ.R.slots) (K : ∀ σ l, HV κ 34 σ (cN + 84000) (dN + 480000) l [.int 1] 1482) : ∀ m t, t + m = 50 → ∀ (σ : Sg) (ω : WS) (g' : GS) (M : Mem), LayS κ.E σ ω → SimG ω g' (g'.i 1 0 10) → ClsP κ.E σ M → CI M g' → LI t 0 g' → ω.ad (21, 0, 0) = aS → g'.2.2.1 = g.2.2.1 → HV κ 34 σ (cN + 1660 * t) (dN + 9350 * t) [some (.ref κ.E.sc.1), some (.ref (κ.E.ad (0, 0, 0))), some (.ref aS), some (.int (nI g.nb)), some (.int (nI g.nh)), some (.int (nI g.nv)), some (.int (nI t)), none, none, none, none, none, none, none, none, none, none, none, none, none, none, none, none, none, none, none, none, none, none, none, none, none, none, none] [] 43 := by
  intro m
  induction m with
  | zero =>
    intro t ht σ ω g' M hL hG hC hI hLI haS hs
    have ht : t = 50 := by omega
    subst ht haS
    refine h_iload G dL_law_43 rfl ?_
    refine h_bipush (v := 50) G dL_law_45 (by decide) ?_
    refine h_icmp_ge G 1477 dL_law_47 (by decide) (fun h47 => ?_) (fun h47 => ?_)
    rotate_left
    · exact absurd (by decide) h47
    refine h_aload_n G dL_law_1477 rfl ?_
    refine h_aload_n G dL_law_1478 rfl ?_
    refine wiL_130 G (hL.1 (21, 0, 0) trivial) (m_isSame hG hI hL hC) (by decide) (Nat.le_of_ble_eq_true rfl) (by omega) (by omega) dL_law_1479 (fun r9 σ9 hp9 => ?_)
    obtain rfl := hp9
    exact HV.wid (by omega) (by omega) (K _ _)
  | succ m ih =>
    intro t ht σ ω g' M hL hG hC hI hLI haS hs
    have hlt : t < 50 := by omega
    refine h_iload G dL_law_43 rfl ?_
    refine h_bipush (v := 50) G dL_law_45 (by decide) ?_
    refine h_icmp_ge G 1477 dL_law_47 (by decide) (fun h47 => ?_) (fun h47 => ?_)
    · exact absurd h47 (nI_ge (b := 50) hlt (by decide))
    refine h_aload_n G dL_law_50 rfl ?_
    refine h_iload G dL_law_51 rfl ?_
    refine h_bipush (v := 16) G dL_law_53 (by decide) ?_
    refine h_irem G dL_law_55 (by decide) ?_
    rw [show nI t - nI t / 16 * 16 = nI (t % 16) from nI_rem (by omega) (by decide) (by decide)]
    refine wiL_12 G (m_cell (k := t % 16) (by omega)) (by decide) (Nat.le_of_ble_eq_true rfl) (by omega) (by omega) dL_law_56 (fun r9 σ9 hp9 => ?_)
    obtain ⟨⟨c1, rfl⟩, rfl⟩ := hp9
    refine h_iload G dL_law_59 rfl ?_
    refine h_bipush (v := 16) G dL_law_61 (by decide) ?_
    refine h_idiv G dL_law_63 (by decide) ?_
    refine h_iconst (v := 3) G dL_law_64 (by decide) ?_
    refine h_imul G dL_law_65 ?_
    refine h_ishr G dL_law_66 ?_
    refine h_bipush (v := 97) G dL_law_67 (by decide) ?_
    refine h_iload G dL_law_69 rfl ?_
    refine h_imul G dL_law_71 ?_
    refine h_iadd G dL_law_72 ?_
    generalize c1 >>> (nI t / 16 * 3 &&& 31) + 97 * nI t = x
    refine h_istore G dL_law_73 (by decide) rfl ?_
    rw [← nb_of hs, ← nh_of hs, ← nv_of hs]
    refine p_acts G (by omega) (by omega) hL hG hC hI hLI haS (fun σ1 ω1 g1 M1 hL1 hG1 hC1 hI1 hLI1 haS1 hs1 => ?_)
    rw [← nb_of hs1, ← nh_of hs1, ← nv_of hs1]
    refine p_turn2 G (by omega) (by omega) hL1 hG1 hC1 hI1 hLI1 hlt haS1 (fun σ2 ω2 g2 M2 hL2 hG2 hC2 hI2 hLI2 haS2 hs2 => ?_)
    rw [nb_of hs1, nh_of hs1, nv_of hs1, nb_of hs, nh_of hs, nv_of hs]
    refine h_iinc G dL_law_1471 rfl (by decide) rfl (nI_1 t) ?_
    refine h_goto G 43 dL_law_1474 (by decide) ?_
    refine HV.wid (c2 := cN + 1660 * (t + 1)) (d2 := dN + 9350 * (t + 1)) (by omega) (by omega) ?_
    exact HV.drop1 7 (ih (t + 1) (by omega) σ2 ω2 g2 M2 hL2 hG2 hC2 hI2 hLI2 haS2 (hs2.trans (hs1.trans hs)))
theorem p_law (G : Gd κ cL_law 34 RL 7 164) (hc9 : cN + 84200 ≤ κ.R.cells) (hd9 : dN + 482000 ≤ κ.R.slots) (hC : ClsP κ.E σ M) (hI : CI M g0) (K : ∀ σ l, HV κ 34 σ (cN + 84200) (dN + 482000) l [.int 1] 1482) : HV κ 34 σ cN dN [some (.ref κ.E.sc.1), some (.ref (κ.E.ad (0, 0, 0))), none, none, none, none, none, none, none, none, none, none, none, none, none, none, none, none, none, none, none, none, none, none, none, none, none, none, none, none, none, none, none, none] [] 8 := by
  refine h_aload_n G dL_law_8 rfl ?_
  refine h_aload_n G dL_law_9 rfl ?_
  refine wiL_90 G (m_build hC hI) (by decide) (Nat.le_of_ble_eq_true rfl) (by omega) (by omega) dL_law_10 (fun r9 σ9 hp9 => ?_)
  obtain ⟨ω, g, M', rfl, hL, hG, hC2, hI2, h0, hsz, d, d1, d2, d3⟩ := hp9
  have hG := hG.wn h0.2.1
  have hLI := h0.li hsz ⟨d, d2, d3⟩
  refine h_astore_n G dL_law_13 (by decide) rfl ?_
  refine h_aload_n G dL_law_14 rfl ?_
  refine h_ifnonnull G 20 dL_law_15 (by decide) ?_
  refine h_aload_n G dL_law_20 rfl ?_
  refine wgL_28 G hL dL_law_21 ?_
  refine wle_22 G hL dL_law_24 ?_
  rw [hG.nb]
  refine h_istore_n G dL_law_25 (by decide) rfl ?_
  refine h_aload_n G dL_law_26 rfl ?_
  refine wgL_43 G hL dL_law_27 ?_
  refine wle_24 G hL dL_law_30 ?_
  rw [hG.nh]
  refine h_istore G dL_law_31 (by decide) rfl ?_
  refine h_aload_n G dL_law_33 rfl ?_
  refine wgL_61 G hL dL_law_34 ?_
  refine wle_25 G hL dL_law_37 ?_
  rw [hG.nv]
  refine h_istore G dL_law_38 (by decide) rfl ?_
  refine h_iconst (v := 0) G dL_law_40 (by decide) ?_
  refine h_istore G dL_law_41 (by decide) rfl ?_
  have h9 := p_loop (cN := cN + 120) (dN := dN + 1100) (g := g) (aS := ω.ad (21, 0, 0)) G (by omega) (by omega) (fun σ l => HV.wid (by omega) (by omega) (K σ l)) 50 0 (by omega) σ9 ω g M' hL hG hC2 hI2 hLI rfl rfl
  exact HV.wid (by omega) (by omega) h9
end Lw
