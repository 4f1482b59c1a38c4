/-! ===== one turn of law's loop ===== -/
section It
variable {κ : KX} {σ : Sg} {ω : WS} {g h : GS} {M : Mem} {cN dN aS t q8 q9 q10 : Nat} {r8 r9 r10 : Nat → Nat} {x y17 : Int32} {n : Nat → Nat}
theorem p_chk (G : Gd κ cL_law 34 RL 7 164) (hc9 : cN + 1 ≤ κ.R.cells) (hd9 : dN + 16 ≤ κ.R.slots) (hC0 : ClsP κ.E σ M) (hI : CI M h) (hI0 : Inv g) (T8 : Tab κ.E σ (60, 0, 0) 61 q8 r8 g.nv 8 (fun _ _ => True) (fun v k => vfc g v k)) (T9 : Tab κ.E σ (62, 0, 0) 63 q9 r9 g.nb 10 (fun _ _ => True) (fun b k => bfc g b k)) (T10 : Tab κ.E σ (64, 0, 0) 65 q10 r10 g.nh 3 (fun _ _ => True) (fun v k => g.i 3 v k)) (hB : RB t g h n) (hV : RV g h) (hm : ∃ m, m < g.nb ∧ h.i 1 0 9 = nI m) (hN : sN n g.nb ≤ 77) (e23 : sI (fun b => h.i 2 b 5 - g.i 2 b 5) g.nb = nI (sN n g.nb)) (eT : sI (fun v => g.i 4 v 0 - h.i 4 v 0) g.nv = sI (fun b => h.i 2 b 6 - g.i 2 b 6) g.nb - (if t % 12 = 11 ∧ 0 < g.bd.length + sN n g.nb then 5 else 0)) (eP : sI (fun v => h.i 4 v 6 - g.i 4 v 6) g.nv = sI (fun b => h.i 2 b 5 - g.i 2 b 5) g.nb) (eZ : sI (fun v => h.i 4 v 4 - g.i 4 v 4) g.nv = y17) (eM : sI (fun v => h.i 4 v 5 - g.i 4 v 5) g.nv = if t % 12 = 11 then mkS (min 3 (g.bd.length + sN n g.nb)) else 0) (hr : ∀ a, a < g.nh → ∀ j, j < 3 → h.i 3 a j = trow (g.i 3 a 0) (g.i 3 a 1) (g.i 3 a 2) j) (hbd : h.bd.length = if t % 12 = 11 then 0 else min 3 (g.bd.length + sN n g.nb)) (K : ∀ s1, Ext σ s1 → HV κ 34 s1 (cN + 1) (dN + 16) [some (.ref κ.E.sc.1), some (.ref (κ.E.ad (0, 0, 0))), some (.ref aS), some (.int (nI g.nb)), some (.int (nI g.nh)), some (.int (nI g.nv)), some (.int (nI t)), some (.int x), some (.ref q8), some (.ref q9), some (.ref q10), none, none, none, none, none, none, none, none, none, none, none, none, none, none, none, none, none, none, none, none, none, none, none] [] 1471) : HV κ 34 σ cN dN [some (.ref κ.E.sc.1), some (.ref (κ.E.ad (0, 0, 0))), some (.ref aS), some (.int (nI g.nb)), some (.int (nI g.nh)), some (.int (nI g.nv)), some (.int (nI t)), some (.int x), some (.ref q8), some (.ref q9), some (.ref q10), none, none, none, none, some (.int (nI g.bd.length)), none, some (.int y17), none, some (.int (if t % 12 = 11 then 1 else 0)), none, none, none, none, none, none, none, none, none, none, none, none, none, none] [] 444 := by
  have hL3 : g.bd.length ≤ 3 := hI0.2.2.2.2.1
  refine p_k1 G hc9 hd9 hC0 hI hB T9 (fun s1 q20 hE hA => ?_)
  have hC := hE.cls hC0
  refine p_k0 G hc9 hd9 hC hI hB.1.1 hB.2.1.1.2 hm ?_
  refine p_k2 G hc9 hd9 hC hI hV (T8.kp (by decide) (by decide) (fun a i e hs _ => hE _ _ hs)) hA ?_
  refine p_k3 G hc9 hd9 rfl hL3 hN e23 eT eP eZ eM ?_
  refine p_k4 G hc9 hd9 hC hI hB.1.2.1 hI0 (T10.kp (by decide) (by decide) (fun a i e hs _ => hE _ _ hs)) hr ?_
  refine p_k5 G hc9 hd9 hC hI hL3 hN e23 hbd ?_
  exact HV.drop1 15 (HV.drop1 17 (HV.drop1 19 (HV.drop1 20 (HV.drop1 21 (HV.drop1 22 (HV.drop1 23 (HV.drop1 24 (K s1 hE))))))))
theorem LayS.low (hL : LayS κ.E σ ω) : LayS κ.E (low σ) ω := hL.kp (fun a i e hs hi => low_some.mpr ⟨hs, by show i.1 < 50; omega⟩)
theorem ClsP.low (hC : ClsP κ.E σ M) : ClsP κ.E (low σ) M := fun i hi => low_some.mpr ⟨hC i hi, by have := idsC_lt i hi; show i.1 < 50; omega⟩
theorem low_lb {a : Nat} {i : Pid} {e : va_E} (hs : Jvm.Pilot.CFeteBoardLaw_law_r1289_786a2d.low σ a = some (i, e)) : i.1 < 50 := (low_some.mp hs).2
theorem p_turn3 (G : Gd κ cL_law 34 RL 7 164) (hc9 : cN + 1601 ≤ κ.R.cells) (hd9 : dN + 9016 ≤ κ.R.slots) (hL : LayS κ.E σ ω) (hG : SimG ω g (g.i 1 0 10)) (hC : ClsP κ.E σ M) (hI : CI M g) (hR : RFh t g n) (haS : ω.ad (21, 0, 0) = aS) (T8 : Tab κ.E σ (60, 0, 0) 61 q8 r8 g.nv 8 (fun _ _ => True) (fun v k => vfc g v k)) (T9 : Tab κ.E σ (62, 0, 0) 63 q9 r9 g.nb 10 (fun _ _ => True) (fun b k => bfc g b k)) (T10 : Tab κ.E σ (64, 0, 0) 65 q10 r10 g.nh 3 (fun _ _ => True) (fun v k => g.i 3 v k)) (K : ∀ σ' ω' g' M', LayS κ.E σ' ω' → SimG ω' g' (g'.i 1 0 10) → ClsP κ.E σ' M' → CI M' g' → LI (t + 1) 0 g' → ω'.ad (21, 0, 0) = aS → g'.2.2.1 = g.2.2.1 → HV κ 34 σ' (cN + 1601) (dN + 9016) [some (.ref κ.E.sc.1), some (.ref (κ.E.ad (0, 0, 0))), some (.ref aS), some (.int (nI g.nb)), some (.int (nI g.nh)), some (.int (nI g.nv)), some (.int (nI t)), some (.int x), none, none, none, none, none, none, none, none, none, none, none, none, none, none, none, none, none, none, none, none, none, none, none, none, none, none] [] 1471) : HV κ 34 σ cN dN [some (.ref κ.E.sc.1), some (.ref (κ.E.ad (0, 0, 0))), some (.ref aS), some (.int (nI g.nb)), some (.int (nI g.nh)), some (.int (nI g.nv)), some (.int (nI t)), some (.int x), some (.ref q8), some (.ref q9), some (.ref q10), none, none, none, none, none, none, none, none, none, none, none, none, none, none, none, none, none, none, none, none, none, none, none] [] 283 := by
  refine p_turn G (by omega) (by omega) hL hG hC hI hR haS T8 T9 T10 (fun σ4 ω4 M4 hL4 hG4 hC4 hI4 haS4 U8 U9 U10 => ?_)
  have f1 := hR.rb
  have f2 := hR.rv
  have f3 := hR.r_9
  have f4 : sI (fun b => (round9 g).i 2 b 5 - g.i 2 b 5) g.nb = nI (sN n g.nb) := sI_nI g.nb (fun b hb => hR.r_b5 hb)
  have f5 := hR.r_T
  have f6 := hR.r_P
  have f7 := hR.r_Z
  have f8 := hR.r_M
  have f9 : ∀ a, a < g.nh → ∀ j, j < 3 → (round9 g).i 3 a j = trow (g.i 3 a 0) (g.i 3 a 1) (g.i 3 a 2) j := fun a ha j hj => hR.r_i3 ha hj
  have f10 := hR.r_bd
  have f11 := hR.r_LI
  have f12 : (round9 g).2.2.1 = g.2.2.1 := r_n
  have hN := hR.N
  clear hR
  generalize round9 g = h at hG4 hI4 f1 f2 f3 f4 f5 f6 f7 f8 f9 f10 f11 f12 ⊢
  refine p_chk G (by omega) (by omega) hC4 hI4 hI.2.1 U8 U9 U10 f1 f2 f3 hN f4 f5 f6 f7 f8 f9 f10 (fun s1 hE => ?_)
  refine HV.wid (c2 := cN + 1601) (d2 := dN + 9016) (by omega) (by omega) ?_
  exact HV.drop1 8 (HV.drop1 9 (HV.drop1 10 (K s1 ω4 h M4 (hE.lay hL4) hG4 (hE.cls hC4) hI4 f11 haS4 f12)))
/-- from the notes to the end of the turn -/
theorem p_turn2 (G : Gd κ cL_law 34 RL 7 164) (hc9 : cN + 1650 ≤ κ.R.cells) (hd9 : dN + 9310 ≤ κ.R.slots) (hL : LayS κ.E σ ω) (hG : SimG ω g (g.i 1 0 10)) (hC : ClsP κ.E σ M) (hI : CI M g) (hLI : LI t 40 g) (ht : t < 50) (haS : ω.ad (21, 0, 0) = aS) (K : ∀ σ' ω' g' M', LayS κ.E σ' ω' → SimG ω' g' (g'.i 1 0 10) → ClsP κ.E σ' M' → CI M' g' → LI (t + 1) 0 g' → ω'.ad (21, 0, 0) = aS → g'.2.2.1 = g.2.2.1 → HV κ 34 σ' (cN + 1650) (dN + 9310) [some (.ref κ.E.sc.1), some (.ref (κ.E.ad (0, 0, 0))), some (.ref aS), some (.int (nI g.nb)), some (.int (nI g.nh)), some (.int (nI g.nv)), some (.int (nI t)), some (.int x), none, none, none, none, none, none, none, none, none, none, none, none, none, none, none, none, none, none, none, none, none, none, none, none, none, none] [] 1471) : HV κ 34 σ cN dN [some (.ref κ.E.sc.1), some (.ref (κ.E.ad (0, 0, 0))), some (.ref aS), some (.int (nI g.nb)), some (.int (nI g.nh)), some (.int (nI g.nv)), some (.int (nI t)), some (.int x), none, none, none, none, none, none, none, none, none, none, none, none, none, none, none, none, none, none, none, none, none, none, none, none, none, none] [] 113 := by
  obtain ⟨n, hR⟩ := RFh.mk hLI hI.2.1 ht
  have hs := hLI.1
  refine HV.sub (σ' := low σ) (fun a z h => (low_some.mp h).1) ?_
  refine p_fV G (by omega) (by omega) hC.low hI (by omega) (fun a i e hs z => by have := low_lb hs; omega) (fun σ1 q8 r8 hE1 hB1 T8 => ?_)
  have hC1 := hE1.cls hC.low
  refine p_fB G (by omega) (by omega) hC1 hI (by omega) (fun a i e hs z => by
    rcases hB1 a i e hs with w | w
    · have := low_lb w; omega
    · omega) (fun σ2 q9 r9 hE2 hB2 T9 => ?_)
  have hC2 := hE2.cls hC1
  refine p_fH G (by omega) (by omega) hC2 hI (by omega) (fun a i e hs z => by
    rcases hB2 a i e hs with w | w
    · rcases hB1 a i e w with w | w
      · have := low_lb w; omega
      · omega
    · omega) (fun σ3 q10 r10 hE3 hB3 T10 => ?_)
  have hC3 := hE3.cls hC2
  have hL3 : LayS κ.E σ3 ω := hE3.lay (hE2.lay (hE1.lay hL.low))
  refine p_turn3 G (by omega) (by omega) hL3 hG hC3 hI hR haS (T8.kp (by decide) (by decide) (fun a i e hs _ => hE3 _ _ (hE2 _ _ hs))) (T9.kp (by decide) (by decide) (fun a i e hs _ => hE3 _ _ hs)) T10 (fun σ4 ω4 h M4 hL4 hG4 hC4 hI4 f11 haS4 f12 => ?_)
  refine HV.wid (c2 := cN + 1650) (d2 := dN + 9310) (by omega) (by omega) ?_
  exact K σ4 ω4 h M4 hL4 hG4 hC4 hI4 f11 haS4 f12
/-- the two things that are done before the pass -/
theorem p_acts (G : Gd κ cL_law 34 RL 7 164) (hc9 : cN + 2 ≤ κ.R.cells) (hd9 : dN + 32 ≤ κ.R.slots) (hL : LayS κ.E σ ω) (hG : SimG ω g (g.i 1 0 10)) (hC : ClsP κ.E σ M) (hI : CI M g) (hLI : LI t 0 g) (haS : ω.ad (21, 0, 0) = aS) (K : ∀ σ' ω' g' M', LayS κ.E σ' ω' → SimG ω' g' (g'.i 1 0 10) → ClsP κ.E σ' M' → CI M' g' → LI t 40 g' → ω'.ad (21, 0, 0) = aS → g'.2.2.1 = g.2.2.1 → HV κ 34 σ' (cN + 2) (dN + 32) [some (.ref κ.E.sc.1), some (.ref (κ.E.ad (0, 0, 0))), some (.ref aS), some (.int (nI g.nb)), some (.int (nI g.nh)), some (.int (nI g.nv)), some (.int (nI t)), some (.int x), none, none, none, none, none, none, none, none, none, none, none, none, none, none, none, none, none, none, none, none, none, none, none, none, none, none] [] 113) : HV κ 34 σ cN dN [some (.ref κ.E.sc.1), some (.ref (κ.E.ad (0, 0, 0))), some (.ref aS), some (.int (nI g.nb)), some (.int (nI g.nh)), some (.int (nI g.nv)), some (.int (nI t)), some (.int x), none, none, none, none, none, none, none, none, none, none, none, none, none, none, none, none, none, none, none, none, none, none, none, none, none, none] [] 75 := by
  refine h_iconst (v := 0) G dL_law_75 (by decide) ?_
  refine h_istore G dL_law_76 (by decide) rfl ?_
  have loop : ∀ m j, j + m = 2 → ∀ σ' ω' g' M', LayS κ.E σ' ω' → SimG ω' g' (g'.i 1 0 10) → ClsP κ.E σ' M' → CI M' g' → LI t (20 * j) g' → ω'.ad (21, 0, 0) = aS → g'.2.2.1 = g.2.2.1 → HV κ 34 σ' (cN + j) (dN + 16 * j) [some (.ref κ.E.sc.1), some (.ref (κ.E.ad (0, 0, 0))), some (.ref aS), some (.int (nI g.nb)), some (.int (nI g.nh)), some (.int (nI g.nv)), some (.int (nI t)), some (.int x), some (.int (nI j)), none, none, none, none, none, none, none, none, none, none, none, none, none, none, none, none, none, none, none, none, none, none, none, none, none] [] 78 := by
    intro m
    induction m with
    | zero =>
      intro j hj σ' ω' g' M' hL hG hC hI hLI haS hs
      have hj : j = 2 := by omega
      subst hj
      refine h_iload G dL_law_78 rfl ?_
      refine h_iconst (v := 2) G dL_law_80 (by decide) ?_
      refine h_icmp_ge G 113 dL_law_81 (by decide) (fun h81 => ?_) (fun h81 => ?_)
      rotate_left
      · exact absurd (by decide) h81
      exact HV.drop1 8 (K σ' ω' g' M' hL hG hC hI hLI haS hs)
    | succ m ih =>
      intro j hj σ' ω' g' M' hL hG hC hI hLI haS hs
      have hlj : j < 2 := by omega
      refine h_iload G dL_law_78 rfl ?_
      refine h_iconst (v := 2) G dL_law_80 (by decide) ?_
      refine h_icmp_ge G 113 dL_law_81 (by decide) (fun h81 => ?_) (fun h81 => ?_)
      · exact absurd h81 (nI_ge (b := 2) hlj (by decide))
      refine h_aload_n G dL_law_84 rfl ?_
      refine h_aload_n G dL_law_85 rfl ?_
      refine h_iload G dL_law_86 rfl ?_
      refine h_iconst (v := 2) G dL_law_88 (by decide) ?_
      refine h_iload G dL_law_89 rfl ?_
      refine h_imul G dL_law_91 ?_
      refine h_ishr G dL_law_92 ?_
      refine h_bipush (v := 59) G dL_law_93 (by decide) ?_
      refine h_iload G dL_law_95 rfl ?_
      refine h_imul G dL_law_97 ?_
      refine h_iadd G dL_law_98 ?_
      rw [← haS]
      refine wiL_94 G (m_act hL hG hC hI hLI) (by decide) (Nat.le_of_ble_eq_true rfl) (by omega) (by omega) dL_law_99 (fun r9 σ9 hp9 => ?_)
      obtain ⟨rfl, ω2, g2, M2, hL2, hG2, hC2, hI2, had, hLI2, hs2⟩ := hp9
      rw [haS]
      refine h_if_ne G 107 dL_law_102 (by decide) (fun h102 => ?_) (fun h102 => ?_)
      rotate_left
      · exact absurd h102 (by decide)
      refine h_iinc G dL_law_107 rfl (by decide) rfl (nI_1 j) ?_
      refine h_goto G 78 dL_law_110 (by decide) ?_
      refine HV.wid (c2 := cN + (j + 1)) (d2 := dN + 16 * (j + 1)) (by omega) (by omega) ?_
      exact ih (j + 1) (by omega) σ9 ω2 g2 M2 hL2 hG2 hC2 hI2 hLI2 (had.trans haS) (hs2.trans hs)
  exact HV.wid (by omega) (by omega) (loop 2 0 (by omega) σ ω g M hL hG hC hI hLI haS rfl)
end It
