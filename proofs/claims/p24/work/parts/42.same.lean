/-! ===== isSame: all that is told is alike ===== -/
theorem ClsP.abs {E : EX} {σ σ' : Sg} {M : Mem} {q : Nat} {l : Pid} {e2 : va_E} (hC : ClsP E σ M) (hs : σ q = some (l, e2)) (hl : 20 ≤ l.1) (o : ∀ b, b ≠ q → σ' b = σ b) : ClsP E σ' M := fun j hj => (o _ (fun z => by
  have h1 := hC j hj
  rw [z, hs] at h1
  cases h1
  exact absurd (idsC_lt _ hj) (by omega))).trans (hC j hj)
theorem LayS.fr {E : EX} {σ σ' : Sg} {ω : WS} {q : Nat} (hL : LayS E σ ω) (hq : σ q = none) (o : ∀ b, b ≠ q → σ' b = σ b) : LayS E σ' ω := hL.kp (fun a i e hs _ => (o a (fresh_ne hs hq)).trans hs)
theorem ClsP.fr {E : EX} {σ σ' : Sg} {M : Mem} {q : Nat} (hC : ClsP E σ M) (hq : σ q = none) (o : ∀ b, b ≠ q → σ' b = σ b) : ClsP E σ' M := fun i hi => (o _ (fresh_ne (hC i hi) hq)).trans (hC i hi)
section Is
variable {κ : KX} {σ : Sg} {ω : WS} {g : GS} {M : Mem} {cN dN : Nat}
theorem p_sB (G : Gd κ cX6_isSame 11 RX6 4 85) (hc9 : cN + 8 ≤ κ.R.cells) (hd9 : dN + 80 ≤ κ.R.slots) (hG : SimG ω g (g.i 1 0 10)) (hI : CI M g) (hL : LayS κ.E σ ω) (hC : ClsP κ.E σ M) (K : ∀ σ, LayS κ.E σ ω → ClsP κ.E σ M → HV κ 11 σ (cN + 8) (dN + 80) [some (.ref (ω.ad (21, 0, 0))), some (.ref (κ.E.ad (0, 0, 0))), some (.int (opsN g g.nb)), some (.int (0)), some (.int (0)), some (.int (prsN g g.nb)), some (.int (plsN g g.nb)), none, none, none, none] [] 253) : HV κ 11 σ cN dN [some (.ref (ω.ad (21, 0, 0))), some (.ref (κ.E.ad (0, 0, 0))), some (.int (0)), some (.int (0)), some (.int (0)), some (.int (0)), some (.int (0)), none, none, none, none] [] 13 := by
  have hb8 := hI.2.1.nb8
  refine h_iconst (v := 0) G dX6_isSame_13 (by decide) ?_
  refine h_istore G dX6_isSame_14 (by decide) rfl ?_
  have loop : ∀ m k, k + m = g.nb → ∀ σ, LayS κ.E σ ω → ClsP κ.E σ M → HV κ 11 σ (cN + k) (dN + 10 * k) [some (.ref (ω.ad (21, 0, 0))), some (.ref (κ.E.ad (0, 0, 0))), some (.int (opsN g k)), some (.int (0)), some (.int (0)), some (.int (prsN g k)), some (.int (plsN g k)), some (.int (nI k)), none, none, none] [] 16 := by
    intro m
    induction m with
    | zero =>
      intro k hk σ hL hC
      have hk : k = g.nb := by omega
      subst hk
      refine h_iload G dX6_isSame_16 rfl ?_
      refine h_aload_n G dX6_isSame_18 rfl ?_
      refine wgX6_18 G hL dX6_isSame_19 ?_
      refine wle_22 G hL dX6_isSame_22 ?_
      rw [hG.nb]
      refine h_icmp_ge G 253 dX6_isSame_23 (by decide) (fun h23 => ?_) (fun h23 => ?_)
      rotate_left
      · exact absurd (nI_le (Nat.le_refl _) (by omega)) h23
      refine HV.wid (c2 := cN + 8) (d2 := dN + 80) (by omega) (by omega) ?_
      exact HV.drop1 7 (K σ hL hC)
    | succ m ih =>
      intro k hk σ hL hC
      have hlt : k < g.nb := by omega
      refine h_iload G dX6_isSame_16 rfl ?_
      refine h_aload_n G dX6_isSame_18 rfl ?_
      refine wgX6_18 G hL dX6_isSame_19 ?_
      refine wle_22 G hL dX6_isSame_22 ?_
      rw [hG.nb]
      refine h_icmp_ge G 253 dX6_isSame_23 (by decide) (fun h23 => ?_) (fun h23 => ?_)
      · exact absurd h23 (nI_ge hlt (by omega))
      refine h_aload_n G dX6_isSame_26 rfl ?_
      refine wgX6_18 G hL dX6_isSame_27 ?_
      refine h_iload G dX6_isSame_30 rfl ?_
      refine war_22 G hL rfl (by rw [hG.nb]; exact hlt) dX6_isSame_32 ?_
      refine h_astore G dX6_isSame_33 (by decide) rfl ?_
      refine h_bipush (v := 10) G dX6_isSame_35 (by decide) ?_
      refine h_newi G (60, 0, 0) (k := 10) rfl (by decide) (by decide +kernel) (by omega) (by omega) dX6_isSame_37 (fun q hq => ?_)
      refine HV.abs (fun s1 f8 o1 => ?_)
      replace hL := hL.fr hq o1
      replace hC := hC.fr hq o1
      clear o1 hq
      refine h_dup G dX6_isSame_39 rfl ?_
      refine h_iconst (v := 0) G dX6_isSame_40 (by decide) ?_
      refine h_aload_n G dX6_isSame_41 rfl ?_
      refine h_iload G dX6_isSame_42 rfl ?_
      refine wiX6_74 G (hL.1 (21, 0, 0) trivial) (m_cost hL hG hlt) (by decide) (Nat.le_of_ble_eq_true rfl) (by omega) (by omega) dX6_isSame_44 (fun r9 σ9 hp9 => ?_)
      obtain ⟨rfl, rfl⟩ := hp9
      refine h_iast G f8 (j := 0) rfl (by decide) (by decide) dX6_isSame_47 ?_
      refine HV.abs (fun s2 f9 o9 => ?_)
      replace hL := hL.abs f8 (by decide) o9
      replace hC := hC.abs f8 (by decide) o9
      clear f8 o9
      have f8 := f9
      clear f9
      refine h_dup G dX6_isSame_48 rfl ?_
      refine h_iconst (v := 1) G dX6_isSame_49 (by decide) ?_
      refine h_aload G dX6_isSame_50 rfl ?_
      refine h_iconst (v := 1) G dX6_isSame_52 (by decide) ?_
      refine wal_32 G hL (by first | assumption | omega | (rw [hG.nb]; omega) | (rw [hG.nh]; omega) | (rw [hG.nv]; omega)) (show (1 : Int32) = nI 1 from rfl) (by decide) dX6_isSame_53 ?_
      rw [hG.bo hlt (by decide)]
      refine h_iast G f8 (j := 1) rfl (by decide) (by decide) dX6_isSame_54 ?_
      refine HV.abs (fun s3 f9 o9 => ?_)
      replace hL := hL.abs f8 (by decide) o9
      replace hC := hC.abs f8 (by decide) o9
      clear f8 o9
      have f8 := f9
      clear f9
      refine h_dup G dX6_isSame_55 rfl ?_
      refine h_iconst (v := 2) G dX6_isSame_56 (by decide) ?_
      refine h_aload G dX6_isSame_57 rfl ?_
      refine h_iconst (v := 2) G dX6_isSame_59 (by decide) ?_
      refine wal_32 G hL (by first | assumption | omega | (rw [hG.nb]; omega) | (rw [hG.nh]; omega) | (rw [hG.nv]; omega)) (show (2 : Int32) = nI 2 from rfl) (by decide) dX6_isSame_60 ?_
      rw [hG.bo hlt (by decide)]
      refine h_iast G f8 (j := 2) rfl (by decide) (by decide) dX6_isSame_61 ?_
      refine HV.abs (fun s4 f9 o9 => ?_)
      replace hL := hL.abs f8 (by decide) o9
      replace hC := hC.abs f8 (by decide) o9
      clear f8 o9
      have f8 := f9
      clear f9
      refine h_dup G dX6_isSame_62 rfl ?_
      refine h_iconst (v := 3) G dX6_isSame_63 (by decide) ?_
      refine h_aload G dX6_isSame_64 rfl ?_
      refine h_iconst (v := 3) G dX6_isSame_66 (by decide) ?_
      refine wal_32 G hL (by first | assumption | omega | (rw [hG.nb]; omega) | (rw [hG.nh]; omega) | (rw [hG.nv]; omega)) (show (3 : Int32) = nI 3 from rfl) (by decide) dX6_isSame_67 ?_
      rw [hG.bo hlt (by decide)]
      refine h_iast G f8 (j := 3) rfl (by decide) (by decide) dX6_isSame_68 ?_
      refine HV.abs (fun s5 f9 o9 => ?_)
      replace hL := hL.abs f8 (by decide) o9
      replace hC := hC.abs f8 (by decide) o9
      clear f8 o9
      have f8 := f9
      clear f9
      refine h_dup G dX6_isSame_69 rfl ?_
      refine h_iconst (v := 4) G dX6_isSame_70 (by decide) ?_
      refine h_aload_n G dX6_isSame_71 rfl ?_
      refine h_iload G dX6_isSame_72 rfl ?_
      refine wiX6_60 G (hL.1 (21, 0, 0) trivial) (m_working hL hG hI.2.1 k) (by decide) (Nat.le_of_ble_eq_true rfl) (by omega) (by omega) dX6_isSame_74 (fun r9 σ9 hp9 => ?_)
      obtain ⟨rfl, rfl⟩ := hp9
      refine h_iast G f8 (j := 4) rfl (by decide) (by decide) dX6_isSame_77 ?_
      refine HV.abs (fun s6 f9 o9 => ?_)
      replace hL := hL.abs f8 (by decide) o9
      replace hC := hC.abs f8 (by decide) o9
      clear f8 o9
      have f8 := f9
      clear f9
      refine h_dup G dX6_isSame_78 rfl ?_
      refine h_iconst (v := 5) G dX6_isSame_79 (by decide) ?_
      refine h_aload_n G dX6_isSame_80 rfl ?_
      refine h_iload G dX6_isSame_81 rfl ?_
      have K94 : ∀ x, x = bfc g k 5 → HV κ 11 s6 (cN + k + 1) (dN + 10 * k + 10) [some (.ref (ω.ad (21, 0, 0))), some (.ref (κ.E.ad (0, 0, 0))), some (.int (opsN g k)), some (.int (0)), some (.int (0)), some (.int (prsN g k)), some (.int (plsN g k)), some (.int (nI k)), some (.ref (ω.ad (32, k, 0))), none, none] [.int x, .int 5, .ref q, .ref q] 94 := by
        rintro x rfl
        refine h_iast G f8 (j := 5) rfl (by decide) (by decide) dX6_isSame_94 ?_
        refine HV.abs (fun s7 f9 o9 => ?_)
        replace hL := hL.abs f8 (by decide) o9
        replace hC := hC.abs f8 (by decide) o9
        clear f8 o9
        have f8 := f9
        clear f9
        refine h_dup G dX6_isSame_95 rfl ?_
        refine h_bipush (v := 6) G dX6_isSame_96 (by decide) ?_
        have K112 : ∀ x, x = bfc g k 6 → HV κ 11 s7 (cN + k + 1) (dN + 10 * k + 10) [some (.ref (ω.ad (21, 0, 0))), some (.ref (κ.E.ad (0, 0, 0))), some (.int (opsN g k)), some (.int (0)), some (.int (0)), some (.int (prsN g k)), some (.int (plsN g k)), some (.int (nI k)), some (.ref (ω.ad (32, k, 0))), none, none] [.int x, .int 6, .ref q, .ref q] 112 := by
          rintro x rfl
          refine h_iast G f8 (j := 6) rfl (by decide) (by decide) dX6_isSame_112 ?_
          refine HV.abs (fun s8 f9 o9 => ?_)
          replace hL := hL.abs f8 (by decide) o9
          replace hC := hC.abs f8 (by decide) o9
          clear f8 o9
          have f8 := f9
          clear f9
          refine h_dup G dX6_isSame_113 rfl ?_
          refine h_bipush (v := 7) G dX6_isSame_114 (by decide) ?_
          refine h_aload_n G dX6_isSame_116 rfl ?_
          refine wgX6_23 G hL dX6_isSame_117 ?_
          refine h_iload G dX6_isSame_120 rfl ?_
          refine war_23 G hL rfl (by omega) dX6_isSame_122 ?_
          refine wle_33 G hL (by first | assumption | omega | (rw [hG.nb]; omega) | (rw [hG.nh]; omega) | (rw [hG.nv]; omega)) dX6_isSame_123 ?_
          rw [hG.ql hb8 hlt]
          refine h_iast G f8 (j := 7) rfl (by decide) (by decide) dX6_isSame_124 ?_
          refine HV.abs (fun s9 f9 o9 => ?_)
          replace hL := hL.abs f8 (by decide) o9
          replace hC := hC.abs f8 (by decide) o9
          clear f8 o9
          have f8 := f9
          clear f9
          refine h_dup G dX6_isSame_125 rfl ?_
          refine h_bipush (v := 8) G dX6_isSame_126 (by decide) ?_
          refine h_aload G dX6_isSame_128 rfl ?_
          refine h_iconst (v := 4) G dX6_isSame_130 (by decide) ?_
          refine wal_32 G hL (by first | assumption | omega | (rw [hG.nb]; omega) | (rw [hG.nh]; omega) | (rw [hG.nv]; omega)) (show (4 : Int32) = nI 4 from rfl) (by decide) dX6_isSame_131 ?_
          rw [hG.b4 hlt]
          refine h_iast G f8 (j := 8) rfl (by decide) (by decide) dX6_isSame_132 ?_
          refine HV.abs (fun s10 f9 o9 => ?_)
          replace hL := hL.abs f8 (by decide) o9
          replace hC := hC.abs f8 (by decide) o9
          clear f8 o9
          have f8 := f9
          clear f9
          refine h_dup G dX6_isSame_133 rfl ?_
          refine h_bipush (v := 9) G dX6_isSame_134 (by decide) ?_
          refine h_aload G dX6_isSame_136 rfl ?_
          refine h_iconst (v := 5) G dX6_isSame_138 (by decide) ?_
          refine wal_32 G hL (by first | assumption | omega | (rw [hG.nb]; omega) | (rw [hG.nh]; omega) | (rw [hG.nv]; omega)) (show (5 : Int32) = nI 5 from rfl) (by decide) dX6_isSame_139 ?_
          rw [hG.b5 hlt]
          refine h_iast G f8 (j := 9) rfl (by decide) (by decide) dX6_isSame_140 ?_
          refine HV.abs (fun s11 f9 o9 => ?_)
          replace hL := hL.abs f8 (by decide) o9
          replace hC := hC.abs f8 (by decide) o9
          clear f8 o9
          have f8 := f9
          clear f9
          refine HV.ints (f2 := bfc g k) f8 (fun j hj => ?_) ?_
          · match j, hj with
            | 0, _ => rfl
            | 1, _ => rfl
            | 2, _ => rfl
            | 3, _ => rfl
            | 4, _ => rfl
            | 5, _ => rfl
            | 6, _ => rfl
            | 7, _ => rfl
            | 8, _ => rfl
            | 9, _ => rfl
          refine HV.abs (fun s12 f9 o9 => ?_)
          replace hL := hL.abs f8 (by decide) o9
          replace hC := hC.abs f8 (by decide) o9
          clear f8 o9
          have f8 := f9
          clear f9
          refine h_astore G dX6_isSame_141 (by decide) rfl ?_
          refine h_iconst (v := 0) G dX6_isSame_143 (by decide) ?_
          refine h_istore G dX6_isSame_144 (by decide) rfl ?_
          have lp : ∀ m j, j + m = 10 → HV κ 11 s12 (cN + k + 1) (dN + 10 * k + 10) [some (.ref (ω.ad (21, 0, 0))), some (.ref (κ.E.ad (0, 0, 0))), some (.int (opsN g k)), some (.int (0)), some (.int (0)), some (.int (prsN g k)), some (.int (plsN g k)), some (.int (nI k)), some (.ref (ω.ad (32, k, 0))), some (.ref q), some (.int (nI j))] [] 146 := by
            intro m
            induction m with
            | zero =>
              intro j hj
              have hj : j = 10 := by omega
              subst hj
              refine h_iload G dX6_isSame_146 rfl ?_
              refine h_bipush (v := 10) G dX6_isSame_148 (by decide) ?_
              refine h_icmp_ge G 177 dX6_isSame_150 (by decide) (fun h150 => ?_) (fun h150 => ?_)
              rotate_left
              · exact absurd (by decide) h150
              refine h_iconst (v := 0) G dX6_isSame_177 (by decide) ?_
              refine h_istore G dX6_isSame_178 (by decide) rfl ?_
              have lq : ∀ m j, j + m = (g.q k).length → HV κ 11 s12 (cN + k + 1) (dN + 10 * k + 10) [some (.ref (ω.ad (21, 0, 0))), some (.ref (κ.E.ad (0, 0, 0))), some (.int (opsN g k)), some (.int (0)), some (.int (0)), some (.int (prsN g k)), some (.int (plsN g k)), some (.int (nI k)), some (.ref (ω.ad (32, k, 0))), some (.ref q), some (.int (nI j))] [] 180 := by
                have hl16 := hI.2.1.ql16 hlt
                intro m
                induction m with
                | zero =>
                  intro j hj
                  have hj : j = (g.q k).length := by omega
                  subst hj
                  refine h_iload G dX6_isSame_180 rfl ?_
                  refine h_aload_n G dX6_isSame_182 rfl ?_
                  refine wgX6_23 G hL dX6_isSame_183 ?_
                  refine h_iload G dX6_isSame_186 rfl ?_
                  refine war_23 G hL rfl (by omega) dX6_isSame_188 ?_
                  refine wle_33 G hL (by first | assumption | omega | (rw [hG.nb]; omega) | (rw [hG.nh]; omega) | (rw [hG.nv]; omega)) dX6_isSame_189 ?_
                  rw [hG.ql hb8 hlt]
                  refine h_icmp_ge G 222 dX6_isSame_190 (by decide) (fun h190 => ?_) (fun h190 => ?_)
                  rotate_left
                  · exact absurd (nI_le (Nat.le_refl _) (by omega)) h190
                  refine h_iload_n G dX6_isSame_222 rfl ?_
                  refine h_aload G dX6_isSame_223 rfl ?_
                  refine h_iconst (v := 5) G dX6_isSame_225 (by decide) ?_
                  refine h_iald G f8 (j := 5) rfl (by decide) (by decide) dX6_isSame_226 ?_
                  refine h_iadd G dX6_isSame_227 ?_
                  refine h_istore_n G dX6_isSame_228 (by decide) rfl ?_
                  refine h_iload G dX6_isSame_229 rfl ?_
                  refine h_aload G dX6_isSame_231 rfl ?_
                  refine h_iconst (v := 2) G dX6_isSame_233 (by decide) ?_
                  refine wal_32 G hL (by first | assumption | omega | (rw [hG.nb]; omega) | (rw [hG.nh]; omega) | (rw [hG.nv]; omega)) (show (2 : Int32) = nI 2 from rfl) (by decide) dX6_isSame_234 ?_
                  rw [hG.bo hlt (by decide)]
                  refine h_iadd G dX6_isSame_235 ?_
                  refine h_istore G dX6_isSame_236 (by decide) rfl ?_
                  refine h_iload G dX6_isSame_238 rfl ?_
                  refine h_aload G dX6_isSame_240 rfl ?_
                  refine h_iconst (v := 4) G dX6_isSame_242 (by decide) ?_
                  refine wal_32 G hL (by first | assumption | omega | (rw [hG.nb]; omega) | (rw [hG.nh]; omega) | (rw [hG.nv]; omega)) (show (4 : Int32) = nI 4 from rfl) (by decide) dX6_isSame_243 ?_
                  rw [hG.b4 hlt]
                  refine h_iadd G dX6_isSame_244 ?_
                  refine h_istore G dX6_isSame_245 (by decide) rfl ?_
                  refine h_iinc G dX6_isSame_247 rfl (by decide) rfl (nI_1 k) ?_
                  refine h_goto G 16 dX6_isSame_250 (by decide) ?_
                  exact HV.drop1 8 (HV.drop1 9 (HV.drop1 10 (ih (k + 1) (by omega) _ hL hC)))
                | succ m ih2 =>
                  intro j hj
                  have hlj : j < (g.q k).length := by omega
                  obtain ⟨u, hu⟩ : ∃ u, (g.q k)[j]? = some u := ⟨_, List.getElem?_eq_getElem hlj⟩
                  refine h_iload G dX6_isSame_180 rfl ?_
                  refine h_aload_n G dX6_isSame_182 rfl ?_
                  refine wgX6_23 G hL dX6_isSame_183 ?_
                  refine h_iload G dX6_isSame_186 rfl ?_
                  refine war_23 G hL rfl (by omega) dX6_isSame_188 ?_
                  refine wle_33 G hL (by first | assumption | omega | (rw [hG.nb]; omega) | (rw [hG.nh]; omega) | (rw [hG.nv]; omega)) dX6_isSame_189 ?_
                  rw [hG.ql hb8 hlt]
                  refine h_icmp_ge G 222 dX6_isSame_190 (by decide) (fun h190 => ?_) (fun h190 => ?_)
                  · exact absurd h190 (nI_ge hlj (by omega))
                  refine h_aload_n G dX6_isSame_193 rfl ?_
                  refine h_iload G dX6_isSame_194 rfl ?_
                  refine h_iload G dX6_isSame_196 rfl ?_
                  refine wiX6_125 G hC (f_queue hI hlt hu) (by decide) (Nat.le_of_ble_eq_true rfl) (by omega) (by omega) dX6_isSame_198 (fun r9 M9 hp9 => ?_)
                  obtain ⟨rfl, rfl⟩ := hp9
                  rw [setC_self hC]
                  refine h_aload_n G dX6_isSame_201 rfl ?_
                  refine wgX6_23 G hL dX6_isSame_202 ?_
                  refine h_iload G dX6_isSame_205 rfl ?_
                  refine war_23 G hL rfl (by omega) dX6_isSame_207 ?_
                  refine h_iload G dX6_isSame_208 rfl ?_
                  refine wal_33 G hL (by first | assumption | omega | (rw [hG.nb]; omega) | (rw [hG.nh]; omega) | (rw [hG.nv]; omega)) rfl (by rw [hG.ql hb8 hlt]; exact hlj) dX6_isSame_210 ?_
                  rw [hG.qe hlt hu]
                  refine h_icmp_eq G 216 dX6_isSame_211 (by decide) (fun h211 => ?_) (fun h211 => ?_)
                  rotate_left
                  · exact absurd rfl h211
                  refine h_iinc G dX6_isSame_216 rfl (by decide) rfl (nI_1 j) ?_
                  refine h_goto G 180 dX6_isSame_219 (by decide) ?_
                  exact ih2 (j + 1) (by omega)
              exact lq (g.q k).length 0 (by omega)
            | succ m ih2 =>
              intro j hj
              have hlj : j < 10 := by omega
              refine h_iload G dX6_isSame_146 rfl ?_
              refine h_bipush (v := 10) G dX6_isSame_148 (by decide) ?_
              refine h_icmp_ge G 177 dX6_isSame_150 (by decide) (fun h150 => ?_) (fun h150 => ?_)
              · exact absurd h150 (nI_ge (b := 10) hlj (by decide))
              refine h_aload_n G dX6_isSame_153 rfl ?_
              refine h_iload G dX6_isSame_154 rfl ?_
              refine h_iload G dX6_isSame_156 rfl ?_
              refine wiX6_121 G hC (f_booth hI hlt hlj) (by decide) (Nat.le_of_ble_eq_true rfl) (by omega) (by omega) dX6_isSame_158 (fun r9 M9 hp9 => ?_)
              obtain ⟨rfl, rfl⟩ := hp9
              rw [setC_self hC]
              refine h_aload G dX6_isSame_161 rfl ?_
              refine h_iload G dX6_isSame_163 rfl ?_
              refine h_iald G f8 (j := j) rfl hlj (by decide) dX6_isSame_165 ?_
              refine h_icmp_eq G 171 dX6_isSame_166 (by decide) (fun h166 => ?_) (fun h166 => ?_)
              rotate_left
              · exact absurd rfl h166
              refine h_iinc G dX6_isSame_171 rfl (by decide) rfl (nI_1 j) ?_
              refine h_goto G 146 dX6_isSame_174 (by decide) ?_
              exact ih2 (j + 1) (by omega)
          exact lp 10 0 (by omega)
        refine h_aload_n G dX6_isSame_98 rfl ?_
        refine wgX6_13 G hL dX6_isSame_99 ?_
        rw [hG.mk]
        refine h_iload G dX6_isSame_102 rfl ?_
        refine h_icmp_ne G 111 dX6_isSame_104 (by decide) (fun h104 => ?_) (fun h104 => ?_)
        · refine h_iconst (v := 0) G dX6_isSame_111 (by decide) ?_
          exact K112 _ (if_neg (fun z => h104 z.symm)).symm
        · refine h_iconst (v := 1) G dX6_isSame_107 (by decide) ?_
          refine h_goto G 112 dX6_isSame_108 (by decide) ?_
          exact K112 _ (if_pos h104.symm).symm
      refine wiX6_70 G (hL.1 (21, 0, 0) trivial) (m_isOpen hL hG hI.2.1 hlt) (by decide) (Nat.le_of_ble_eq_true rfl) (by omega) (by omega) dX6_isSame_83 (fun r9 σ9 hp9 => ?_)
      obtain ⟨hop, rfl, rfl⟩ | ⟨hop, rfl, rfl⟩ := hp9
      · refine h_if_eq G 93 dX6_isSame_86 (by decide) (fun h86 => ?_) (fun h86 => ?_)
        · exact absurd h86 (by decide)
        refine h_iconst (v := 1) G dX6_isSame_89 (by decide) ?_
        refine h_goto G 94 dX6_isSame_90 (by decide) ?_
        exact K94 _ (if_pos hop).symm
      · refine h_if_eq G 93 dX6_isSame_86 (by decide) (fun h86 => ?_) (fun h86 => ?_)
        rotate_left
        · exact absurd rfl h86
        refine h_iconst (v := 0) G dX6_isSame_93 (by decide) ?_
        exact K94 _ (if_neg hop).symm
  exact loop g.nb 0 (by omega) σ hL hC
theorem p_sH (G : Gd κ cX6_isSame 11 RX6 4 85) (hc9 : cN ≤ κ.R.cells) (hd9 : dN ≤ κ.R.slots) (hG : SimG ω g (g.i 1 0 10)) (hI : CI M g) (hL : LayS κ.E σ ω) (hC : ClsP κ.E σ M) {x2 x3 x4 x5 x6 : Int32} (K : HV κ 11 σ cN dN [some (.ref (ω.ad (21, 0, 0))), some (.ref (κ.E.ad (0, 0, 0))), some (.int (x2)), some (.int (x3)), some (.int (x4)), some (.int (x5)), some (.int (x6)), none, none, none, none] [] 310) : HV κ 11 σ cN dN [some (.ref (ω.ad (21, 0, 0))), some (.ref (κ.E.ad (0, 0, 0))), some (.int (x2)), some (.int (x3)), some (.int (x4)), some (.int (x5)), some (.int (x6)), none, none, none, none] [] 253 := by
  have hh12 := hI.2.1.nh12
  refine h_iconst (v := 0) G dX6_isSame_253 (by decide) ?_
  refine h_istore G dX6_isSame_254 (by decide) rfl ?_
  have loop : ∀ m k, k + m = g.nh → HV κ 11 σ cN dN [some (.ref (ω.ad (21, 0, 0))), some (.ref (κ.E.ad (0, 0, 0))), some (.int (x2)), some (.int (x3)), some (.int (x4)), some (.int (x5)), some (.int (x6)), some (.int (nI k)), none, none, none] [] 256 := by
    intro m
    induction m with
    | zero =>
      intro k hk
      have hk : k = g.nh := by omega
      subst hk
      refine h_iload G dX6_isSame_256 rfl ?_
      refine h_aload_n G dX6_isSame_258 rfl ?_
      refine wgX6_26 G hL dX6_isSame_259 ?_
      refine wle_24 G hL dX6_isSame_262 ?_
      rw [hG.nh]
      refine h_icmp_ge G 310 dX6_isSame_263 (by decide) (fun h263 => ?_) (fun h263 => ?_)
      rotate_left
      · exact absurd (nI_le (Nat.le_refl _) (by omega)) h263
      exact HV.drop1 7 K
    | succ m ih =>
      intro k hk
      have hlt : k < g.nh := by omega
      refine h_iload G dX6_isSame_256 rfl ?_
      refine h_aload_n G dX6_isSame_258 rfl ?_
      refine wgX6_26 G hL dX6_isSame_259 ?_
      refine wle_24 G hL dX6_isSame_262 ?_
      rw [hG.nh]
      refine h_icmp_ge G 310 dX6_isSame_263 (by decide) (fun h263 => ?_) (fun h263 => ?_)
      · exact absurd h263 (nI_ge hlt (by omega))
      refine h_iconst (v := 0) G dX6_isSame_266 (by decide) ?_
      refine h_istore G dX6_isSame_267 (by decide) rfl ?_
      have lp : ∀ m j, j + m = 3 → HV κ 11 σ cN dN [some (.ref (ω.ad (21, 0, 0))), some (.ref (κ.E.ad (0, 0, 0))), some (.int (x2)), some (.int (x3)), some (.int (x4)), some (.int (x5)), some (.int (x6)), some (.int (nI k)), some (.int (nI j)), none, none] [] 269 := by
        intro m
        induction m with
        | zero =>
          intro j hj
          have hj : j = 3 := by omega
          subst hj
          refine h_iload G dX6_isSame_269 rfl ?_
          refine h_iconst (v := 3) G dX6_isSame_271 (by decide) ?_
          refine h_icmp_ge G 304 dX6_isSame_272 (by decide) (fun h272 => ?_) (fun h272 => ?_)
          rotate_left
          · exact absurd (by decide) h272
          refine h_iinc G dX6_isSame_304 rfl (by decide) rfl (nI_1 k) ?_
          refine h_goto G 256 dX6_isSame_307 (by decide) ?_
          exact HV.drop1 8 (ih (k + 1) (by omega))
        | succ m ih2 =>
          intro j hj
          have hlj : j < 3 := by omega
          refine h_iload G dX6_isSame_269 rfl ?_
          refine h_iconst (v := 3) G dX6_isSame_271 (by decide) ?_
          refine h_icmp_ge G 304 dX6_isSame_272 (by decide) (fun h272 => ?_) (fun h272 => ?_)
          · exact absurd h272 (nI_ge (b := 3) hlj (by decide))
          refine h_aload_n G dX6_isSame_275 rfl ?_
          refine h_iload G dX6_isSame_276 rfl ?_
          refine h_iload G dX6_isSame_278 rfl ?_
          refine wiX6_128 G hC (f_helper hI hlt hlj) (by decide) (Nat.le_of_ble_eq_true rfl) (by omega) (by omega) dX6_isSame_280 (fun r9 M9 hp9 => ?_)
          obtain ⟨rfl, rfl⟩ := hp9
          rw [setC_self hC]
          refine h_aload_n G dX6_isSame_283 rfl ?_
          refine wgX6_26 G hL dX6_isSame_284 ?_
          refine h_iload G dX6_isSame_287 rfl ?_
          refine war_24 G hL rfl (by rw [hG.nh]; exact hlt) dX6_isSame_289 ?_
          refine h_iload G dX6_isSame_290 rfl ?_
          refine wal_34 G hL (by first | assumption | omega | (rw [hG.nb]; omega) | (rw [hG.nh]; omega) | (rw [hG.nv]; omega)) rfl hlj dX6_isSame_292 ?_
          rw [hG.he hlt hlj]
          refine h_icmp_eq G 298 dX6_isSame_293 (by decide) (fun h293 => ?_) (fun h293 => ?_)
          rotate_left
          · exact absurd rfl h293
          refine h_iinc G dX6_isSame_298 rfl (by decide) rfl (nI_1 j) ?_
          refine h_goto G 269 dX6_isSame_301 (by decide) ?_
          exact ih2 (j + 1) (by omega)
      exact lp 3 0 (by omega)
  exact loop g.nh 0 (by omega)
theorem p_sV (G : Gd κ cX6_isSame 11 RX6 4 85) (hc9 : cN + 16 ≤ κ.R.cells) (hd9 : dN + 128 ≤ κ.R.slots) (hG : SimG ω g (g.i 1 0 10)) (hI : CI M g) (hL : LayS κ.E σ ω) (hC : ClsP κ.E σ M) {x2 x5 x6 : Int32} (K : ∀ σ, LayS κ.E σ ω → ClsP κ.E σ M → HV κ 11 σ (cN + 16) (dN + 128) [some (.ref (ω.ad (21, 0, 0))), some (.ref (κ.E.ad (0, 0, 0))), some (.int (x2)), some (.int (stsN g 1 g.nv)), some (.int (stsN g 2 g.nv)), some (.int (x5)), some (.int (x6)), none, none, none, none] [] 520) : HV κ 11 σ cN dN [some (.ref (ω.ad (21, 0, 0))), some (.ref (κ.E.ad (0, 0, 0))), some (.int (x2)), some (.int (0)), some (.int (0)), some (.int (x5)), some (.int (x6)), none, none, none, none] [] 310 := by
  have hv16 := hI.2.1.nv16
  have hb8 := hI.2.1.nb8
  refine h_iconst (v := 0) G dX6_isSame_310 (by decide) ?_
  refine h_istore G dX6_isSame_311 (by decide) rfl ?_
  have loop : ∀ m k, k + m = g.nv → ∀ σ, LayS κ.E σ ω → ClsP κ.E σ M → HV κ 11 σ (cN + k) (dN + 8 * k) [some (.ref (ω.ad (21, 0, 0))), some (.ref (κ.E.ad (0, 0, 0))), some (.int (x2)), some (.int (stsN g 1 k)), some (.int (stsN g 2 k)), some (.int (x5)), some (.int (x6)), some (.int (nI k)), none, none, none] [] 313 := by
    intro m
    induction m with
    | zero =>
      intro k hk σ hL hC
      have hk : k = g.nv := by omega
      subst hk
      refine h_iload G dX6_isSame_313 rfl ?_
      refine h_aload_n G dX6_isSame_315 rfl ?_
      refine wgX6_31 G hL dX6_isSame_316 ?_
      refine wle_25 G hL dX6_isSame_319 ?_
      rw [hG.nv]
      refine h_icmp_ge G 520 dX6_isSame_320 (by decide) (fun h320 => ?_) (fun h320 => ?_)
      rotate_left
      · exact absurd (nI_le (Nat.le_refl _) (by omega)) h320
      refine HV.wid (c2 := cN + 16) (d2 := dN + 128) (by omega) (by omega) ?_
      exact HV.drop1 7 (K σ hL hC)
    | succ m ih =>
      intro k hk σ hL hC
      have hlt : k < g.nv := by omega
      refine h_iload G dX6_isSame_313 rfl ?_
      refine h_aload_n G dX6_isSame_315 rfl ?_
      refine wgX6_31 G hL dX6_isSame_316 ?_
      refine wle_25 G hL dX6_isSame_319 ?_
      rw [hG.nv]
      refine h_icmp_ge G 520 dX6_isSame_320 (by decide) (fun h320 => ?_) (fun h320 => ?_)
      · exact absurd h320 (nI_ge hlt (by omega))
      refine h_aload_n G dX6_isSame_323 rfl ?_
      refine wgX6_31 G hL dX6_isSame_324 ?_
      refine h_iload G dX6_isSame_327 rfl ?_
      refine war_25 G hL rfl (by rw [hG.nv]; exact hlt) dX6_isSame_329 ?_
      refine h_astore G dX6_isSame_330 (by decide) rfl ?_
      refine h_bipush (v := 8) G dX6_isSame_332 (by decide) ?_
      refine h_newi G (60, 0, 0) (k := 8) rfl (by decide) (by decide +kernel) (by omega) (by omega) dX6_isSame_334 (fun q hq => ?_)
      refine HV.abs (fun s1 f8 o1 => ?_)
      replace hL := hL.fr hq o1
      replace hC := hC.fr hq o1
      clear o1 hq
      refine h_dup G dX6_isSame_336 rfl ?_
      refine h_iconst (v := 0) G dX6_isSame_337 (by decide) ?_
      refine h_aload G dX6_isSame_338 rfl ?_
      refine wgX6_54 G hL (by rw [hG.nv]; exact hlt) dX6_isSame_340 ?_
      rw [hG.vi hlt (by decide)]
      refine h_iast G f8 (j := 0) rfl (by decide) (by decide) dX6_isSame_343 ?_
      refine HV.abs (fun s2 f9 o9 => ?_)
      replace hL := hL.abs f8 (by decide) o9
      replace hC := hC.abs f8 (by decide) o9
      clear f8 o9
      have f8 := f9
      clear f9
      refine h_dup G dX6_isSame_344 rfl ?_
      refine h_iconst (v := 1) G dX6_isSame_345 (by decide) ?_
      refine h_aload G dX6_isSame_346 rfl ?_
      refine wgX6_57 G hL (by rw [hG.nv]; exact hlt) dX6_isSame_348 ?_
      rw [hG.vi hlt (by decide)]
      refine h_iast G f8 (j := 1) rfl (by decide) (by decide) dX6_isSame_351 ?_
      refine HV.abs (fun s3 f9 o9 => ?_)
      replace hL := hL.abs f8 (by decide) o9
      replace hC := hC.abs f8 (by decide) o9
      clear f8 o9
      have f8 := f9
      clear f9
      refine h_dup G dX6_isSame_352 rfl ?_
      refine h_iconst (v := 2) G dX6_isSame_353 (by decide) ?_
      refine h_aload G dX6_isSame_354 rfl ?_
      refine wgX6_64 G hL (by rw [hG.nv]; exact hlt) dX6_isSame_356 ?_
      rw [hG.vi hlt (by decide)]
      refine h_iast G f8 (j := 2) rfl (by decide) (by decide) dX6_isSame_359 ?_
      refine HV.abs (fun s4 f9 o9 => ?_)
      replace hL := hL.abs f8 (by decide) o9
      replace hC := hC.abs f8 (by decide) o9
      clear f8 o9
      have f8 := f9
      clear f9
      refine h_dup G dX6_isSame_360 rfl ?_
      refine h_iconst (v := 3) G dX6_isSame_361 (by decide) ?_
      refine h_aload G dX6_isSame_362 rfl ?_
      refine wgX6_67 G hL (by rw [hG.nv]; exact hlt) dX6_isSame_364 ?_
      rw [hG.vi hlt (by decide)]
      refine h_iast G f8 (j := 3) rfl (by decide) (by decide) dX6_isSame_367 ?_
      refine HV.abs (fun s5 f9 o9 => ?_)
      replace hL := hL.abs f8 (by decide) o9
      replace hC := hC.abs f8 (by decide) o9
      clear f8 o9
      have f8 := f9
      clear f9
      refine h_dup G dX6_isSame_368 rfl ?_
      refine h_iconst (v := 4) G dX6_isSame_369 (by decide) ?_
      refine h_aload G dX6_isSame_370 rfl ?_
      refine wgX6_115 G hL (by rw [hG.nv]; exact hlt) dX6_isSame_372 ?_
      rw [hG.vi hlt (by decide)]
      refine h_iast G f8 (j := 4) rfl (by decide) (by decide) dX6_isSame_375 ?_
      refine HV.abs (fun s6 f9 o9 => ?_)
      replace hL := hL.abs f8 (by decide) o9
      replace hC := hC.abs f8 (by decide) o9
      clear f8 o9
      have f8 := f9
      clear f9
      refine h_dup G dX6_isSame_376 rfl ?_
      refine h_iconst (v := 5) G dX6_isSame_377 (by decide) ?_
      refine h_aload G dX6_isSame_378 rfl ?_
      refine wgX6_118 G hL (by rw [hG.nv]; exact hlt) dX6_isSame_380 ?_
      rw [hG.vi hlt (by decide)]
      refine h_iast G f8 (j := 5) rfl (by decide) (by decide) dX6_isSame_383 ?_
      refine HV.abs (fun s7 f9 o9 => ?_)
      replace hL := hL.abs f8 (by decide) o9
      replace hC := hC.abs f8 (by decide) o9
      clear f8 o9
      have f8 := f9
      clear f9
      refine h_dup G dX6_isSame_384 rfl ?_
      refine h_bipush (v := 6) G dX6_isSame_385 (by decide) ?_
      refine h_aload G dX6_isSame_387 rfl ?_
      refine wgX6_106 G hL (by rw [hG.nv]; exact hlt) dX6_isSame_389 ?_
      rw [hG.vi hlt (by decide)]
      refine h_iast G f8 (j := 6) rfl (by decide) (by decide) dX6_isSame_392 ?_
      refine HV.abs (fun s8 f9 o9 => ?_)
      replace hL := hL.abs f8 (by decide) o9
      replace hC := hC.abs f8 (by decide) o9
      clear f8 o9
      have f8 := f9
      clear f9
      refine h_dup G dX6_isSame_393 rfl ?_
      refine h_bipush (v := 7) G dX6_isSame_394 (by decide) ?_
      refine h_aload G dX6_isSame_396 rfl ?_
      refine wgX6_109 G hL (by rw [hG.nv]; exact hlt) dX6_isSame_398 ?_
      rw [hG.vi hlt (by decide)]
      refine h_iast G f8 (j := 7) rfl (by decide) (by decide) dX6_isSame_401 ?_
      refine HV.abs (fun s9 f9 o9 => ?_)
      replace hL := hL.abs f8 (by decide) o9
      replace hC := hC.abs f8 (by decide) o9
      clear f8 o9
      have f8 := f9
      clear f9
      refine HV.ints (f2 := vfc g k) f8 (fun j hj => ?_) ?_
      · match j, hj with
        | 0, _ => rfl
        | 1, _ => rfl
        | 2, _ => rfl
        | 3, _ => rfl
        | 4, _ => rfl
        | 5, _ => rfl
        | 6, _ => rfl
        | 7, _ => rfl
      refine HV.abs (fun s12 f9 o9 => ?_)
      replace hL := hL.abs f8 (by decide) o9
      replace hC := hC.abs f8 (by decide) o9
      clear f8 o9
      have f8 := f9
      clear f9
      refine h_astore G dX6_isSame_402 (by decide) rfl ?_
      refine h_iconst (v := 0) G dX6_isSame_404 (by decide) ?_
      refine h_istore G dX6_isSame_405 (by decide) rfl ?_
      have K493 : ∀ x, x = (if stt g k = 1 then (1 : Int32) else 0) → HV κ 11 s12 (cN + k + 1) (dN + 8 * k + 8) [some (.ref (ω.ad (21, 0, 0))), some (.ref (κ.E.ad (0, 0, 0))), some (.int (x2)), some (.int (stsN g 1 k)), some (.int (stsN g 2 k)), some (.int (x5)), some (.int (x6)), some (.int (nI k)), some (.ref (ω.ad (35, k, 0))), none, none] [.int x, .int (stsN g 1 k)] 493 := by
        rintro x rfl
        have K511 : ∀ x, x = (if stt g k = 2 then (1 : Int32) else 0) → HV κ 11 s12 (cN + k + 1) (dN + 8 * k + 8) [some (.ref (ω.ad (21, 0, 0))), some (.ref (κ.E.ad (0, 0, 0))), some (.int (x2)), some (.int (stsN g 1 (k + 1))), some (.int (stsN g 2 k)), some (.int (x5)), some (.int (x6)), some (.int (nI k)), some (.ref (ω.ad (35, k, 0))), none, none] [.int x, .int (stsN g 2 k)] 511 := by
          rintro x rfl
          refine h_iadd G dX6_isSame_511 ?_
          refine h_istore G dX6_isSame_512 (by decide) rfl ?_
          refine h_iinc G dX6_isSame_514 rfl (by decide) rfl (nI_1 k) ?_
          refine h_goto G 313 dX6_isSame_517 (by decide) ?_
          exact HV.drop1 8 (ih (k + 1) (by omega) _ hL hC)
        refine h_iadd G dX6_isSame_493 ?_
        refine h_istore_n G dX6_isSame_494 (by decide) rfl ?_
        refine h_iload G dX6_isSame_495 rfl ?_
        refine h_aload G dX6_isSame_497 rfl ?_
        refine wgX6_64 G hL (by rw [hG.nv]; exact hlt) dX6_isSame_499 ?_
        rw [hG.vi hlt (by decide), show vfc g k 2 = stt g k from rfl]
        refine h_iconst (v := 2) G dX6_isSame_502 (by decide) ?_
        refine h_icmp_ne G 510 dX6_isSame_503 (by decide) (fun h503 => ?_) (fun h503 => ?_)
        · refine h_iconst (v := 0) G dX6_isSame_510 (by decide) ?_
          exact K511 _ (if_neg h503).symm
        · refine h_iconst (v := 1) G dX6_isSame_506 (by decide) ?_
          refine h_goto G 511 dX6_isSame_507 (by decide) ?_
          exact K511 _ (if_pos h503).symm
      have lq : ∀ m j, j + m = g.nb → HV κ 11 s12 (cN + k + 1) (dN + 8 * k + 8) [some (.ref (ω.ad (21, 0, 0))), some (.ref (κ.E.ad (0, 0, 0))), some (.int (x2)), some (.int (stsN g 1 k)), some (.int (stsN g 2 k)), some (.int (x5)), some (.int (x6)), some (.int (nI k)), some (.ref (ω.ad (35, k, 0))), none, some (.int (nI j))] [] 441 := by
        intro m
        induction m with
        | zero =>
          intro j hj
          have hj : j = g.nb := by omega
          subst hj
          refine h_iload G dX6_isSame_441 rfl ?_
          refine h_aload_n G dX6_isSame_443 rfl ?_
          refine wgX6_18 G hL dX6_isSame_444 ?_
          refine wle_22 G hL dX6_isSame_447 ?_
          rw [hG.nb]
          refine h_icmp_ge G 478 dX6_isSame_448 (by decide) (fun h448 => ?_) (fun h448 => ?_)
          rotate_left
          · exact absurd (nI_le (Nat.le_refl _) (by omega)) h448
          refine HV.drop1 10 ?_
          refine h_iload_n G dX6_isSame_478 rfl ?_
          refine h_aload G dX6_isSame_479 rfl ?_
          refine wgX6_64 G hL (by rw [hG.nv]; exact hlt) dX6_isSame_481 ?_
          rw [hG.vi hlt (by decide), show vfc g k 2 = stt g k from rfl]
          refine h_iconst (v := 1) G dX6_isSame_484 (by decide) ?_
          refine h_icmp_ne G 492 dX6_isSame_485 (by decide) (fun h485 => ?_) (fun h485 => ?_)
          · refine h_iconst (v := 0) G dX6_isSame_492 (by decide) ?_
            exact K493 _ (if_neg h485).symm
          · refine h_iconst (v := 1) G dX6_isSame_488 (by decide) ?_
            refine h_goto G 493 dX6_isSame_489 (by decide) ?_
            exact K493 _ (if_pos h485).symm
        | succ m ih2 =>
          intro j hj
          have hlj : j < g.nb := by omega
          refine h_iload G dX6_isSame_441 rfl ?_
          refine h_aload_n G dX6_isSame_443 rfl ?_
          refine wgX6_18 G hL dX6_isSame_444 ?_
          refine wle_22 G hL dX6_isSame_447 ?_
          rw [hG.nb]
          refine h_icmp_ge G 478 dX6_isSame_448 (by decide) (fun h448 => ?_) (fun h448 => ?_)
          · exact absurd h448 (nI_ge hlj (by omega))
          refine h_aload_n G dX6_isSame_451 rfl ?_
          refine h_iload G dX6_isSame_452 rfl ?_
          refine h_iload G dX6_isSame_454 rfl ?_
          refine wiX6_134 G hC (f_practice hI hlt hlj) (by decide) (Nat.le_of_ble_eq_true rfl) (by omega) (by omega) dX6_isSame_456 (fun r9 M9 hp9 => ?_)
          obtain ⟨rfl, rfl⟩ := hp9
          rw [setC_self hC]
          have hj8 : j < 8 := by omega
          refine h_aload G dX6_isSame_459 rfl ?_
          refine wgX6_77 G hL (by rw [hG.nv]; exact hlt) dX6_isSame_461 ?_
          refine h_iload G dX6_isSame_464 rfl ?_
          refine wal_45 G hL (by first | assumption | omega | (rw [hG.nb]; omega) | (rw [hG.nh]; omega) | (rw [hG.nv]; omega)) rfl hj8 dX6_isSame_466 ?_
          rw [hG.pr hlt hj8]
          refine h_icmp_eq G 472 dX6_isSame_467 (by decide) (fun h467 => ?_) (fun h467 => ?_)
          rotate_left
          · exact absurd rfl h467
          refine h_iinc G dX6_isSame_472 rfl (by decide) rfl (nI_1 j) ?_
          refine h_goto G 441 dX6_isSame_475 (by decide) ?_
          exact ih2 (j + 1) (by omega)
      have lp : ∀ m j, j + m = 8 → HV κ 11 s12 (cN + k + 1) (dN + 8 * k + 8) [some (.ref (ω.ad (21, 0, 0))), some (.ref (κ.E.ad (0, 0, 0))), some (.int (x2)), some (.int (stsN g 1 k)), some (.int (stsN g 2 k)), some (.int (x5)), some (.int (x6)), some (.int (nI k)), some (.ref (ω.ad (35, k, 0))), some (.ref q), some (.int (nI j))] [] 407 := by
        intro m
        induction m with
        | zero =>
          intro j hj
          have hj : j = 8 := by omega
          subst hj
          refine h_iload G dX6_isSame_407 rfl ?_
          refine h_bipush (v := 8) G dX6_isSame_409 (by decide) ?_
          refine h_icmp_ge G 438 dX6_isSame_411 (by decide) (fun h411 => ?_) (fun h411 => ?_)
          rotate_left
          · exact absurd (by decide) h411
          refine h_iconst (v := 0) G dX6_isSame_438 (by decide) ?_
          refine h_istore G dX6_isSame_439 (by decide) rfl ?_
          exact HV.drop1 9 (lq g.nb 0 (by omega))
        | succ m ih2 =>
          intro j hj
          have hlj : j < 8 := by omega
          refine h_iload G dX6_isSame_407 rfl ?_
          refine h_bipush (v := 8) G dX6_isSame_409 (by decide) ?_
          refine h_icmp_ge G 438 dX6_isSame_411 (by decide) (fun h411 => ?_) (fun h411 => ?_)
          · exact absurd h411 (nI_ge (b := 8) hlj (by decide))
          refine h_aload_n G dX6_isSame_414 rfl ?_
          refine h_iload G dX6_isSame_415 rfl ?_
          refine h_iload G dX6_isSame_417 rfl ?_
          refine wiX6_131 G hC (f_visitor hI hlt hlj) (by decide) (Nat.le_of_ble_eq_true rfl) (by omega) (by omega) dX6_isSame_419 (fun r9 M9 hp9 => ?_)
          obtain ⟨rfl, rfl⟩ := hp9
          rw [setC_self hC]
          refine h_aload G dX6_isSame_422 rfl ?_
          refine h_iload G dX6_isSame_424 rfl ?_
          refine h_iald G f8 (j := j) rfl hlj (by decide) dX6_isSame_426 ?_
          refine h_icmp_eq G 432 dX6_isSame_427 (by decide) (fun h427 => ?_) (fun h427 => ?_)
          rotate_left
          · exact absurd rfl h427
          refine h_iinc G dX6_isSame_432 rfl (by decide) rfl (nI_1 j) ?_
          refine h_goto G 407 dX6_isSame_435 (by decide) ?_
          exact ih2 (j + 1) (by omega)
      exact lp 8 0 (by omega)
  exact loop g.nv 0 (by omega) σ hL hC
theorem p_sL (G : Gd κ cX6_isSame 11 RX6 4 85) (hc9 : cN ≤ κ.R.cells) (hd9 : dN ≤ κ.R.slots) (hG : SimG ω g (g.i 1 0 10)) (hI : CI M g) (hL : LayS κ.E σ ω) (hC : ClsP κ.E σ M) {x2 x3 x4 x5 x6 : Int32} (K : HV κ 11 σ cN dN [some (.ref (ω.ad (21, 0, 0))), some (.ref (κ.E.ad (0, 0, 0))), some (.int (x2)), some (.int (x3)), some (.int (x4)), some (.int (x5)), some (.int (x6)), none, none, none, none] [] 577) : HV κ 11 σ cN dN [some (.ref (ω.ad (21, 0, 0))), some (.ref (κ.E.ad (0, 0, 0))), some (.int (x2)), some (.int (x3)), some (.int (x4)), some (.int (x5)), some (.int (x6)), none, none, none, none] [] 520 := by
  have hl3 : g.bd.length ≤ 3 := hI.2.1.2.2.2.2.1
  refine h_iconst (v := 0) G dX6_isSame_520 (by decide) ?_
  refine h_istore G dX6_isSame_521 (by decide) rfl ?_
  have loop : ∀ m k, k + m = g.bd.length → HV κ 11 σ cN dN [some (.ref (ω.ad (21, 0, 0))), some (.ref (κ.E.ad (0, 0, 0))), some (.int (x2)), some (.int (x3)), some (.int (x4)), some (.int (x5)), some (.int (x6)), some (.int (nI k)), none, none, none] [] 523 := by
    intro m
    induction m with
    | zero =>
      intro k hk
      have hk : k = g.bd.length := by omega
      subst hk
      refine h_iload G dX6_isSame_523 rfl ?_
      refine h_aload_n G dX6_isSame_525 rfl ?_
      refine wgX6_35 G hL dX6_isSame_526 ?_
      refine wle_26 G hL dX6_isSame_529 ?_
      rw [hG.nl]
      refine h_icmp_ge G 577 dX6_isSame_530 (by decide) (fun h530 => ?_) (fun h530 => ?_)
      rotate_left
      · exact absurd (nI_le (Nat.le_refl _) (by omega)) h530
      exact HV.drop1 7 K
    | succ m ih =>
      intro k hk
      have hlt : k < g.bd.length := by omega
      obtain ⟨x, hx⟩ : ∃ x, g.bd[k]? = some x := ⟨_, List.getElem?_eq_getElem hlt⟩
      refine h_iload G dX6_isSame_523 rfl ?_
      refine h_aload_n G dX6_isSame_525 rfl ?_
      refine wgX6_35 G hL dX6_isSame_526 ?_
      refine wle_26 G hL dX6_isSame_529 ?_
      rw [hG.nl]
      refine h_icmp_ge G 577 dX6_isSame_530 (by decide) (fun h530 => ?_) (fun h530 => ?_)
      · exact absurd h530 (nI_ge hlt (by omega))
      refine h_iconst (v := 0) G dX6_isSame_533 (by decide) ?_
      refine h_istore G dX6_isSame_534 (by decide) rfl ?_
      have lp : ∀ m j, j + m = 3 → HV κ 11 σ cN dN [some (.ref (ω.ad (21, 0, 0))), some (.ref (κ.E.ad (0, 0, 0))), some (.int (x2)), some (.int (x3)), some (.int (x4)), some (.int (x5)), some (.int (x6)), some (.int (nI k)), some (.int (nI j)), none, none] [] 536 := by
        intro m
        induction m with
        | zero =>
          intro j hj
          have hj : j = 3 := by omega
          subst hj
          refine h_iload G dX6_isSame_536 rfl ?_
          refine h_iconst (v := 3) G dX6_isSame_538 (by decide) ?_
          refine h_icmp_ge G 571 dX6_isSame_539 (by decide) (fun h539 => ?_) (fun h539 => ?_)
          rotate_left
          · exact absurd (by decide) h539
          refine h_iinc G dX6_isSame_571 rfl (by decide) rfl (nI_1 k) ?_
          refine h_goto G 523 dX6_isSame_574 (by decide) ?_
          exact HV.drop1 8 (ih (k + 1) (by omega))
        | succ m ih2 =>
          intro j hj
          have hlj : j < 3 := by omega
          refine h_iload G dX6_isSame_536 rfl ?_
          refine h_iconst (v := 3) G dX6_isSame_538 (by decide) ?_
          refine h_icmp_ge G 571 dX6_isSame_539 (by decide) (fun h539 => ?_) (fun h539 => ?_)
          · exact absurd h539 (nI_ge (b := 3) hlj (by decide))
          refine h_aload_n G dX6_isSame_542 rfl ?_
          refine h_iload G dX6_isSame_543 rfl ?_
          refine h_iload G dX6_isSame_545 rfl ?_
          refine wiX6_136 G hC (f_board hI hx hlj) (by decide) (Nat.le_of_ble_eq_true rfl) (by omega) (by omega) dX6_isSame_547 (fun r9 M9 hp9 => ?_)
          obtain ⟨rfl, rfl⟩ := hp9
          rw [setC_self hC]
          refine h_aload_n G dX6_isSame_550 rfl ?_
          refine wgX6_35 G hL dX6_isSame_551 ?_
          refine h_iload G dX6_isSame_554 rfl ?_
          refine w_line G hL.2.2 (by have := hL.2.1.2.2.2.1; omega) rfl (x := x) (by rw [hG.bd]; exact hx) dX6_isSame_556 (fun a9 hln9 => ?_)
          refine h_iload G dX6_isSame_557 rfl ?_
          refine w_lval G hln9 rfl hlj dX6_isSame_559 ?_
          refine h_icmp_eq G 565 dX6_isSame_560 (by decide) (fun h560 => ?_) (fun h560 => ?_)
          rotate_left
          · exact absurd rfl h560
          refine h_iinc G dX6_isSame_565 rfl (by decide) rfl (nI_1 j) ?_
          refine h_goto G 536 dX6_isSame_568 (by decide) ?_
          exact ih2 (j + 1) (by omega)
      exact lp 3 0 (by omega)
  exact loop g.bd.length 0 (by omega)
theorem p_sC (G : Gd κ cX6_isSame 11 RX6 4 85) (hc9 : cN + 1 ≤ κ.R.cells) (hd9 : dN + 11 ≤ κ.R.slots) (hG : SimG ω g (g.i 1 0 10)) (hI : CI M g) (hL : LayS κ.E σ ω) (hC : ClsP κ.E σ M) (K : ∀ σ, LayS κ.E σ ω → ClsP κ.E σ M → HV κ 11 σ (cN + 1) (dN + 11) [some (.ref (ω.ad (21, 0, 0))), some (.ref (κ.E.ad (0, 0, 0))), some (.int (opsN g g.nb)), some (.int (stsN g 1 g.nv)), some (.int (stsN g 2 g.nv)), some (.int (prsN g g.nb)), some (.int (plsN g g.nb)), none, none, none, none] [] 691) : HV κ 11 σ cN dN [some (.ref (ω.ad (21, 0, 0))), some (.ref (κ.E.ad (0, 0, 0))), some (.int (opsN g g.nb)), some (.int (stsN g 1 g.nv)), some (.int (stsN g 2 g.nv)), some (.int (prsN g g.nb)), some (.int (plsN g g.nb)), none, none, none, none] [] 577 := by
  refine h_bipush (v := 11) G dX6_isSame_577 (by decide) ?_
  refine h_newi G (60, 0, 0) (k := 11) rfl (by decide) (by decide +kernel) (by omega) (by omega) dX6_isSame_579 (fun q hq => ?_)
  refine HV.abs (fun s1 f8 o1 => ?_)
  replace hL := hL.fr hq o1
  replace hC := hC.fr hq o1
  clear o1 hq
  refine h_dup G dX6_isSame_581 rfl ?_
  refine h_iconst (v := 0) G dX6_isSame_582 (by decide) ?_
  refine h_aload_n G dX6_isSame_583 rfl ?_
  refine wgX6_39 G hL dX6_isSame_584 ?_
  rw [hG.rd]
  refine h_iast G f8 (j := 0) rfl (by decide) (by decide) dX6_isSame_587 ?_
  refine HV.abs (fun s2 f9 o9 => ?_)
  replace hL := hL.abs f8 (by decide) o9
  replace hC := hC.abs f8 (by decide) o9
  clear f8 o9
  have f8 := f9
  clear f9
  refine h_dup G dX6_isSame_588 rfl ?_
  refine h_iconst (v := 1) G dX6_isSame_589 (by decide) ?_
  refine h_aload_n G dX6_isSame_590 rfl ?_
  refine wgX6_18 G hL dX6_isSame_591 ?_
  refine wle_22 G hL dX6_isSame_594 ?_
  rw [hG.nb]
  refine h_iast G f8 (j := 1) rfl (by decide) (by decide) dX6_isSame_595 ?_
  refine HV.abs (fun s3 f9 o9 => ?_)
  replace hL := hL.abs f8 (by decide) o9
  replace hC := hC.abs f8 (by decide) o9
  clear f8 o9
  have f8 := f9
  clear f9
  refine h_dup G dX6_isSame_596 rfl ?_
  refine h_iconst (v := 2) G dX6_isSame_597 (by decide) ?_
  refine h_aload_n G dX6_isSame_598 rfl ?_
  refine wgX6_26 G hL dX6_isSame_599 ?_
  refine wle_24 G hL dX6_isSame_602 ?_
  rw [hG.nh]
  refine h_iast G f8 (j := 2) rfl (by decide) (by decide) dX6_isSame_603 ?_
  refine HV.abs (fun s4 f9 o9 => ?_)
  replace hL := hL.abs f8 (by decide) o9
  replace hC := hC.abs f8 (by decide) o9
  clear f8 o9
  have f8 := f9
  clear f9
  refine h_dup G dX6_isSame_604 rfl ?_
  refine h_iconst (v := 3) G dX6_isSame_605 (by decide) ?_
  refine h_aload_n G dX6_isSame_606 rfl ?_
  refine wgX6_31 G hL dX6_isSame_607 ?_
  refine wle_25 G hL dX6_isSame_610 ?_
  rw [hG.nv]
  refine h_iast G f8 (j := 3) rfl (by decide) (by decide) dX6_isSame_611 ?_
  refine HV.abs (fun s5 f9 o9 => ?_)
  replace hL := hL.abs f8 (by decide) o9
  replace hC := hC.abs f8 (by decide) o9
  clear f8 o9
  have f8 := f9
  clear f9
  refine h_dup G dX6_isSame_612 rfl ?_
  refine h_iconst (v := 4) G dX6_isSame_613 (by decide) ?_
  refine h_iload_n G dX6_isSame_614 rfl ?_
  refine h_iast G f8 (j := 4) rfl (by decide) (by decide) dX6_isSame_615 ?_
  refine HV.abs (fun s6 f9 o9 => ?_)
  replace hL := hL.abs f8 (by decide) o9
  replace hC := hC.abs f8 (by decide) o9
  clear f8 o9
  have f8 := f9
  clear f9
  refine h_dup G dX6_isSame_616 rfl ?_
  refine h_iconst (v := 5) G dX6_isSame_617 (by decide) ?_
  refine h_iload_n G dX6_isSame_618 rfl ?_
  refine h_iast G f8 (j := 5) rfl (by decide) (by decide) dX6_isSame_619 ?_
  refine HV.abs (fun s7 f9 o9 => ?_)
  replace hL := hL.abs f8 (by decide) o9
  replace hC := hC.abs f8 (by decide) o9
  clear f8 o9
  have f8 := f9
  clear f9
  refine h_dup G dX6_isSame_620 rfl ?_
  refine h_bipush (v := 6) G dX6_isSame_621 (by decide) ?_
  refine h_iload G dX6_isSame_623 rfl ?_
  refine h_iast G f8 (j := 6) rfl (by decide) (by decide) dX6_isSame_625 ?_
  refine HV.abs (fun s8 f9 o9 => ?_)
  replace hL := hL.abs f8 (by decide) o9
  replace hC := hC.abs f8 (by decide) o9
  clear f8 o9
  have f8 := f9
  clear f9
  refine h_dup G dX6_isSame_626 rfl ?_
  refine h_bipush (v := 7) G dX6_isSame_627 (by decide) ?_
  refine h_iload G dX6_isSame_629 rfl ?_
  refine h_iast G f8 (j := 7) rfl (by decide) (by decide) dX6_isSame_631 ?_
  refine HV.abs (fun s9 f9 o9 => ?_)
  replace hL := hL.abs f8 (by decide) o9
  replace hC := hC.abs f8 (by decide) o9
  clear f8 o9
  have f8 := f9
  clear f9
  refine h_dup G dX6_isSame_632 rfl ?_
  refine h_bipush (v := 8) G dX6_isSame_633 (by decide) ?_
  refine h_aload_n G dX6_isSame_635 rfl ?_
  refine wgX6_42 G hL dX6_isSame_636 ?_
  rw [hG.wo]
  refine h_iast G f8 (j := 8) rfl (by decide) (by decide) dX6_isSame_639 ?_
  refine HV.abs (fun s10 f9 o9 => ?_)
  replace hL := hL.abs f8 (by decide) o9
  replace hC := hC.abs f8 (by decide) o9
  clear f8 o9
  have f8 := f9
  clear f9
  refine h_dup G dX6_isSame_640 rfl ?_
  refine h_bipush (v := 9) G dX6_isSame_641 (by decide) ?_
  refine h_aload_n G dX6_isSame_643 rfl ?_
  refine wgX6_35 G hL dX6_isSame_644 ?_
  refine wle_26 G hL dX6_isSame_647 ?_
  rw [hG.nl]
  refine h_iast G f8 (j := 9) rfl (by decide) (by decide) dX6_isSame_648 ?_
  refine HV.abs (fun s11 f9 o9 => ?_)
  replace hL := hL.abs f8 (by decide) o9
  replace hC := hC.abs f8 (by decide) o9
  clear f8 o9
  have f8 := f9
  clear f9
  refine h_dup G dX6_isSame_649 rfl ?_
  refine h_bipush (v := 10) G dX6_isSame_650 (by decide) ?_
  refine h_aload_n G dX6_isSame_652 rfl ?_
  refine wgX6_7 G hL dX6_isSame_653 ?_
  rw [hG.da]
  refine h_iast G f8 (j := 10) rfl (by decide) (by decide) dX6_isSame_656 ?_
  refine HV.abs (fun s12 f9 o9 => ?_)
  replace hL := hL.abs f8 (by decide) o9
  replace hC := hC.abs f8 (by decide) o9
  clear f8 o9
  have f8 := f9
  clear f9
  refine HV.ints (f2 := tot g) f8 (fun j hj => ?_) ?_
  · match j, hj with
    | 0, _ => rfl
    | 1, _ => rfl
    | 2, _ => rfl
    | 3, _ => rfl
    | 4, _ => rfl
    | 5, _ => rfl
    | 6, _ => rfl
    | 7, _ => rfl
    | 8, _ => rfl
    | 9, _ => rfl
    | 10, _ => rfl
  refine HV.abs (fun s13 f9 o9 => ?_)
  replace hL := hL.abs f8 (by decide) o9
  replace hC := hC.abs f8 (by decide) o9
  clear f8 o9
  have f8 := f9
  clear f9
  refine h_astore G dX6_isSame_657 (by decide) rfl ?_
  refine h_iconst (v := 0) G dX6_isSame_659 (by decide) ?_
  refine h_istore G dX6_isSame_660 (by decide) rfl ?_
  have lp : ∀ m j, j + m = 11 → HV κ 11 s13 (cN + 1) (dN + 11) [some (.ref (ω.ad (21, 0, 0))), some (.ref (κ.E.ad (0, 0, 0))), some (.int (opsN g g.nb)), some (.int (stsN g 1 g.nv)), some (.int (stsN g 2 g.nv)), some (.int (prsN g g.nb)), some (.int (plsN g g.nb)), some (.ref q), some (.int (nI j)), none, none] [] 662 := by
    intro m
    induction m with
    | zero =>
      intro j hj
      have hj : j = 11 := by omega
      subst hj
      refine h_iload G dX6_isSame_662 rfl ?_
      refine h_bipush (v := 11) G dX6_isSame_664 (by decide) ?_
      refine h_icmp_ge G 691 dX6_isSame_666 (by decide) (fun h666 => ?_) (fun h666 => ?_)
      rotate_left
      · exact absurd (by decide) h666
      exact HV.drop1 7 (HV.drop1 8 (K s13 hL hC))
    | succ m ih2 =>
      intro j hj
      have hlj : j < 11 := by omega
      refine h_iload G dX6_isSame_662 rfl ?_
      refine h_bipush (v := 11) G dX6_isSame_664 (by decide) ?_
      refine h_icmp_ge G 691 dX6_isSame_666 (by decide) (fun h666 => ?_) (fun h666 => ?_)
      · exact absurd h666 (nI_ge (b := 11) hlj (by decide))
      refine h_aload_n G dX6_isSame_669 rfl ?_
      refine h_iload G dX6_isSame_670 rfl ?_
      refine wiX6_138 G hC (f_count hI hlj) (by decide) (Nat.le_of_ble_eq_true rfl) (by omega) (by omega) dX6_isSame_672 (fun r9 M9 hp9 => ?_)
      obtain ⟨rfl, rfl⟩ := hp9
      rw [setC_self hC]
      refine h_aload G dX6_isSame_675 rfl ?_
      refine h_iload G dX6_isSame_677 rfl ?_
      refine h_iald G f8 (j := j) rfl hlj (by decide) dX6_isSame_679 ?_
      refine h_icmp_eq G 685 dX6_isSame_680 (by decide) (fun h680 => ?_) (fun h680 => ?_)
      rotate_left
      · exact absurd rfl h680
      refine h_iinc G dX6_isSame_685 rfl (by decide) rfl (nI_1 j) ?_
      refine h_goto G 662 dX6_isSame_688 (by decide) ?_
      exact ih2 (j + 1) (by omega)
  exact lp 11 0 (by omega)
end Is
section Im
variable {E : EX} {σ : Sg} {ω : WS} {g : GS} {M : Mem}
theorem m_isSame (hG : SimG ω g (g.i 1 0 10)) (hI : CI M g) (hL : LayS E σ ω) (hC : ClsP E σ M) : RetS E yX6_isSame cX6_isSame 11 (some .boolean) 4 85 30 230 [.ref (ω.ad (21, 0, 0)), .ref (E.ad (0, 0, 0))] σ (fun r σ' => r = some (.int 1)) := by
  refine RetS_of RX6 (by decide) rfl [some (.ref (ω.ad (21, 0, 0))), some (.ref (E.ad (0, 0, 0))), none, none, none, none, none, none, none, none, none] rfl (Nat.le_of_ble_eq_true rfl) (fun κ hE G E9 hr => ?_)
  subst hE
  have hc9 := E9.2.2.1
  have hd9 := E9.2.2.2
  refine h_iconst (v := 0) G dX6_isSame_0 (by decide) ?_
  refine h_istore_n G dX6_isSame_1 (by decide) rfl ?_
  refine h_iconst (v := 0) G dX6_isSame_2 (by decide) ?_
  refine h_istore_n G dX6_isSame_3 (by decide) rfl ?_
  refine h_iconst (v := 0) G dX6_isSame_4 (by decide) ?_
  refine h_istore G dX6_isSame_5 (by decide) rfl ?_
  refine h_iconst (v := 0) G dX6_isSame_7 (by decide) ?_
  refine h_istore G dX6_isSame_8 (by decide) rfl ?_
  refine h_iconst (v := 0) G dX6_isSame_10 (by decide) ?_
  refine h_istore G dX6_isSame_11 (by decide) rfl ?_
  refine p_sB G (by omega) (by omega) hG hI hL hC (fun s2 hL hC => ?_)
  refine p_sH G (by omega) (by omega) hG hI hL hC ?_
  refine p_sV G (by omega) (by omega) hG hI hL hC (fun s3 hL hC => ?_)
  refine p_sL G (by omega) (by omega) hG hI hL hC ?_
  refine p_sC G (by omega) (by omega) hG hI hL hC (fun s4 hL hC => ?_)
  refine h_aload_n G dX6_isSame_691 rfl ?_
  refine wiX6_141 G hC (f_luck hI) (by decide) (Nat.le_of_ble_eq_true rfl) (by omega) (by omega) dX6_isSame_692 (fun r9 M9 hp9 => ?_)
  obtain ⟨rfl, rfl⟩ := hp9
  rw [setC_self hC]
  have K714 : ∀ r : UInt64, Jvm.FP.Core.val64 r ≠ .nan → HV κ 11 s4 (0 + 8 + 16 + 1) (0 + 80 + 128 + 11) [some (.ref (ω.ad (21, 0, 0))), some (.ref (κ.E.ad (0, 0, 0))), some (.int (opsN g g.nb)), some (.int (stsN g 1 g.nv)), some (.int (stsN g 2 g.nv)), some (.int (prsN g g.nb)), some (.int (plsN g g.nb)), none, none, none, none] [.double r, .double r] 713 := fun r hr9 => by
    refine h_dcmp G dX6_isSame_713 ?_
    rw [show FP.dcmp r r = some .eq from Jvm.FP.Core.dcmp_self hr9]
    refine h_if_ne G 721 dX6_isSame_714 (by decide) (fun h714 => ?_) (fun h714 => ?_)
    · exact absurd h714 (by decide)
    refine h_iconst (v := 1) G dX6_isSame_717 (by decide) ?_
    refine h_goto G 722 dX6_isSame_718 (by decide) ?_
    refine h_zret G E9 (by omega) (by omega) hr (Or.inr rfl) dX6_isSame_722 rfl
  refine h_iload G dX6_isSame_695 rfl ?_
  refine h_if_ne G 704 dX6_isSame_697 (by decide) (fun h697 => ?_) (fun h697 => ?_)
  · refine h_aload_n G dX6_isSame_704 rfl ?_
    refine wgX6_42 G hL dX6_isSame_705 ?_
    rw [hG.wo]
    refine h_i2d G dX6_isSame_708 ?_
    refine h_iload G dX6_isSame_709 rfl ?_
    refine h_i2d G dX6_isSame_711 ?_
    refine h_ddiv G dX6_isSame_712 (lk_bits (lk_div h697)) ?_
    rw [show lk g = FP.ddiv (FP.i2d (g.i 1 0 10)) (FP.i2d (plsN g g.nb)) from if_neg h697]
    exact K714 _ (lk_div h697)
  · refine h_dconst0 G dX6_isSame_700 ?_
    refine h_goto G 713 dX6_isSame_701 (by decide) ?_
    rw [show lk g = FP.dconst0 from if_pos h697]
    exact K714 _ lk_0
end Im
