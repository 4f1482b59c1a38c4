/-! ===== build: what cells choose comes to both greens ===== -/
theorem inR_nI {lo a hi : Nat} (h1 : lo ≤ a) (h2 : a ≤ hi) (h : hi < 2 ^ 31) : inR (nI a) (nI lo) (nI hi) := by
  refine ⟨?_, ?_⟩
  · rw [Int32.le_iff_toInt_le, nI_toInt (by omega), nI_toInt (by omega)]; omega
  · rw [Int32.le_iff_toInt_le, nI_toInt (by omega), nI_toInt (by omega)]; omega
theorem one_nI (a : Nat) : (1 : Int32) + nI a = nI (1 + a) := nI_add 1 a
def L0 (g : GS) : Prop := g.i 1 0 7 = 0 ∧ g.i 1 0 10 = 0 ∧ (∀ v, v < g.nv → (∃ k, k ≤ 200 ∧ g.i 4 v 0 = nI k) ∧ g.i 4 v 4 = 0 ∧ g.i 4 v 6 = 0) ∧ ∀ b, b < g.nb → (∃ c, 1 ≤ c ∧ c ≤ 9 ∧ g.i 2 b 0 = nI c) ∧ ∃ n, 1 ≤ n ∧ n ≤ 3 ∧ g.i 2 b 3 = nI n
theorem L0.g0 : L0 g0 := ⟨rfl, rfl, fun v hv => absurd hv (Nat.not_lt_zero v), fun b hb => absurd hb (Nat.not_lt_zero b)⟩
theorem L0.aB {g : GS} (h : L0 g) {c n : Nat} {go p : Int32} (c1 : 1 ≤ c) (c9 : c ≤ 9) (n1 : 1 ≤ n) (n3 : n ≤ 3) : L0 (addB g (nI c) go p (nI n)) := by
  obtain ⟨h1, h2, h3, h4⟩ := h
  refine ⟨?_, ?_, fun v hv => ?_, fun b hb => ?_⟩
  · rw [addB_i, if_neg (by omega)]; exact h1
  · rw [addB_i, if_neg (by omega)]; exact h2
  · simp only [addB_i, if_neg (show ¬ (4 = 2 ∧ v = g.nb) by omega)]; exact h3 v hv
  · have hb : b < g.nb + 1 := hb
    by_cases q : b = g.nb
    · exact ⟨⟨c, c1, c9, by rw [addB_i, if_pos ⟨rfl, q⟩]; rfl⟩, ⟨n, n1, n3, by rw [addB_i, if_pos ⟨rfl, q⟩]; rfl⟩⟩
    · have e : ∀ k, (addB g (nI c) go p (nI n)).i 2 b k = g.i 2 b k := fun k => by rw [addB_i, if_neg (fun z => q z.2)]
      simp only [e]; exact h4 b (by omega)
theorem L0.aH {g : GS} (h : L0 g) {x : Int32} : L0 ((addH g).set 3 g.nh 1 x) := by
  obtain ⟨h1, h2, h3, h4⟩ := h
  refine ⟨?_, ?_, fun v hv => ?_, fun b hb => ?_⟩
  · rw [gi_set, if_neg (by omega), addH_i, if_neg (by omega)]; exact h1
  · rw [gi_set, if_neg (by omega), addH_i, if_neg (by omega)]; exact h2
  · have e : ∀ k, ((addH g).set 3 g.nh 1 x).i 4 v k = g.i 4 v k := fun k => by rw [gi_set, if_neg (by omega), addH_i, if_neg (by omega)]
    simp only [e]; exact h3 v hv
  · have e : ∀ k, ((addH g).set 3 g.nh 1 x).i 2 b k = g.i 2 b k := fun k => by rw [gi_set, if_neg (by omega), addH_i, if_neg (by omega)]
    simp only [e]; exact h4 b hb
theorem L0.aV {g : GS} (h : L0 g) {k : Nat} {s : Int32} (hk : k ≤ 200) : L0 (addV g (nI k) s) := by
  obtain ⟨h1, h2, h3, h4⟩ := h
  refine ⟨?_, ?_, fun v hv => ?_, fun b hb => ?_⟩
  · rw [addV_i, if_neg (by omega), if_neg (by omega)]; exact h1
  · rw [addV_i, if_neg (by omega), if_neg (by omega)]; exact h2
  · have hv : v < g.nv + 1 := hv
    by_cases q : v = g.nv
    · have e : ∀ k2, (addV g (nI k) s).i 4 v k2 = if k2 = 0 then nI k else if k2 = 1 then s else if k2 = 3 then -1 else 0 := fun k2 => by rw [addV_i, if_pos ⟨rfl, q⟩]
      simp only [e]; exact ⟨⟨k, hk, rfl⟩, rfl, rfl⟩
    · have e : ∀ k2, (addV g (nI k) s).i 4 v k2 = g.i 4 v k2 := fun k2 => by rw [addV_i, if_neg (fun z => q z.2), if_neg (by omega)]
      simp only [e]; exact h3 v (by omega)
  · have e : ∀ k2, (addV g (nI k) s).i 2 b k2 = g.i 2 b k2 := fun k2 => by rw [addV_i, if_neg (by omega), if_neg (by omega)]
    simp only [e]; exact h4 b hb
theorem L0.dart {g : GS} (h : L0 g) {x : Int32} : L0 (g.set 1 0 8 x) := by
  obtain ⟨h1, h2, h3, h4⟩ := h
  refine ⟨?_, ?_, fun v hv => ?_, fun b hb => ?_⟩
  · rw [gi_set, if_neg (by omega)]; exact h1
  · rw [gi_set, if_neg (by omega)]; exact h2
  · have e : ∀ k, (g.set 1 0 8 x).i 4 v k = g.i 4 v k := fun k => by rw [gi_set, if_neg (by omega)]
    simp only [e]; exact h3 v hv
  · have e : ∀ k, (g.set 1 0 8 x).i 2 b k = g.i 2 b k := fun k => by rw [gi_set, if_neg (by omega)]
    simp only [e]; exact h4 b hb
def BSt (E : EX) (σ : Sg) (ω : WS) (g : GS) (M : Mem) : Prop := LayS E σ ω ∧ SimG ω g 0 ∧ ClsP E σ M ∧ CI M g ∧ L0 g ∧ g.i 1 0 8 = 1
theorem grB_21 {ω : WS} {q1 q2 : Nat} {F : Nat → Int32} : (ω.grB q1 q2 F).ad (21, 0, 0) = ω.ad (21, 0, 0) := by rw [grB_ad, if_neg (by simp), if_neg (by simp)]
theorem grH_21 {ω : WS} {q1 q2 : Nat} {F : Nat → Int32} : (ω.grH q1 q2 F).ad (21, 0, 0) = ω.ad (21, 0, 0) := by rw [grH_ad, if_neg (by simp), if_neg (by simp)]
theorem ClsP.new {E : EX} {σ : Sg} {M : Mem} {q : Nat} {i : Pid} {e : va_E} (hC : ClsP E σ M) (hq : σ q = none) : ClsP E (sup σ q i e) M := fun j hj => (sup_ne (fresh_ne (hC j hj) hq)).trans (hC j hj)
theorem ClsP.wr {E : EX} {σ : Sg} {M : Mem} {q : Nat} {i l : Pid} {e e2 : va_E} (hC : ClsP E σ M) (hs : σ q = some (l, e2)) (hl : 20 ≤ l.1) : ClsP E (sup σ q i e) M := fun j hj => (sup_ne (fun z => by
  have h1 := hC j hj
  rw [z, hs] at h1
  cases h1
  exact absurd (idsC_lt _ hj) (by omega))).trans (hC j hj)
section Bp
variable {κ : KX} {σ : Sg} {ω : WS} {g : GS} {M : Mem} {cN dN : Nat}
theorem p_bB (G : Gd κ cL_build 10 RL 3 73) (hc9 : cN + 20 ≤ κ.R.cells) (hd9 : dN + 200 ≤ κ.R.slots) (hB : BSt κ.E σ ω g M) (hn : g.nb = 0 ∧ g.nh = 0 ∧ g.nv = 0) {n3 : Nat} (hn3 : 1 ≤ n3 ∧ n3 ≤ 7) (K : ∀ σ ω g M, BSt κ.E σ ω g M → g.nb = n3 ∧ g.nh = 0 ∧ g.nv = 0 → HV κ 10 σ (cN + 20) (dN + 200) [some (.ref (κ.E.ad (0, 0, 0))), some (.ref κ.E.sc.1), some (.ref (ω.ad (21, 0, 0))), some (.int (nI n3)), none, none, none, none, none, none] [] 207) : HV κ 10 σ cN dN [some (.ref (κ.E.ad (0, 0, 0))), some (.ref κ.E.sc.1), some (.ref (ω.ad (21, 0, 0))), some (.int (nI n3)), none, none, none, none, none, none] [] 21 := by
  refine h_iconst (v := 0) G dL_build_21 (by decide) ?_
  refine h_istore G dL_build_22 (by decide) rfl ?_
  have loop : ∀ m k, k + m = n3 → ∀ σ ω g M, BSt κ.E σ ω g M → g.nb = k ∧ g.nh = 0 ∧ g.nv = 0 → HV κ 10 σ (cN + 2 * k) (dN + 16 * k) [some (.ref (κ.E.ad (0, 0, 0))), some (.ref κ.E.sc.1), some (.ref (ω.ad (21, 0, 0))), some (.int (nI n3)), some (.int (nI k)), none, none, none, none, none] [] 24 := by
    intro m
    induction m with
    | zero =>
      intro k hk σ ω g M hB hn
      have hk : k = n3 := by omega
      subst hk
      refine h_iload G dL_build_24 rfl ?_
      refine h_iload_n G dL_build_26 rfl ?_
      refine h_icmp_ge G 207 dL_build_27 (by decide) (fun h27 => ?_) (fun h27 => ?_)
      rotate_left
      · exact absurd (nI_le (Nat.le_refl _) (by omega)) h27
      refine HV.wid (c2 := cN + 20) (d2 := dN + 200) (by omega) (by omega) ?_
      exact HV.drop1 4 (K σ ω g M hB hn)
    | succ m ih =>
      intro k hk σ ω g M ⟨hL, hG, hC, hI, h0, h18⟩ ⟨hk0, hnh, hnv⟩
      subst hk0
      refine h_iload G dL_build_24 rfl ?_
      refine h_iload_n G dL_build_26 rfl ?_
      refine h_icmp_ge G 207 dL_build_27 (by decide) (fun h27 => ?_) (fun h27 => ?_)
      · exact absurd h27 (nI_ge (by omega) (by omega))
      refine h_aload_n G dL_build_30 rfl ?_
      refine h_iconst (v := 1) G dL_build_31 (by decide) ?_
      refine h_iload G dL_build_32 rfl ?_
      refine h_iconst (v := 3) G dL_build_34 (by decide) ?_
      refine h_irem G dL_build_35 (by decide) ?_
      rw [show nI g.nb - nI g.nb / 3 * 3 = nI (g.nb % 3) from nI_rem (by omega) (by decide) (by decide)]
      refine h_iadd G dL_build_36 ?_
      rw [one_nI]
      refine wiL_12 G (m_cell (k := 1 + g.nb % 3) (by omega)) (by decide) (Nat.le_of_ble_eq_true rfl) (by omega) (by omega) dL_build_37 (fun r9 σ9 hp9 => ?_)
      obtain ⟨⟨c1, rfl⟩, rfl⟩ := hp9
      refine h_iload G dL_build_40 rfl ?_
      refine h_ishr G dL_build_42 ?_
      refine h_bipush (v := 31) G dL_build_43 (by decide) ?_
      refine h_iload G dL_build_45 rfl ?_
      refine h_imul G dL_build_47 ?_
      refine h_iadd G dL_build_48 ?_
      generalize c1 >>> (nI g.nb &&& 31) + 31 * nI g.nb = x
      refine h_istore G dL_build_49 (by decide) rfl ?_
      refine h_iconst (v := 1) G dL_build_51 (by decide) ?_
      refine h_iload G dL_build_52 rfl ?_
      refine h_iload G dL_build_54 rfl ?_
      refine h_bipush (v := 7) G dL_build_56 (by decide) ?_
      refine h_ishr G dL_build_58 ?_
      refine h_iconst (v := 2) G dL_build_59 (by decide) ?_
      refine wiL_18 G (m_below _ (m := 2) (by decide) (by decide)) (by decide) (Nat.le_of_ble_eq_true rfl) (by omega) (by omega) dL_build_60 (fun r9 σ9 hp9 => ?_)
      obtain ⟨⟨j1, hj1, rfl⟩, rfl⟩ := hp9
      have K72 : ∀ m : Nat, 0 < m → m ≤ 9 → HV κ 10 σ (cN + 2 * g.nb) (dN + 16 * g.nb) [some (.ref (κ.E.ad (0, 0, 0))), some (.ref κ.E.sc.1), some (.ref (ω.ad (21, 0, 0))), some (.int (nI n3)), some (.int (nI g.nb)), some (.int x), none, none, none, none] [.int (nI m), .int x, .int 1] 72 := fun m hm0 hm9 => by
        refine wiL_18 G (m_below _ (m := m) hm0 (by omega)) (by decide) (Nat.le_of_ble_eq_true rfl) (by omega) (by omega) dL_build_72 (fun r9 σ9 hp9 => ?_)
        obtain ⟨⟨jc, hjc, rfl⟩, rfl⟩ := hp9
        refine h_iadd G dL_build_75 ?_
        rw [one_nI]
        refine h_istore G dL_build_76 (by decide) rfl ?_
        refine h_iload G dL_build_78 rfl ?_
        refine h_iconst (v := 2) G dL_build_80 (by decide) ?_
        refine h_ishr G dL_build_81 ?_
        refine h_bipush (v := 61) G dL_build_82 (by decide) ?_
        refine wiL_18 G (m_below _ (m := 61) (by decide) (by decide)) (by decide) (Nat.le_of_ble_eq_true rfl) (by omega) (by omega) dL_build_84 (fun r9 σ9 hp9 => ?_)
        obtain ⟨⟨jg, hjg, rfl⟩, rfl⟩ := hp9
        refine h_istore G dL_build_87 (by decide) rfl ?_
        refine h_iload G dL_build_89 rfl ?_
        refine h_iconst (v := 4) G dL_build_91 (by decide) ?_
        refine h_ishr G dL_build_92 ?_
        refine h_iload G dL_build_93 rfl ?_
        refine h_bipush (v := 8) G dL_build_95 (by decide) ?_
        refine h_ishr G dL_build_97 ?_
        refine h_iconst (v := 2) G dL_build_98 (by decide) ?_
        refine wiL_18 G (m_below _ (m := 2) (by decide) (by decide)) (by decide) (Nat.le_of_ble_eq_true rfl) (by omega) (by omega) dL_build_99 (fun r9 σ9 hp9 => ?_)
        obtain ⟨⟨j2, hj2, rfl⟩, rfl⟩ := hp9
        have K112 : ∀ m : Nat, 0 < m → m ≤ 100 → HV κ 10 σ (cN + 2 * g.nb) (dN + 16 * g.nb) [some (.ref (κ.E.ad (0, 0, 0))), some (.ref κ.E.sc.1), some (.ref (ω.ad (21, 0, 0))), some (.int (nI n3)), some (.int (nI g.nb)), some (.int x), some (.int (nI (1 + jc))), some (.int (nI jg)), none, none] [.int (nI m), .int (x >>> (4 &&& 31))] 112 := fun m2 hm20 hm21 => by
          refine wiL_18 G (m_below _ (m := m2) hm20 (by omega)) (by decide) (Nat.le_of_ble_eq_true rfl) (by omega) (by omega) dL_build_112 (fun r9 σ9 hp9 => ?_)
          obtain ⟨⟨jp, hjp, rfl⟩, rfl⟩ := hp9
          refine h_istore G dL_build_115 (by decide) rfl ?_
          refine h_iconst (v := 1) G dL_build_117 (by decide) ?_
          refine h_iload G dL_build_118 rfl ?_
          refine h_iconst (v := 5) G dL_build_120 (by decide) ?_
          refine h_ishr G dL_build_121 ?_
          refine h_iconst (v := 3) G dL_build_122 (by decide) ?_
          refine wiL_18 G (m_below _ (m := 3) (by decide) (by decide)) (by decide) (Nat.le_of_ble_eq_true rfl) (by omega) (by omega) dL_build_123 (fun r9 σ9 hp9 => ?_)
          obtain ⟨⟨j3, hj3, rfl⟩, rfl⟩ := hp9
          refine h_iload G dL_build_126 rfl ?_
          refine h_bipush (v := 6) G dL_build_128 (by decide) ?_
          refine h_ishr G dL_build_130 ?_
          refine h_iconst (v := 2) G dL_build_131 (by decide) ?_
          refine wiL_18 G (m_below _ (m := 2) (by decide) (by decide)) (by decide) (Nat.le_of_ble_eq_true rfl) (by omega) (by omega) dL_build_132 (fun r9 σ9 hp9 => ?_)
          obtain ⟨⟨j4, hj4, rfl⟩, rfl⟩ := hp9
          have hj34 : j3 * j4 ≤ 2 := Nat.le_trans (Nat.mul_le_mul (show j3 ≤ 2 by omega) (show j4 ≤ 1 by omega)) (Nat.le_refl _)
          refine h_imul G dL_build_135 ?_
          rw [nI_mul]
          refine h_iadd G dL_build_136 ?_
          rw [one_nI]
          refine h_istore G dL_build_137 (by decide) rfl ?_
          refine h_aload_n G dL_build_139 rfl ?_
          refine h_iload G dL_build_140 rfl ?_
          refine h_iload G dL_build_142 rfl ?_
          refine h_iload G dL_build_144 rfl ?_
          refine h_iload G dL_build_146 rfl ?_
          refine wiL_22 G hC (f_addBooth hI (by omega) (inR_nI (lo := 1) (hi := 9) (by omega) (by omega) (by decide)) (inR_nI (lo := 0) (hi := 60) (by omega) (by omega) (by decide)) (inR_nI (lo := 0) (hi := 99) (by omega) (by omega) (by decide)) (inR_nI (lo := 1) (hi := 3) (by omega) (by omega) (by decide))) (by decide) (Nat.le_of_ble_eq_true rfl) (by omega) (by omega) dL_build_148 (fun r9 M9 hp9 => ?_)
          obtain ⟨rfl, hI9⟩ := hp9
          replace hL := hL.kc (setC_keep hC (M' := M9))
          replace hC := setC_cls (E := κ.E) (σ := σ) (M := M9) G.hinj
          generalize setC κ.E σ M9 = σ1 at hL hC ⊢
          refine h_iload G dL_build_151 rfl ?_
          refine h_icmp_eq G 158 dL_build_153 (by decide) (fun h153 => ?_) (fun h153 => ?_)
          rotate_left
          · exact absurd rfl h153
          refine h_aload_n G dL_build_158 rfl ?_
          refine h_aload_n G dL_build_159 rfl ?_
          refine wgL_28 G hL dL_build_160 ?_
          refine h_bipush (v := 6) G dL_build_163 (by decide) ?_
          refine h_newi G (57, 0, 0) (k := 6) rfl (by decide) (by decide +kernel) (by omega) (by omega) dL_build_165 (fun q2 hq2 => ?_)
          refine h_dup G dL_build_167 rfl ?_
          refine h_iconst (v := 0) G dL_build_168 (by decide) ?_
          refine h_iload G dL_build_169 rfl ?_
          refine h_iast G sup_at (j := 0) rfl (by decide) (by decide) dL_build_171 ?_
          rw [sup_sup]
          refine h_dup G dL_build_172 rfl ?_
          refine h_iconst (v := 1) G dL_build_173 (by decide) ?_
          refine h_iload G dL_build_174 rfl ?_
          refine h_iast G sup_at (j := 1) rfl (by decide) (by decide) dL_build_176 ?_
          rw [sup_sup]
          refine h_dup G dL_build_177 rfl ?_
          refine h_iconst (v := 2) G dL_build_178 (by decide) ?_
          refine h_iload G dL_build_179 rfl ?_
          refine h_iast G sup_at (j := 2) rfl (by decide) (by decide) dL_build_181 ?_
          rw [sup_sup]
          refine h_dup G dL_build_182 rfl ?_
          refine h_iconst (v := 3) G dL_build_183 (by decide) ?_
          refine h_iload G dL_build_184 rfl ?_
          refine h_iast G sup_at (j := 3) rfl (by decide) (by decide) dL_build_186 ?_
          rw [sup_sup]
          refine h_dup G dL_build_187 rfl ?_
          refine h_iconst (v := 4) G dL_build_188 (by decide) ?_
          refine h_iconst (v := 0) G dL_build_189 (by decide) ?_
          refine h_iast G sup_at (j := 4) rfl (by decide) (by decide) dL_build_190 ?_
          rw [sup_sup]
          refine h_dup G dL_build_191 rfl ?_
          refine h_iconst (v := 5) G dL_build_192 (by decide) ?_
          refine h_iconst (v := 0) G dL_build_193 (by decide) ?_
          refine h_iast G sup_at (j := 5) rfl (by decide) (by decide) dL_build_194 ?_
          rw [sup_sup]
          refine HV.ints (f2 := fun k => if k = 0 then nI (1 + jc) else if k = 1 then nI jg else if k = 2 then nI jp else if k = 3 then nI (1 + j3 * j4) else 0) sup_at (fun k hk => ?_) ?_
          · match k, hk with
            | 0, _ => rfl
            | 1, _ => rfl
            | 2, _ => rfl
            | 3, _ => rfl
            | 4, _ => rfl
            | 5, _ => rfl
          rw [sup_sup]
          generalize hF : (fun k => if k = 0 then nI (1 + jc) else if k = 1 then nI jg else if k = 2 then nI jp else if k = 3 then nI (1 + j3 * j4) else 0) = F
          have f0 : ∀ k, F k = (fun k => if k = 0 then nI (1 + jc) else if k = 1 then nI jg else if k = 2 then nI jp else if k = 3 then nI (1 + j3 * j4) else 0) k := fun k => by rw [hF]
          clear hF
          refine HV.abs (fun σ2 f2 o2 => ?_)
          replace hL : LayS κ.E σ2 ω := hL.kp (fun a i e hs _ => (o2 a (fresh_ne hs hq2)).trans hs)
          replace hC : ClsP κ.E σ2 M9 := fun i hi => (o2 _ (fresh_ne (hC i hi) hq2)).trans (hC i hi)
          clear o2 hq2
          have hnf := hG.nb
          refine wiL_32 G (m_more (hL.1 (22, 0, 0) trivial) (by omega) (fun j hj => ⟨_, _, _, rfl, hL.1 (32, j, 0) hj⟩) f2) (by decide) (Nat.le_of_ble_eq_true rfl) (by omega) (by omega) dL_build_195 (fun r9 σ9 hp9 => ?_)
          obtain ⟨q3, rfl, hq3, rfl⟩ := hp9
          refine HV.abs (fun σ3 f3 o3 => ?_)
          replace hL : LayS κ.E σ3 ω := hL.kp (fun a i e hs _ => (o3 a (fresh_ne hs hq3)).trans hs)
          replace hC : ClsP κ.E σ3 M9 := fun i hi => (o3 _ (fresh_ne (hC i hi) hq3)).trans (hC i hi)
          replace f2 := (o3 q2 (fresh_ne f2 hq3)).trans f2
          clear o3 hq3
          have h21 := hL.1 (21, 0, 0) trivial
          refine h_put (T := TX6) (N := 9) (k := 4) (ty := .array (.array .int)) G h21 uX6 tyX6 tyX6_ok nmX6 rfl (by decide) (by decide +kernel) rfl rfl rfl rfl (Nat.le_of_ble_eq_true rfl) dL_build_198 ?_
          refine HV.refs (f2 := fun j => some ((ω.grB q3 q2 F).ad (32, j, 0))) (sup_lab h21 (by decide) f3) (fun k hk => ?_) ?_
          · rw [grB_ad, if_neg (by simp)]
            by_cases hkn : k = ω.nb
            · subst hkn
              rw [if_pos rfl, if_neg (by omega), if_pos rfl]
            · rw [if_neg (by simp [hkn]), if_pos (by omega)]
          have n23 : q2 ≠ q3 := fun z => by rw [z, f3] at f2; cases f2
          refine HV.lab (j := (22, 0, 0)) sup_at ?_
          rw [sup_sup]
          refine HV.lab (j := (32, ω.nb, 0)) ((sup_ne n23).trans (sup_lab h21 (by decide) f2)) ?_
          have hLf := hL.aB (F := F) (by omega) f3 f2 (by decide) (by decide) (by decide) (rfl : _ = celS κ.E (ω.grB q3 q2 F) (21, 0, 0))
          have hCf := ((hC.wr (i := (21, 0, 0)) (e := celS κ.E (ω.grB q3 q2 F) (21, 0, 0)) h21 (by decide)).wr (i := (22, 0, 0)) (e := celS κ.E (ω.grB q3 q2 F) (22, 0, 0)) (sup_lab h21 (by decide) f3) (by decide)).wr (i := (32, ω.nb, 0)) (e := celS κ.E (ω.grB q3 q2 F) (32, ω.nb, 0)) ((sup_ne n23).trans (sup_lab h21 (by decide) f2)) (by decide)
          have er : celS κ.E (ω.grB q3 q2 F) (32, ω.nb, 0) = .inl (κ.E.cy 0, pInts 6 F) := by
            simp only [celS, grB_M, upr_at]
          have eo : celS κ.E (ω.grB q3 q2 F) (22, 0, 0) = .inl (κ.E.cy 5, pRefs (ω.nb + 1) (fun j => some ((ω.grB q3 q2 F).ad (32, j, 0)))) := rfl
          have e21 : celS κ.E (ω.grB q3 q2 F) (21, 0, 0) = .inr (6, [.int (ω.M (21, 0, 0) 0), .int (ω.M (21, 0, 0) 1), .int (ω.M (21, 0, 0) 2), .int (ω.M (21, 0, 0) 3), .ref q3, .ref (ω.ad (23, 0, 0)), .ref (ω.ad (24, 0, 0)), .ref (ω.ad (25, 0, 0)), .ref (ω.ad (26, 0, 0))]) := by
            have e1 : (ω.grB q3 q2 F).M (21, 0, 0) = ω.M (21, 0, 0) := by rw [grB_M, upr_ne (by simp)]
            simp only [celS, e1]
            rfl
          rw [e21, eo, er] at hLf hCf
          have hBn : BSt κ.E _ (ω.grB q3 q2 F) _ M9 := ⟨hLf, hG.aB (by omega) (f0 0) (f0 1) (f0 2) (f0 3) (f0 4) (f0 5), hCf, hI9, h0.aB (by omega) (by omega) (by omega) (by omega), (addB_i.trans (if_neg (by omega))).trans h18⟩
          have K9 := ih (g.nb + 1) (by omega) _ _ _ _ hBn ⟨rfl, hnh, hnv⟩
          rw [grB_21] at K9
          refine h_iinc G dL_build_201 rfl (by decide) rfl (nI_1 _) ?_
          refine h_goto G 24 dL_build_204 (by decide) ?_
          refine HV.wid (c2 := cN + 2 * (g.nb + 1)) (d2 := dN + 16 * (g.nb + 1)) (by omega) (by omega) ?_
          exact HV.drop1 5 (HV.drop1 6 (HV.drop1 7 (HV.drop1 8 (HV.drop1 9 K9))))
        refine h_if_ne G 110 dL_build_102 (by decide) (fun h102 => ?_) (fun h102 => ?_)
        · refine h_bipush (v := 8) G dL_build_110 (by decide) ?_
          exact K112 8 (by decide) (by decide)
        · refine h_bipush (v := 100) G dL_build_105 (by decide) ?_
          refine h_goto G 112 dL_build_107 (by decide) ?_
          exact K112 100 (by decide) (by decide)
      refine h_if_ne G 71 dL_build_63 (by decide) (fun h63 => ?_) (fun h63 => ?_)
      · refine h_iconst (v := 3) G dL_build_71 (by decide) ?_
        exact K72 3 (by decide) (by decide)
      · refine h_bipush (v := 9) G dL_build_66 (by decide) ?_
        refine h_goto G 72 dL_build_68 (by decide) ?_
        exact K72 9 (by decide) (by decide)
  exact HV.wid (by omega) (by omega) (loop n3 0 (by omega) σ ω g M hB hn)
theorem p_bH (G : Gd κ cL_build 10 RL 3 73) (hc9 : cN + 24 ≤ κ.R.cells) (hd9 : dN + 180 ≤ κ.R.slots) (hB : BSt κ.E σ ω g M) {n3 : Nat} (hn : g.nb = n3 ∧ g.nh = 0 ∧ g.nv = 0) (hn3 : 1 ≤ n3 ∧ n3 ≤ 7) (K : ∀ σ ω g M (n4 : Nat), BSt κ.E σ ω g M → 1 ≤ n4 → n4 ≤ 11 → g.nb = n3 ∧ g.nh = n4 ∧ g.nv = 0 → HV κ 10 σ (cN + 24) (dN + 180) [some (.ref (κ.E.ad (0, 0, 0))), some (.ref κ.E.sc.1), some (.ref (ω.ad (21, 0, 0))), some (.int (nI n3)), some (.int (nI n4)), none, none, none, none, none] [] 308) : HV κ 10 σ cN dN [some (.ref (κ.E.ad (0, 0, 0))), some (.ref κ.E.sc.1), some (.ref (ω.ad (21, 0, 0))), some (.int (nI n3)), none, none, none, none, none, none] [] 207 := by
  refine h_iconst (v := 1) G dL_build_207 (by decide) ?_
  refine h_aload_n G dL_build_208 rfl ?_
  refine h_iconst (v := 4) G dL_build_209 (by decide) ?_
  refine wiL_12 G (m_cell (k := 4) (by decide)) (by decide) (Nat.le_of_ble_eq_true rfl) (by omega) (by omega) dL_build_210 (fun r9 σ9 hp9 => ?_)
  obtain ⟨⟨c0, rfl⟩, rfl⟩ := hp9
  refine h_bipush (v := 11) G dL_build_213 (by decide) ?_
  refine wiL_18 G (m_below _ (m := 11) (by decide) (by decide)) (by decide) (Nat.le_of_ble_eq_true rfl) (by omega) (by omega) dL_build_215 (fun r9 σ9 hp9 => ?_)
  obtain ⟨⟨j0, hj0, rfl⟩, rfl⟩ := hp9
  refine h_iadd G dL_build_218 ?_
  rw [one_nI]
  obtain ⟨n4, hn4⟩ : ∃ n4, n4 = 1 + j0 := ⟨_, rfl⟩
  rw [← hn4]
  refine h_istore G dL_build_219 (by decide) rfl ?_
  refine h_iconst (v := 0) G dL_build_221 (by decide) ?_
  refine h_istore G dL_build_222 (by decide) rfl ?_
  have loop : ∀ m k, k + m = n4 → ∀ σ ω g M, BSt κ.E σ ω g M → g.nb = n3 ∧ g.nh = k ∧ g.nv = 0 → HV κ 10 σ (cN + 2 * k) (dN + 16 * k) [some (.ref (κ.E.ad (0, 0, 0))), some (.ref κ.E.sc.1), some (.ref (ω.ad (21, 0, 0))), some (.int (nI n3)), some (.int (nI n4)), some (.int (nI k)), none, none, none, none] [] 224 := by
    intro m
    induction m with
    | zero =>
      intro k hk σ ω g M hB hn
      have hk : k = n4 := by omega
      subst hk
      refine h_iload G dL_build_224 rfl ?_
      refine h_iload G dL_build_226 rfl ?_
      refine h_icmp_ge G 308 dL_build_228 (by decide) (fun h228 => ?_) (fun h228 => ?_)
      rotate_left
      · exact absurd (nI_le (Nat.le_refl _) (by omega)) h228
      refine HV.wid (c2 := cN + 24) (d2 := dN + 180) (by omega) (by omega) ?_
      exact HV.drop1 5 (K σ ω g M k hB (by omega) (by omega) hn)
    | succ m ih =>
      intro k hk σ ω g M ⟨hL, hG, hC, hI, h0, h18⟩ ⟨hnb, hk0, hnv⟩
      subst hk0
      refine h_iload G dL_build_224 rfl ?_
      refine h_iload G dL_build_226 rfl ?_
      refine h_icmp_ge G 308 dL_build_228 (by decide) (fun h228 => ?_) (fun h228 => ?_)
      · exact absurd h228 (nI_ge (by omega) (by omega))
      refine h_aload_n G dL_build_231 rfl ?_
      refine h_iconst (v := 5) G dL_build_232 (by decide) ?_
      refine wiL_12 G (m_cell (k := 5) (by decide)) (by decide) (Nat.le_of_ble_eq_true rfl) (by omega) (by omega) dL_build_233 (fun r9 σ9 hp9 => ?_)
      obtain ⟨⟨c1, rfl⟩, rfl⟩ := hp9
      refine h_iconst (v := 2) G dL_build_236 (by decide) ?_
      refine h_iload G dL_build_237 rfl ?_
      refine h_imul G dL_build_239 ?_
      refine h_ishr G dL_build_240 ?_
      refine h_iload_n G dL_build_241 rfl ?_
      refine h_iconst (v := 1) G dL_build_242 (by decide) ?_
      refine h_iadd G dL_build_243 ?_
      rw [nI_1]
      refine wiL_18 G (m_below _ (m := n3 + 1) (by omega) (by omega)) (by decide) (Nat.le_of_ble_eq_true rfl) (by omega) (by omega) dL_build_244 (fun r9 σ9 hp9 => ?_)
      obtain ⟨⟨j1, hj1, rfl⟩, rfl⟩ := hp9
      have hx6 : ∃ x6 : Int32, x6 = nI j1 - 1 ∧ (x6 = -1 ∨ ∃ k, k < (addH g).nb ∧ x6 = nI k) := by
        refine ⟨_, rfl, ?_⟩
        by_cases q : j1 = 0
        · subst q; exact Or.inl rfl
        · exact Or.inr ⟨j1 - 1, by show j1 - 1 < g.nb; omega, nI_sub (b := 1) (by omega)⟩
      obtain ⟨x6, hx6, hx⟩ := hx6
      refine h_iconst (v := 1) G dL_build_247 (by decide) ?_
      refine h_isub G dL_build_248 ?_
      rw [← hx6]
      refine h_istore G dL_build_249 (by decide) rfl ?_
      refine h_aload_n G dL_build_251 rfl ?_
      refine wiL_36 G hC (f_addHelper hI (by omega)) (by decide) (Nat.le_of_ble_eq_true rfl) (by omega) (by omega) dL_build_252 (fun r9 M9 hp9 => ?_)
      obtain ⟨rfl, hI8⟩ := hp9
      replace hL := hL.kc (setC_keep hC (M' := M9))
      replace hC := setC_cls (E := κ.E) (σ := σ) (M := M9) G.hinj
      generalize setC κ.E σ M9 = σ1 at hL hC ⊢
      refine h_iload G dL_build_255 rfl ?_
      refine h_icmp_ne G 272 dL_build_257 (by decide) (fun h257 => ?_) (fun h257 => ?_)
      · exact absurd rfl h257
      refine h_aload_n G dL_build_260 rfl ?_
      refine h_iload G dL_build_261 rfl ?_
      refine h_iload G dL_build_263 rfl ?_
      refine wiL_40 G hC (f_work hI8 (show g.nh < g.nh + 1 by omega) hx) (by decide) (Nat.le_of_ble_eq_true rfl) (by omega) (by omega) dL_build_265 (fun r9 M9 hp9 => ?_)
      obtain ⟨rfl, hI9⟩ := hp9
      rw [show (addH g).i 3 g.nh 1 = -1 from by rw [addH_i, if_pos ⟨rfl, rfl⟩]; rfl]
      replace hL := hL.kc (setC_keep hC (M' := M9))
      replace hC := setC_cls (E := κ.E) (σ := σ1) (M := M9) G.hinj
      generalize setC κ.E σ1 M9 = σ1 at hL hC ⊢
      refine h_iconst (v := -1) G dL_build_268 (by decide) ?_
      refine h_icmp_eq G 274 dL_build_269 (by decide) (fun h269 => ?_) (fun h269 => ?_)
      rotate_left
      · exact absurd rfl h269
      refine h_aload_n G dL_build_274 rfl ?_
      refine h_aload_n G dL_build_275 rfl ?_
      refine wgL_43 G hL dL_build_276 ?_
      refine h_iconst (v := 3) G dL_build_279 (by decide) ?_
      refine h_newi G (57, 0, 0) (k := 3) rfl (by decide) (by decide +kernel) (by omega) (by omega) dL_build_280 (fun q2 hq2 => ?_)
      refine h_dup G dL_build_282 rfl ?_
      refine h_iconst (v := 0) G dL_build_283 (by decide) ?_
      refine h_bipush (v := 24) G dL_build_284 (by decide) ?_
      refine h_iast G sup_at (j := 0) rfl (by decide) (by decide) dL_build_286 ?_
      rw [sup_sup]
      refine h_dup G dL_build_287 rfl ?_
      refine h_iconst (v := 1) G dL_build_288 (by decide) ?_
      refine h_iload G dL_build_289 rfl ?_
      refine h_iast G sup_at (j := 1) rfl (by decide) (by decide) dL_build_291 ?_
      rw [sup_sup]
      refine h_dup G dL_build_292 rfl ?_
      refine h_iconst (v := 2) G dL_build_293 (by decide) ?_
      refine h_iconst (v := 0) G dL_build_294 (by decide) ?_
      refine h_iast G sup_at (j := 2) rfl (by decide) (by decide) dL_build_295 ?_
      rw [sup_sup]
      refine HV.ints (f2 := fun k => if k = 0 then 24 else if k = 1 then x6 else 0) sup_at (fun k hk => ?_) ?_
      · match k, hk with
        | 0, _ => rfl
        | 1, _ => rfl
        | 2, _ => rfl
      rw [sup_sup]
      generalize hF : (fun k => if k = 0 then 24 else if k = 1 then x6 else 0) = F
      have f0 : ∀ k, F k = (fun k => if k = 0 then 24 else if k = 1 then x6 else 0) k := fun k => by rw [hF]
      clear hF
      refine HV.abs (fun σ2 f2 o2 => ?_)
      replace hL : LayS κ.E σ2 ω := hL.kp (fun a i e hs _ => (o2 a (fresh_ne hs hq2)).trans hs)
      replace hC : ClsP κ.E σ2 M9 := fun i hi => (o2 _ (fresh_ne (hC i hi) hq2)).trans (hC i hi)
      clear o2 hq2
      have hnf := hG.nh
      refine wiL_32 G (m_more (hL.1 (24, 0, 0) trivial) (by omega) (fun j hj => ⟨_, _, _, rfl, hL.1 (34, j, 0) hj⟩) f2) (by decide) (Nat.le_of_ble_eq_true rfl) (by omega) (by omega) dL_build_296 (fun r9 σ9 hp9 => ?_)
      obtain ⟨q3, rfl, hq3, rfl⟩ := hp9
      refine HV.abs (fun σ3 f3 o3 => ?_)
      replace hL : LayS κ.E σ3 ω := hL.kp (fun a i e hs _ => (o3 a (fresh_ne hs hq3)).trans hs)
      replace hC : ClsP κ.E σ3 M9 := fun i hi => (o3 _ (fresh_ne (hC i hi) hq3)).trans (hC i hi)
      replace f2 := (o3 q2 (fresh_ne f2 hq3)).trans f2
      clear o3 hq3
      have h21 := hL.1 (21, 0, 0) trivial
      refine h_put (T := TX6) (N := 9) (k := 6) (ty := .array (.array .int)) G h21 uX6 tyX6 tyX6_ok nmX6 rfl (by decide) (by decide +kernel) rfl rfl rfl rfl (Nat.le_of_ble_eq_true rfl) dL_build_299 ?_
      refine HV.refs (f2 := fun j => some ((ω.grH q3 q2 F).ad (34, j, 0))) (sup_lab h21 (by decide) f3) (fun k hk => ?_) ?_
      · rw [grH_ad, if_neg (by simp)]
        by_cases hkn : k = ω.nh
        · subst hkn
          rw [if_pos rfl, if_neg (by omega), if_pos rfl]
        · rw [if_neg (by simp [hkn]), if_pos (by omega)]
      have n23 : q2 ≠ q3 := fun z => by rw [z, f3] at f2; cases f2
      refine HV.lab (j := (24, 0, 0)) sup_at ?_
      rw [sup_sup]
      refine HV.lab (j := (34, ω.nh, 0)) ((sup_ne n23).trans (sup_lab h21 (by decide) f2)) ?_
      have hLf := hL.aH (F := F) (by omega) f3 f2 (by decide) (by decide) (by decide) (rfl : _ = celS κ.E (ω.grH q3 q2 F) (21, 0, 0))
      have hCf := ((hC.wr (i := (21, 0, 0)) (e := celS κ.E (ω.grH q3 q2 F) (21, 0, 0)) h21 (by decide)).wr (i := (24, 0, 0)) (e := celS κ.E (ω.grH q3 q2 F) (24, 0, 0)) (sup_lab h21 (by decide) f3) (by decide)).wr (i := (34, ω.nh, 0)) (e := celS κ.E (ω.grH q3 q2 F) (34, ω.nh, 0)) ((sup_ne n23).trans (sup_lab h21 (by decide) f2)) (by decide)
      have er : celS κ.E (ω.grH q3 q2 F) (34, ω.nh, 0) = .inl (κ.E.cy 0, pInts 3 F) := by
        simp only [celS, grH_M, upr_at]
      have eo : celS κ.E (ω.grH q3 q2 F) (24, 0, 0) = .inl (κ.E.cy 5, pRefs (ω.nh + 1) (fun j => some ((ω.grH q3 q2 F).ad (34, j, 0)))) := rfl
      have e21 : celS κ.E (ω.grH q3 q2 F) (21, 0, 0) = .inr (6, [.int (ω.M (21, 0, 0) 0), .int (ω.M (21, 0, 0) 1), .int (ω.M (21, 0, 0) 2), .int (ω.M (21, 0, 0) 3), .ref (ω.ad (22, 0, 0)), .ref (ω.ad (23, 0, 0)), .ref q3, .ref (ω.ad (25, 0, 0)), .ref (ω.ad (26, 0, 0))]) := by
        have e1 : (ω.grH q3 q2 F).M (21, 0, 0) = ω.M (21, 0, 0) := by rw [grH_M, upr_ne (by simp)]
        simp only [celS, e1]
        rfl
      rw [e21, eo, er] at hLf hCf
      have hBn : BSt κ.E _ (ω.grH q3 q2 F) _ M9 := ⟨hLf, hG.aH (x := x6) (by omega) (f0 0) (f0 1) (f0 2), hCf, hI9, h0.aH, ((gi_set.trans (if_neg (by omega))).trans (addH_i.trans (if_neg (by omega)))).trans h18⟩
      have K9 := ih (g.nh + 1) (by omega) _ _ _ _ hBn ⟨hnb, rfl, hnv⟩
      rw [grH_21] at K9
      refine h_iinc G dL_build_302 rfl (by decide) rfl (nI_1 _) ?_
      refine h_goto G 224 dL_build_305 (by decide) ?_
      refine HV.wid (c2 := cN + 2 * (g.nh + 1)) (d2 := dN + 16 * (g.nh + 1)) (by omega) (by omega) ?_
      exact HV.drop1 6 K9
  exact HV.wid (by omega) (by omega) (loop n4 0 (by omega) σ ω g M hB hn)
theorem p_bV (G : Gd κ cL_build 10 RL 3 73) (hc9 : cN + 44 ≤ κ.R.cells) (hd9 : dN + 580 ≤ κ.R.slots) (hB : BSt κ.E σ ω g M) {n3 n4 : Nat} (hn : g.nb = n3 ∧ g.nh = n4 ∧ g.nv = 0) (K : ∀ σ ω g M (n5 : Nat), BSt κ.E σ ω g M → 1 ≤ n5 → n5 ≤ 14 → g.nb = n3 ∧ g.nh = n4 ∧ g.nv = n5 → HV κ 10 σ (cN + 44) (dN + 580) [some (.ref (κ.E.ad (0, 0, 0))), some (.ref κ.E.sc.1), some (.ref (ω.ad (21, 0, 0))), some (.int (nI n3)), some (.int (nI n4)), some (.int (nI n5)), none, none, none, none] [] 422) : HV κ 10 σ cN dN [some (.ref (κ.E.ad (0, 0, 0))), some (.ref κ.E.sc.1), some (.ref (ω.ad (21, 0, 0))), some (.int (nI n3)), some (.int (nI n4)), none, none, none, none, none] [] 308 := by
  refine h_iconst (v := 1) G dL_build_308 (by decide) ?_
  refine h_aload_n G dL_build_309 rfl ?_
  refine h_bipush (v := 6) G dL_build_310 (by decide) ?_
  refine wiL_12 G (m_cell (k := 6) (by decide)) (by decide) (Nat.le_of_ble_eq_true rfl) (by omega) (by omega) dL_build_312 (fun r9 σ9 hp9 => ?_)
  obtain ⟨⟨c0, rfl⟩, rfl⟩ := hp9
  refine h_bipush (v := 14) G dL_build_315 (by decide) ?_
  refine wiL_18 G (m_below _ (m := 14) (by decide) (by decide)) (by decide) (Nat.le_of_ble_eq_true rfl) (by omega) (by omega) dL_build_317 (fun r9 σ9 hp9 => ?_)
  obtain ⟨⟨j0, hj0, rfl⟩, rfl⟩ := hp9
  refine h_iadd G dL_build_320 ?_
  rw [one_nI]
  obtain ⟨n5, hn5⟩ : ∃ n5, n5 = 1 + j0 := ⟨_, rfl⟩
  rw [← hn5]
  refine h_istore G dL_build_321 (by decide) rfl ?_
  refine h_iconst (v := 0) G dL_build_323 (by decide) ?_
  refine h_istore G dL_build_324 (by decide) rfl ?_
  have loop : ∀ m k, k + m = n5 → ∀ σ ω g M, BSt κ.E σ ω g M → g.nb = n3 ∧ g.nh = n4 ∧ g.nv = k → HV κ 10 σ (cN + 3 * k) (dN + 40 * k) [some (.ref (κ.E.ad (0, 0, 0))), some (.ref κ.E.sc.1), some (.ref (ω.ad (21, 0, 0))), some (.int (nI n3)), some (.int (nI n4)), some (.int (nI n5)), some (.int (nI k)), none, none, none] [] 326 := by
    intro m
    induction m with
    | zero =>
      intro k hk σ ω g M hB hn
      have hk : k = n5 := by omega
      subst hk
      refine h_iload G dL_build_326 rfl ?_
      refine h_iload G dL_build_328 rfl ?_
      refine h_icmp_ge G 422 dL_build_330 (by decide) (fun h330 => ?_) (fun h330 => ?_)
      rotate_left
      · exact absurd (nI_le (Nat.le_refl _) (by omega)) h330
      refine HV.wid (c2 := cN + 44) (d2 := dN + 580) (by omega) (by omega) ?_
      exact HV.drop1 6 (K σ ω g M k hB (by omega) (by omega) hn)
    | succ m ih =>
      intro k hk σ ω g M ⟨hL, hG, hC, hI, h0, h18⟩ ⟨hnb, hnh, hk0⟩
      subst hk0
      refine h_iload G dL_build_326 rfl ?_
      refine h_iload G dL_build_328 rfl ?_
      refine h_icmp_ge G 422 dL_build_330 (by decide) (fun h330 => ?_) (fun h330 => ?_)
      · exact absurd h330 (nI_ge (by omega) (by omega))
      refine h_aload_n G dL_build_333 rfl ?_
      refine h_bipush (v := 7) G dL_build_334 (by decide) ?_
      refine h_iload G dL_build_336 rfl ?_
      refine h_iconst (v := 2) G dL_build_338 (by decide) ?_
      refine h_irem G dL_build_339 (by decide) ?_
      rw [show nI g.nv - nI g.nv / 2 * 2 = nI (g.nv % 2) from nI_rem (by omega) (by decide) (by decide)]
      refine h_iadd G dL_build_340 ?_
      rw [show (7 : Int32) + nI (g.nv % 2) = nI (7 + g.nv % 2) from nI_add 7 _]
      refine wiL_12 G (m_cell (k := 7 + g.nv % 2) (by omega)) (by decide) (Nat.le_of_ble_eq_true rfl) (by omega) (by omega) dL_build_341 (fun r9 σ9 hp9 => ?_)
      obtain ⟨⟨c1, rfl⟩, rfl⟩ := hp9
      refine h_iload G dL_build_344 rfl ?_
      refine h_ishr G dL_build_346 ?_
      refine h_bipush (v := 13) G dL_build_347 (by decide) ?_
      refine h_iload G dL_build_349 rfl ?_
      refine h_imul G dL_build_351 ?_
      refine h_iadd G dL_build_352 ?_
      generalize c1 >>> (nI g.nv &&& 31) + 13 * nI g.nv = x
      refine h_istore G dL_build_353 (by decide) rfl ?_
      refine h_iload G dL_build_355 rfl ?_
      refine h_iload G dL_build_357 rfl ?_
      refine h_bipush (v := 6) G dL_build_359 (by decide) ?_
      refine h_ishr G dL_build_361 ?_
      refine h_iconst (v := 3) G dL_build_362 (by decide) ?_
      refine wiL_18 G (m_below _ (m := 3) (by decide) (by decide)) (by decide) (Nat.le_of_ble_eq_true rfl) (by omega) (by omega) dL_build_363 (fun r9 σ9 hp9 => ?_)
      obtain ⟨⟨j1, hj1, rfl⟩, rfl⟩ := hp9
      have K377 : ∀ m : Nat, 0 < m → m ≤ 201 → HV κ 10 σ (cN + 3 * g.nv) (dN + 40 * g.nv) [some (.ref (κ.E.ad (0, 0, 0))), some (.ref κ.E.sc.1), some (.ref (ω.ad (21, 0, 0))), some (.int (nI n3)), some (.int (nI n4)), some (.int (nI n5)), some (.int (nI g.nv)), some (.int x), none, none] [.int (nI m), .int x] 377 := fun m hm0 hm9 => by
        refine wiL_18 G (m_below _ (m := m) hm0 (by omega)) (by decide) (Nat.le_of_ble_eq_true rfl) (by omega) (by omega) dL_build_377 (fun r9 σ9 hp9 => ?_)
        obtain ⟨⟨jt, hjt, rfl⟩, rfl⟩ := hp9
        refine h_istore G dL_build_380 (by decide) rfl ?_
        refine h_iload G dL_build_382 rfl ?_
        refine h_iconst (v := 3) G dL_build_384 (by decide) ?_
        refine h_ishr G dL_build_385 ?_
        refine h_bipush (v := 31) G dL_build_386 (by decide) ?_
        refine wiL_18 G (m_below _ (m := 31) (by decide) (by decide)) (by decide) (Nat.le_of_ble_eq_true rfl) (by omega) (by omega) dL_build_388 (fun r9 σ9 hp9 => ?_)
        obtain ⟨⟨js, hjs, rfl⟩, rfl⟩ := hp9
        refine h_istore G dL_build_391 (by decide) rfl ?_
        refine h_aload_n G dL_build_393 rfl ?_
        refine h_iload G dL_build_394 rfl ?_
        refine h_iload G dL_build_396 rfl ?_
        refine wiL_46 G hC (f_come hI (by omega) (inR_nI (lo := 0) (hi := 200) (by omega) (by omega) (by decide)) (inR_nI (lo := 0) (hi := 30) (by omega) (by omega) (by decide))) (by decide) (Nat.le_of_ble_eq_true rfl) (by omega) (by omega) dL_build_398 (fun r9 M9 hp9 => ?_)
        obtain ⟨rfl, hI9⟩ := hp9
        replace hL := hL.kc (setC_keep hC (M' := M9))
        replace hC := setC_cls (E := κ.E) (σ := σ) (M := M9) G.hinj
        generalize setC κ.E σ M9 = σ1 at hL hC ⊢
        refine h_iload G dL_build_401 rfl ?_
        refine h_icmp_eq G 408 dL_build_403 (by decide) (fun h403 => ?_) (fun h403 => ?_)
        rotate_left
        · exact absurd rfl h403
        refine h_aload_n G dL_build_408 rfl ?_
        refine h_iload G dL_build_409 rfl ?_
        refine h_iload G dL_build_411 rfl ?_
        refine wiL_49 G (hL.1 (21, 0, 0) trivial) (m_come hL hG (by omega) (t := nI jt) (s := nI js)) (by decide) (Nat.le_of_ble_eq_true rfl) (by omega) (by omega) dL_build_413 (fun r9 σ9 hp9 => ?_)
        obtain ⟨rfl, ω', hL', hG', had, hk⟩ := hp9
        have hC' : ClsP κ.E σ9 M9 := fun i hi => hk _ _ _ (hC i hi) (fun z => absurd (idsC_lt _ hi) (by omega))
        have hBn : BSt κ.E σ9 ω' _ M9 := ⟨hL', hG', hC', hI9, h0.aV (by omega), (addV_i.trans ((if_neg (by omega)).trans (if_neg (by omega)))).trans h18⟩
        have K9 := ih (g.nv + 1) (by omega) _ _ _ _ hBn ⟨hnb, hnh, rfl⟩
        rw [had] at K9
        refine h_iinc G dL_build_416 rfl (by decide) rfl (nI_1 _) ?_
        refine h_goto G 326 dL_build_419 (by decide) ?_
        refine HV.wid (c2 := cN + 3 * (g.nv + 1)) (d2 := dN + 40 * (g.nv + 1)) (by omega) (by omega) ?_
        exact HV.drop1 7 (HV.drop1 8 (HV.drop1 9 K9))
      refine h_if_ne G 375 dL_build_366 (by decide) (fun h366 => ?_) (fun h366 => ?_)
      · refine h_bipush (v := 30) G dL_build_375 (by decide) ?_
        exact K377 30 (by decide) (by decide)
      · refine h_sipush (v := 201) G dL_build_369 (by decide) ?_
        refine h_goto G 377 dL_build_372 (by decide) ?_
        exact K377 201 (by decide) (by decide)
  exact HV.wid (by omega) (by omega) (loop n5 0 (by omega) σ ω g M hB hn)
end Bp
section Bu
variable {E : EX} {σ : Sg}
theorem m_build {M : Mem} (hC : ClsP E σ M) (hI : CI M g0) : RetS E yL_build cL_build 10 (some (.object "FeteBoardLaw$Sim")) 3 73 120 1100 [.ref (E.ad (0, 0, 0)), .ref E.sc.1] σ (fun r σ' => ∃ ω' g' M', r = some (.ref (ω'.ad (21, 0, 0))) ∧ LayS E σ' ω' ∧ SimG ω' g' 0 ∧ ClsP E σ' M' ∧ CI M' g' ∧ L0 g' ∧ ((1 ≤ g'.nb ∧ g'.nb ≤ 7) ∧ (1 ≤ g'.nh ∧ g'.nh ≤ 11) ∧ (1 ≤ g'.nv ∧ g'.nv ≤ 14)) ∧ ∃ d, 1 ≤ d ∧ d ≤ 65536 ∧ g'.i 1 0 8 = nI d) := by
  refine RetS_of RL (by decide) rfl [some (.ref (E.ad (0, 0, 0))), some (.ref E.sc.1), none, none, none, none, none, none, none, none] rfl (Nat.le_of_ble_eq_true rfl) (fun κ hE G E9 hr => ?_)
  subst hE
  have hc9 := E9.2.2.1
  have hd9 := E9.2.2.2
  refine h_new (T := TX6) (N := 9) (ci := 6) (fs := [.int 0, .int 0, .int 0, .int 0, .null, .null, .null, .null, .null]) G (54, 0, 0) uX6 tyX6 tyX6_ok (by decide +kernel) (by decide +kernel) (by decide +kernel) rfl (by decide) (by omega) (by omega) dL_build_0 (fun q1 hq1 => ?_)
  have n1 : ∀ i, i ∈ idsC → κ.E.ad i ≠ q1 := fun i hi => fresh_ne (hC i hi) hq1
  replace hC : ClsP κ.E (sup σ q1 (54, 0, 0) (.inr (6, [.int 0, .int 0, .int 0, .int 0, .null, .null, .null, .null, .null]))) M := fun i hi => (sup_ne (n1 i hi)).trans (hC i hi)
  refine h_dup G dL_build_3 rfl ?_
  refine h_callN G (m_init6 sup_at) (G.hSw.2.2 _ mA_n11) (by decide +kernel) (by decide +kernel) (by decide +kernel) (by decide +kernel) rfl (by decide) (Nat.le_of_ble_eq_true rfl) (by omega) (by omega) dL_build_4 (fun r9 σ9 hp9 => ?_)
  obtain ⟨rfl, ω, hL, hG, had, kp⟩ := hp9
  replace hC : ClsP κ.E σ9 M := fun i hi => kp _ _ _ (n1 i hi) (hC i hi)
  rw [← had]
  refine HV.wid (c2 := 20) (d2 := 30) (by omega) (by omega) ?_
  refine h_astore_n G dL_build_7 (by decide) rfl ?_
  refine h_iconst (v := 1) G dL_build_8 (by decide) ?_
  refine h_aload_n G dL_build_9 rfl ?_
  refine h_iconst (v := 0) G dL_build_10 (by decide) ?_
  refine wiL_12 G (m_cell (k := 0) (by decide)) (by decide) (Nat.le_of_ble_eq_true rfl) (by omega) (by omega) dL_build_11 (fun r9 σ9 hp9 => ?_)
  obtain ⟨⟨c1, rfl⟩, rfl⟩ := hp9
  refine h_bipush (v := 7) G dL_build_14 (by decide) ?_
  refine wiL_18 G (m_below c1 (m := 7) (by decide) (by decide)) (by decide) (Nat.le_of_ble_eq_true rfl) (by omega) (by omega) dL_build_16 (fun r9 σ9 hp9 => ?_)
  obtain ⟨⟨nb, hnb, rfl⟩, rfl⟩ := hp9
  refine h_iadd G dL_build_19 ?_
  rw [one_nI]
  refine h_istore_n G dL_build_20 (by decide) rfl ?_
  refine p_bB G (by omega) (by omega) ⟨hL, hG, hC, hI, L0.g0, rfl⟩ ⟨rfl, rfl, rfl⟩ (n3 := 1 + nb) (by omega) (fun σ ω g M hB hn => ?_)
  refine p_bH G (by omega) (by omega) hB hn (by omega) (fun σ ω g M n4 hB h4 h4b hn => ?_)
  refine p_bV G (by omega) (by omega) hB hn (fun σ ω g M n5 hB h5 h5b hn => ?_)
  obtain ⟨hL, hG, hC, hI, h0, h18⟩ := hB
  obtain ⟨e3, e4, e5⟩ := hn
  refine h_iconst (v := 1) G dL_build_422 (by decide) ?_
  refine h_aload_n G dL_build_423 rfl ?_
  refine h_bipush (v := 9) G dL_build_424 (by decide) ?_
  refine wiL_12 G (m_cell (k := 9) (by decide)) (by decide) (Nat.le_of_ble_eq_true rfl) (by omega) (by omega) dL_build_426 (fun r9 σ9 hp9 => ?_)
  obtain ⟨⟨c2, rfl⟩, rfl⟩ := hp9
  refine h_ldc G dL_build_429 (v := 65536) (by decide +kernel) ?_
  refine wiL_18 G (m_below c2 (m := 65536) (by decide) (by decide)) (by decide) (Nat.le_of_ble_eq_true rfl) (by omega) (by omega) dL_build_431 (fun r9 σ9 hp9 => ?_)
  obtain ⟨⟨jd, hjd, rfl⟩, rfl⟩ := hp9
  refine h_iadd G dL_build_434 ?_
  rw [one_nI]
  have hst : Stb ω ω := Stb.rf
  have hk : KpS σ σ := KpS.rf
  refine h_istore G dL_build_435 (by decide) rfl ?_
  refine h_aload_n G dL_build_437 rfl ?_
  refine h_iload G dL_build_438 rfl ?_
  refine wpL_53 G hL dL_build_440 (fun σ9 ω9 ha9 hs9 hL9 hk9 => ?_)
  try rw [← ha9]
  replace hk := KpS.tr hk hk9
  replace hst := hst.tr (Stb.of_ad ha9)
  clear hL hk9 ha9
  have hL := hL9
  clear hL9
  replace hG := hs9 (fun z => SimG z _ _) (hG.n21 (x := nI (1 + jd)) (j := 1) (by decide))
  clear hs9
  replace hC : ClsP κ.E σ9 M := fun i hi => hk _ _ _ (hC i hi) (fun z => absurd (idsC_lt _ hi) (by omega))
  have hd : inR (nI (1 + jd)) 1 65536 := inR_nI (lo := 1) (hi := 65536) (by omega) (by omega) (by decide)
  refine h_aload_n G dL_build_443 rfl ?_
  refine h_iload G dL_build_444 rfl ?_
  refine wiL_57 G hC (f_setDart hI hd) (by decide) (Nat.le_of_ble_eq_true rfl) (by omega) (by omega) dL_build_446 (fun r9 M9 hp9 => ?_)
  obtain ⟨rfl, hI9⟩ := hp9
  rw [h18]
  replace hL := hL.kc (setC_keep hC (M' := M9))
  replace hC := setC_cls (E := κ.E) (σ := σ9) (M := M9) G.hinj
  generalize setC κ.E σ9 M9 = σ8 at hL hC ⊢
  refine h_iconst (v := 1) G dL_build_449 (by decide) ?_
  refine h_icmp_ne G 457 dL_build_450 (by decide) (fun h450 => ?_) (fun h450 => ?_)
  · exact absurd rfl h450
  refine h_aload_n G dL_build_453 rfl ?_
  refine h_goto G 458 dL_build_454 (by decide) ?_
  exact h_aret G E9 (by omega) (by omega) hr (Or.inl ⟨_, rfl⟩) dL_build_458 ⟨_, _, _, rfl, hL, hG, hC, hI9, h0.dart, ⟨⟨by show 1 ≤ g.nb; omega, by show g.nb ≤ 7; omega⟩, ⟨by show 1 ≤ g.nh; omega, by show g.nh ≤ 11; omega⟩, by show 1 ≤ g.nv; omega, by show g.nv ≤ 14; omega⟩, _, by omega, by omega, gi_set.trans (if_pos ⟨rfl, rfl, rfl⟩)⟩
end Bu
