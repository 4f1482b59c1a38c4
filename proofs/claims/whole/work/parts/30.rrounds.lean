/-! ===== the reference: a round, rounds ===== -/
theorem stt_0 {g : GS} {v : Nat} : stt g v = 0 ↔ strl g v := by
  unfold stt
  by_cases h1 : g.i 4 v 2 = 0
  · rw [if_pos h1]
    by_cases h2 : g.i 4 v 3 = -1
    · rw [if_pos h2]; exact ⟨fun _ => ⟨h1, h2⟩, fun _ => rfl⟩
    · rw [if_neg h2]; exact ⟨fun q => absurd q (by decide), fun q => absurd q.2 h2⟩
  · rw [if_neg h1]; exact ⟨fun q => absurd q (by decide), fun q => absurd q.1 h1⟩
section RO
variable {E : EX} {N : Mem} {g g' : GS} {w : Int32}
theorem r_roundOn (hS : SimR N g 0) (hI : Inv g) : Ret E idsR yX6_roundOn cX6_roundOn 4 (some .int) 4 90 [.ref (E.ad (14, 0, 0))] N (fun r M' => ∃ d : Int32, r = some (.int d) ∧ (round9 g).i 1 0 10 = g.i 1 0 10 + d ∧ SimR M' (round9 g) 0 ∧ M' (14, 0, 0) = N (14, 0, 0)) := by
  have hI1 := hI.r1
  have hI2 := hI.r2
  have hI3 := hI.r3
  have hI4 := hI.r4
  refine Ret_of_V RX6 (by decide) rfl idsR_nd [some (.ref (E.ad (14, 0, 0))), none, none, none] rfl (Nat.le_of_ble_eq_true rfl) (fun κ hE G E9 hr => ?_)
  subst hE
  have p5 : ∀ (M5 : Mem) (W : Int32), SimR M5 (rnd5 g) W → M5 (14, 0, 0) = N (14, 0, 0) → (rnd3 g).i 1 0 10 = g.i 1 0 10 + W → V κ idsR 4 M5 [some (.ref (κ.E.ad (14, 0, 0))), some (.int W), none, none] [] 238 := by
    intro M5 W hS5 hF5 hW
    refine s_aload_n G dX6_roundOn_238 rfl ?_
    refine gX6_25 G dX6_roundOn_239 ?_
    refine s_iconst (v := 0) G dX6_roundOn_242 (by decide) ?_
    refine s_dup2 G dX6_roundOn_243 rfl rfl ?_
    refine al_20 G (show (0 : Int32) = nI 0 from rfl) (by decide) dX6_roundOn_244 ?_
    rw [hS5.n0]
    refine s_iconst (v := 1) G dX6_roundOn_245 (by decide) ?_
    refine s_iadd G dX6_roundOn_246 ?_
    refine as_20 G (show (0 : Int32) = nI 0 from rfl) (by decide) dX6_roundOn_247 ?_
    refine V.abs (fun M6 hM6 => ?_)
    have hS6 : SimR M6 (round9 g) W := by rw [hM6, round_eq]; exact hS5.sn0
    have hF6 : M6 (14, 0, 0) = N (14, 0, 0) := by rw [hM6, up_ne (by simp)]; exact hF5
    clear hM6
    refine s_aload_n G dX6_roundOn_248 rfl ?_
    refine gX6_25 G dX6_roundOn_249 ?_
    refine s_iconst (v := 3) G dX6_roundOn_252 (by decide) ?_
    refine s_dup2 G dX6_roundOn_253 rfl rfl ?_
    refine al_20 G (show (3 : Int32) = nI 3 from rfl) (by decide) dX6_roundOn_254 ?_
    refine s_iload_n G dX6_roundOn_255 rfl ?_
    refine s_iadd G dX6_roundOn_256 ?_
    refine as_20 G (show (3 : Int32) = nI 3 from rfl) (by decide) dX6_roundOn_257 ?_
    refine s_iload_n G dX6_roundOn_258 rfl ?_
    refine s_iret G E9 hr dX6_roundOn_259 ⟨W, rfl, by rw [round_eq, gi_set, if_neg (by omega), won_rnd5]; exact hW, hS6.sn3, by rw [up_ne (by simp)]; exact hF6⟩
  have p4 : ∀ (M4 : Mem) (W : Int32), SimR M4 (rnd4 g) W → M4 (14, 0, 0) = N (14, 0, 0) → (rnd3 g).i 1 0 10 = g.i 1 0 10 + W → V κ idsR 4 M4 [some (.ref (κ.E.ad (14, 0, 0))), some (.int W), none, none] [] 220 := by
    intro M4 W hS4 hF4 hW
    refine s_aload_n G dX6_roundOn_220 rfl ?_
    refine gX6_25 G dX6_roundOn_221 ?_
    refine s_iconst (v := 0) G dX6_roundOn_224 (by decide) ?_
    refine al_20 G (show (0 : Int32) = nI 0 from rfl) (by decide) dX6_roundOn_225 ?_
    rw [hS4.n0]
    refine s_bipush (v := 12) G dX6_roundOn_226 (by decide) ?_
    refine s_irem G dX6_roundOn_228 (by decide) ?_
    refine s_bipush (v := 11) G dX6_roundOn_229 (by decide) ?_
    refine s_icmp_ne G 238 dX6_roundOn_231 (by decide) (fun h231 => ?_) (fun h231 => ?_)
    · exact p5 M4 W (by unfold rnd5; rw [if_neg h231]; exact hS4) hF4 hW
    · refine s_aload_n G dX6_roundOn_234 rfl ?_
      refine iX6_133 G (r_endHour hS4 hI4) (by decide) (Nat.le_of_ble_eq_true rfl) dX6_roundOn_235 (fun r9 M9 hp9 => ?_)
      obtain ⟨rfl, hS5, hF5⟩ := hp9
      exact p5 _ W (by unfold rnd5; rw [if_pos h231]; exact hS5) (hF5.trans hF4) hW
  have p3 : ∀ n h, h + n = (rnd3 g).nh → ∀ (M3 : Mem) (W : Int32), SimR M3 (tiresN (rnd3 g) h) W → M3 (14, 0, 0) = N (14, 0, 0) → (rnd3 g).i 1 0 10 = g.i 1 0 10 + W → V κ idsR 4 M3 [some (.ref (κ.E.ad (14, 0, 0))), some (.int W), some (.int (nI h)), none] [] 123 := by
    intro n
    induction n with
    | zero =>
      intro h hh M3 W hS3 hF3 hW
      have hh : h = (rnd3 g).nh := by omega
      subst hh
      have e : (tiresN (rnd3 g) (rnd3 g).nh).nh = (rnd3 g).nh := nh_of (congrArg (fun z => z.2.1) (tiresN_n _))
      refine s_iload_n G dX6_roundOn_123 rfl ?_
      refine s_aload_n G dX6_roundOn_124 rfl ?_
      refine gX6_39 G dX6_roundOn_125 ?_
      rw [hS3.nh, e]
      refine s_icmp_ge G 220 dX6_roundOn_128 (by decide) (fun h128 => ?_) (fun h128 => ?_)
      · refine V.drop1 2 ?_
        exact p4 M3 W hS3 hF3 hW
      · exact absurd (Int32.le_refl _) h128
    | succ n ih =>
      intro h hh M3 W hS3 hF3 hW
      have hn9 := congrArg (fun z => z.2.1) (tiresN_n (g := rnd3 g) h)
      have e : (tiresN (rnd3 g) h).nh = (rnd3 g).nh := nh_of hn9
      have hl : h < (rnd3 g).nh := by omega
      have h12 := hI3.nh12
      have hh9 : h < 12 := by omega
      have hIt := hI3.tiresN h (by omega)
      have hst := hIt.hst (a := h) (by rw [e]; exact hl)
      have step : tiresN (rnd3 g) (h + 1) = tire9 (tiresN (rnd3 g) h) h := rfl
      have next : ∀ M4 : Mem, SimR M4 (tire9 (tiresN (rnd3 g) h) h) W → M4 (14, 0, 0) = N (14, 0, 0) → V κ idsR 4 M4 [some (.ref (κ.E.ad (14, 0, 0))), some (.int W), some (.int (nI h)), none] [] 214 := by
        intro M4 hS4 hF4
        refine s_iinc G dX6_roundOn_214 rfl (by decide) rfl (nI_1 h) ?_
        refine s_goto G 123 dX6_roundOn_217 (by decide) ?_
        exact ih (h + 1) (by omega) M4 W (by rw [step]; exact hS4) hF4 hW
      generalize hg0 : tiresN (rnd3 g) h = g0 at hS3 e hIt hst next
      have hl0 : h < g0.nh := by rw [e]; exact hl
      refine s_iload_n G dX6_roundOn_123 rfl ?_
      refine s_aload_n G dX6_roundOn_124 rfl ?_
      refine gX6_39 G dX6_roundOn_125 ?_
      rw [hS3.nh, e]
      refine s_icmp_ge G 220 dX6_roundOn_128 (by decide) (fun h128 => ?_) (fun h128 => ?_)
      · exact absurd h128 (nI_ge hl (by omega))
      have rest : ∀ (M4 : Mem) (g4 : GS), SimR M4 g4 W → M4 (14, 0, 0) = N (14, 0, 0) → g4.nh = g0.nh → (if g4.i 3 h 1 = -1 then rest9 g4 h else g4) = tire9 g0 h → V κ idsR 4 M4 [some (.ref (κ.E.ad (14, 0, 0))), some (.int W), some (.int (nI h)), none] [] 185 := by
        intro M4 g4 hS4 hF4 hn4 ht
        have hl4 : h < g4.nh := by rw [hn4]; exact hl0
        refine s_aload_n G dX6_roundOn_185 rfl ?_
        refine s_iload_n G dX6_roundOn_186 rfl ?_
        refine s_iconst (v := 1) G dX6_roundOn_187 (by decide) ?_
        refine iX6_63 G (r_he (k := 1) hh9 (by decide)) (by decide) (Nat.le_of_ble_eq_true rfl) dX6_roundOn_188 (fun r9 M9 hp9 => ?_)
        obtain ⟨rfl, rfl⟩ := hp9
        rw [hS4.he (k := 1) hl4 (by decide)]
        refine s_iconst (v := -1) G dX6_roundOn_191 (by decide) ?_
        refine s_icmp_ne G 214 dX6_roundOn_192 (by decide) (fun h192 => ?_) (fun h192 => ?_)
        · rw [if_neg h192] at ht
          exact next M4 (by rw [← ht]; exact hS4) hF4
        · rw [if_pos h192] at ht
          refine s_aload_n G dX6_roundOn_195 rfl ?_
          refine s_iload_n G dX6_roundOn_196 rfl ?_
          refine s_iconst (v := 0) G dX6_roundOn_197 (by decide) ?_
          refine s_bipush (v := 24) G dX6_roundOn_198 (by decide) ?_
          refine s_aload_n G dX6_roundOn_200 rfl ?_
          refine s_iload_n G dX6_roundOn_201 rfl ?_
          refine s_iconst (v := 0) G dX6_roundOn_202 (by decide) ?_
          refine iX6_63 G (r_he (k := 0) hh9 (by decide)) (by decide) (Nat.le_of_ble_eq_true rfl) dX6_roundOn_203 (fun r9 M9 hp9 => ?_)
          obtain ⟨rfl, rfl⟩ := hp9
          rw [hS4.he (k := 0) hl4 (by decide)]
          refine s_iconst (v := 2) G dX6_roundOn_206 (by decide) ?_
          refine s_iadd G dX6_roundOn_207 ?_
          refine iX6_112 G dX6_roundOn_208 (by decide) (Nat.le_of_ble_eq_true rfl) ?_
          rw [show (if g4.i 3 h 0 + 2 < 24 then g4.i 3 h 0 + 2 else 24) = min9 (g4.i 3 h 0 + 2) 24 from min9_comm 24 (g4.i 3 h 0 + 2)]
          refine iX6_67 G (r_setHe (k := 0) hh9 (by decide) (min9 (g4.i 3 h 0 + 2) 24)) (by decide) (Nat.le_of_ble_eq_true rfl) dX6_roundOn_211 (fun r9 M9 hp9 => ?_)
          obtain ⟨rfl, rfl⟩ := hp9
          exact next _ (by rw [← ht]; exact hS4.sh (by decide)) (by rw [up_ne (by simp)]; exact hF4)
      refine s_aload_n G dX6_roundOn_131 rfl ?_
      refine s_iload_n G dX6_roundOn_132 rfl ?_
      refine s_iconst (v := 1) G dX6_roundOn_133 (by decide) ?_
      refine iX6_63 G (r_he (k := 1) hh9 (by decide)) (by decide) (Nat.le_of_ble_eq_true rfl) dX6_roundOn_134 (fun r9 M9 hp9 => ?_)
      obtain ⟨rfl, rfl⟩ := hp9
      rw [hS3.he (k := 1) hl0 (by decide)]
      refine s_iconst (v := -1) G dX6_roundOn_137 (by decide) ?_
      refine s_icmp_eq G 185 dX6_roundOn_138 (by decide) (fun h138 => ?_) (fun h138 => ?_)
      · exact rest _ g0 hS3 hF3 rfl (by unfold tire9; rw [if_pos h138, if_pos h138])
      refine s_aload_n G dX6_roundOn_141 rfl ?_
      refine s_iload_n G dX6_roundOn_142 rfl ?_
      refine s_iconst (v := 0) G dX6_roundOn_143 (by decide) ?_
      refine s_aload_n G dX6_roundOn_144 rfl ?_
      refine s_iload_n G dX6_roundOn_145 rfl ?_
      refine s_iconst (v := 0) G dX6_roundOn_146 (by decide) ?_
      refine iX6_63 G (r_he (k := 0) hh9 (by decide)) (by decide) (Nat.le_of_ble_eq_true rfl) dX6_roundOn_147 (fun r9 M9 hp9 => ?_)
      obtain ⟨rfl, rfl⟩ := hp9
      rw [hS3.he (k := 0) hl0 (by decide)]
      refine s_iconst (v := 1) G dX6_roundOn_150 (by decide) ?_
      refine s_isub G dX6_roundOn_151 ?_
      refine iX6_67 G (r_setHe (k := 0) hh9 (by decide) (g0.i 3 h 0 - 1)) (by decide) (Nat.le_of_ble_eq_true rfl) dX6_roundOn_152 (fun r9 M9 hp9 => ?_)
      obtain ⟨rfl, rfl⟩ := hp9
      refine V.abs (fun M4 hM4 => ?_)
      obtain ⟨g1, hg1⟩ : ∃ g1, g1 = g0.set 3 h 0 (g0.i 3 h 0 - 1) := ⟨_, rfl⟩
      have hS4 : SimR M4 g1 W := by rw [hM4, hg1]; exact hS3.sh (by decide)
      have hF4 : M4 (14, 0, 0) = N (14, 0, 0) := by rw [hM4, up_ne (by simp)]; exact hF3
      have hl1 : h < g1.nh := by rw [hg1]; exact hl0
      clear hM4
      refine s_aload_n G dX6_roundOn_155 rfl ?_
      refine s_iload_n G dX6_roundOn_156 rfl ?_
      refine s_iconst (v := 2) G dX6_roundOn_157 (by decide) ?_
      refine s_aload_n G dX6_roundOn_158 rfl ?_
      refine s_iload_n G dX6_roundOn_159 rfl ?_
      refine s_iconst (v := 2) G dX6_roundOn_160 (by decide) ?_
      refine iX6_63 G (r_he (k := 2) hh9 (by decide)) (by decide) (Nat.le_of_ble_eq_true rfl) dX6_roundOn_161 (fun r9 M9 hp9 => ?_)
      obtain ⟨rfl, rfl⟩ := hp9
      rw [hS4.he (k := 2) hl1 (by decide), show g1.i 3 h 2 = g0.i 3 h 2 by rw [hg1]; simp [gi_set]]
      refine s_iconst (v := 1) G dX6_roundOn_164 (by decide) ?_
      refine s_iadd G dX6_roundOn_165 ?_
      refine iX6_67 G (r_setHe (k := 2) hh9 (by decide) (g0.i 3 h 2 + 1)) (by decide) (Nat.le_of_ble_eq_true rfl) dX6_roundOn_166 (fun r9 M9 hp9 => ?_)
      obtain ⟨rfl, rfl⟩ := hp9
      refine V.abs (fun M5 hM5 => ?_)
      obtain ⟨g2, hg2⟩ : ∃ g2, g2 = g1.set 3 h 2 (g0.i 3 h 2 + 1) := ⟨_, rfl⟩
      have hS5 : SimR M5 g2 W := by rw [hM5, hg2]; exact hS4.sh (by decide)
      have hF5 : M5 (14, 0, 0) = N (14, 0, 0) := by rw [hM5, up_ne (by simp)]; exact hF4
      have hl2 : h < g2.nh := by rw [hg2]; exact hl1
      clear hM5
      have e20 : g2.i 3 h 0 = g0.i 3 h 0 - 1 := by rw [hg2, hg1]; simp [gi_set]
      have e21 : g2.i 3 h 1 = g0.i 3 h 1 := by rw [hg2, hg1]; simp [gi_set]
      have ht : tire9 g0 h = if 0 < g2.i 3 h 0 then g2 else rest9 (g2.set 3 h 1 (-1)) h := by
        have eg : (g0.set 3 h 2 (g0.i 3 h 2 + 1)).set 3 h 0 (g0.i 3 h 0 - 1) = g2 := by rw [hg2, hg1, set_comm (by omega)]
        unfold tire9
        rw [if_neg h138]
        simp only
        rw [eg]
      have hdec := st_dec hst
      refine s_aload_n G dX6_roundOn_169 rfl ?_
      refine s_iload_n G dX6_roundOn_170 rfl ?_
      refine s_iconst (v := 0) G dX6_roundOn_171 (by decide) ?_
      refine iX6_63 G (r_he (k := 0) hh9 (by decide)) (by decide) (Nat.le_of_ble_eq_true rfl) dX6_roundOn_172 (fun r9 M9 hp9 => ?_)
      obtain ⟨rfl, rfl⟩ := hp9
      rw [hS5.he (k := 0) hl2 (by decide), e20]
      refine s_if_ne G 185 dX6_roundOn_175 (by decide) (fun h175 => ?_) (fun h175 => ?_)
      · refine rest _ g2 hS5 hF5 (by rw [hg2, hg1]; rfl) ?_
        have hpos : 0 < g2.i 3 h 0 := by
          rw [e20, Int32.lt_iff_toInt_lt]
          have h1 := hdec.1
          rw [Int32.le_iff_toInt_le] at h1
          have h2 : (g0.i 3 h 0 - 1).toInt ≠ (0 : Int32).toInt := fun q => h175 (Int32.toInt_inj.mp q)
          omega
        rw [ht, if_pos hpos, if_neg (by rw [e21]; exact h138)]
      · refine s_aload_n G dX6_roundOn_178 rfl ?_
        refine s_iload_n G dX6_roundOn_179 rfl ?_
        refine s_iconst (v := 1) G dX6_roundOn_180 (by decide) ?_
        refine s_iconst (v := -1) G dX6_roundOn_181 (by decide) ?_
        refine iX6_67 G (r_setHe (k := 1) hh9 (by decide) (-1)) (by decide) (Nat.le_of_ble_eq_true rfl) dX6_roundOn_182 (fun r9 M9 hp9 => ?_)
        obtain ⟨rfl, rfl⟩ := hp9
        refine rest _ (g2.set 3 h 1 (-1)) (hS5.sh (by decide)) (by rw [up_ne (by simp)]; exact hF5) (by rw [hg2, hg1]; rfl) ?_
        rw [if_pos (show (g2.set 3 h 1 (-1)).i 3 h 1 = -1 by rw [gi_set, if_pos ⟨rfl, rfl, rfl⟩]), ht, if_neg (by rw [e20, h175]; decide)]
  have p2 : ∀ n b, b + n = (rnd2 g).nb → ∀ (M2 : Mem) (W : Int32), SimR M2 (servesN (rnd2 g) b) W → M2 (14, 0, 0) = N (14, 0, 0) → (servesN (rnd2 g) b).i 1 0 10 = g.i 1 0 10 + W → V κ idsR 4 M2 [some (.ref (κ.E.ad (14, 0, 0))), some (.int W), some (.int (nI b)), none] [] 50 := by
    intro n
    induction n with
    | zero =>
      intro b hb M2 W hS2 hF2 hW
      have hb : b = (rnd2 g).nb := by omega
      subst hb
      have e : (servesN (rnd2 g) (rnd2 g).nb).nb = (rnd2 g).nb := nb_of (servesN_n _)
      refine s_iload_n G dX6_roundOn_50 rfl ?_
      refine s_aload_n G dX6_roundOn_51 rfl ?_
      refine gX6_32 G dX6_roundOn_52 ?_
      rw [hS2.nb, e]
      refine s_icmp_ge G 121 dX6_roundOn_55 (by decide) (fun h55 => ?_) (fun h55 => ?_)
      · refine s_iconst (v := 0) G dX6_roundOn_121 (by decide) ?_
        refine s_istore_n G dX6_roundOn_122 (by decide) rfl ?_
        exact p3 (rnd3 g).nh 0 (by omega) M2 W hS2 hF2 hW
      · exact absurd (Int32.le_refl _) h55
    | succ n ih =>
      intro b hb M2 W hS2 hF2 hW
      have e : (servesN (rnd2 g) b).nb = (rnd2 g).nb := nb_of (servesN_n _)
      have hl : b < (rnd2 g).nb := by omega
      have hl2 : b < (servesN (rnd2 g) b).nb := by rw [e]; exact hl
      have h8 := hI2.nb8
      have hb8 : b < 8 := by omega
      have hIs := hI2.servesN b (by omega)
      have step : servesN (rnd2 g) (b + 1) = serve9 (servesN (rnd2 g) b) b := rfl
      have next : ∀ (M3 : Mem) (W3 : Int32) (x3 : Option Value), SimR M3 (serve9 (servesN (rnd2 g) b) b) W3 → M3 (14, 0, 0) = N (14, 0, 0) → (serve9 (servesN (rnd2 g) b) b).i 1 0 10 = g.i 1 0 10 + W3 → V κ idsR 4 M3 [some (.ref (κ.E.ad (14, 0, 0))), some (.int W3), some (.int (nI b)), x3] [] 115 := by
        intro M3 W3 x3 hS3 hF3 hW3
        refine V.drop1 3 ?_
        refine s_iinc G dX6_roundOn_115 rfl (by decide) rfl (nI_1 b) ?_
        refine s_goto G 50 dX6_roundOn_118 (by decide) ?_
        exact ih (b + 1) (by omega) M3 W3 (by rw [step]; exact hS3) hF3 (by rw [step]; exact hW3)
      generalize servesN (rnd2 g) b = g0 at hS2 hW e hl2 hIs next
      refine s_iload_n G dX6_roundOn_50 rfl ?_
      refine s_aload_n G dX6_roundOn_51 rfl ?_
      refine gX6_32 G dX6_roundOn_52 ?_
      rw [hS2.nb, e]
      refine s_icmp_ge G 121 dX6_roundOn_55 (by decide) (fun h55 => ?_) (fun h55 => ?_)
      · exact absurd h55 (nI_ge hl (by omega))
      refine s_aload_n G dX6_roundOn_58 rfl ?_
      refine s_iload_n G dX6_roundOn_59 rfl ?_
      refine iX6_96 G (r_isOpen hS2 hIs hl2) (by decide) (Nat.le_of_ble_eq_true rfl) dX6_roundOn_60 (fun r9 M9 hp9 => ?_)
      obtain ⟨rfl, rfl⟩ := hp9
      refine s_if_ne G 69 dX6_roundOn_63 (by decide) (fun h63 => ?_) (fun h63 => ?_)
      rotate_left
      · have ho : ¬ opn g0 b := fun q => by rw [if_pos q] at h63; exact absurd h63 (by decide)
        refine s_goto G 115 dX6_roundOn_66 (by decide) ?_
        exact next _ W _ (by rw [serve9, if_neg ho]; exact hS2) hF2 (by rw [serve9, if_neg ho]; exact hW)
      have ho : opn g0 b := Decidable.byContradiction (fun q => h63 (by rw [if_neg q]))
      have hw12 := wk_le hIs b
      have hs9 : serve9 g0 b = serveN g0 b (wk g0 b) := by rw [serve9, if_pos ho]
      have inner : ∀ m, m < 2 ^ 30 → ∀ (g1 : GS) (M1 : Mem) (W1 : Int32), SimR M1 g1 W1 → Inv g1 → g1.2.2.1 = g0.2.2.1 → M1 (14, 0, 0) = N (14, 0, 0) → g1.i 1 0 10 = g.i 1 0 10 + W1 → serveN g1 b m = serve9 g0 b → V κ idsR 4 M1 [some (.ref (κ.E.ad (14, 0, 0))), some (.int W1), some (.int (nI b)), some (.int (nI m))] [] 75 := by
        intro m
        induction m with
        | zero =>
          intro hm g1 M1 W1 hS1 hI1 hn1 hF1 hW1 hG
          refine s_iload_n G dX6_roundOn_75 rfl ?_
          refine s_if_le G 115 dX6_roundOn_76 (by decide) (fun h76 => ?_) (fun h76 => ?_)
          rotate_left
          · exact absurd (by decide) h76
          have hG : g1 = serve9 g0 b := hG
          exact next M1 W1 _ (by rw [← hG]; exact hS1) hF1 (by rw [← hG]; exact hW1)
        | succ m im =>
          intro hm g1 M1 W1 hS1 hI1 hn1 hF1 hW1 hG
          have hb1 : b < g1.nb := by rw [nb_of hn1]; exact hl2
          have hl16 := hI1.ql16 hb1
          refine s_iload_n G dX6_roundOn_75 rfl ?_
          refine s_if_le G 115 dX6_roundOn_76 (by decide) (fun h76 => ?_) (fun h76 => ?_)
          · exact absurd h76 (nI_ge (a := 0) (b := m + 1) (by omega) (by omega))
          refine s_aload_n G dX6_roundOn_79 rfl ?_
          refine s_iload_n G dX6_roundOn_80 rfl ?_
          refine iX6_99 G (r_length hS1 hI1 hb1) (by decide) (Nat.le_of_ble_eq_true rfl) dX6_roundOn_81 (fun r9 M9 hp9 => ?_)
          obtain ⟨rfl, rfl⟩ := hp9
          cases hq : g1.q b with
          | nil =>
            refine s_if_le G 115 dX6_roundOn_84 (by decide) (fun h84 => ?_) (fun h84 => ?_)
            rotate_left
            · exact absurd (by decide) h84
            have hG2 : g1 = serve9 g0 b := by rw [← hG, serveN_nil _ _ hq]
            exact next _ W1 _ (by rw [← hG2]; exact hS1) hF1 (by rw [← hG2]; exact hW1)
          | cons v Q =>
            have h0 : (g1.q b)[0]? = some v := by rw [hq]; rfl
            have hlq : Q.length + 1 ≤ 16 := by rw [hq] at hl16; simpa using hl16
            refine s_if_le G 115 dX6_roundOn_84 (by decide) (fun h84 => ?_) (fun h84 => ?_)
            · exact absurd h84 (nI_ge (a := 0) (b := (v :: Q).length) (by simp) (by simp only [List.length_cons]; omega))
            refine s_iload_n G dX6_roundOn_87 rfl ?_
            refine s_aload_n G dX6_roundOn_88 rfl ?_
            refine s_aload_n G dX6_roundOn_89 rfl ?_
            refine s_iload_n G dX6_roundOn_90 rfl ?_
            refine s_iconst (v := 0) G dX6_roundOn_91 (by decide) ?_
            refine iX6_105 G (r_at (i := 0) hS1 hI1 hb1 h0) (by decide) (Nat.le_of_ble_eq_true rfl) dX6_roundOn_92 (fun r9 M9 hp9 => ?_)
            obtain ⟨rfl, rfl⟩ := hp9
            refine s_iload_n G dX6_roundOn_95 rfl ?_
            refine iX6_129 G (r_play hS1 hI1 hb1 h0) (by decide) (Nat.le_of_ble_eq_true rfl) dX6_roundOn_96 (fun r9 M9 hp9 => ?_)
            obtain ⟨d, hd, rfl, hS3, hF3, hW3⟩ := hp9
            have tail : ∀ x : Int32, x = W1 + d → V κ idsR 4 M9 [some (.ref (κ.E.ad (14, 0, 0))), some (.int W1), some (.int (nI b)), some (.int (nI (m + 1)))] [.int x] 108 := by
              rintro x rfl
              refine s_istore_n G dX6_roundOn_108 (by decide) rfl ?_
              refine s_iinc G dX6_roundOn_109 rfl (by decide) rfl (pk_m1 m) ?_
              refine s_goto G 75 dX6_roundOn_112 (by decide) ?_
              exact im (by omega) (serve1 g1 b) _ (W1 + d) hS3 (hI1.srv1 hb1) (serve1_n.trans hn1) (hF3.trans hF1) (by rw [hW3, hW1, Int32.add_assoc]) hG
            rcases hd with rfl | rfl
            · refine s_if_eq G 106 dX6_roundOn_99 (by decide) (fun h99 => ?_) (fun h99 => ?_)
              · refine s_iconst (v := 0) G dX6_roundOn_106 (by decide) ?_
                refine s_iadd G dX6_roundOn_107 ?_
                exact tail _ rfl
              · exact absurd rfl h99
            · refine s_if_eq G 106 dX6_roundOn_99 (by decide) (fun h99 => ?_) (fun h99 => ?_)
              · exact absurd h99 (by decide)
              · refine s_iconst (v := 1) G dX6_roundOn_102 (by decide) ?_
                refine s_goto G 107 dX6_roundOn_103 (by decide) ?_
                refine s_iadd G dX6_roundOn_107 ?_
                exact tail _ rfl
      refine s_aload_n G dX6_roundOn_69 rfl ?_
      refine s_iload_n G dX6_roundOn_70 rfl ?_
      refine iX6_90 G (r_working hS2 hIs) (by decide) (Nat.le_of_ble_eq_true rfl) dX6_roundOn_71 (fun r9 M9 hp9 => ?_)
      obtain ⟨rfl, rfl⟩ := hp9
      refine s_istore_n G dX6_roundOn_74 (by decide) rfl ?_
      exact inner (wk g0 b) (by omega) g0 _ W hS2 hIs rfl hF2 hW hs9.symm
  have p1 : ∀ n v, v + n = (rnd1 g).nv → ∀ M1 : Mem, SimR M1 (chooseN (rnd1 g) v) 0 → M1 (14, 0, 0) = N (14, 0, 0) → V κ idsR 4 M1 [some (.ref (κ.E.ad (14, 0, 0))), some (.int 0), some (.int (nI v)), none] [] 20 := by
    intro n
    induction n with
    | zero =>
      intro v hv M1 hS1 hF1
      have hv : v = (rnd1 g).nv := by omega
      subst hv
      have e : (chooseN (rnd1 g) (rnd1 g).nv).nv = (rnd1 g).nv := nv_of (chooseN_n _)
      refine s_iload_n G dX6_roundOn_20 rfl ?_
      refine s_aload_n G dX6_roundOn_21 rfl ?_
      refine gX6_42 G dX6_roundOn_22 ?_
      rw [hS1.nv, e]
      refine s_icmp_ge G 48 dX6_roundOn_25 (by decide) (fun h25 => ?_) (fun h25 => ?_)
      · refine s_iconst (v := 0) G dX6_roundOn_48 (by decide) ?_
        refine s_istore_n G dX6_roundOn_49 (by decide) rfl ?_
        exact p2 (rnd2 g).nb 0 (by omega) M1 0 hS1 hF1 (by rw [Int32.add_zero]; exact won_rnd2)
      · exact absurd (Int32.le_refl _) h25
    | succ n ih =>
      intro v hv M1 hS1 hF1
      have e : (chooseN (rnd1 g) v).nv = (rnd1 g).nv := nv_of (chooseN_n _)
      have hl : v < (rnd1 g).nv := by omega
      have hl2 : v < (chooseN (rnd1 g) v).nv := by rw [e]; exact hl
      have h16 := hI1.nv16
      have hv16 : v < 16 := by omega
      have hIs := hI1.chooseN v (by omega)
      refine s_iload_n G dX6_roundOn_20 rfl ?_
      refine s_aload_n G dX6_roundOn_21 rfl ?_
      refine gX6_42 G dX6_roundOn_22 ?_
      rw [hS1.nv, e]
      refine s_icmp_ge G 48 dX6_roundOn_25 (by decide) (fun h25 => ?_) (fun h25 => ?_)
      · exact absurd h25 (nI_ge hl (by omega))
      refine s_aload_n G dX6_roundOn_28 rfl ?_
      refine s_iload_n G dX6_roundOn_29 rfl ?_
      refine s_iconst (v := 2) G dX6_roundOn_30 (by decide) ?_
      refine iX6_80 G (r_vi (k := 2) hv16 (by decide)) (by decide) (Nat.le_of_ble_eq_true rfl) dX6_roundOn_31 (fun r9 M9 hp9 => ?_)
      obtain ⟨rfl, rfl⟩ := hp9
      rw [hS1.v2 hl2]
      refine s_if_ne G 42 dX6_roundOn_34 (by decide) (fun h34 => ?_) (fun h34 => ?_)
      · have ho : ¬ strl (chooseN (rnd1 g) v) v := fun q => h34 (stt_0.mpr q)
        refine s_iinc G dX6_roundOn_42 rfl (by decide) rfl (nI_1 v) ?_
        refine s_goto G 20 dX6_roundOn_45 (by decide) ?_
        refine ih (v + 1) (by omega) _ ?_ hF1
        rw [chooseN]
        rw [if_neg ho]
        exact hS1
      · have ho : strl (chooseN (rnd1 g) v) v := stt_0.mp h34
        refine s_aload_n G dX6_roundOn_37 rfl ?_
        refine s_iload_n G dX6_roundOn_38 rfl ?_
        refine iX6_126 G (r_choose hS1 hIs hl2 ho) (by decide) (Nat.le_of_ble_eq_true rfl) dX6_roundOn_39 (fun r9 M9 hp9 => ?_)
        obtain ⟨rfl, hS2, hF2⟩ := hp9
        refine s_iinc G dX6_roundOn_42 rfl (by decide) rfl (nI_1 v) ?_
        refine s_goto G 20 dX6_roundOn_45 (by decide) ?_
        refine ih (v + 1) (by omega) _ ?_ (hF2.trans hF1)
        rw [chooseN]
        rw [if_pos ho]
        exact hS2
  have p0 : ∀ M1 : Mem, SimR M1 (rnd1 g) 0 → M1 (14, 0, 0) = N (14, 0, 0) → V κ idsR 4 M1 [some (.ref (κ.E.ad (14, 0, 0))), some (.int 0), none, none] [] 18 := by
    intro M1 hS1 hF1
    refine s_iconst (v := 0) G dX6_roundOn_18 (by decide) ?_
    refine s_istore_n G dX6_roundOn_19 (by decide) rfl ?_
    exact p1 (rnd1 g).nv 0 (by omega) M1 hS1 hF1
  refine s_iconst (v := 0) G dX6_roundOn_0 (by decide) ?_
  refine s_istore_n G dX6_roundOn_1 (by decide) rfl ?_
  refine s_aload_n G dX6_roundOn_2 rfl ?_
  refine gX6_25 G dX6_roundOn_3 ?_
  refine s_iconst (v := 0) G dX6_roundOn_6 (by decide) ?_
  refine al_20 G (show (0 : Int32) = nI 0 from rfl) (by decide) dX6_roundOn_7 ?_
  rw [hS.n0]
  refine s_bipush (v := 12) G dX6_roundOn_8 (by decide) ?_
  refine s_irem G dX6_roundOn_10 (by decide) ?_
  refine s_if_ne G 18 dX6_roundOn_11 (by decide) (fun h11 => ?_) (fun h11 => ?_)
  · exact p0 N (by unfold rnd1; rw [if_neg h11]; exact hS) rfl
  · refine s_aload_n G dX6_roundOn_14 rfl ?_
    refine iX6_123 G (r_dart hS hI) (by decide) (Nat.le_of_ble_eq_true rfl) dX6_roundOn_15 (fun r9 M9 hp9 => ?_)
    obtain ⟨rfl, hS1, hF1⟩ := hp9
    exact p0 _ (by unfold rnd1; rw [if_pos h11]; exact hS1) hF1
theorem r_roundsOn {k : Nat} (hS : SimR N g 0) (hI : Inv g) (hk : k < 2 ^ 31) : Ret E idsR yX6_roundsOn cX6_roundsOn 4 (some .int) 5 113 [.ref (E.ad (14, 0, 0)), .int (nI k)] N (fun r M' => r = some (.int ((rounds9 g k).i 1 0 10 - g.i 1 0 10)) ∧ SimR M' (rounds9 g k) 0 ∧ M' (14, 0, 0) = N (14, 0, 0)) := by
  refine Ret_of_V RX6 (by decide) rfl idsR_nd [some (.ref (E.ad (14, 0, 0))), some (.int (nI k)), none, none] rfl (Nat.le_of_ble_eq_true rfl) (fun κ hE G E9 hr => ?_)
  subst hE
  have loop : ∀ n i, i + n = k → ∀ (M1 : Mem) (W : Int32), SimR M1 (rounds9 g i) 0 → M1 (14, 0, 0) = N (14, 0, 0) → (rounds9 g i).i 1 0 10 = g.i 1 0 10 + W → V κ idsR 4 M1 [some (.ref (κ.E.ad (14, 0, 0))), some (.int (nI k)), some (.int W), some (.int (nI i))] [] 4 := by
    intro n
    induction n with
    | zero =>
      intro i hi M1 W hS1 hF1 hW
      have hi : i = k := by omega
      subst hi
      refine s_iload_n G dX6_roundsOn_4 rfl ?_
      refine s_iload_n G dX6_roundsOn_5 rfl ?_
      refine s_icmp_ge G 22 dX6_roundsOn_6 (by decide) (fun h6 => ?_) (fun h6 => ?_)
      · refine s_iload_n G dX6_roundsOn_22 rfl ?_
        refine s_iret G E9 hr dX6_roundsOn_23 ⟨by rw [hW, Int32.add_comm, Int32.add_sub_cancel], hS1, hF1⟩
      · exact absurd (Int32.le_refl _) h6
    | succ n ih =>
      intro i hi M1 W hS1 hF1 hW
      refine s_iload_n G dX6_roundsOn_4 rfl ?_
      refine s_iload_n G dX6_roundsOn_5 rfl ?_
      refine s_icmp_ge G 22 dX6_roundsOn_6 (by decide) (fun h6 => ?_) (fun h6 => ?_)
      · exact absurd h6 (nI_ge (by omega) hk)
      refine s_iload_n G dX6_roundsOn_9 rfl ?_
      refine s_aload_n G dX6_roundsOn_10 rfl ?_
      refine iX6_136 G (r_roundOn hS1 (hI.rounds i)) (by decide) (Nat.le_of_ble_eq_true rfl) dX6_roundsOn_11 (fun r9 M9 hp9 => ?_)
      obtain ⟨d, rfl, hd, hS2, hF2⟩ := hp9
      refine s_iadd G dX6_roundsOn_14 ?_
      refine s_istore_n G dX6_roundsOn_15 (by decide) rfl ?_
      refine s_iinc G dX6_roundsOn_16 rfl (by decide) rfl (nI_1 i) ?_
      refine s_goto G 4 dX6_roundsOn_19 (by decide) ?_
      refine ih (i + 1) (by omega) _ (W + d) hS2 (hF2.trans hF1) ?_
      rw [rounds9, hd, hW, Int32.add_assoc]
  refine s_iconst (v := 0) G dX6_roundsOn_0 (by decide) ?_
  refine s_istore_n G dX6_roundsOn_1 (by decide) rfl ?_
  refine s_iconst (v := 0) G dX6_roundsOn_2 (by decide) ?_
  refine s_istore_n G dX6_roundsOn_3 (by decide) rfl ?_
  exact loop k 0 (by omega) N 0 hS rfl (by rw [Int32.add_zero]; rfl)
end RO
