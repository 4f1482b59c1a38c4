/-! ===== the law's green: one play of a round ===== -/
section PlP
variable {g : GS}
theorem set_comm {kd a k kd2 a2 k2 : Nat} {x y : Int32} (h : ¬ (kd = kd2 ∧ a = a2 ∧ k = k2)) : (g.set kd a k x).set kd2 a2 k2 y = (g.set kd2 a2 k2 y).set kd a k x := by
  have e : (fun p q r => if p = kd2 ∧ q = a2 ∧ r = k2 then y else if p = kd ∧ q = a ∧ r = k then x else g.1 p q r) = fun p q r => if p = kd ∧ q = a ∧ r = k then x else if p = kd2 ∧ q = a2 ∧ r = k2 then y else g.1 p q r := by
    funext p q r
    by_cases h1 : p = kd2 ∧ q = a2 ∧ r = k2
    · rw [if_pos h1, if_neg (fun z => h ⟨z.1.symm.trans h1.1, z.2.1.symm.trans h1.2.1, z.2.2.symm.trans h1.2.2⟩), if_pos h1]
    · rw [if_neg h1, if_neg h1]
  exact congrArg (fun f => (f, g.2)) e
theorem set_same {kd a k : Nat} {x : Int32} (h : g.i kd a k = x) : g.set kd a k x = g := by
  have e : (fun p q r => if p = kd ∧ q = a ∧ r = k then x else g.1 p q r) = g.1 := by
    funext p q r
    split
    · rename_i h1
      obtain ⟨rfl, rfl, rfl⟩ := h1
      exact h.symm
    · rfl
  exact congrArg (fun f => (f, g.2)) e
theorem set_bd {kd a k : Nat} {x : Int32} {L : List Ln} : (g.setbd L).set kd a k x = (g.set kd a k x).setbd L := rfl
theorem cst_set {kd a k b : Nat} {x : Int32} (h : ¬ (kd = 1 ∧ k = 9)) (h2 : ¬ (kd = 2 ∧ k = 0)) : cst (g.set kd a k x) b = cst g b := cst_congr b (by rw [gi_set, if_neg (by omega)]) (by rw [gi_set, if_neg (by omega)])
end PlP
section Pl
variable {κ : KX} {σ σ0 : Sg} {ω0 : WS} {g : GS} {w W0 : Int32} {cN dN : Nat}
/-- where the play has come before the prize -/
def play8 (g : GS) (v b : Nat) : GS := ((((((((g.set 4 v 0 (g.i 4 v 0 - cst g b)).set 2 b 6 (g.i 2 b 6 + cst g b)).set 2 b 5 (g.i 2 b 5 + 1)).setbd (bdIns g.bd (v, b, pts g v b))).set 10 v b (min9 (g.i 10 v b + 1) 9)).set 4 v 6 (g.i 4 v 6 + 1)).set 4 v 7 (max9 (g.i 4 v 7) (pts g v b))))
theorem play9_eq {v b : Nat} : play9 g v b = if g.i 2 b 1 ≤ pts g v b ∧ 0 < g.i 2 b 2 then (((play8 g v b).set 2 b 2 (g.i 2 b 2 - 1)).set 4 v 4 (g.i 4 v 4 + 1)).set 1 0 10 (g.i 1 0 10 + 1) else play8 g v b := by
  have e : (((((((g.set 4 v 0 (g.i 4 v 0 - cst g b)).set 2 b 6 (g.i 2 b 6 + cst g b)).setbd (bdIns g.bd (v, b, pts g v b))).set 10 v b (min9 (g.i 10 v b + 1) 9)).set 4 v 6 (g.i 4 v 6 + 1)).set 2 b 5 (g.i 2 b 5 + 1)).set 4 v 7 (max9 (g.i 4 v 7) (pts g v b))) = play8 g v b := by
    unfold play8
    congr 1
    rw [set_comm (kd := 4) (k := 6) (kd2 := 2) (by omega), set_comm (kd := 10) (kd2 := 2) (by omega), set_bd]
  show (if _ then _ else _) = _
  rw [e]
theorem p_play (G : Gd κ cX6_pass 8 RX6 3 71) (hc9 : cN + 13 ≤ κ.R.cells) (hd9 : dN + 48 ≤ κ.R.slots) (hP : SPost κ.E σ0 ω0 g w σ) (hI : Inv g) {v b : Nat} (hv : v < g.nv) (hb : b < g.nb) {t9 k9 : Int32} (K : ∀ σ', SPost κ.E σ0 ω0 (play9 g v b) w σ' → HV κ 8 σ' (cN + 13) (dN + 48) [some (.ref (ω0.ad (21, 0, 0))), some (.int ((play9 g v b).i 1 0 10 - W0)), some (.int (nI b)), some (.int t9), some (.int k9), none, none, none] [] 384) : HV κ 8 σ cN dN [some (.ref (ω0.ad (21, 0, 0))), some (.int (g.i 1 0 10 - W0)), some (.int (nI b)), some (.int t9), some (.int k9), some (.int (nI v)), some (.ref (ω0.ad (35, v, 0))), none] [] 178 := by
  have hb8 := hI.nb8
  have hv16 := hI.nv16
  obtain ⟨ω, hL, hG, hst, hk⟩ := hP
  have hst0 := hst
  rw [← hst (21, 0, 0) (by decide) (by decide), ← hst (35, v, 0) (by show (35 : Nat) ≠ 33; decide) (by show (35 : Nat) ≠ 26; decide)]
  refine h_aload G dX6_pass_178 rfl ?_
  refine h_dup G dX6_pass_180 rfl ?_
  refine wgX6_54 G hL (by first | assumption | omega | (rw [hG.nb]; omega) | (rw [hG.nh]; omega) | (rw [hG.nv]; omega)) dX6_pass_181 ?_
  rw [hG.vi hv (by decide), show vfc g v 0 = g.i 4 v 0 from rfl]
  refine h_aload_n G dX6_pass_184 rfl ?_
  refine h_iload_n G dX6_pass_185 rfl ?_
  refine wiX6_74 G (hL.1 (21, 0, 0) trivial) (m_cost hL hG hb) (by decide) (Nat.le_of_ble_eq_true rfl) (by omega) (by omega) dX6_pass_186 (fun r9 σ9 hp9 => ?_)
  obtain ⟨rfl, rfl⟩ := hp9
  refine h_isub G dX6_pass_189 ?_
  refine wpX6_54 G hL (by first | assumption | omega | (rw [hG.nb]; omega) | (rw [hG.nh]; omega) | (rw [hG.nv]; omega)) dX6_pass_190 (fun σ9 ω9 ha9 hs9 hL9 hk9 => ?_)
  try rw [← ha9]
  replace hk := KpS.tr hk hk9
  replace hst := hst.tr (Stb.of_ad ha9)
  clear hL hk9 ha9
  have hL := hL9
  clear hL9
  replace hG := hs9 (fun z => SimG z _ _) (hG.v35 (x := g.i 4 v 0 - cst g b) (by decide) (by decide) (by decide))
  clear hs9
  obtain ⟨g1, hg1⟩ : ∃ g1, g1 = g.set 4 v 0 (g.i 4 v 0 - cst g b) := ⟨_, rfl⟩
  rw [← hg1] at hG
  have hb1 : b < g1.nb := by rw [hg1]; exact hb
  have i1 : ∀ p q r, ¬ (p = 4 ∧ q = v ∧ r = 0) → g1.i p q r = g.i p q r := fun p q r h => by rw [hg1, gi_set, if_neg h]
  have c1 : cst g1 b = cst g b := by rw [hg1]; exact cst_set (by omega) (by omega)
  have w1 : wk g1 b = wk g b := by rw [hg1]; exact wk_set (by omega) b
  refine h_aload_n G dX6_pass_193 rfl ?_
  refine wgX6_18 G hL dX6_pass_194 ?_
  refine h_iload_n G dX6_pass_197 rfl ?_
  refine war_22 G hL rfl (by first | assumption | omega | (rw [hG.nb]; omega) | (rw [hG.nh]; omega) | (rw [hG.nv]; omega)) dX6_pass_198 ?_
  refine h_iconst (v := 5) G dX6_pass_199 (by decide) ?_
  refine h_dup2 G dX6_pass_200 rfl rfl ?_
  refine wal_32 G hL (by first | assumption | omega | (rw [hG.nb]; omega) | (rw [hG.nh]; omega) | (rw [hG.nv]; omega)) (show (5 : Int32) = nI 5 from rfl) (by decide) dX6_pass_201 ?_
  rw [hG.b5 hb1, i1 _ _ _ (by omega)]
  refine h_aload_n G dX6_pass_202 rfl ?_
  refine h_iload_n G dX6_pass_203 rfl ?_
  refine wiX6_74 G (hL.1 (21, 0, 0) trivial) (m_cost hL hG hb1) (by decide) (Nat.le_of_ble_eq_true rfl) (by omega) (by omega) dX6_pass_204 (fun r9 σ9 hp9 => ?_)
  obtain ⟨rfl, rfl⟩ := hp9
  rw [c1]
  refine h_iadd G dX6_pass_207 ?_
  refine was_32 G hL (by first | assumption | omega | (rw [hG.nb]; omega) | (rw [hG.nh]; omega) | (rw [hG.nv]; omega)) (show (5 : Int32) = nI 5 from rfl) (by decide) dX6_pass_208 (fun σ9 ω9 ha9 hs9 hL9 hk9 => ?_)
  try rw [← ha9]
  replace hk := KpS.tr hk hk9
  replace hst := hst.tr (Stb.of_ad ha9)
  clear hL hk9 ha9
  have hL := hL9
  clear hL9
  replace hG := hs9 (fun z => SimG z _ _) (hG.b32 (x := g.i 2 b 6 + cst g b) (Or.inr (Or.inr ⟨rfl, rfl⟩)))
  clear hs9
  obtain ⟨g2, hg2⟩ : ∃ g2, g2 = g1.set 2 b 6 (g.i 2 b 6 + cst g b) := ⟨_, rfl⟩
  rw [← hg2] at hG
  have hb2 : b < g2.nb := by rw [hg2]; exact hb1
  have i2 : ∀ p q r, ¬ (p = 4 ∧ q = v ∧ r = 0) → ¬ (p = 2 ∧ q = b ∧ r = 6) → g2.i p q r = g.i p q r := fun p q r h h2 => by rw [hg2, gi_set, if_neg h2, i1 _ _ _ h]
  refine h_aload_n G dX6_pass_209 rfl ?_
  refine wgX6_18 G hL dX6_pass_210 ?_
  refine h_iload_n G dX6_pass_213 rfl ?_
  refine war_22 G hL rfl (by first | assumption | omega | (rw [hG.nb]; omega) | (rw [hG.nh]; omega) | (rw [hG.nv]; omega)) dX6_pass_214 ?_
  refine h_iconst (v := 4) G dX6_pass_215 (by decide) ?_
  refine h_dup2 G dX6_pass_216 rfl rfl ?_
  refine wal_32 G hL (by first | assumption | omega | (rw [hG.nb]; omega) | (rw [hG.nh]; omega) | (rw [hG.nv]; omega)) (show (4 : Int32) = nI 4 from rfl) (by decide) dX6_pass_217 ?_
  rw [hG.b4 hb2, i2 _ _ _ (by omega) (by omega)]
  refine h_iconst (v := 1) G dX6_pass_218 (by decide) ?_
  refine h_iadd G dX6_pass_219 ?_
  refine was_32 G hL (by first | assumption | omega | (rw [hG.nb]; omega) | (rw [hG.nh]; omega) | (rw [hG.nv]; omega)) (show (4 : Int32) = nI 4 from rfl) (by decide) dX6_pass_220 (fun σ9 ω9 ha9 hs9 hL9 hk9 => ?_)
  try rw [← ha9]
  replace hk := KpS.tr hk hk9
  replace hst := hst.tr (Stb.of_ad ha9)
  clear hL hk9 ha9
  have hL := hL9
  clear hL9
  replace hG := hs9 (fun z => SimG z _ _) (hG.b32 (x := g.i 2 b 5 + 1) (Or.inr (Or.inl ⟨rfl, rfl⟩)))
  clear hs9
  obtain ⟨g3, hg3⟩ : ∃ g3, g3 = g2.set 2 b 5 (g.i 2 b 5 + 1) := ⟨_, rfl⟩
  rw [← hg3] at hG
  have hb3 : b < g3.nb := by rw [hg3]; exact hb2
  have hv3 : v < g3.nv := by rw [hg3, hg2, hg1]; exact hv
  have i3 : ∀ p q r, ¬ (p = 4 ∧ q = v ∧ r = 0) → ¬ (p = 2 ∧ q = b ∧ (r = 6 ∨ r = 5)) → g3.i p q r = g.i p q r := fun p q r h h2 => by rw [hg3, gi_set, if_neg (by omega), i2 _ _ _ h (by omega)]
  have w3 : wk g3 b = wk g b := by rw [hg3, wk_set (by omega), hg2, wk_set (by omega)]; exact w1
  have I3 : Inv g3 := by
    rw [hg3, hg2, hg1]
    exact ((hI.v4 (by decide) (by decide)).b2 (fun z => by omega)).b2 (fun z => by omega)
  have hgs : g3 = ((g.set 4 v 0 (g.i 4 v 0 - cst g b)).set 2 b 6 (g.i 2 b 6 + cst g b)).set 2 b 5 (g.i 2 b 5 + 1) := by rw [hg3, hg2, hg1]
  clear hg3 hg2 hg1 i2 i1 c1 w1 hb1 hb2
  have hv16 : g3.nv ≤ 16 := I3.nv16
  have hb88 : g3.nb ≤ 8 := I3.nb8
  refine h_aload G dX6_pass_221 rfl ?_
  refine wgX6_57 G hL (by first | assumption | omega | (rw [hG.nb]; omega) | (rw [hG.nh]; omega) | (rw [hG.nv]; omega)) dX6_pass_223 ?_
  rw [hG.vi hv3 (by decide), show vfc g3 v 1 = g3.i 4 v 1 from rfl, i3 _ _ _ (by omega) (by omega)]
  refine h_iconst (v := 3) G dX6_pass_226 (by decide) ?_
  refine h_aload G dX6_pass_227 rfl ?_
  refine wgX6_77 G hL (by first | assumption | omega | (rw [hG.nb]; omega) | (rw [hG.nh]; omega) | (rw [hG.nv]; omega)) dX6_pass_229 ?_
  refine h_iload_n G dX6_pass_232 rfl ?_
  refine wal_45 G hL (by rw [hG.nv]; exact hv3) rfl (by omega) dX6_pass_233 ?_
  rw [hG.pr hv3 (by omega), i3 _ _ _ (by omega) (by omega)]
  refine h_imul G dX6_pass_234 ?_
  refine h_iadd G dX6_pass_235 ?_
  refine h_iconst (v := 5) G dX6_pass_236 (by decide) ?_
  refine h_aload_n G dX6_pass_237 rfl ?_
  refine h_iload_n G dX6_pass_238 rfl ?_
  refine wiX6_60 G (hL.1 (21, 0, 0) trivial) (m_working hL hG I3 b) (by decide) (Nat.le_of_ble_eq_true rfl) (by omega) (by omega) dX6_pass_239 (fun r9 σ9 hp9 => ?_)
  obtain ⟨rfl, rfl⟩ := hp9
  rw [w3]
  refine h_aload_n G dX6_pass_242 rfl ?_
  refine wgX6_18 G hL dX6_pass_243 ?_
  refine h_iload_n G dX6_pass_246 rfl ?_
  refine war_22 G hL rfl (by first | assumption | omega | (rw [hG.nb]; omega) | (rw [hG.nh]; omega) | (rw [hG.nv]; omega)) dX6_pass_247 ?_
  refine h_iconst (v := 3) G dX6_pass_248 (by decide) ?_
  refine wal_32 G hL (by first | assumption | omega | (rw [hG.nb]; omega) | (rw [hG.nh]; omega) | (rw [hG.nv]; omega)) (show (3 : Int32) = nI 3 from rfl) (by decide) dX6_pass_249 ?_
  rw [hG.bo hb3 (by decide), i3 _ _ _ (by omega) (by omega)]
  refine h_isub G dX6_pass_250 ?_
  refine h_imul G dX6_pass_251 ?_
  refine h_iadd G dX6_pass_252 ?_
  refine h_istore G dX6_pass_253 (by decide) rfl ?_
  refine h_iload G dX6_pass_255 rfl ?_
  refine h_aload_n G dX6_pass_257 rfl ?_
  refine wgX6_13 G hL dX6_pass_258 ?_
  rw [hG.mk, i3 _ _ _ (by omega) (by omega)]
  refine h_iload_n G dX6_pass_261 rfl ?_
  have key : ∀ p : Int32, p = pts g v b → HV κ 8 σ9 cN dN [some (.ref (ω9.ad (21, 0, 0))), some (.int (g.i 1 0 10 - W0)), some (.int (nI b)), some (.int t9), some (.int k9), some (.int (nI v)), some (.ref (ω9.ad (35, v, 0))), some (.int p)] [] 273 := by
    intro p hp
    have hbd3 : g3.bd = g.bd := by rw [hgs]; rfl
    refine h_aload_n G dX6_pass_273 rfl ?_
    refine h_iload G dX6_pass_274 rfl ?_
    refine h_iload_n G dX6_pass_276 rfl ?_
    refine h_iload G dX6_pass_277 rfl ?_
    refine wiX6_102 G (hL.1 (21, 0, 0) trivial) (m_write hL hG I3.bd3) (by decide) (Nat.le_of_ble_eq_true rfl) (by omega) (by omega) dX6_pass_279 (fun r9 σ9 hp9 => ?_)
    obtain ⟨rfl, ω2, hL2, hG2, hst2, hk2⟩ := hp9
    rw [← hst2 (21, 0, 0) (by decide) (by decide), ← hst2 (35, v, 0) (by show (35 : Nat) ≠ 33; decide) (by show (35 : Nat) ≠ 26; decide)]
    replace hst := hst.tr hst2
    replace hk := hk.tr hk2
    clear hL hG hst2 hk2
    have hL := hL2
    have hG := hG2
    clear hL2 hG2
    rw [hbd3] at hG
    obtain ⟨g4, hg4⟩ : ∃ g4, g4 = g3.setbd (bdIns g.bd (v, b, p)) := ⟨_, rfl⟩
    rw [← hg4] at hG
    have hb4 : b < g4.nb := by rw [hg4]; exact hb3
    have hv4 : v < g4.nv := by rw [hg4]; exact hv3
    have i4 : ∀ p q r, ¬ (p = 4 ∧ q = v ∧ r = 0) → ¬ (p = 2 ∧ q = b ∧ (r = 6 ∨ r = 5)) → g4.i p q r = g.i p q r := fun p q r h h2 => by rw [hg4]; exact i3 p q r h h2
    obtain ⟨g5, hg5⟩ : ∃ g5, g5 = g4.set 10 v b (min9 (g.i 10 v b + 1) 9) := ⟨_, rfl⟩
    have i5 : ∀ p q r, ¬ (p = 4 ∧ q = v ∧ r = 0) → ¬ (p = 2 ∧ q = b ∧ (r = 6 ∨ r = 5)) → p ≠ 10 → g5.i p q r = g.i p q r := fun p q r h h2 h3 => by rw [hg5, gi_set, if_neg (by omega)]; exact i4 p q r h h2
    have hb5 : b < g5.nb := by rw [hg5]; exact hb4
    have hv5 : v < g5.nv := by rw [hg5]; exact hv4
    have hp8 : (g5.set 4 v 6 (g.i 4 v 6 + 1)).set 4 v 7 (max9 (g.i 4 v 7) p) = play8 g v b := by rw [hg5, hg4, hgs, hp]; rfl
    have p8 : ∀ kd a k, (kd = 2 ∧ (k = 1 ∨ k = 2)) ∨ (kd = 4 ∧ k = 4) ∨ kd = 1 → (play8 g v b).i kd a k = g.i kd a k := fun kd a k h => by
      rw [← hp8, gi_set, if_neg (by omega), gi_set, if_neg (by omega)]
      exact i5 _ _ _ (by omega) (by omega) (by omega)
    have hb8' : b < (play8 g v b).nb := hb
    have hv8' : v < (play8 g v b).nv := hv
    have rest : ∀ (σ9 : Sg) (ω9 : WS), LayS κ.E σ9 ω9 → SimG ω9 g5 w → Stb ω0 ω9 → KpS σ0 σ9 → HV κ 8 σ9 (cN + 13) (dN + 48) [some (.ref (ω9.ad (21, 0, 0))), some (.int (g.i 1 0 10 - W0)), some (.int (nI b)), some (.int t9), some (.int k9), some (.int (nI v)), some (.ref (ω9.ad (35, v, 0))), some (.int p)] [] 305 := by
      intro σ9 ω9 hL hG hst hk
      clear i3 i4 hv4 hb4 hg4 hgs
      refine h_aload G dX6_pass_305 rfl ?_
      refine h_dup G dX6_pass_307 rfl ?_
      refine wgX6_106 G hL (by first | assumption | omega | (rw [hG.nb]; omega) | (rw [hG.nh]; omega) | (rw [hG.nv]; omega)) dX6_pass_308 ?_
      rw [hG.vi hv5 (by decide), show vfc g5 v 6 = g5.i 4 v 6 from rfl, i5 _ _ _ (by omega) (by omega) (by omega)]
      refine h_iconst (v := 1) G dX6_pass_311 (by decide) ?_
      refine h_iadd G dX6_pass_312 ?_
      refine wpX6_106 G hL (by first | assumption | omega | (rw [hG.nb]; omega) | (rw [hG.nh]; omega) | (rw [hG.nv]; omega)) dX6_pass_313 (fun σ9 ω9 ha9 hs9 hL9 hk9 => ?_)
      try rw [← ha9]
      replace hk := KpS.tr hk hk9
      replace hst := hst.tr (Stb.of_ad ha9)
      clear hL hk9 ha9
      have hL := hL9
      clear hL9
      replace hG := hs9 (fun z => SimG z _ _) (hG.v35 (x := g.i 4 v 6 + 1) (by decide) (by decide) (by decide))
      clear hs9
      have hv6 : v < (g5.set 4 v 6 (g.i 4 v 6 + 1)).nv := hv5
      refine h_aload G dX6_pass_316 rfl ?_
      refine h_aload G dX6_pass_318 rfl ?_
      refine wgX6_109 G hL (by first | assumption | omega | (rw [hG.nb]; omega) | (rw [hG.nh]; omega) | (rw [hG.nv]; omega)) dX6_pass_320 ?_
      rw [hG.vi hv6 (by decide), show vfc (g5.set 4 v 6 (g.i 4 v 6 + 1)) v 7 = (g5.set 4 v 6 (g.i 4 v 6 + 1)).i 4 v 7 from rfl, gi_set, if_neg (by omega), i5 _ _ _ (by omega) (by omega) (by omega)]
      refine h_iload G dX6_pass_323 rfl ?_
      refine wiX6_112 G dX6_pass_325 (by decide) (Nat.le_of_ble_eq_true rfl) (by omega) (by omega) ?_
      refine wpX6_109 G hL (by first | assumption | omega | (rw [hG.nb]; omega) | (rw [hG.nh]; omega) | (rw [hG.nv]; omega)) dX6_pass_328 (fun σ9 ω9 ha9 hs9 hL9 hk9 => ?_)
      try rw [← ha9]
      replace hk := KpS.tr hk hk9
      replace hst := hst.tr (Stb.of_ad ha9)
      clear hL hk9 ha9
      have hL := hL9
      clear hL9
      replace hG := hs9 (fun z => SimG z _ _) (hG.v35 (x := max9 (g.i 4 v 7) p) (by decide) (by decide) (by decide))
      clear hs9
      rw [hp8] at hG
      have hfin : ∀ σ' ω', LayS κ.E σ' ω' → SimG ω' (play9 g v b) w → Stb ω0 ω' → KpS σ0 σ' → SPost κ.E σ0 ω0 (play9 g v b) w σ' := fun σ' ω' a b c d => ⟨ω', a, b, c, d⟩
      refine h_iload G dX6_pass_331 rfl ?_
      refine h_aload_n G dX6_pass_333 rfl ?_
      refine wgX6_18 G hL dX6_pass_334 ?_
      refine h_iload_n G dX6_pass_337 rfl ?_
      refine war_22 G hL rfl (by first | assumption | omega | (rw [hG.nb]; omega) | (rw [hG.nh]; omega) | (rw [hG.nv]; omega)) dX6_pass_338 ?_
      refine h_iconst (v := 1) G dX6_pass_339 (by decide) ?_
      refine wal_32 G hL (by first | assumption | omega | (rw [hG.nb]; omega) | (rw [hG.nh]; omega) | (rw [hG.nv]; omega)) (show (1 : Int32) = nI 1 from rfl) (by decide) dX6_pass_340 ?_
      rw [hG.bo hb8' (by decide), p8 _ _ _ (Or.inl ⟨rfl, Or.inl rfl⟩)]
      refine h_icmp_lt G 384 dX6_pass_341 (by decide) (fun h341 => ?_) (fun h341 => ?_)
      · have e : play9 g v b = play8 g v b := by rw [play9_eq, if_neg (fun q => i_nlt.mpr q.1 (by rw [← hp]; exact h341))]
        have K2 := K _ (hfin _ _ hL (by rw [e]; exact hG) hst hk)
        rw [e, p8 1 0 10 (Or.inr (Or.inr rfl))] at K2
        rw [hst (21, 0, 0) (by decide) (by decide)]
        exact HV.drop1 5 (HV.drop1 6 (HV.drop1 7 K2))
      have hgoal : g.i 2 b 1 ≤ pts g v b := by rw [← hp]; exact i_nlt.mp h341
      refine h_aload_n G dX6_pass_344 rfl ?_
      refine wgX6_18 G hL dX6_pass_345 ?_
      refine h_iload_n G dX6_pass_348 rfl ?_
      refine war_22 G hL rfl (by first | assumption | omega | (rw [hG.nb]; omega) | (rw [hG.nh]; omega) | (rw [hG.nv]; omega)) dX6_pass_349 ?_
      refine h_iconst (v := 2) G dX6_pass_350 (by decide) ?_
      refine wal_32 G hL (by first | assumption | omega | (rw [hG.nb]; omega) | (rw [hG.nh]; omega) | (rw [hG.nv]; omega)) (show (2 : Int32) = nI 2 from rfl) (by decide) dX6_pass_351 ?_
      rw [hG.bo hb8' (by decide), p8 _ _ _ (Or.inl ⟨rfl, Or.inr rfl⟩)]
      have hpz := hI.bpz hb
      refine h_if_ne G 358 dX6_pass_352 (by decide) (fun h352 => ?_) (fun h352 => ?_)
      rotate_left
      · have e : play9 g v b = play8 g v b := by rw [play9_eq, if_neg (fun q => absurd q.2 (by rw [h352]; decide))]
        have K2 := K _ (hfin _ _ hL (by rw [e]; exact hG) hst hk)
        rw [e, p8 1 0 10 (Or.inr (Or.inr rfl))] at K2
        rw [hst (21, 0, 0) (by decide) (by decide)]
        refine h_goto G 384 dX6_pass_355 (by decide) ?_
        exact HV.drop1 5 (HV.drop1 6 (HV.drop1 7 K2))
      have hpos : 0 < g.i 2 b 2 := by
        have h1 := hpz.1
        rw [Int32.le_iff_toInt_le] at h1
        rw [Int32.lt_iff_toInt_lt]
        have : (g.i 2 b 2).toInt ≠ (0 : Int32).toInt := fun q => h352 (Int32.toInt_inj.mp q)
        omega
      have e : play9 g v b = (((play8 g v b).set 2 b 2 (g.i 2 b 2 - 1)).set 4 v 4 (g.i 4 v 4 + 1)).set 1 0 10 (g.i 1 0 10 + 1) := by rw [play9_eq, if_pos ⟨hgoal, hpos⟩]
      refine h_aload_n G dX6_pass_358 rfl ?_
      refine wgX6_18 G hL dX6_pass_359 ?_
      refine h_iload_n G dX6_pass_362 rfl ?_
      refine war_22 G hL rfl (by first | assumption | omega | (rw [hG.nb]; omega) | (rw [hG.nh]; omega) | (rw [hG.nv]; omega)) dX6_pass_363 ?_
      refine h_iconst (v := 2) G dX6_pass_364 (by decide) ?_
      refine h_dup2 G dX6_pass_365 rfl rfl ?_
      refine wal_32 G hL (by first | assumption | omega | (rw [hG.nb]; omega) | (rw [hG.nh]; omega) | (rw [hG.nv]; omega)) (show (2 : Int32) = nI 2 from rfl) (by decide) dX6_pass_366 ?_
      rw [hG.bo hb8' (by decide), p8 _ _ _ (Or.inl ⟨rfl, Or.inr rfl⟩)]
      refine h_iconst (v := 1) G dX6_pass_367 (by decide) ?_
      refine h_isub G dX6_pass_368 ?_
      refine was_32 G hL (by first | assumption | omega | (rw [hG.nb]; omega) | (rw [hG.nh]; omega) | (rw [hG.nv]; omega)) (show (2 : Int32) = nI 2 from rfl) (by decide) dX6_pass_369 (fun σ9 ω9 ha9 hs9 hL9 hk9 => ?_)
      try rw [← ha9]
      replace hk := KpS.tr hk hk9
      replace hst := hst.tr (Stb.of_ad ha9)
      clear hL hk9 ha9
      have hL := hL9
      clear hL9
      replace hG := hs9 (fun z => SimG z _ _) (hG.b32 (x := g.i 2 b 2 - 1) (Or.inl ⟨by decide, rfl⟩))
      clear hs9
      have hv9 : v < ((play8 g v b).set 2 b 2 (g.i 2 b 2 - 1)).nv := hv
      refine h_aload G dX6_pass_370 rfl ?_
      refine h_dup G dX6_pass_372 rfl ?_
      refine wgX6_115 G hL (by first | assumption | omega | (rw [hG.nb]; omega) | (rw [hG.nh]; omega) | (rw [hG.nv]; omega)) dX6_pass_373 ?_
      rw [hG.vi hv9 (by decide), show vfc ((play8 g v b).set 2 b 2 (g.i 2 b 2 - 1)) v 4 = ((play8 g v b).set 2 b 2 (g.i 2 b 2 - 1)).i 4 v 4 from rfl, gi_set, if_neg (by omega), p8 _ _ _ (Or.inr (Or.inl ⟨rfl, rfl⟩))]
      refine h_iconst (v := 1) G dX6_pass_376 (by decide) ?_
      refine h_iadd G dX6_pass_377 ?_
      refine wpX6_115 G hL (by first | assumption | omega | (rw [hG.nb]; omega) | (rw [hG.nh]; omega) | (rw [hG.nv]; omega)) dX6_pass_378 (fun σ9 ω9 ha9 hs9 hL9 hk9 => ?_)
      try rw [← ha9]
      replace hk := KpS.tr hk hk9
      replace hst := hst.tr (Stb.of_ad ha9)
      clear hL hk9 ha9
      have hL := hL9
      clear hL9
      replace hG := hs9 (fun z => SimG z _ _) (hG.v35 (x := g.i 4 v 4 + 1) (by decide) (by decide) (by decide))
      clear hs9
      refine h_iinc G dX6_pass_381 rfl (by decide) rfl rfl ?_
      have K2 := K _ (hfin _ _ hL (by rw [e]; exact hG.won) hst hk)
      have e2 : (play9 g v b).i 1 0 10 - W0 = g.i 1 0 10 - W0 + Int32.ofInt 1 := by
        rw [e, gi_set, if_pos ⟨rfl, rfl, rfl⟩]
        show g.i 1 0 10 + 1 - W0 = g.i 1 0 10 - W0 + 1
        rw [Int32.sub_eq_add_neg, Int32.sub_eq_add_neg, Int32.add_assoc, Int32.add_assoc, Int32.add_comm 1]
      rw [e2] at K2
      rw [hst (21, 0, 0) (by decide) (by decide)]
      exact HV.drop1 5 (HV.drop1 6 (HV.drop1 7 K2))
    refine h_aload G dX6_pass_282 rfl ?_
    refine wgX6_77 G hL (by first | assumption | omega | (rw [hG.nb]; omega) | (rw [hG.nh]; omega) | (rw [hG.nv]; omega)) dX6_pass_284 ?_
    refine h_iload_n G dX6_pass_287 rfl ?_
    refine wal_45 G hL (by rw [hG.nv]; exact hv4) rfl (by omega) dX6_pass_288 ?_
    rw [hG.pr hv4 (by omega), i4 _ _ _ (by omega) (by omega)]
    have hpr := hI.vpr hv (b := b) (by omega)
    refine h_bipush (v := 9) G dX6_pass_289 (by decide) ?_
    have i10 : g4.i 10 v b = g.i 10 v b := i4 _ _ _ (by omega) (by omega)
    refine h_icmp_ge G 305 dX6_pass_291 (by decide) (fun h291 => ?_) (fun h291 => ?_)
    · have e : g5 = g4 := by
        rw [hg5]
        refine set_same ?_
        rw [i10]
        have h1 := hpr.2
        have h2 : (9 : Int32) ≤ g.i 10 v b := h291
        have h3 : g.i 10 v b = 9 := by
          rw [Int32.le_iff_toInt_le] at h1 h2
          exact Int32.toInt_inj.mp (by omega)
        rw [h3]; rfl
      exact rest _ _ hL (by rw [e]; exact hG) hst hk
    · have h291 : ¬ (9 : Int32) ≤ g.i 10 v b := h291
      have hmin : min9 (g.i 10 v b + 1) 9 = g.i 10 v b + 1 := by
        unfold min9
        rw [if_neg]
        obtain ⟨j, hj, e⟩ := nI_of2 (M := 9) (n := 9) (by decide) (i_nlt.mpr hpr.1) hpr.2
        rw [e] at h291 ⊢
        have hj9 : ¬ 9 ≤ j := fun q => h291 (nI_le (a := 9) q (by omega))
        rw [nI_1]
        exact i_nlt.mpr (nI_le (b := 9) (by omega) (by decide))
      refine h_aload G dX6_pass_294 rfl ?_
      refine wgX6_77 G hL (by first | assumption | omega | (rw [hG.nb]; omega) | (rw [hG.nh]; omega) | (rw [hG.nv]; omega)) dX6_pass_296 ?_
      refine h_iload_n G dX6_pass_299 rfl ?_
      refine h_dup2 G dX6_pass_300 rfl rfl ?_
      refine wal_45 G hL (by rw [hG.nv]; exact hv4) rfl (by omega) dX6_pass_301 ?_
      rw [hG.pr hv4 (by omega), i10]
      refine h_iconst (v := 1) G dX6_pass_302 (by decide) ?_
      refine h_iadd G dX6_pass_303 ?_
      refine was_45 G hL (by rw [hG.nv]; exact hv4) rfl (by omega) dX6_pass_304 (fun σ8 ω8 ha8 hs8 hL8 hk8 => ?_)
      rw [← ha8]
      exact rest σ8 ω8 hL8 (hs8 (fun z => SimG z _ _) (by rw [hg5, hmin]; exact hG.p45)) (hst.tr (Stb.of_ad ha8)) (hk.tr hk8)
  have hmulti : ∀ m : Int32, m = (if nI b = g.i 1 0 9 then 2 else 1) → (g.i 4 v 1 + 3 * g.i 10 v b + 5 * (nI (wk g b) - g.i 2 b 3)) * m = pts g v b := by
    intro m hm
    unfold pts
    rw [hm]
    split
    · exact Int32.mul_comm _ _
    · exact Int32.mul_one _
  refine h_icmp_ne G 269 dX6_pass_262 (by decide) (fun h262 => ?_) (fun h262 => ?_)
  · refine h_iconst (v := 1) G dX6_pass_269 (by decide) ?_
    refine h_imul G dX6_pass_270 ?_
    refine h_istore G dX6_pass_271 (by decide) rfl ?_
    exact key _ (hmulti 1 (by rw [if_neg (fun q => h262 q.symm)]))
  · refine h_iconst (v := 2) G dX6_pass_265 (by decide) ?_
    refine h_goto G 270 dX6_pass_266 (by decide) ?_
    refine h_imul G dX6_pass_270 ?_
    refine h_istore G dX6_pass_271 (by decide) rfl ?_
    exact key _ (hmulti 2 (by rw [if_pos h262.symm]))
end Pl
