/-! ===== the law's green: a round, piece by piece ===== -/
section RoP
variable {g : GS}
theorem stt_0 {v : Nat} : stt g v = 0 ↔ strl g v := by
  unfold stt
  constructor
  · intro h
    by_cases h1 : g.i 4 v 2 = 0
    · rw [if_pos h1] at h
      by_cases h2 : g.i 4 v 3 = -1
      · exact ⟨h1, h2⟩
      · rw [if_neg h2] at h; exact absurd h (by decide)
    · rw [if_neg h1] at h; exact absurd h (by decide)
  · rintro ⟨h1, h2⟩
    rw [if_pos h1, if_pos h2]
theorem min_sw (x y : Int32) : (if y < x then y else x) = min9 y x := by
  unfold min9
  by_cases h1 : y < x
  · rw [if_pos h1, if_neg (fun h2 => by rw [Int32.lt_iff_toInt_lt] at h1 h2; omega)]
  · rw [if_neg h1]
    by_cases h2 : x < y
    · rw [if_pos h2]
    · rw [if_neg h2]
      rw [Int32.lt_iff_toInt_lt] at h1 h2
      exact Int32.toInt_inj.mp (by omega)
/-- marks alone -/
def mkN (g : GS) (k : Nat) : List Ln → GS
  | [] => g
  | x :: L => mkN (g.set 4 x.1 5 (g.i 4 x.1 5 + (3 - nI k))) (k + 1) L
theorem mkN_tok {a : Nat} {y : Int32} : ∀ (L : List Ln) (g : GS) (k : Nat), mkN (g.set 4 a 0 y) k L = (mkN g k L).set 4 a 0 y
  | [], _, _ => rfl
  | x :: L, g, k => by
    show mkN ((g.set 4 a 0 y).set 4 x.1 5 ((g.set 4 a 0 y).i 4 x.1 5 + (3 - nI k))) (k + 1) L = (mkN (g.set 4 x.1 5 (g.i 4 x.1 5 + (3 - nI k))) (k + 1) L).set 4 a 0 y
    rw [gi_set, if_neg (by omega), set_comm (by omega), mkN_tok L]
theorem markN_later : ∀ (L : List Ln) (g : GS) (k : Nat), 0 < k → markN g k L = mkN g k L
  | [], _, _, _ => rfl
  | x :: L, g, k, h => by
    show markN ((g.set 4 x.1 5 (g.i 4 x.1 5 + (3 - nI k))).set 4 x.1 0 (if k = 0 then g.i 4 x.1 0 + 5 else g.i 4 x.1 0)) (k + 1) L = mkN (g.set 4 x.1 5 (g.i 4 x.1 5 + (3 - nI k))) (k + 1) L
    rw [if_neg (by omega), set_same (by rw [gi_set, if_neg (by omega)]), markN_later L _ _ (by omega)]
theorem markN_first (x : Ln) (L : List Ln) (g : GS) : markN g 0 (x :: L) = (mkN g 0 (x :: L)).set 4 x.1 0 (g.i 4 x.1 0 + 5) := by
  show markN ((g.set 4 x.1 5 (g.i 4 x.1 5 + (3 - nI 0))).set 4 x.1 0 (if 0 = 0 then g.i 4 x.1 0 + 5 else g.i 4 x.1 0)) 1 L = (mkN (g.set 4 x.1 5 (g.i 4 x.1 5 + (3 - nI 0))) 1 L).set 4 x.1 0 (g.i 4 x.1 0 + 5)
  rw [if_pos rfl, markN_later _ _ _ (by omega), mkN_tok]
theorem mkN_i0 {a : Nat} : ∀ (L : List Ln) (g : GS) (k : Nat), (mkN g k L).i 4 a 0 = g.i 4 a 0
  | [], _, _ => rfl
  | x :: L, g, k => (mkN_i0 L _ _).trans (by rw [gi_set, if_neg (by omega)])
theorem mkN_2 : ∀ (L : List Ln) (g : GS) (k : Nat), (mkN g k L).2 = g.2
  | [], _, _ => rfl
  | x :: L, g, k => (mkN_2 L _ _).trans rfl
theorem mkN_app : ∀ (L : List Ln) (g : GS) (k : Nat) (x : Ln), mkN g k (L ++ [x]) = (mkN g k L).set 4 x.1 5 ((mkN g k L).i 4 x.1 5 + (3 - nI (k + L.length)))
  | [], _, _, _ => rfl
  | y :: L, g, k, x => by
    show mkN (g.set 4 y.1 5 (g.i 4 y.1 5 + (3 - nI k))) (k + 1) (L ++ [x]) = _
    rw [mkN_app L, show k + 1 + L.length = k + (y :: L).length by simp; omega]
    rfl
theorem mkN_Inv : ∀ (L : List Ln) (g : GS) (k : Nat), Inv g → Inv (mkN g k L)
  | [], _, _, h => h
  | x :: L, g, k, h => mkN_Inv L (g.set 4 x.1 5 (g.i 4 x.1 5 + (3 - nI k))) (k + 1) (h.v4 (by decide) (by decide))
/-- those of S have left -/
def clS (g : GS) (S : Nat → Bool) : GS := (fun p q r => if p = 4 ∧ r = 3 ∧ S q = true then -1 else g.1 p q r, fun b => (g.q b).filter (fun u => !S u), g.2.2)
theorem clS_i {S : Nat → Bool} {p q r : Nat} : (clS g S).i p q r = if p = 4 ∧ r = 3 ∧ S q = true then -1 else g.i p q r := rfl
theorem clS_leave {S : Nat → Bool} {v : Nat} : leaveQ (clS g S) v = clS g (fun u => S u || u == v) := by
  have e1 : (fun p q r => if p = 4 ∧ q = v ∧ r = 3 then (-1 : Int32) else if p = 4 ∧ r = 3 ∧ S q = true then -1 else g.1 p q r) = fun p q r => if p = 4 ∧ r = 3 ∧ (S q || q == v) = true then -1 else g.1 p q r := by
    funext p q r
    by_cases h1 : p = 4 ∧ q = v ∧ r = 3
    · obtain ⟨rfl, rfl, rfl⟩ := h1
      simp
    · rw [if_neg h1]
      by_cases h2 : p = 4 ∧ r = 3 ∧ S q = true
      · rw [if_pos h2, if_pos ⟨h2.1, h2.2.1, by simp [h2.2.2]⟩]
      · rw [if_neg h2, if_neg]
        rintro ⟨a, b, c⟩
        rcases Bool.or_eq_true_iff.mp c with d | d
        · exact h2 ⟨a, b, d⟩
        · exact h1 ⟨a, by simpa using d, b⟩
  have e2 : (fun b => ((g.q b).filter (fun u => !S u)).filter (fun u => u != v)) = fun b => (g.q b).filter (fun u => !(S u || u == v)) := by
    funext b
    rw [List.filter_filter]
    congr 1
    funext u
    cases S u <;> simp [bne]
  show ((fun p q r => if p = 4 ∧ q = v ∧ r = 3 then (-1 : Int32) else if p = 4 ∧ r = 3 ∧ S q = true then -1 else g.1 p q r), (fun b => ((g.q b).filter (fun u => !S u)).filter (fun u => u != v)), g.2.2) = _
  rw [e1, e2]
  rfl
theorem clS_opn {S : Nat → Bool} {b : Nat} : opn (clS g S) b ↔ opn g b := by
  have e1 : wk (clS g S) b = wk g b := wk_congr b rfl (fun a _ => by rw [clS_i, if_neg (by omega)])
  have e2 : (clS g S).i 2 b 3 = g.i 2 b 3 := by rw [clS_i, if_neg (by omega)]
  unfold opn
  rw [e1, e2]
theorem clS_0 : clS g (fun _ => false) = g := by
  have e2 : (fun b => (g.q b).filter (fun _ => !false)) = g.q := by
    funext b
    simp
  have e1 : (fun p q r => if p = 4 ∧ r = 3 ∧ false = true then (-1 : Int32) else g.1 p q r) = g.1 := by
    funext p q r
    rw [if_neg (by simp)]
  show ((fun p q r => if p = 4 ∧ r = 3 ∧ false = true then (-1 : Int32) else g.1 p q r), (fun b => (g.q b).filter (fun _ => !false)), g.2.2) = _
  rw [e1, e2]
  rfl
/-- S: those who waited at closed booths; of the first n all -/
def CLs (g : GS) (n : Nat) (S : Nat → Bool) : Prop := (∀ u, S u = true → ∃ b, b < g.nb ∧ u ∈ g.q b ∧ ¬ opn g b) ∧ ∀ b, b < n → ¬ opn g b → ∀ u, u ∈ g.q b → S u = true
theorem SimG.congr {ω : WS} {g' : GS} {w : Int32} (h : SimG ω g w) (h1 : g'.1 = g.1) (h2 : g'.2.2 = g.2.2) (hq : ∀ b, b < g.nb → g'.q b = g.q b) : SimG ω g' w := by
  obtain ⟨a1, a2, a3, a4, a5, a6, a7, a8, a9, a10⟩ := h
  have e0 : g'.nb = g.nb := by unfold GS.nb; rw [h2]
  have e1 : g'.nh = g.nh := by unfold GS.nh; rw [h2]
  have e2 : g'.nv = g.nv := by unfold GS.nv; rw [h2]
  have e3 : g'.bd = g.bd := by unfold GS.bd; rw [h2]
  have e4 : g'.i = g.i := h1
  have e5 : ∀ v k, vfc g' v k = vfc g v k := fun v k => by rw [vfc_eq, vfc_eq]; unfold stt; rw [e4]
  unfold SimG
  rw [e0, e1, e2, e3, e4]
  refine ⟨a1, a2, fun b hb => ?_, fun b hb i u hu => ?_, a5, fun v hv k hk => by rw [e5]; exact a6 v hv k hk, a7, a8, a9, a10⟩
  · rw [a3 b hb]
    by_cases hlt : b < g.nb
    · rw [if_pos hlt, if_pos hlt, hq b hlt]
    · rw [if_neg hlt, if_neg hlt]
  · rw [hq b hb] at hu
    exact a4 b hb i u hu
theorem SimG.cleared {ω : WS} {w : Int32} {S : Nat → Bool} (hI : Inv g) (hC : CLs g g.nb S) (h : SimG ω (clS g S) w) : SimG ω (clear9 g) w := by
  have hb8 := hI.nb8
  refine h.congr ?_ rfl (fun b hb => ?_)
  · show (fun p q r => if p = 4 ∧ r = 3 ∧ q < g.nv ∧ (∃ b, b < g.nb ∧ g.i 4 q 3 = nI b ∧ ¬ opn g b) then (-1 : Int32) else g.1 p q r) = fun p q r => if p = 4 ∧ r = 3 ∧ S q = true then -1 else g.1 p q r
    funext p q r
    have e : (q < g.nv ∧ ∃ b, b < g.nb ∧ g.i 4 q 3 = nI b ∧ ¬ opn g b) ↔ S q = true := by
      constructor
      · rintro ⟨h1, b, hb, h2, h3⟩
        exact hC.2 b hb h3 q ((hI.qm hb).mpr ⟨h1, h2⟩)
      · intro h1
        obtain ⟨b, hb, h2, h3⟩ := hC.1 q h1
        have h4 := (hI.qm hb).mp h2
        exact ⟨h4.1, b, hb, h4.2, h3⟩
    by_cases c : p = 4 ∧ r = 3 ∧ S q = true
    · have c2 := e.mpr c.2.2
      rw [if_pos c, if_pos ⟨c.1, c.2.1, c2⟩]
    · rw [if_neg c, if_neg (fun z => c ⟨z.1, z.2.1, e.mp z.2.2⟩)]
  · show (if b < g.nb ∧ ¬ opn g b then [] else g.q b) = (g.q b).filter (fun u => !S u)
    have hb2 : b < g.nb := hb
    by_cases ho : opn g b
    · rw [if_neg (fun z => z.2 ho)]
      refine (List.filter_eq_self.mpr (fun u hu => ?_)).symm
      cases hs : S u with
      | false => rfl
      | true =>
        obtain ⟨b2, hb3, h2, h3⟩ := hC.1 u hs
        have h4 := (hI.qm hb3).mp h2
        have h5 := (hI.qm hb2).mp hu
        have : b = b2 := nI_inj (by omega) (by omega) (h5.2.symm.trans h4.2)
        subst this
        exact absurd ho h3
    · rw [if_pos ⟨hb2, ho⟩]
      refine (List.filter_eq_nil_iff.mpr (fun u hu => ?_)).symm
      rw [hC.2 b hb2 ho u hu]
      decide
end RoP
section Ro
variable {κ : KX} {σ σ0 : Sg} {ω0 : WS} {g : GS} {w W0 : Int32} {cN dN : Nat}
theorem p_dart (G : Gd κ cX6_pass 8 RX6 3 71) (hP : SPost κ.E σ0 ω0 g w σ) (hI : Inv g) {x1 : Int32} (K : ∀ σ', SPost κ.E σ0 ω0 (rnd1 g) w σ' → HV κ 8 σ' cN dN [some (.ref (ω0.ad (21, 0, 0))), some (.int x1), none, none, none, none, none, none] [] 55) : HV κ 8 σ cN dN [some (.ref (ω0.ad (21, 0, 0))), some (.int x1), none, none, none, none, none, none] [] 2 := by
  have hb8 := hI.nb8
  obtain ⟨ω, hL, hG, hst, hk⟩ := hP
  have e21 : ω0.ad (21, 0, 0) = ω.ad (21, 0, 0) := (hst (21, 0, 0) (by decide) (by decide)).symm
  rw [e21]
  refine h_aload_n G dX6_pass_2 rfl ?_
  refine wgX6_39 G hL dX6_pass_3 ?_
  rw [hG.rd]
  refine h_bipush (v := 12) G dX6_pass_6 (by decide) ?_
  refine h_irem G dX6_pass_8 (by decide) ?_
  refine h_if_ne G 55 dX6_pass_9 (by decide) (fun h9 => ?_) (fun h9 => ?_)
  · rw [← e21]
    exact K σ ⟨ω, hL, by unfold rnd1; rw [if_neg h9]; exact hG, hst, hk⟩
  have e0 : rnd1 g = (g.set 1 0 8 (rm9 (g.i 1 0 8 * 75 + 74) 65537)).set 1 0 9 (if 0 < g.nb then rm9 (rm9 (g.i 1 0 8 * 75 + 74) 65537) (nI g.nb) else -1) := by unfold rnd1; rw [if_pos h9]; rfl
  rw [e0] at K
  refine h_aload_n G dX6_pass_12 rfl ?_
  refine h_bipush (v := 75) G dX6_pass_13 (by decide) ?_
  refine h_aload_n G dX6_pass_15 rfl ?_
  refine wgX6_7 G hL dX6_pass_16 ?_
  rw [hG.da]
  refine h_imul G dX6_pass_19 ?_
  refine h_bipush (v := 74) G dX6_pass_20 (by decide) ?_
  refine h_iadd G dX6_pass_22 ?_
  refine h_ldc (v := 65537) G dX6_pass_23 (by decide +kernel) ?_
  refine h_irem G dX6_pass_25 (by decide) ?_
  rw [show (75 : Int32) * g.i 1 0 8 = g.i 1 0 8 * 75 from Int32.mul_comm _ _]
  refine wpX6_7 G hL dX6_pass_26 (fun σ9 ω9 ha9 hs9 hL9 hk9 => ?_)
  try rw [← ha9]
  replace hk := KpS.tr hk hk9
  replace hst := hst.tr (Stb.of_ad ha9)
  clear hL hk9 ha9
  have hL := hL9
  clear hL9
  replace hG := hs9 (fun z => SimG z _ _) (hG.n21 (x := rm9 (g.i 1 0 8 * 75 + 74) 65537) (j := 1) (by decide))
  clear hs9
  generalize hd : rm9 (g.i 1 0 8 * 75 + 74) 65537 = dd at hG K ⊢
  refine h_aload_n G dX6_pass_29 rfl ?_
  refine h_aload_n G dX6_pass_30 rfl ?_
  refine wgX6_18 G hL dX6_pass_31 ?_
  refine wle_22 G hL dX6_pass_34 ?_
  rw [hG.nb, show (g.set 1 0 (1 + 7) dd).nb = g.nb from rfl]
  refine h_if_ne G 42 dX6_pass_35 (by decide) (fun h35 => ?_) (fun h35 => ?_)
  · have hpos : 0 < g.nb := by
      rcases Nat.eq_zero_or_pos g.nb with q | q
      · rw [q] at h35; exact absurd rfl h35
      · exact q
    rw [if_pos hpos] at K
    refine h_aload_n G dX6_pass_42 rfl ?_
    refine wgX6_7 G hL dX6_pass_43 ?_
    rw [hG.da, show (g.set 1 0 (1 + 7) dd).i 1 0 8 = dd from by rw [gi_set, if_pos ⟨rfl, rfl, rfl⟩]]
    refine h_aload_n G dX6_pass_46 rfl ?_
    refine wgX6_18 G hL dX6_pass_47 ?_
    refine wle_22 G hL dX6_pass_50 ?_
    rw [hG.nb, show (g.set 1 0 (1 + 7) dd).nb = g.nb from rfl]
    refine h_irem G dX6_pass_51 h35 ?_
    refine wpX6_13 G hL dX6_pass_52 (fun σ9 ω9 ha9 hs9 hL9 hk9 => ?_)
    try rw [← ha9]
    replace hk := KpS.tr hk hk9
    replace hst := hst.tr (Stb.of_ad ha9)
    clear hL hk9 ha9
    have hL := hL9
    clear hL9
    replace hG := hs9 (fun z => SimG z _ _) (hG.n21 (x := rm9 dd (nI g.nb)) (j := 2) (by decide))
    clear hs9
    rw [hst (21, 0, 0) (by decide) (by decide)]
    exact K _ ⟨_, hL, hG, hst, hk⟩
  · have hz : ¬ 0 < g.nb := fun q => nI_ne0 q (by omega) h35
    rw [if_neg hz] at K
    refine h_iconst (v := -1) G dX6_pass_38 (by decide) ?_
    refine h_goto G 52 dX6_pass_39 (by decide) ?_
    refine wpX6_13 G hL dX6_pass_52 (fun σ9 ω9 ha9 hs9 hL9 hk9 => ?_)
    try rw [← ha9]
    replace hk := KpS.tr hk hk9
    replace hst := hst.tr (Stb.of_ad ha9)
    clear hL hk9 ha9
    have hL := hL9
    clear hL9
    replace hG := hs9 (fun z => SimG z _ _) (hG.n21 (x := -1) (j := 2) (by decide))
    clear hs9
    rw [hst (21, 0, 0) (by decide) (by decide)]
    exact K _ ⟨_, hL, hG, hst, hk⟩
theorem p_choose (G : Gd κ cX6_pass 8 RX6 3 71) (hc9 : cN + 16 ≤ κ.R.cells) (hd9 : dN + 256 ≤ κ.R.slots) (hP : SPost κ.E σ0 ω0 g w σ) (hI : Inv g) {x1 : Int32} (K : ∀ σ', SPost κ.E σ0 ω0 (chooseN g g.nv) w σ' → HV κ 8 σ' (cN + 16) (dN + 256) [some (.ref (ω0.ad (21, 0, 0))), some (.int x1), none, none, none, none, none, none] [] 89) : HV κ 8 σ cN dN [some (.ref (ω0.ad (21, 0, 0))), some (.int x1), none, none, none, none, none, none] [] 55 := by
  have hv16 := hI.nv16
  refine h_iconst (v := 0) G dX6_pass_55 (by decide) ?_
  refine h_istore_n G dX6_pass_56 (by decide) rfl ?_
  have loop : ∀ m n, n + m = g.nv → ∀ σ, SPost κ.E σ0 ω0 (chooseN g n) w σ → HV κ 8 σ (cN + n) (dN + 16 * n) [some (.ref (ω0.ad (21, 0, 0))), some (.int x1), some (.int (nI n)), none, none, none, none, none] [] 57 := by
    intro m
    induction m with
    | zero =>
      intro n hn σ hP
      have hn : n = g.nv := by omega
      subst hn
      have K2 := K σ hP
      obtain ⟨ω, hL, hG, hst, hk⟩ := hP
      have e21 : ω0.ad (21, 0, 0) = ω.ad (21, 0, 0) := (hst (21, 0, 0) (by decide) (by decide)).symm
      rw [e21] at K2 ⊢
      have hnv : (chooseN g g.nv).nv = g.nv := nv_of (chooseN_n _)
      refine h_iload_n G dX6_pass_57 rfl ?_
      refine h_aload_n G dX6_pass_58 rfl ?_
      refine wgX6_31 G hL dX6_pass_59 ?_
      refine wle_25 G hL dX6_pass_62 ?_
      rw [hG.nv, hnv]
      refine h_icmp_ge G 89 dX6_pass_63 (by decide) (fun h63 => ?_) (fun h63 => ?_)
      rotate_left
      · exact absurd (nI_le (Nat.le_refl _) (by omega)) h63
      exact HV.wid (by omega) (by omega) (HV.drop1 2 K2)
    | succ m ih =>
      intro n hn σ hP
      have hlt : n < g.nv := by omega
      obtain ⟨ω, hL, hG, hst, hk⟩ := hP
      have e21 : ω0.ad (21, 0, 0) = ω.ad (21, 0, 0) := (hst (21, 0, 0) (by decide) (by decide)).symm
      rw [e21] at ih ⊢
      have hnv : (chooseN g n).nv = g.nv := nv_of (chooseN_n _)
      have hIn := hI.chooseN n (by omega)
      have hlt2 : n < (chooseN g n).nv := by omega
      refine h_iload_n G dX6_pass_57 rfl ?_
      refine h_aload_n G dX6_pass_58 rfl ?_
      refine wgX6_31 G hL dX6_pass_59 ?_
      refine wle_25 G hL dX6_pass_62 ?_
      rw [hG.nv, hnv]
      refine h_icmp_ge G 89 dX6_pass_63 (by decide) (fun h63 => ?_) (fun h63 => ?_)
      · exact absurd h63 (nI_ge hlt (by omega))
      refine h_aload_n G dX6_pass_66 rfl ?_
      refine wgX6_31 G hL dX6_pass_67 ?_
      refine h_iload_n G dX6_pass_70 rfl ?_
      refine war_25 G hL rfl (by first | assumption | omega | (rw [hG.nb]; omega) | (rw [hG.nh]; omega) | (rw [hG.nv]; omega)) dX6_pass_71 ?_
      refine wgX6_64 G hL (by first | assumption | omega | (rw [hG.nb]; omega) | (rw [hG.nh]; omega) | (rw [hG.nv]; omega)) dX6_pass_72 ?_
      rw [hG.vi hlt2 (by decide), show vfc (chooseN g n) n 2 = stt (chooseN g n) n from rfl]
      refine h_if_ne G 83 dX6_pass_75 (by decide) (fun h75 => ?_) (fun h75 => ?_)
      · have e : chooseN g (n + 1) = chooseN g n := by
          show (if strl (chooseN g n) n then _ else _) = _
          rw [if_neg (fun q => h75 (stt_0.mpr q))]
        refine HV.wid (c2 := cN + (n + 1)) (d2 := dN + 16 * (n + 1)) (by omega) (by omega) ?_
        refine h_iinc G dX6_pass_83 rfl (by decide) rfl (nI_1 n) ?_
        refine h_goto G 57 dX6_pass_86 (by decide) ?_
        exact ih (n + 1) (by omega) σ ⟨ω, hL, by rw [e]; exact hG, hst, hk⟩
      · have hs := stt_0.mp h75
        have e : chooseN g (n + 1) = choose9 (chooseN g n) n := by
          show (if strl (chooseN g n) n then _ else _) = _
          rw [if_pos hs]
        refine h_aload_n G dX6_pass_78 rfl ?_
        refine h_iload_n G dX6_pass_79 rfl ?_
        refine wiX6_95 G (hL.1 (21, 0, 0) trivial) (m_choose hL hG hIn hlt2 hs) (by decide) (Nat.le_of_ble_eq_true rfl) (by omega) (by omega) dX6_pass_80 (fun r9 σ9 hp9 => ?_)
        obtain ⟨rfl, ω1, hL1, hG1, hst1, hk1⟩ := hp9
        refine HV.wid (c2 := cN + (n + 1)) (d2 := dN + 16 * (n + 1)) (by omega) (by omega) ?_
        refine h_iinc G dX6_pass_83 rfl (by decide) rfl (nI_1 n) ?_
        refine h_goto G 57 dX6_pass_86 (by decide) ?_
        exact ih (n + 1) (by omega) _ ⟨ω1, hL1, by rw [e]; exact hG1, hst.tr hst1, hk.tr hk1⟩
  have h0 := loop g.nv 0 (by omega) σ hP
  exact h0
/-- the times that helpers work at one booth -/
theorem p_times (G : Gd κ cX6_pass 8 RX6 3 71) {b : Nat} (hb : b < g.nb) (hI0 : Inv g) {t9 : Nat} (ht9 : t9 ≤ 12) (hc9 : cN + 14 * t9 ≤ κ.R.cells) (hd9 : dN + 64 * t9 ≤ κ.R.slots) (gE : GS) (K : ∀ σ', SPost κ.E σ0 ω0 gE w σ' → HV κ 8 σ' (cN + 14 * t9) (dN + 64 * t9) [some (.ref (ω0.ad (21, 0, 0))), some (.int (gE.i 1 0 10 - W0)), some (.int (nI b)), none, none, none, none, none] [] 390) :
    ∀ m k, k + m = t9 → ∀ (gk : GS) (σ : Sg), SPost κ.E σ0 ω0 gk w σ → Inv gk → b < gk.nb → gE = serveN gk b m → HV κ 8 σ (cN + 14 * k) (dN + 64 * k) [some (.ref (ω0.ad (21, 0, 0))), some (.int (gk.i 1 0 10 - W0)), some (.int (nI b)), some (.int (nI t9)), some (.int (nI k)), none, none, none] [] 121 := by
  intro m
  induction m with
  | zero =>
    intro k hk0 gk σ hP hI hbk hE
    have hk0 : k = t9 := by omega
    subst hk0
    refine h_iload G dX6_pass_121 rfl ?_
    refine h_iload_n G dX6_pass_123 rfl ?_
    refine h_icmp_ge G 390 dX6_pass_124 (by decide) (fun h124 => ?_) (fun h124 => ?_)
    rotate_left
    · exact absurd (nI_le (Nat.le_refl _) (by omega)) h124
    have hE : gE = gk := hE
    subst hE
    exact HV.drop1 3 (HV.drop1 4 (K σ hP))
  | succ m ih =>
    intro k hk0 gk σ hP hI hbk hE
    have hlt : k < t9 := by omega
    have hP0 := hP
    have hb8 := hI.nb8
    have hv16 := hI.nv16
    obtain ⟨ω, hL, hG, hst, hk⟩ := hP
    have e21 : ω0.ad (21, 0, 0) = ω.ad (21, 0, 0) := (hst (21, 0, 0) (by decide) (by decide)).symm
    refine h_iload G dX6_pass_121 rfl ?_
    refine h_iload_n G dX6_pass_123 rfl ?_
    refine h_icmp_ge G 390 dX6_pass_124 (by decide) (fun h124 => ?_) (fun h124 => ?_)
    · exact absurd h124 (nI_ge hlt (by omega))
    rw [e21]
    refine h_aload_n G dX6_pass_127 rfl ?_
    refine wgX6_23 G hL dX6_pass_128 ?_
    refine h_iload_n G dX6_pass_131 rfl ?_
    refine war_23 G hL rfl (by first | assumption | omega | (rw [hG.nb]; omega) | (rw [hG.nh]; omega) | (rw [hG.nv]; omega)) dX6_pass_132 ?_
    refine wle_33 G hL (by first | assumption | omega | (rw [hG.nb]; omega) | (rw [hG.nh]; omega) | (rw [hG.nv]; omega)) dX6_pass_133 ?_
    rw [hG.ql hb8 hbk]
    have hq16 := hI.ql16 hbk
    cases hq : gk.q b with
    | nil =>
      refine h_if_le G 390 dX6_pass_134 (by decide) (fun h134 => ?_) (fun h134 => ?_)
      rotate_left
      · exact absurd (show nI 0 ≤ 0 by decide) h134
      have hE2 : gE = gk := by rw [hE, serveN_nil _ _ hq]
      subst hE2
      rw [← e21]
      exact HV.wid (by omega) (by omega) (HV.drop1 3 (HV.drop1 4 (K σ hP0)))
    | cons v rest =>
      have hvq : v ∈ gk.q b := by rw [hq]; exact List.mem_cons_self
      obtain ⟨hv, hat⟩ := (hI.qm hbk).mp hvq
      have hs1 : serve1 gk b = if cst (leaveQ gk v) b ≤ (leaveQ gk v).i 4 v 0 then play9 (leaveQ gk v) v b else leaveQ gk v := by
        unfold serve1
        rw [hq]
      have hE2 : gE = serveN (serve1 gk b) b m := hE
      refine h_if_le G 390 dX6_pass_134 (by decide) (fun h134 => ?_) (fun h134 => ?_)
      · exact absurd h134 (nI_nle (by simp) (by rw [← hq]; omega))
      refine h_aload_n G dX6_pass_137 rfl ?_
      refine wgX6_23 G hL dX6_pass_138 ?_
      refine h_iload_n G dX6_pass_141 rfl ?_
      refine war_23 G hL rfl (by first | assumption | omega | (rw [hG.nb]; omega) | (rw [hG.nh]; omega) | (rw [hG.nv]; omega)) dX6_pass_142 ?_
      refine h_iconst (v := 0) G dX6_pass_143 (by decide) ?_
      refine wal_33 G hL (by omega) (show (0 : Int32) = nI 0 from rfl) (by rw [hG.ql hb8 hbk, hq]; simp) dX6_pass_144 ?_
      rw [hG.qe hbk (i := 0) (u := v) (by rw [hq]; rfl)]
      refine h_istore G dX6_pass_145 (by decide) rfl ?_
      refine h_aload_n G dX6_pass_147 rfl ?_
      refine wgX6_31 G hL dX6_pass_148 ?_
      refine h_iload G dX6_pass_151 rfl ?_
      refine war_25 G hL rfl (by first | assumption | omega | (rw [hG.nb]; omega) | (rw [hG.nh]; omega) | (rw [hG.nv]; omega)) dX6_pass_153 ?_
      refine h_astore G dX6_pass_154 (by decide) rfl ?_
      refine h_aload_n G dX6_pass_156 rfl ?_
      refine h_iload G dX6_pass_157 rfl ?_
      refine wiX6_99 G (hL.1 (21, 0, 0) trivial) (m_exit hL hG hI hv hbk hat) (by decide) (Nat.le_of_ble_eq_true rfl) (by omega) (by omega) dX6_pass_159 (fun r9 σ9 hp9 => ?_)
      obtain ⟨rfl, ω1, hL1, hG1, hst1, hk1⟩ := hp9
      have e35 : ω1.ad (35, v, 0) = ω.ad (35, v, 0) := hst1 _ (by show (35 : Nat) ≠ 33; decide) (by show (35 : Nat) ≠ 26; decide)
      rw [← hst1 (21, 0, 0) (by decide) (by decide), ← e35]
      replace hst := hst.tr hst1
      replace hk := hk.tr hk1
      clear hL hG
      have hL := hL1
      have hG := hG1
      have hIl := hI.leave (v := v)
      have hvl : v < (leaveQ gk v).nv := hv
      have hbl : b < (leaveQ gk v).nb := hbk
      refine h_aload G dX6_pass_162 rfl ?_
      refine wgX6_54 G hL (by first | assumption | omega | (rw [hG.nb]; omega) | (rw [hG.nh]; omega) | (rw [hG.nv]; omega)) dX6_pass_164 ?_
      rw [hG.vi hvl (by decide), show vfc (leaveQ gk v) v 0 = (leaveQ gk v).i 4 v 0 from rfl]
      refine h_aload_n G dX6_pass_167 rfl ?_
      refine h_iload_n G dX6_pass_168 rfl ?_
      refine wiX6_74 G (hL.1 (21, 0, 0) trivial) (m_cost hL hG hbl) (by decide) (Nat.le_of_ble_eq_true rfl) (by omega) (by omega) dX6_pass_169 (fun r9 σ9 hp9 => ?_)
      obtain ⟨rfl, rfl⟩ := hp9
      rw [hst (21, 0, 0) (by decide) (by decide), hst (35, v, 0) (by show (35 : Nat) ≠ 33; decide) (by show (35 : Nat) ≠ 26; decide)]
      refine h_icmp_ge G 178 dX6_pass_172 (by decide) (fun h172 => ?_) (fun h172 => ?_)
      · rw [if_pos h172] at hs1
        refine HV.wid (c2 := cN + 14 * k + 1) (d2 := dN + 64 * k + 16) (by omega) (by omega) ?_
        refine p_play G (by omega) (by omega) ⟨_, hL, hG, hst, hk⟩ hIl hvl hbl (fun σ2 hP2 => ?_)
        have hg2 : serve1 gk b = play9 (leaveQ gk v) v b := hs1
        rw [← hg2] at hP2 ⊢
        refine HV.wid (c2 := cN + 14 * (k + 1)) (d2 := dN + 64 * (k + 1)) (by omega) (by omega) ?_
        refine h_iinc G dX6_pass_384 rfl (by decide) rfl (nI_1 k) ?_
        refine h_goto G 121 dX6_pass_387 (by decide) ?_
        exact ih (k + 1) (by omega) _ _ hP2 (hI.srv1 hbk) (by rw [nb_of (serve1_n)]; exact hbk) hE2
      · rw [if_neg h172] at hs1
        have e10 : gk.i 1 0 10 = (serve1 gk b).i 1 0 10 := by
          rw [hs1]
          show _ = (gk.set 4 v 3 (-1)).i 1 0 10
          rw [gi_set, if_neg (by omega)]
        rw [e10]
        refine HV.wid (c2 := cN + 14 * (k + 1)) (d2 := dN + 64 * (k + 1)) (by omega) (by omega) ?_
        refine h_goto G 384 dX6_pass_175 (by decide) ?_
        refine h_iinc G dX6_pass_384 rfl (by decide) rfl (nI_1 k) ?_
        refine h_goto G 121 dX6_pass_387 (by decide) ?_
        refine HV.drop1 5 (HV.drop1 6 ?_)
        exact ih (k + 1) (by omega) _ _ ⟨_, hL, by rw [hs1]; exact hG, hst, hk⟩ (hI.srv1 hbk) (by rw [nb_of (serve1_n)]; exact hbk) hE2
theorem p_serves (G : Gd κ cX6_pass 8 RX6 3 71) (hc9 : cN + 168 * 8 ≤ κ.R.cells) (hd9 : dN + 768 * 8 ≤ κ.R.slots) (hP : SPost κ.E σ0 ω0 g w σ) (hI : Inv g) (K : ∀ σ', SPost κ.E σ0 ω0 (servesN g g.nb) w σ' → HV κ 8 σ' (cN + 168 * 8) (dN + 768 * 8) [some (.ref (ω0.ad (21, 0, 0))), some (.int ((servesN g g.nb).i 1 0 10 - W0)), none, none, none, none, none, none] [] 396) : HV κ 8 σ cN dN [some (.ref (ω0.ad (21, 0, 0))), some (.int (g.i 1 0 10 - W0)), none, none, none, none, none, none] [] 89 := by
  have hb8 := hI.nb8
  have hh12 := hI.nh12
  refine h_iconst (v := 0) G dX6_pass_89 (by decide) ?_
  refine h_istore_n G dX6_pass_90 (by decide) rfl ?_
  have loop : ∀ m n, n + m = g.nb → ∀ σ, SPost κ.E σ0 ω0 (servesN g n) w σ → HV κ 8 σ (cN + 168 * n) (dN + 768 * n) [some (.ref (ω0.ad (21, 0, 0))), some (.int ((servesN g n).i 1 0 10 - W0)), some (.int (nI n)), none, none, none, none, none] [] 91 := by
    intro m
    induction m with
    | zero =>
      intro n hn σ hP
      have hn : n = g.nb := by omega
      subst hn
      have K2 := K σ hP
      obtain ⟨ω, hL, hG, hst, hk⟩ := hP
      have e21 : ω0.ad (21, 0, 0) = ω.ad (21, 0, 0) := (hst (21, 0, 0) (by decide) (by decide)).symm
      rw [e21] at K2 ⊢
      have hnb : (servesN g g.nb).nb = g.nb := nb_of (servesN_n _)
      refine h_iload_n G dX6_pass_91 rfl ?_
      refine h_aload_n G dX6_pass_92 rfl ?_
      refine wgX6_18 G hL dX6_pass_93 ?_
      refine wle_22 G hL dX6_pass_96 ?_
      rw [hG.nb, hnb]
      refine h_icmp_ge G 396 dX6_pass_97 (by decide) (fun h97 => ?_) (fun h97 => ?_)
      rotate_left
      · exact absurd (nI_le (Nat.le_refl _) (by omega)) h97
      exact HV.wid (by omega) (by omega) (HV.drop1 2 K2)
    | succ m ih =>
      intro n hn σ hP
      have hlt : n < g.nb := by omega
      have hP0 := hP
      obtain ⟨ω, hL, hG, hst, hk⟩ := hP
      have e21 : ω0.ad (21, 0, 0) = ω.ad (21, 0, 0) := (hst (21, 0, 0) (by decide) (by decide)).symm
      have hnb : (servesN g n).nb = g.nb := nb_of (servesN_n _)
      have hIn := hI.servesN n (by omega)
      have hbn : n < (servesN g n).nb := by omega
      have hes : servesN g (n + 1) = serve9 (servesN g n) n := rfl
      have hnext : ∀ σ', SPost κ.E σ0 ω0 (servesN g (n + 1)) w σ' → HV κ 8 σ' (cN + 168 * (n + 1)) (dN + 768 * (n + 1)) [some (.ref (ω0.ad (21, 0, 0))), some (.int ((servesN g (n + 1)).i 1 0 10 - W0)), some (.int (nI n)), none, none, none, none, none] [] 390 := fun σ' hP' => by
        refine h_iinc G dX6_pass_390 rfl (by decide) rfl (nI_1 n) ?_
        refine h_goto G 91 dX6_pass_393 (by decide) ?_
        exact ih (n + 1) (by omega) σ' hP'
      rw [e21]
      refine h_iload_n G dX6_pass_91 rfl ?_
      refine h_aload_n G dX6_pass_92 rfl ?_
      refine wgX6_18 G hL dX6_pass_93 ?_
      refine wle_22 G hL dX6_pass_96 ?_
      rw [hG.nb, hnb]
      refine h_icmp_ge G 396 dX6_pass_97 (by decide) (fun h97 => ?_) (fun h97 => ?_)
      · exact absurd h97 (nI_ge hlt (by omega))
      refine h_aload_n G dX6_pass_100 rfl ?_
      refine h_iload_n G dX6_pass_101 rfl ?_
      refine wiX6_70 G (hL.1 (21, 0, 0) trivial) (m_isOpen hL hG hIn hbn) (by decide) (Nat.le_of_ble_eq_true rfl) (by omega) (by omega) dX6_pass_102 (fun r9 σ9 hp9 => ?_)
      obtain ⟨hop, rfl, rfl⟩ | ⟨hop, rfl, rfl⟩ := hp9
      · refine h_if_eq G 116 dX6_pass_105 (by decide) (fun h105 => ?_) (fun h105 => ?_)
        · exact absurd h105 (by decide)
        refine h_aload_n G dX6_pass_108 rfl ?_
        refine h_iload_n G dX6_pass_109 rfl ?_
        refine wiX6_60 G (hL.1 (21, 0, 0) trivial) (m_working hL hG hIn n) (by decide) (Nat.le_of_ble_eq_true rfl) (by omega) (by omega) dX6_pass_110 (fun r9 σ9 hp9 => ?_)
        obtain ⟨rfl, rfl⟩ := hp9
        have hw12 := wk_le hIn n
        rw [← e21]
        refine h_goto G 117 dX6_pass_113 (by decide) ?_
        refine h_istore_n G dX6_pass_117 (by decide) rfl ?_
        refine h_iconst (v := 0) G dX6_pass_118 (by decide) ?_
        refine h_istore G dX6_pass_119 (by decide) rfl ?_
        refine p_times G hbn hIn (t9 := wk (servesN g n) n) hw12 (by omega) (by omega) (servesN g (n + 1)) (fun σ' hP' => ?_) (wk (servesN g n) n) 0 (by omega) (servesN g n) _ hP0 hIn hbn (by rw [hes]; unfold serve9; rw [if_pos hop])
        exact HV.wid (by omega) (by omega) (hnext σ' hP')
      · refine h_if_eq G 116 dX6_pass_105 (by decide) (fun h105 => ?_) (fun h105 => ?_)
        rotate_left
        · exact absurd rfl h105
        rw [← e21]
        refine h_iconst (v := 0) G dX6_pass_116 (by decide) ?_
        refine h_istore_n G dX6_pass_117 (by decide) rfl ?_
        refine h_iconst (v := 0) G dX6_pass_118 (by decide) ?_
        refine h_istore G dX6_pass_119 (by decide) rfl ?_
        refine p_times G hbn hIn (t9 := 0) (by omega) (by omega) (by omega) (servesN g (n + 1)) (fun σ' hP' => ?_) 0 0 (by omega) (servesN g n) _ hP0 hIn hbn (by rw [hes]; unfold serve9; rw [if_neg hop]; rfl)
        exact HV.wid (by omega) (by omega) (hnext σ' hP')
  exact loop g.nb 0 (by omega) σ hP
end Ro
