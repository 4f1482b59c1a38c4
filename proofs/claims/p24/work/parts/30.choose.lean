/-! ===== the law's green: choosing, from the last booth to the first ===== -/
section ChP
variable {g : GS} {v : Nat}
theorem bt_nt {a b c : Nat} (h1 : ¬ better g v a b) (h2 : ¬ better g v b c) : ¬ better g v a c := by
  unfold better at *
  simp only [Int32.lt_iff_toInt_lt] at *
  omega
theorem bt_as {a b : Nat} (h : better g v a b) : ¬ better g v b a := by
  unfold better at *
  simp only [Int32.lt_iff_toInt_lt] at *
  omega
def UP (g : GS) (v n : Nat) (r : Option Nat) : Prop := (r = none ∧ ∀ b, b < n → ¬ invites g v b) ∨ ∃ o, r = some o ∧ o < n ∧ invites g v o ∧ (∀ b, b < n → invites g v b → ¬ better g v b o) ∧ ∀ b, b < o → invites g v b → better g v o b
def DN (g : GS) (v k n : Nat) (r : Option Nat) : Prop := (r = none ∧ ∀ b, k ≤ b → b < n → ¬ invites g v b) ∨ ∃ o, r = some o ∧ k ≤ o ∧ o < n ∧ invites g v o ∧ (∀ b, k ≤ b → b < n → invites g v b → ¬ better g v b o) ∧ ∀ b, k ≤ b → b < o → invites g v b → better g v o b
theorem bestN_UP : ∀ n, UP g v n (bestN g v n)
  | 0 => Or.inl ⟨rfl, fun b hb => absurd hb (Nat.not_lt_zero b)⟩
  | n + 1 => by
    have ih := bestN_UP n
    unfold bestN
    rcases ih with ⟨hr, hno⟩ | ⟨o, hr, ho, hi, hmin, hfst⟩
    · rw [hr]
      by_cases hv : invites g v n
      · rw [if_pos ⟨hv, rfl⟩]
        refine Or.inr ⟨n, rfl, by omega, hv, fun b hb hb2 => ?_, fun b hb hb2 => absurd hb2 (hno b hb)⟩
        have : b = n := by
          rcases Nat.lt_or_ge b n with q | q
          · exact absurd hb2 (hno b q)
          · omega
        subst this
        exact fun q => bt_as q q
      · rw [if_neg (fun q => hv q.1)]
        refine Or.inl ⟨rfl, fun b hb hb2 => ?_⟩
        rcases Nat.lt_or_ge b n with q | q
        · exact hno b q hb2
        · have : b = n := by omega
          subst this
          exact hv hb2
    · rw [hr]
      by_cases hv : invites g v n
      · by_cases ht : better g v n o
        · rw [if_pos ⟨hv, by simp [takes, ht]⟩]
          refine Or.inr ⟨n, rfl, by omega, hv, fun b hb hb2 => ?_, fun b hb hb2 => ?_⟩
          · rcases Nat.lt_or_ge b n with q | q
            · exact bt_nt (hmin b q hb2) (bt_as ht)
            · have : b = n := by omega
              subst this
              exact fun q => bt_as q q
          · exact Classical.byContradiction (fun q => bt_nt q (hmin b hb hb2) ht)
        · rw [if_neg (fun q => ht (by simpa [takes] using q.2))]
          refine Or.inr ⟨o, rfl, by omega, hi, fun b hb hb2 => ?_, hfst⟩
          rcases Nat.lt_or_ge b n with q | q
          · exact hmin b q hb2
          · have : b = n := by omega
            subst this
            exact ht
      · rw [if_neg (fun q => hv q.1)]
        refine Or.inr ⟨o, rfl, by omega, hi, fun b hb hb2 => ?_, hfst⟩
        rcases Nat.lt_or_ge b n with q | q
        · exact hmin b q hb2
        · have : b = n := by omega
          subst this
          exact absurd hb2 hv
theorem DN_eq {n : Nat} {r : Option Nat} (h : DN g v 0 n r) : bestN g v n = r := by
  rcases bestN_UP (g := g) (v := v) n with ⟨h1, h2⟩ | ⟨o, h1, h2, h3, h4, h5⟩
  · rcases h with ⟨k1, -⟩ | ⟨p, k1, -, k2, k3, -⟩
    · rw [h1, k1]
    · exact absurd k3 (h2 p k2)
  · rcases h with ⟨k1, k2⟩ | ⟨p, k1, -, k2, k3, k4, k5⟩
    · exact absurd h3 (k2 o (Nat.zero_le _) h2)
    · rw [h1, k1]
      rcases Nat.lt_trichotomy o p with q | q | q
      · exact absurd (k5 o (Nat.zero_le _) q h3) (h4 p k2 k3)
      · rw [q]
      · exact absurd (h5 p q k3) (k4 o (Nat.zero_le _) h2 h3)
/-- one booth further down -/
theorem DN_no {k n : Nat} {r : Option Nat} (h : DN g v (k + 1) n r) (hv : ¬ invites g v k) : DN g v k n r := by
  rcases h with ⟨h1, h2⟩ | ⟨o, h1, h0, h2, h3, h4, h5⟩
  · refine Or.inl ⟨h1, fun b hb hb2 => ?_⟩
    rcases Nat.lt_or_ge k b with q | q
    · exact h2 b q hb2
    · have : b = k := by omega
      subst this
      exact hv
  · refine Or.inr ⟨o, h1, by omega, h2, h3, fun b hb hb2 hb3 => ?_, fun b hb hb2 hb3 => ?_⟩
    · rcases Nat.lt_or_ge k b with q | q
      · exact h4 b q hb2 hb3
      · have : b = k := by omega
        subst this
        exact absurd hb3 hv
    · rcases Nat.lt_or_ge k b with q | q
      · exact h5 b q hb2 hb3
      · have : b = k := by omega
        subst this
        exact absurd hb3 hv
theorem DN_keep {k n o : Nat} (h : DN g v (k + 1) n (some o)) (hb : better g v o k) : DN g v k n (some o) := by
  rcases h with ⟨h1, h2⟩ | ⟨p, h1, h0, h2, h3, h4, h5⟩
  · cases h1
  · cases h1
    refine Or.inr ⟨o, rfl, by omega, h2, h3, fun b hb1 hb2 hb3 => ?_, fun b hb1 hb2 hb3 => ?_⟩
    · rcases Nat.lt_or_ge k b with q | q
      · exact h4 b q hb2 hb3
      · have : b = k := by omega
        subst this
        exact bt_as hb
    · rcases Nat.lt_or_ge k b with q | q
      · exact h5 b q hb2 hb3
      · have : b = k := by omega
        subst this
        exact hb
theorem DN_take {k n : Nat} {r : Option Nat} (h : DN g v (k + 1) n r) (hk : k < n) (hv : invites g v k) (hb : ∀ o, r = some o → ¬ better g v o k) : DN g v k n (some k) := by
  refine Or.inr ⟨k, rfl, Nat.le_refl _, hk, hv, fun b hb1 hb2 hb3 => ?_, fun b hb1 hb2 hb3 => by omega⟩
  rcases Nat.lt_or_ge k b with q | q
  · rcases h with ⟨h1, h2⟩ | ⟨o, h1, h0, h2, h3, h4, h5⟩
    · exact absurd hb3 (h2 b q hb2)
    · exact bt_nt (h4 b q hb2 hb3) (hb o h1)
  · have : b = k := by omega
    subst this
    exact fun q => bt_as q q
end ChP
theorem dec1 (x : Int32) : x + Int32.ofInt (-1) = x - 1 := by rw [Int32.sub_eq_add_neg]; rfl
section Ch
variable {E : EX} {σ : Sg} {ω : WS} {g : GS} {w : Int32}
theorem m_choose (hL : LayS E σ ω) (hG : SimG ω g w) (hI : Inv g) {v : Nat} (hv : v < g.nv) (hs : strl g v) : RetS E yX6_choose cX6_choose 5 none 2 47 1 16 [.ref (ω.ad (21, 0, 0)), .int (nI v)] σ (fun r σ' => r = none ∧ SPost E σ ω (choose9 g v) w σ') := by
  have hb8 := hI.nb8
  have hv16 := hI.nv16
  refine RetS_of RX6 (by decide) rfl [some (.ref (ω.ad (21, 0, 0))), some (.int (nI v)), none, none, none] rfl (Nat.le_of_ble_eq_true rfl) (fun κ hE G E9 hr => ?_)
  subst hE
  have hc9 := E9.2.2.1
  have hd9 := E9.2.2.2
  have hk : KpS σ σ := KpS.rf
  have hst : Stb ω ω := Stb.rf
  refine h_aload_n G dX6_choose_0 rfl ?_
  refine wgX6_31 G hL dX6_choose_1 ?_
  refine h_iload_n G dX6_choose_4 rfl ?_
  refine war_25 G hL rfl (by first | assumption | omega | (rw [hG.nb]; omega) | (rw [hG.nh]; omega) | (rw [hG.nv]; omega)) dX6_choose_5 ?_
  refine h_astore_n G dX6_choose_6 (by decide) rfl ?_
  refine h_iconst (v := -1) G dX6_choose_7 (by decide) ?_
  refine h_istore_n G dX6_choose_8 (by decide) rfl ?_
  refine h_aload_n G dX6_choose_9 rfl ?_
  refine wgX6_18 G hL dX6_choose_10 ?_
  refine wle_22 G hL dX6_choose_13 ?_
  rw [hG.nb]
  refine h_iconst (v := 1) G dX6_choose_14 (by decide) ?_
  refine h_isub G dX6_choose_15 ?_
  refine h_istore G dX6_choose_16 (by decide) rfl ?_
  have loop : ∀ k r, k ≤ g.nb → DN g v k g.nb r → HV κ 5 σ 0 0 [some (.ref (ω.ad (21, 0, 0))), some (.int (nI v)), some (.ref (ω.ad (35, v, 0))), some (.int (enc r)), some (.int (nI k - 1))] [] 18 := by
    intro k
    induction k with
    | zero =>
      intro r _ hD
      have hbest := DN_eq hD
      refine h_iload G dX6_choose_18 rfl ?_
      refine h_if_lt G 135 dX6_choose_20 (by decide) (fun h20 => ?_) (fun h20 => ?_)
      rotate_left
      · exact absurd (show nI 0 - 1 < 0 by decide) h20
      refine h_iload_n G dX6_choose_135 rfl ?_
      cases r with
      | none =>
        refine h_if_lt G 148 dX6_choose_136 (by decide) (fun h136 => ?_) (fun h136 => ?_)
        rotate_left
        · exact absurd (show (-1 : Int32) < 0 by decide) h136
        have hc : choose9 g v = if g.i 4 v 0 = 0 then g.set 4 v 2 1 else g := by unfold choose9; rw [hbest]
        refine h_aload_n G dX6_choose_148 rfl ?_
        refine wgX6_54 G hL (by first | assumption | omega | (rw [hG.nb]; omega) | (rw [hG.nh]; omega) | (rw [hG.nv]; omega)) dX6_choose_149 ?_
        rw [hG.vi hv (by decide), show vfc g v 0 = g.i 4 v 0 from rfl]
        refine h_if_ne G 160 dX6_choose_152 (by decide) (fun h152 => ?_) (fun h152 => ?_)
        · rw [if_neg h152] at hc
          refine h_vret G E9 (by omega) (by omega) hr dX6_choose_160 ⟨rfl, ω, hL, by rw [hc]; exact hG, hst, hk⟩
        · rw [if_pos h152] at hc
          have fin : SimG (ω.wr (35, v, 0) 2 2) (choose9 g v) w := by
            rw [hc]
            refine hG.s2 rfl rfl (fun kd a k q => ?_) ?_
            · rw [gi_set, if_neg (by omega)]
            · have e2 : (g.set 4 v 2 1).i 4 v 2 = 1 := by rw [gi_set, if_pos ⟨rfl, rfl, rfl⟩]
              unfold stt
              rw [e2, if_neg (by decide)]
          refine h_aload_n G dX6_choose_155 rfl ?_
          refine h_iconst (v := 2) G dX6_choose_156 (by decide) ?_
          refine wpX6_64 G hL (by first | assumption | omega | (rw [hG.nb]; omega) | (rw [hG.nh]; omega) | (rw [hG.nv]; omega)) dX6_choose_157 (fun σ9 ω9 ha9 hs9 hL9 hk9 => ?_)
          try rw [← ha9]
          replace hk := KpS.tr hk hk9
          replace hst := hst.tr (Stb.of_ad ha9)
          clear hL hk9 ha9
          have hL := hL9
          clear hL9
          replace hG := hs9 (fun z => SimG z _ _) (fin)
          clear hs9
          refine h_vret G E9 (by omega) (by omega) hr dX6_choose_160 ⟨rfl, _, hL, hG, hst, hk⟩
      | some o =>
        have ho : o < g.nb := bestN_lt hbest
        have hc : choose9 g v = (g.set 4 v 3 (nI o)).setq (fun a => if a = o then g.q o ++ [v] else g.q a) := by unfold choose9; rw [hbest]
        refine h_if_lt G 148 dX6_choose_136 (by decide) (fun h136 => ?_) (fun h136 => ?_)
        · exact absurd h136 (nI_pos (by omega))
        refine h_aload_n G dX6_choose_139 rfl ?_
        refine h_iload_n G dX6_choose_140 rfl ?_
        refine h_iload_n G dX6_choose_141 rfl ?_
        refine wiX6_80 G (hL.1 (21, 0, 0) trivial) (m_enter hL hG hI hv ho hs.1 hs.2) (by decide) (Nat.le_of_ble_eq_true rfl) (by omega) (by omega) dX6_choose_142 (fun r9 σ9 hp9 => ?_)
        obtain ⟨rfl, ω1, hL1, hG1, hst1, hk1⟩ := hp9
        refine h_goto G 160 dX6_choose_145 (by decide) ?_
        refine h_vret G E9 (by omega) (by omega) hr dX6_choose_160 ⟨rfl, ω1, hL1, by rw [hc]; exact hG1, hst1, hk1⟩
    | succ k ih =>
      intro r hkn hD
      have hlt : k < g.nb := by omega
      rw [nI_pred]
      have skip : DN g v k g.nb r → HV κ 5 σ 0 0 [some (.ref (ω.ad (21, 0, 0))), some (.int (nI v)), some (.ref (ω.ad (35, v, 0))), some (.int (enc r)), some (.int (nI k))] [] 129 := fun hD2 => by
        refine h_iinc G dX6_choose_129 rfl (by decide) rfl (dec1 (nI k)) ?_
        refine h_goto G 18 dX6_choose_132 (by decide) ?_
        exact ih r (by omega) hD2
      have take : DN g v k g.nb (some k) → HV κ 5 σ 0 0 [some (.ref (ω.ad (21, 0, 0))), some (.int (nI v)), some (.ref (ω.ad (35, v, 0))), some (.int (enc r)), some (.int (nI k))] [] 126 := fun hD2 => by
        refine h_iload G dX6_choose_126 rfl ?_
        refine h_istore_n G dX6_choose_128 (by decide) rfl ?_
        refine h_iinc G dX6_choose_129 rfl (by decide) rfl (dec1 (nI k)) ?_
        refine h_goto G 18 dX6_choose_132 (by decide) ?_
        exact ih (some k) (by omega) hD2
      clear ih
      refine h_iload G dX6_choose_18 rfl ?_
      refine h_if_lt G 135 dX6_choose_20 (by decide) (fun h20 => ?_) (fun h20 => ?_)
      · exact absurd h20 (nI_pos (by omega))
      refine h_aload_n G dX6_choose_23 rfl ?_
      refine h_iload G dX6_choose_24 rfl ?_
      refine wiX6_70 G (hL.1 (21, 0, 0) trivial) (m_isOpen hL hG hI hlt) (by decide) (Nat.le_of_ble_eq_true rfl) (by omega) (by omega) dX6_choose_26 (fun r9 σ9 hp9 => ?_)
      obtain ⟨hop, rfl, rfl⟩ | ⟨hop, rfl, rfl⟩ := hp9
      rotate_left
      · refine h_if_eq G 129 dX6_choose_29 (by decide) (fun h29 => ?_) (fun h29 => ?_)
        · exact skip (DN_no hD (fun q => hop q.1))
        · exact absurd rfl h29
      refine h_if_eq G 129 dX6_choose_29 (by decide) (fun h29 => ?_) (fun h29 => ?_)
      · exact absurd h29 (by decide)
      refine h_aload_n G dX6_choose_32 rfl ?_
      refine wgX6_18 G hL dX6_choose_33 ?_
      refine h_iload G dX6_choose_36 rfl ?_
      refine war_22 G hL rfl (by first | assumption | omega | (rw [hG.nb]; omega) | (rw [hG.nh]; omega) | (rw [hG.nv]; omega)) dX6_choose_38 ?_
      refine h_iconst (v := 2) G dX6_choose_39 (by decide) ?_
      refine wal_32 G hL (by first | assumption | omega | (rw [hG.nb]; omega) | (rw [hG.nh]; omega) | (rw [hG.nv]; omega)) (show (2 : Int32) = nI 2 from rfl) (by decide) dX6_choose_40 ?_
      rw [hG.bo hlt (by decide)]
      have hpz := hI.bpz hlt
      refine h_if_eq G 129 dX6_choose_41 (by decide) (fun h41 => ?_) (fun h41 => ?_)
      · exact skip (DN_no hD (fun q => absurd q.2.1 (by rw [h41]; decide)))
      have hpr : 0 < g.i 2 k 2 := by
        have h1 := hpz.1
        rw [Int32.le_iff_toInt_le] at h1
        rw [Int32.lt_iff_toInt_lt]
        have : (g.i 2 k 2).toInt ≠ (0 : Int32).toInt := fun q => h41 (Int32.toInt_inj.mp q)
        omega
      refine h_aload_n G dX6_choose_44 rfl ?_
      refine h_iload G dX6_choose_45 rfl ?_
      refine wiX6_74 G (hL.1 (21, 0, 0) trivial) (m_cost hL hG hlt) (by decide) (Nat.le_of_ble_eq_true rfl) (by omega) (by omega) dX6_choose_47 (fun r9 σ9 hp9 => ?_)
      obtain ⟨rfl, rfl⟩ := hp9
      refine h_aload_n G dX6_choose_50 rfl ?_
      refine wgX6_54 G hL (by first | assumption | omega | (rw [hG.nb]; omega) | (rw [hG.nh]; omega) | (rw [hG.nv]; omega)) dX6_choose_51 ?_
      rw [hG.vi hv (by decide), show vfc g v 0 = g.i 4 v 0 from rfl]
      refine h_icmp_le G 60 dX6_choose_54 (by decide) (fun h54 => ?_) (fun h54 => ?_)
      rotate_left
      · refine h_goto G 129 dX6_choose_57 (by decide) ?_
        exact skip (DN_no hD (fun q => h54 q.2.2))
      have hinv : invites g v k := ⟨hop, hpr, h54⟩
      refine h_iload_n G dX6_choose_60 rfl ?_
      cases r with
      | none =>
        have hD2 := DN_take hD hlt hinv (fun o h => by cases h)
        refine h_if_lt G 85 dX6_choose_61 (by decide) (fun h61 => ?_) (fun h61 => ?_)
        rotate_left
        · exact absurd (show (-1 : Int32) < 0 by decide) h61
        refine h_iload_n G dX6_choose_85 rfl ?_
        refine h_if_lt G 126 dX6_choose_86 (by decide) (fun h86 => ?_) (fun h86 => ?_)
        · exact take hD2
        · exact absurd (show (-1 : Int32) < 0 by decide) h86
      | some o =>
        have ho : o < g.nb := by
          rcases hD with ⟨z, -⟩ | ⟨o2, z, -, z2, -⟩
          · cases z
          · cases z; exact z2
        have ql1 := hI.ql16 hlt
        have ql2 := hI.ql16 ho
        refine h_if_lt G 85 dX6_choose_61 (by decide) (fun h61 => ?_) (fun h61 => ?_)
        · exact absurd h61 (nI_pos (by omega))
        refine h_aload_n G dX6_choose_64 rfl ?_
        refine wgX6_23 G hL dX6_choose_65 ?_
        refine h_iload G dX6_choose_68 rfl ?_
        refine war_23 G hL rfl (by first | assumption | omega | (rw [hG.nb]; omega) | (rw [hG.nh]; omega) | (rw [hG.nv]; omega)) dX6_choose_70 ?_
        refine wle_33 G hL (by first | assumption | omega | (rw [hG.nb]; omega) | (rw [hG.nh]; omega) | (rw [hG.nv]; omega)) dX6_choose_71 ?_
        rw [hG.ql hb8 hlt]
        refine h_aload_n G dX6_choose_72 rfl ?_
        refine wgX6_23 G hL dX6_choose_73 ?_
        refine h_iload_n G dX6_choose_76 rfl ?_
        refine war_23 G hL rfl (by first | assumption | omega | (rw [hG.nb]; omega) | (rw [hG.nh]; omega) | (rw [hG.nv]; omega)) dX6_choose_77 ?_
        refine wle_33 G hL (by first | assumption | omega | (rw [hG.nb]; omega) | (rw [hG.nh]; omega) | (rw [hG.nv]; omega)) dX6_choose_78 ?_
        rw [hG.ql hb8 ho]
        refine h_icmp_le G 85 dX6_choose_79 (by decide) (fun h79 => ?_) (fun h79 => ?_)
        rotate_left
        · refine h_goto G 129 dX6_choose_82 (by decide) ?_
          refine skip (DN_keep hD (Or.inl ?_))
          have : ¬ (g.q k).length ≤ (g.q o).length := fun z => h79 (nI_le z (by omega))
          omega
        have hle := (nI_leI (by omega) (by omega)).mp h79
        refine h_iload_n G dX6_choose_85 rfl ?_
        refine h_if_lt G 126 dX6_choose_86 (by decide) (fun h86 => ?_) (fun h86 => ?_)
        · exact absurd h86 (nI_pos (by omega))
        refine h_aload_n G dX6_choose_89 rfl ?_
        refine wgX6_23 G hL dX6_choose_90 ?_
        refine h_iload G dX6_choose_93 rfl ?_
        refine war_23 G hL rfl (by first | assumption | omega | (rw [hG.nb]; omega) | (rw [hG.nh]; omega) | (rw [hG.nv]; omega)) dX6_choose_95 ?_
        refine wle_33 G hL (by first | assumption | omega | (rw [hG.nb]; omega) | (rw [hG.nh]; omega) | (rw [hG.nv]; omega)) dX6_choose_96 ?_
        rw [hG.ql hb8 hlt]
        refine h_aload_n G dX6_choose_97 rfl ?_
        refine wgX6_23 G hL dX6_choose_98 ?_
        refine h_iload_n G dX6_choose_101 rfl ?_
        refine war_23 G hL rfl (by first | assumption | omega | (rw [hG.nb]; omega) | (rw [hG.nh]; omega) | (rw [hG.nv]; omega)) dX6_choose_102 ?_
        refine wle_33 G hL (by first | assumption | omega | (rw [hG.nb]; omega) | (rw [hG.nh]; omega) | (rw [hG.nv]; omega)) dX6_choose_103 ?_
        rw [hG.ql hb8 ho]
        refine h_icmp_ne G 126 dX6_choose_104 (by decide) (fun h104 => ?_) (fun h104 => ?_)
        · have hne : ¬ (g.q k).length = (g.q o).length := fun q => h104 (by rw [q])
          refine take (DN_take hD hlt hinv (fun o2 z q => ?_))
          cases z
          rcases q with q | q
          · omega
          · omega
        have heq : (g.q k).length = (g.q o).length := nI_inj (by omega) (by omega) h104
        refine h_aload_n G dX6_choose_107 rfl ?_
        refine wgX6_77 G hL (by first | assumption | omega | (rw [hG.nb]; omega) | (rw [hG.nh]; omega) | (rw [hG.nv]; omega)) dX6_choose_108 ?_
        refine h_iload G dX6_choose_111 rfl ?_
        refine wal_45 G hL (by rw [hG.nv]; exact hv) rfl (by omega) dX6_choose_113 ?_
        rw [hG.pr hv (by omega)]
        refine h_aload_n G dX6_choose_114 rfl ?_
        refine wgX6_77 G hL (by first | assumption | omega | (rw [hG.nb]; omega) | (rw [hG.nh]; omega) | (rw [hG.nv]; omega)) dX6_choose_115 ?_
        refine h_iload_n G dX6_choose_118 rfl ?_
        refine wal_45 G hL (by rw [hG.nv]; exact hv) rfl (by omega) dX6_choose_119 ?_
        rw [hG.pr hv (by omega)]
        refine h_icmp_ge G 126 dX6_choose_120 (by decide) (fun h120 => ?_) (fun h120 => ?_)
        · refine take (DN_take hD hlt hinv (fun o2 z q => ?_))
          cases z
          rcases q with q | q
          · omega
          · exact absurd q.2 (i_nlt.mpr h120)
        · refine h_goto G 129 dX6_choose_123 (by decide) ?_
          exact skip (DN_keep hD (Or.inr ⟨heq.symm, i_nle.mp h120⟩))
  exact loop g.nb none (Nat.le_refl _) (Or.inl ⟨rfl, fun b h1 h2 => absurd h2 (Nat.not_lt.mpr h1)⟩)
end Ch
