/-! ===== what is told of a green ===== -/
def stt (g : GS) (v : Nat) : Int32 := if g.i 4 v 2 = 0 then (if g.i 4 v 3 = -1 then 0 else 1) else 2
def opsN (g : GS) : Nat → Int32
  | 0 => 0
  | n + 1 => opsN g n + (if opn g n then 1 else 0)
def prsN (g : GS) : Nat → Int32
  | 0 => 0
  | n + 1 => prsN g n + g.i 2 n 2
def plsN (g : GS) : Nat → Int32
  | 0 => 0
  | n + 1 => plsN g n + g.i 2 n 5
def stsN (g : GS) (s : Int32) : Nat → Int32
  | 0 => 0
  | n + 1 => stsN g s n + (if stt g n = s then 1 else 0)
def bfc (g : GS) (b : Nat) : Nat → Int32
  | 0 => cst g b
  | 1 => g.i 2 b 1
  | 2 => g.i 2 b 2
  | 3 => g.i 2 b 3
  | 4 => nI (wk g b)
  | 5 => if opn g b then 1 else 0
  | 6 => if nI b = g.i 1 0 9 then 1 else 0
  | 7 => nI (g.q b).length
  | 8 => g.i 2 b 5
  | _ => g.i 2 b 6
def vfc (g : GS) (v : Nat) : Nat → Int32
  | 0 => g.i 4 v 0
  | 1 => g.i 4 v 1
  | 2 => stt g v
  | 3 => g.i 4 v 3
  | 4 => g.i 4 v 4
  | 5 => g.i 4 v 5
  | 6 => g.i 4 v 6
  | _ => g.i 4 v 7
def tot (g : GS) : Nat → Int32
  | 0 => g.i 1 0 7
  | 1 => nI g.nb
  | 2 => nI g.nh
  | 3 => nI g.nv
  | 4 => opsN g g.nb
  | 5 => stsN g 1 g.nv
  | 6 => stsN g 2 g.nv
  | 7 => prsN g g.nb
  | 8 => g.i 1 0 10
  | 9 => nI g.bd.length
  | _ => g.i 1 0 8
section Told
variable {E : EX} {M : Mem} {f : Nat} {g : GS}
theorem c_boothFact {b k : Nat} (hf : f < 2) (hS : SimC f M g) (hI : Inv g) (hb : b < g.nb) (hk : k < 10) : Ret E idsC yX2_boothFact cX2_boothFact 4 (some .int) 1 21 [.ref (E.ad (1, f, 0)), .int (nI b), .int (nI k)] M (fun r M' => r = some (.int (bfc g b k)) ∧ M = M') := by
  have hb8 : b < 8 := Nat.lt_of_lt_of_le hb hI.nb8
  refine Ret_of_V RX2 (by decide) rfl idsC_nd [some (.ref (E.ad (1, f, 0))), some (.int (nI b)), some (.int (nI k)), none] rfl (Nat.le_of_ble_eq_true rfl) (fun κ hE G E9 hr => ?_)
  subst hE
  refine s_aload_n G dX2_boothFact_0 rfl ?_
  refine gX2_11 G (by assumption) dX2_boothFact_1 ?_
  refine s_iload_n G dX2_boothFact_4 rfl ?_
  refine ar_6 G (by assumption) rfl (by first | assumption | omega) dX2_boothFact_5 ?_
  refine s_astore_n G dX2_boothFact_6 (by decide) rfl ?_
  refine s_iload_n G dX2_boothFact_7 rfl ?_
  match k, hk with
  | 0, _ =>
    refine s_tableIn (off := 52) G 60 dX2_boothFact_8 (by decide) (by decide) (by decide) (by decide) ?_
    refine s_aload_n G dX2_boothFact_60 rfl ?_
    refine s_iload_n G dX2_boothFact_61 rfl ?_
    refine iX2_154 G (by assumption) (c_costNow hf hS hI hb) (by decide) (Nat.le_of_ble_eq_true rfl) dX2_boothFact_62 (fun r9 M9 hp9 => ?_)
    obtain ⟨rfl, rfl⟩ := hp9
    refine s_iret G E9 hr dX2_boothFact_65 ⟨rfl, rfl⟩
  | 1, _ =>
    refine s_tableIn (off := 58) G 66 dX2_boothFact_8 (by decide) (by decide) (by decide) (by decide) ?_
    refine s_aload_n G dX2_boothFact_66 rfl ?_
    refine gX2_201 G (by assumption) (by assumption) dX2_boothFact_67 ?_
    rw [hS.bo (k := 1) hb (by decide) (by decide)]
    refine s_iret G E9 hr dX2_boothFact_70 ⟨rfl, rfl⟩
  | 2, _ =>
    refine s_tableIn (off := 63) G 71 dX2_boothFact_8 (by decide) (by decide) (by decide) (by decide) ?_
    refine s_aload_n G dX2_boothFact_71 rfl ?_
    refine gX2_151 G (by assumption) (by assumption) dX2_boothFact_72 ?_
    rw [hS.bo (k := 2) hb (by decide) (by decide)]
    refine s_iret G E9 hr dX2_boothFact_75 ⟨rfl, rfl⟩
  | 3, _ =>
    refine s_tableIn (off := 68) G 76 dX2_boothFact_8 (by decide) (by decide) (by decide) (by decide) ?_
    refine s_aload_n G dX2_boothFact_76 rfl ?_
    refine gX2_208 G (by assumption) (by assumption) dX2_boothFact_77 ?_
    rw [hS.bo (k := 3) hb (by decide) (by decide)]
    refine s_iret G E9 hr dX2_boothFact_80 ⟨rfl, rfl⟩
  | 4, _ =>
    refine s_tableIn (off := 73) G 81 dX2_boothFact_8 (by decide) (by decide) (by decide) (by decide) ?_
    refine s_aload_n G dX2_boothFact_81 rfl ?_
    refine gX2_93 G (by assumption) (by assumption) dX2_boothFact_82 ?_
    rw [hS.wks hb]
    refine s_iret G E9 hr dX2_boothFact_85 ⟨rfl, rfl⟩
  | 7, _ =>
    refine s_tableIn (off := 105) G 113 dX2_boothFact_8 (by decide) (by decide) (by decide) (by decide) ?_
    refine s_aload_n G dX2_boothFact_113 rfl ?_
    refine gX2_158 G (by assumption) (by assumption) dX2_boothFact_114 ?_
    rw [hS.ql hb]
    refine s_iret G E9 hr dX2_boothFact_117 ⟨rfl, rfl⟩
  | 8, _ =>
    refine s_tableIn (off := 110) G 118 dX2_boothFact_8 (by decide) (by decide) (by decide) (by decide) ?_
    refine s_aload_n G dX2_boothFact_118 rfl ?_
    refine gX2_194 G (by assumption) (by assumption) dX2_boothFact_119 ?_
    rw [hS.bo (k := 5) hb (by decide) (by decide)]
    refine s_iret G E9 hr dX2_boothFact_122 ⟨rfl, rfl⟩
  | 9, _ =>
    refine s_tableOut G 123 dX2_boothFact_8 (by decide) (by decide) ?_
    refine s_aload_n G dX2_boothFact_123 rfl ?_
    refine gX2_180 G (by assumption) (by assumption) dX2_boothFact_124 ?_
    rw [hS.bo (k := 6) hb (by decide) (by decide)]
    refine s_iret G E9 hr dX2_boothFact_127 ⟨rfl, rfl⟩
  | 5, _ =>
    refine s_tableIn (off := 78) G 86 dX2_boothFact_8 (by decide) (by decide) (by decide) (by decide) ?_
    refine s_aload_n G dX2_boothFact_86 rfl ?_
    refine iX2_120 G (by assumption) (by assumption) (c_isOpenG hf hS hI hb) (by decide) (Nat.le_of_ble_eq_true rfl) dX2_boothFact_87 (fun r9 M9 hp9 => ?_)
    obtain ⟨rfl, rfl⟩ := hp9
    refine s_if_eq G 97 dX2_boothFact_90 (by decide) (fun h90 => ?_) (fun h90 => ?_)
    · refine s_iconst (v := 0) G dX2_boothFact_97 (by decide) ?_
      refine s_iret G E9 hr dX2_boothFact_98 ⟨by rw [bfc, if_neg (fun q => by rw [if_pos q] at h90; exact absurd h90 (by decide))], rfl⟩
    · refine s_iconst (v := 1) G dX2_boothFact_93 (by decide) ?_
      refine s_goto G 98 dX2_boothFact_94 (by decide) ?_
      refine s_iret G E9 hr dX2_boothFact_98 ⟨by rw [bfc, if_pos (Decidable.byContradiction (fun q => h90 (by rw [if_neg q])))], rfl⟩
  | 6, _ =>
    refine s_tableIn (off := 91) G 99 dX2_boothFact_8 (by decide) (by decide) (by decide) (by decide) ?_
    refine s_iload_n G dX2_boothFact_99 rfl ?_
    refine s_aload_n G dX2_boothFact_100 rfl ?_
    refine gX2_40 G (by assumption) dX2_boothFact_101 ?_
    rw [hS.num (k := 9) (by decide) (by decide)]
    refine s_icmp_ne G 111 dX2_boothFact_104 (by decide) (fun h104 => ?_) (fun h104 => ?_)
    · refine s_iconst (v := 0) G dX2_boothFact_111 (by decide) ?_
      refine s_iret G E9 hr dX2_boothFact_112 ⟨by rw [bfc, if_neg h104], rfl⟩
    · refine s_iconst (v := 1) G dX2_boothFact_107 (by decide) ?_
      refine s_goto G 112 dX2_boothFact_108 (by decide) ?_
      refine s_iret G E9 hr dX2_boothFact_112 ⟨by rw [bfc, if_pos h104], rfl⟩
  | k + 10, h => omega
theorem c_openBooths (hf : f < 2) (hS : SimC f M g) (hI : Inv g) : Ret E idsC yX2_openBooths cX2_openBooths 3 (some .int) 1 20 [.ref (E.ad (1, f, 0))] M (fun r M' => r = some (.int (opsN g g.nb)) ∧ M = M') := by
  have hb8 := hI.nb8
  refine Ret_of_V RX2 (by decide) rfl idsC_nd [some (.ref (E.ad (1, f, 0))), none, none] rfl (Nat.le_of_ble_eq_true rfl) (fun κ hE G E9 hr => ?_)
  subst hE
  have loop : ∀ n b, b + n = g.nb → V κ idsC 3 M [some (.ref (κ.E.ad (1, f, 0))), some (.int (opsN g b)), some (.int (nI b))] [] 4 := by
    intro n
    induction n with
    | zero =>
      intro b hb
      have hb : b = g.nb := by omega
      subst hb
      refine s_iload_n G dX2_openBooths_4 rfl ?_
      refine s_aload_n G dX2_openBooths_5 rfl ?_
      refine gX2_46 G (by assumption) dX2_openBooths_6 ?_
      rw [hS.nb]
      refine s_icmp_ge G 38 dX2_openBooths_9 (by decide) (fun h9 => ?_) (fun h9 => ?_)
      · refine s_iload_n G dX2_openBooths_38 rfl ?_
        refine s_iret G E9 hr dX2_openBooths_39 ⟨rfl, rfl⟩
      · exact absurd (Int32.le_refl _) h9
    | succ n ih =>
      intro b hbn
      have hb : b < g.nb := by omega
      have hb9 : b < 8 := by omega
      refine s_iload_n G dX2_openBooths_4 rfl ?_
      refine s_aload_n G dX2_openBooths_5 rfl ?_
      refine gX2_46 G (by assumption) dX2_openBooths_6 ?_
      rw [hS.nb]
      refine s_icmp_ge G 38 dX2_openBooths_9 (by decide) (fun h9 => ?_) (fun h9 => ?_)
      · exact absurd h9 (nI_ge hb (by omega))
      refine s_iload_n G dX2_openBooths_12 rfl ?_
      refine s_aload_n G dX2_openBooths_13 rfl ?_
      refine gX2_11 G (by assumption) dX2_openBooths_14 ?_
      refine s_iload_n G dX2_openBooths_17 rfl ?_
      refine ar_6 G (by assumption) rfl (by first | assumption | omega) dX2_openBooths_18 ?_
      refine iX2_120 G (by assumption) (by assumption) (c_isOpenG hf hS hI hb) (by decide) (Nat.le_of_ble_eq_true rfl) dX2_openBooths_19 (fun r9 M9 hp9 => ?_)
      obtain ⟨rfl, rfl⟩ := hp9
      refine s_if_eq G 29 dX2_openBooths_22 (by decide) (fun h22 => ?_) (fun h22 => ?_)
      · have ho : ¬ opn g b := fun q => by rw [if_pos q] at h22; exact absurd h22 (by decide)
        refine s_iconst (v := 0) G dX2_openBooths_29 (by decide) ?_
        refine s_iadd G dX2_openBooths_30 ?_
        refine s_istore_n G dX2_openBooths_31 (by decide) rfl ?_
        refine s_iinc G dX2_openBooths_32 rfl (by decide) rfl (nI_1 b) ?_
        refine s_goto G 4 dX2_openBooths_35 (by decide) ?_
        have := ih (b + 1) (by omega)
        rw [opsN, if_neg ho] at this
        exact this
      · have ho : opn g b := Decidable.byContradiction (fun q => h22 (by rw [if_neg q]))
        refine s_iconst (v := 1) G dX2_openBooths_25 (by decide) ?_
        refine s_goto G 30 dX2_openBooths_26 (by decide) ?_
        refine s_iadd G dX2_openBooths_30 ?_
        refine s_istore_n G dX2_openBooths_31 (by decide) rfl ?_
        refine s_iinc G dX2_openBooths_32 rfl (by decide) rfl (nI_1 b) ?_
        refine s_goto G 4 dX2_openBooths_35 (by decide) ?_
        have := ih (b + 1) (by omega)
        rw [opsN, if_pos ho] at this
        exact this
  refine s_iconst (v := 0) G dX2_openBooths_0 (by decide) ?_
  refine s_istore_n G dX2_openBooths_1 (by decide) rfl ?_
  refine s_iconst (v := 0) G dX2_openBooths_2 (by decide) ?_
  refine s_istore_n G dX2_openBooths_3 (by decide) rfl ?_
  exact loop g.nb 0 (by omega)
theorem c_visitorsIn {s : Int32} (hf : f < 2) (hS : SimC f M g) (hI : Inv g) : Ret E idsC yX2_visitorsIn cX2_visitorsIn 4 (some .int) 1 20 [.ref (E.ad (1, f, 0)), .int s] M (fun r M' => r = some (.int (stsN g s g.nv)) ∧ M = M') := by
  have hv16 := hI.nv16
  refine Ret_of_V RX2 (by decide) rfl idsC_nd [some (.ref (E.ad (1, f, 0))), some (.int s), none, none] rfl (Nat.le_of_ble_eq_true rfl) (fun κ hE G E9 hr => ?_)
  subst hE
  have loop : ∀ n b, b + n = g.nv → V κ idsC 4 M [some (.ref (κ.E.ad (1, f, 0))), some (.int s), some (.int (stsN g s b)), some (.int (nI b))] [] 4 := by
    intro n
    induction n with
    | zero =>
      intro b hb
      have hb : b = g.nv := by omega
      subst hb
      refine s_iload_n G dX2_visitorsIn_4 rfl ?_
      refine s_aload_n G dX2_visitorsIn_5 rfl ?_
      refine gX2_52 G (by assumption) dX2_visitorsIn_6 ?_
      rw [hS.nv]
      refine s_icmp_ge G 39 dX2_visitorsIn_9 (by decide) (fun h9 => ?_) (fun h9 => ?_)
      · refine s_iload_n G dX2_visitorsIn_39 rfl ?_
        refine s_iret G E9 hr dX2_visitorsIn_40 ⟨rfl, rfl⟩
      · exact absurd (Int32.le_refl _) h9
    | succ n ih =>
      intro b hbn
      have hb : b < g.nv := by omega
      have hb9 : b < 16 := by omega
      refine s_iload_n G dX2_visitorsIn_4 rfl ?_
      refine s_aload_n G dX2_visitorsIn_5 rfl ?_
      refine gX2_52 G (by assumption) dX2_visitorsIn_6 ?_
      rw [hS.nv]
      refine s_icmp_ge G 39 dX2_visitorsIn_9 (by decide) (fun h9 => ?_) (fun h9 => ?_)
      · exact absurd h9 (nI_ge hb (by omega))
      refine s_iload_n G dX2_visitorsIn_12 rfl ?_
      refine s_aload_n G dX2_visitorsIn_13 rfl ?_
      refine gX2_25 G (by assumption) dX2_visitorsIn_14 ?_
      refine s_iload_n G dX2_visitorsIn_17 rfl ?_
      refine ar_8 G (by assumption) rfl (by first | assumption | omega) dX2_visitorsIn_18 ?_
      refine iX2_244 G (by assumption) (by assumption) (c_state hf hb9) (by decide) (Nat.le_of_ble_eq_true rfl) dX2_visitorsIn_19 (fun r9 M9 hp9 => ?_)
      obtain ⟨rfl, rfl⟩ := hp9
      rw [hS.vi (k := 2) hb (by decide), hS.vi (k := 3) hb (by decide)]
      refine s_iload_n G dX2_visitorsIn_22 rfl ?_
      refine s_icmp_ne G 30 dX2_visitorsIn_23 (by decide) (fun h23 => ?_) (fun h23 => ?_)
      · refine s_iconst (v := 0) G dX2_visitorsIn_30 (by decide) ?_
        refine s_iadd G dX2_visitorsIn_31 ?_
        refine s_istore_n G dX2_visitorsIn_32 (by decide) rfl ?_
        refine s_iinc G dX2_visitorsIn_33 rfl (by decide) rfl (nI_1 b) ?_
        refine s_goto G 4 dX2_visitorsIn_36 (by decide) ?_
        have := ih (b + 1) (by omega)
        rw [stsN, stt, if_neg h23] at this
        exact this
      · refine s_iconst (v := 1) G dX2_visitorsIn_26 (by decide) ?_
        refine s_goto G 31 dX2_visitorsIn_27 (by decide) ?_
        refine s_iadd G dX2_visitorsIn_31 ?_
        refine s_istore_n G dX2_visitorsIn_32 (by decide) rfl ?_
        refine s_iinc G dX2_visitorsIn_33 rfl (by decide) rfl (nI_1 b) ?_
        refine s_goto G 4 dX2_visitorsIn_36 (by decide) ?_
        have := ih (b + 1) (by omega)
        rw [stsN, stt, if_pos h23] at this
        exact this
  refine s_iconst (v := 0) G dX2_visitorsIn_0 (by decide) ?_
  refine s_istore_n G dX2_visitorsIn_1 (by decide) rfl ?_
  refine s_iconst (v := 0) G dX2_visitorsIn_2 (by decide) ?_
  refine s_istore_n G dX2_visitorsIn_3 (by decide) rfl ?_
  exact loop g.nv 0 (by omega)
theorem c_prizesLeft (hf : f < 2) (hS : SimC f M g) (hI : Inv g) : Ret E idsC yX2_prizesLeft cX2_prizesLeft 3 (some .int) 0 0 [.ref (E.ad (1, f, 0))] M (fun r M' => r = some (.int (prsN g g.nb)) ∧ M = M') := by
  have hb8 := hI.nb8
  refine Ret_of_V RX2 (by decide) rfl idsC_nd [some (.ref (E.ad (1, f, 0))), none, none] rfl (Nat.le_of_ble_eq_true rfl) (fun κ hE G E9 hr => ?_)
  subst hE
  have loop : ∀ n b, b + n = g.nb → V κ idsC 3 M [some (.ref (κ.E.ad (1, f, 0))), some (.int (prsN g b)), some (.int (nI b))] [] 4 := by
    intro n
    induction n with
    | zero =>
      intro b hb
      have hb : b = g.nb := by omega
      subst hb
      refine s_iload_n G dX2_prizesLeft_4 rfl ?_
      refine s_aload_n G dX2_prizesLeft_5 rfl ?_
      refine gX2_46 G (by assumption) dX2_prizesLeft_6 ?_
      rw [hS.nb]
      refine s_icmp_ge G 30 dX2_prizesLeft_9 (by decide) (fun h9 => ?_) (fun h9 => ?_)
      · refine s_iload_n G dX2_prizesLeft_30 rfl ?_
        refine s_iret G E9 hr dX2_prizesLeft_31 ⟨rfl, rfl⟩
      · exact absurd (Int32.le_refl _) h9
    | succ n ih =>
      intro b hbn
      have hb : b < g.nb := by omega
      have hb9 : b < 8 := by omega
      refine s_iload_n G dX2_prizesLeft_4 rfl ?_
      refine s_aload_n G dX2_prizesLeft_5 rfl ?_
      refine gX2_46 G (by assumption) dX2_prizesLeft_6 ?_
      rw [hS.nb]
      refine s_icmp_ge G 30 dX2_prizesLeft_9 (by decide) (fun h9 => ?_) (fun h9 => ?_)
      · exact absurd h9 (nI_ge hb (by omega))
      refine s_iload_n G dX2_prizesLeft_12 rfl ?_
      refine s_aload_n G dX2_prizesLeft_13 rfl ?_
      refine gX2_11 G (by assumption) dX2_prizesLeft_14 ?_
      refine s_iload_n G dX2_prizesLeft_17 rfl ?_
      refine ar_6 G (by assumption) rfl (by first | assumption | omega) dX2_prizesLeft_18 ?_
      refine gX2_151 G (by assumption) (by assumption) dX2_prizesLeft_19 ?_
      rw [hS.bo (k := 2) hb (by decide) (by decide)]
      refine s_iadd G dX2_prizesLeft_22 ?_
      refine s_istore_n G dX2_prizesLeft_23 (by decide) rfl ?_
      refine s_iinc G dX2_prizesLeft_24 rfl (by decide) rfl (nI_1 b) ?_
      refine s_goto G 4 dX2_prizesLeft_27 (by decide) ?_
      exact ih (b + 1) (by omega)
  refine s_iconst (v := 0) G dX2_prizesLeft_0 (by decide) ?_
  refine s_istore_n G dX2_prizesLeft_1 (by decide) rfl ?_
  refine s_iconst (v := 0) G dX2_prizesLeft_2 (by decide) ?_
  refine s_istore_n G dX2_prizesLeft_3 (by decide) rfl ?_
  exact loop g.nb 0 (by omega)
theorem c_allPlays (hf : f < 2) (hS : SimC f M g) (hI : Inv g) : Ret E idsC yX2_allPlays cX2_allPlays 3 (some .int) 0 0 [.ref (E.ad (1, f, 0))] M (fun r M' => r = some (.int (plsN g g.nb)) ∧ M = M') := by
  have hb8 := hI.nb8
  refine Ret_of_V RX2 (by decide) rfl idsC_nd [some (.ref (E.ad (1, f, 0))), none, none] rfl (Nat.le_of_ble_eq_true rfl) (fun κ hE G E9 hr => ?_)
  subst hE
  have loop : ∀ n b, b + n = g.nb → V κ idsC 3 M [some (.ref (κ.E.ad (1, f, 0))), some (.int (plsN g b)), some (.int (nI b))] [] 4 := by
    intro n
    induction n with
    | zero =>
      intro b hb
      have hb : b = g.nb := by omega
      subst hb
      refine s_iload_n G dX2_allPlays_4 rfl ?_
      refine s_aload_n G dX2_allPlays_5 rfl ?_
      refine gX2_46 G (by assumption) dX2_allPlays_6 ?_
      rw [hS.nb]
      refine s_icmp_ge G 30 dX2_allPlays_9 (by decide) (fun h9 => ?_) (fun h9 => ?_)
      · refine s_iload_n G dX2_allPlays_30 rfl ?_
        refine s_iret G E9 hr dX2_allPlays_31 ⟨rfl, rfl⟩
      · exact absurd (Int32.le_refl _) h9
    | succ n ih =>
      intro b hbn
      have hb : b < g.nb := by omega
      have hb9 : b < 8 := by omega
      refine s_iload_n G dX2_allPlays_4 rfl ?_
      refine s_aload_n G dX2_allPlays_5 rfl ?_
      refine gX2_46 G (by assumption) dX2_allPlays_6 ?_
      rw [hS.nb]
      refine s_icmp_ge G 30 dX2_allPlays_9 (by decide) (fun h9 => ?_) (fun h9 => ?_)
      · exact absurd h9 (nI_ge hb (by omega))
      refine s_iload_n G dX2_allPlays_12 rfl ?_
      refine s_aload_n G dX2_allPlays_13 rfl ?_
      refine gX2_11 G (by assumption) dX2_allPlays_14 ?_
      refine s_iload_n G dX2_allPlays_17 rfl ?_
      refine ar_6 G (by assumption) rfl (by first | assumption | omega) dX2_allPlays_18 ?_
      refine gX2_194 G (by assumption) (by assumption) dX2_allPlays_19 ?_
      rw [hS.bo (k := 5) hb (by decide) (by decide)]
      refine s_iadd G dX2_allPlays_22 ?_
      refine s_istore_n G dX2_allPlays_23 (by decide) rfl ?_
      refine s_iinc G dX2_allPlays_24 rfl (by decide) rfl (nI_1 b) ?_
      refine s_goto G 4 dX2_allPlays_27 (by decide) ?_
      exact ih (b + 1) (by omega)
  refine s_iconst (v := 0) G dX2_allPlays_0 (by decide) ?_
  refine s_istore_n G dX2_allPlays_1 (by decide) rfl ?_
  refine s_iconst (v := 0) G dX2_allPlays_2 (by decide) ?_
  refine s_istore_n G dX2_allPlays_3 (by decide) rfl ?_
  exact loop g.nb 0 (by omega)
theorem c_total {k : Nat} (hf : f < 2) (hS : SimC f M g) (hI : Inv g) (hk : k < 11) : Ret E idsC yX2_total cX2_total 2 (some .int) 2 43 [.ref (E.ad (1, f, 0)), .int (nI k)] M (fun r M' => r = some (.int (tot g k)) ∧ M = M') := by
  refine Ret_of_V RX2 (by decide) rfl idsC_nd [some (.ref (E.ad (1, f, 0))), some (.int (nI k))] rfl (Nat.le_of_ble_eq_true rfl) (fun κ hE G E9 hr => ?_)
  subst hE
  refine s_iload_n G dX2_total_0 rfl ?_
  match k, hk with
  | 0, _ =>
    refine s_tableIn (off := 55) G 56 dX2_total_1 (by decide) (by decide) (by decide) (by decide) ?_
    refine s_aload_n G dX2_total_56 rfl ?_
    refine gX2_55 G (by assumption) dX2_total_57 ?_
    rw [hS.num (k := 7) (by decide) (by decide)]
    refine s_iret G E9 hr dX2_total_60 ⟨rfl, rfl⟩
  | 1, _ =>
    refine s_tableIn (off := 60) G 61 dX2_total_1 (by decide) (by decide) (by decide) (by decide) ?_
    refine s_aload_n G dX2_total_61 rfl ?_
    refine gX2_46 G (by assumption) dX2_total_62 ?_
    rw [hS.nb]
    refine s_iret G E9 hr dX2_total_65 ⟨rfl, rfl⟩
  | 2, _ =>
    refine s_tableIn (off := 65) G 66 dX2_total_1 (by decide) (by decide) (by decide) (by decide) ?_
    refine s_aload_n G dX2_total_66 rfl ?_
    refine gX2_49 G (by assumption) dX2_total_67 ?_
    rw [hS.nh]
    refine s_iret G E9 hr dX2_total_70 ⟨rfl, rfl⟩
  | 3, _ =>
    refine s_tableIn (off := 70) G 71 dX2_total_1 (by decide) (by decide) (by decide) (by decide) ?_
    refine s_aload_n G dX2_total_71 rfl ?_
    refine gX2_52 G (by assumption) dX2_total_72 ?_
    rw [hS.nv]
    refine s_iret G E9 hr dX2_total_75 ⟨rfl, rfl⟩
  | 8, _ =>
    refine s_tableIn (off := 97) G 98 dX2_total_1 (by decide) (by decide) (by decide) (by decide) ?_
    refine s_aload_n G dX2_total_98 rfl ?_
    refine gX2_58 G (by assumption) dX2_total_99 ?_
    rw [hS.num (k := 10) (by decide) (by decide)]
    refine s_iret G E9 hr dX2_total_102 ⟨rfl, rfl⟩
  | 10, _ =>
    refine s_tableOut G 111 dX2_total_1 (by decide) (by decide) ?_
    refine s_aload_n G dX2_total_111 rfl ?_
    refine gX2_36 G (by assumption) dX2_total_112 ?_
    rw [hS.num (k := 8) (by decide) (by decide)]
    refine s_iret G E9 hr dX2_total_115 ⟨rfl, rfl⟩
  | 4, _ =>
    refine s_tableIn (off := 75) G 76 dX2_total_1 (by decide) (by decide) (by decide) (by decide) ?_
    refine s_aload_n G dX2_total_76 rfl ?_
    refine iX2_234 G (by assumption) (c_openBooths hf hS hI) (by decide) (Nat.le_of_ble_eq_true rfl) dX2_total_77 (fun r9 M9 hp9 => ?_)
    obtain ⟨rfl, rfl⟩ := hp9
    refine s_iret G E9 hr dX2_total_80 ⟨rfl, rfl⟩
  | 5, _ =>
    refine s_tableIn (off := 80) G 81 dX2_total_1 (by decide) (by decide) (by decide) (by decide) ?_
    refine s_aload_n G dX2_total_81 rfl ?_
    refine s_iconst (v := 1) G dX2_total_82 (by decide) ?_
    refine iX2_238 G (by assumption) (c_visitorsIn hf hS hI) (by decide) (Nat.le_of_ble_eq_true rfl) dX2_total_83 (fun r9 M9 hp9 => ?_)
    obtain ⟨rfl, rfl⟩ := hp9
    refine s_iret G E9 hr dX2_total_86 ⟨rfl, rfl⟩
  | 6, _ =>
    refine s_tableIn (off := 86) G 87 dX2_total_1 (by decide) (by decide) (by decide) (by decide) ?_
    refine s_aload_n G dX2_total_87 rfl ?_
    refine s_iconst (v := 2) G dX2_total_88 (by decide) ?_
    refine iX2_238 G (by assumption) (c_visitorsIn hf hS hI) (by decide) (Nat.le_of_ble_eq_true rfl) dX2_total_89 (fun r9 M9 hp9 => ?_)
    obtain ⟨rfl, rfl⟩ := hp9
    refine s_iret G E9 hr dX2_total_92 ⟨rfl, rfl⟩
  | 7, _ =>
    refine s_tableIn (off := 92) G 93 dX2_total_1 (by decide) (by decide) (by decide) (by decide) ?_
    refine s_aload_n G dX2_total_93 rfl ?_
    refine iX2_241 G (by assumption) (c_prizesLeft hf hS hI) (by decide) (Nat.le_of_ble_eq_true rfl) dX2_total_94 (fun r9 M9 hp9 => ?_)
    obtain ⟨rfl, rfl⟩ := hp9
    refine s_iret G E9 hr dX2_total_97 ⟨rfl, rfl⟩
  | 9, _ =>
    refine s_tableIn (off := 102) G 103 dX2_total_1 (by decide) (by decide) (by decide) (by decide) ?_
    refine s_aload_n G dX2_total_103 rfl ?_
    refine gX2_32 G (by assumption) dX2_total_104 ?_
    refine gX2_223 G (by assumption) dX2_total_107 ?_
    rw [hS.bdl]
    refine s_iret G E9 hr dX2_total_110 ⟨rfl, rfl⟩
  | k + 11, h => omega
theorem c_fact4 {v k : Nat} (hf : f < 2) (hS : SimC f M g) (hI : Inv g) (hv : v < g.nv) (hk : k < 8) : Ret E idsC yX4_fact cX4_fact 2 (some .int) 1 20 [.ref (E.ad (4, f, v)), .int (nI k)] M (fun r M' => r = some (.int (vfc g v k)) ∧ M = M') := by
  have hv16 : v < 16 := Nat.lt_of_lt_of_le hv hI.nv16
  refine Ret_of_V RX4 (by decide) rfl idsC_nd [some (.ref (E.ad (4, f, v))), some (.int (nI k))] rfl (Nat.le_of_ble_eq_true rfl) (fun κ hE G E9 hr => ?_)
  subst hE
  refine s_iload_n G dX4_fact_0 rfl ?_
  match k, hk with
  | 0, _ =>
    refine s_tableIn (off := 43) G 44 dX4_fact_1 (by decide) (by decide) (by decide) (by decide) ?_
    refine s_aload_n G dX4_fact_44 rfl ?_
    refine gX4_15 G (by assumption) (by assumption) dX4_fact_45 ?_
    rw [hS.vi (k := 0) hv (by decide)]
    refine s_iret G E9 hr dX4_fact_48 ⟨rfl, rfl⟩
  | 1, _ =>
    refine s_tableIn (off := 48) G 49 dX4_fact_1 (by decide) (by decide) (by decide) (by decide) ?_
    refine s_aload_n G dX4_fact_49 rfl ?_
    refine gX4_19 G (by assumption) (by assumption) dX4_fact_50 ?_
    rw [hS.vi (k := 1) hv (by decide)]
    refine s_iret G E9 hr dX4_fact_53 ⟨rfl, rfl⟩
  | 3, _ =>
    refine s_tableIn (off := 58) G 59 dX4_fact_1 (by decide) (by decide) (by decide) (by decide) ?_
    refine s_aload_n G dX4_fact_59 rfl ?_
    refine gX4_22 G (by assumption) (by assumption) dX4_fact_60 ?_
    rw [hS.vi (k := 3) hv (by decide)]
    refine s_iret G E9 hr dX4_fact_63 ⟨rfl, rfl⟩
  | 4, _ =>
    refine s_tableIn (off := 63) G 64 dX4_fact_1 (by decide) (by decide) (by decide) (by decide) ?_
    refine s_aload_n G dX4_fact_64 rfl ?_
    refine gX4_29 G (by assumption) (by assumption) dX4_fact_65 ?_
    rw [hS.vi (k := 4) hv (by decide)]
    refine s_iret G E9 hr dX4_fact_68 ⟨rfl, rfl⟩
  | 5, _ =>
    refine s_tableIn (off := 68) G 69 dX4_fact_1 (by decide) (by decide) (by decide) (by decide) ?_
    refine s_aload_n G dX4_fact_69 rfl ?_
    refine gX4_32 G (by assumption) (by assumption) dX4_fact_70 ?_
    rw [hS.vi (k := 5) hv (by decide)]
    refine s_iret G E9 hr dX4_fact_73 ⟨rfl, rfl⟩
  | 6, _ =>
    refine s_tableIn (off := 73) G 74 dX4_fact_1 (by decide) (by decide) (by decide) (by decide) ?_
    refine s_aload_n G dX4_fact_74 rfl ?_
    refine gX4_35 G (by assumption) (by assumption) dX4_fact_75 ?_
    rw [hS.vi (k := 6) hv (by decide)]
    refine s_iret G E9 hr dX4_fact_78 ⟨rfl, rfl⟩
  | 7, _ =>
    refine s_tableOut G 79 dX4_fact_1 (by decide) (by decide) ?_
    refine s_aload_n G dX4_fact_79 rfl ?_
    refine gX4_38 G (by assumption) (by assumption) dX4_fact_80 ?_
    rw [hS.vi (k := 7) hv (by decide)]
    refine s_iret G E9 hr dX4_fact_83 ⟨rfl, rfl⟩
  | 2, _ =>
    refine s_tableIn (off := 53) G 54 dX4_fact_1 (by decide) (by decide) (by decide) (by decide) ?_
    refine s_aload_n G dX4_fact_54 rfl ?_
    refine iX4_41 G (by assumption) (by assumption) (c_state hf hv16) (by decide) (Nat.le_of_ble_eq_true rfl) dX4_fact_55 (fun r9 M9 hp9 => ?_)
    obtain ⟨rfl, rfl⟩ := hp9
    rw [hS.vi (k := 2) hv (by decide), hS.vi (k := 3) hv (by decide)]
    refine s_iret G E9 hr dX4_fact_58 ⟨rfl, rfl⟩
  | k + 8, h => omega
def ffc (g : GS) (v : Nat) : Nat → Int32
  | 0 => g.i 4 v 4
  | 1 => g.i 4 v 0
  | _ => g.i 4 v 5
theorem c_ffact {v k : Nat} (hf : f < 2) (hS : SimC f M g) (hI : Inv g) (hv : v < g.nv) (hk : k < 3) : Ret E idsC yX4_foreseenFact cX4_foreseenFact 2 (some .int) 0 0 [.ref (E.ad (4, f, v)), .int (nI k)] M (fun r M' => r = some (.int (ffc g v k)) ∧ M = M') := by
  have hv16 : v < 16 := Nat.lt_of_lt_of_le hv hI.nv16
  refine Ret_of_V RX4 (by decide) rfl idsC_nd [some (.ref (E.ad (4, f, v))), some (.int (nI k))] rfl (Nat.le_of_ble_eq_true rfl) (fun κ hE G E9 hr => ?_)
  subst hE
  refine s_iload_n G dX4_foreseenFact_0 rfl ?_
  match k, hk with
  | 0, _ =>
    refine s_lookup (off := 27) G 28 dX4_foreseenFact_1 (by decide) (by decide) (by decide) ?_
    refine s_aload_n G dX4_foreseenFact_28 rfl ?_
    refine gX4_29 G (by assumption) (by assumption) dX4_foreseenFact_29 ?_
    rw [hS.vi (k := 4) hv (by decide)]
    refine s_iret G E9 hr dX4_foreseenFact_32 ⟨rfl, rfl⟩
  | 1, _ =>
    refine s_lookup (off := 32) G 33 dX4_foreseenFact_1 (by decide) (by decide) (by decide) ?_
    refine s_aload_n G dX4_foreseenFact_33 rfl ?_
    refine gX4_15 G (by assumption) (by assumption) dX4_foreseenFact_34 ?_
    rw [hS.vi (k := 0) hv (by decide)]
    refine s_iret G E9 hr dX4_foreseenFact_37 ⟨rfl, rfl⟩
  | 2, _ =>
    refine s_lookup (off := 37) G 38 dX4_foreseenFact_1 (by decide) (by decide) (by decide) ?_
    refine s_aload_n G dX4_foreseenFact_38 rfl ?_
    refine gX4_32 G (by assumption) (by assumption) dX4_foreseenFact_39 ?_
    rw [hS.vi (k := 5) hv (by decide)]
    refine s_iret G E9 hr dX4_foreseenFact_42 ⟨rfl, rfl⟩
  | k + 3, h => omega
def lfc (x : Nat × Nat × Int32) : Nat → Int32
  | 0 => nI x.1
  | 1 => nI x.2.1
  | _ => x.2.2
theorem c_fact1 {l k : Nat} {x : Nat × Nat × Int32} (hf : f < 2) (hS : SimC f M g) (hI : Inv g) (hx : g.bd[l]? = some x) (hk : k < 3) : Ret E idsC yX1_fact cX1_fact 3 (some .int) 0 0 [.ref (E.ad (5, f, 0)), .int (nI l), .int (nI k)] M (fun r M' => r = some (.int (lfc x k)) ∧ M = M') := by
  have hl3 : l < 3 := by have := (List.getElem?_eq_some_iff.mp hx).1; have := hI.bd3; omega
  refine Ret_of_V RX1 (by decide) rfl idsC_nd [some (.ref (E.ad (5, f, 0))), some (.int (nI l)), some (.int (nI k))] rfl (Nat.le_of_ble_eq_true rfl) (fun κ hE G E9 hr => ?_)
  subst hE
  refine s_iload_n G dX1_fact_0 rfl ?_
  match k, hk with
  | 0, _ =>
    refine s_lookup (off := 27) G 28 dX1_fact_1 (by decide) (by decide) (by decide) ?_
    refine s_aload_n G dX1_fact_28 rfl ?_
    refine gX1_9 G (by assumption) dX1_fact_29 ?_
    refine s_iload_n G dX1_fact_32 rfl ?_
    refine al_11 G (by assumption) rfl (by first | assumption | omega) dX1_fact_33 ?_
    rw [(hS.bde hx).1]
    refine s_iret G E9 hr dX1_fact_34 ⟨rfl, rfl⟩
  | 1, _ =>
    refine s_lookup (off := 34) G 35 dX1_fact_1 (by decide) (by decide) (by decide) ?_
    refine s_aload_n G dX1_fact_35 rfl ?_
    refine gX1_15 G (by assumption) dX1_fact_36 ?_
    refine s_iload_n G dX1_fact_39 rfl ?_
    refine al_12 G (by assumption) rfl (by first | assumption | omega) dX1_fact_40 ?_
    rw [(hS.bde hx).2.1]
    refine s_iret G E9 hr dX1_fact_41 ⟨rfl, rfl⟩
  | 2, _ =>
    refine s_lookup (off := 41) G 42 dX1_fact_1 (by decide) (by decide) (by decide) ?_
    refine s_aload_n G dX1_fact_42 rfl ?_
    refine gX1_18 G (by assumption) dX1_fact_43 ?_
    refine s_iload_n G dX1_fact_46 rfl ?_
    refine al_13 G (by assumption) rfl (by first | assumption | omega) dX1_fact_47 ?_
    rw [(hS.bde hx).2.2]
    refine s_iret G E9 hr dX1_fact_48 ⟨rfl, rfl⟩
  | k + 3, h => omega
end Told
