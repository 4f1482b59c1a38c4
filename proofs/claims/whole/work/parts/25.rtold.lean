/-! ===== what the reference tells of a green ===== -/
/-- how many of the first n visitors are in the queue at b -/
def lnN (g : GS) (b : Nat) : Nat → Nat
  | 0 => 0
  | n + 1 => lnN g b n + if g.i 4 n 3 = nI b then 1 else 0
theorem lnN_range (g : GS) (b : Nat) : ∀ n, lnN g b n = ((List.range n).filter (fun v => decide (g.i 4 v 3 = nI b))).length
  | 0 => rfl
  | n + 1 => by
    rw [lnN, lnN_range g b n, List.range_succ, List.filter_append, List.length_append]
    by_cases h : g.i 4 n 3 = nI b
    · rw [if_pos h]; simp [h]
    · rw [if_neg h]; simp [h]
theorem Inv.lnN {g : GS} (h : Inv g) {b : Nat} (hb : b < g.nb) : lnN g b g.nv = (g.q b).length := by
  rw [lnN_range]
  apply Nat.le_antisymm
  · exact List.Nodup.length_le_of_subset (List.Pairwise.filter _ List.nodup_range) (fun v hv => (h.qm hb).mpr (by simpa using hv))
  · exact List.Nodup.length_le_of_subset (h.qnd hb) (fun v hv => by simpa using (h.qm hb).mp hv)
theorem lnN_le (g : GS) (b : Nat) : ∀ n, lnN g b n ≤ n
  | 0 => Nat.le_refl 0
  | n + 1 => by
    have := lnN_le g b n
    unfold lnN
    split <;> omega
section RT
variable {E : EX} {N : Mem} {g : GS} {w : Int32}
theorem r_working {b : Nat} (hS : SimR N g w) (hI : Inv g) : Ret E idsR yX6_working cX6_working 4 (some .int) 1 22 [.ref (E.ad (14, 0, 0)), .int (nI b)] N (fun r M' => r = some (.int (nI (wk g b))) ∧ N = M') := by
  have hh12 := hI.nh12
  refine Ret_of_V RX6 (by decide) rfl idsR_nd [some (.ref (E.ad (14, 0, 0))), some (.int (nI b)), none, none] rfl (Nat.le_of_ble_eq_true rfl) (fun κ hE G E9 hr => ?_)
  subst hE
  have loop : ∀ n a, a + n = g.nh → V κ idsR 4 N [some (.ref (κ.E.ad (14, 0, 0))), some (.int (nI b)), some (.int (nI (wkN g b a))), some (.int (nI a))] [] 4 := by
    intro n
    induction n with
    | zero =>
      intro a ha
      have ha : a = g.nh := by omega
      subst ha
      refine s_iload_n G dX6_working_4 rfl ?_
      refine s_aload_n G dX6_working_5 rfl ?_
      refine gX6_39 G dX6_working_6 ?_
      rw [hS.nh]
      refine s_icmp_ge G 36 dX6_working_9 (by decide) (fun h9 => ?_) (fun h9 => ?_)
      · refine s_iload_n G dX6_working_36 rfl ?_
        refine s_iret G E9 hr dX6_working_37 ⟨rfl, rfl⟩
      · exact absurd (Int32.le_refl _) h9
    | succ n ih =>
      intro a han
      have ha : a < g.nh := by omega
      have ha9 : a < 12 := by omega
      refine s_iload_n G dX6_working_4 rfl ?_
      refine s_aload_n G dX6_working_5 rfl ?_
      refine gX6_39 G dX6_working_6 ?_
      rw [hS.nh]
      refine s_icmp_ge G 36 dX6_working_9 (by decide) (fun h9 => ?_) (fun h9 => ?_)
      · exact absurd h9 (nI_ge ha (by omega))
      refine s_iload_n G dX6_working_12 rfl ?_
      refine s_aload_n G dX6_working_13 rfl ?_
      refine s_iload_n G dX6_working_14 rfl ?_
      refine s_iconst (v := 1) G dX6_working_15 (by decide) ?_
      refine iX6_63 G (r_he (k := 1) ha9 (by decide)) (by decide) (Nat.le_of_ble_eq_true rfl) dX6_working_16 (fun r9 M9 hp9 => ?_)
      obtain ⟨rfl, rfl⟩ := hp9
      rw [hS.he (k := 1) ha (by decide)]
      refine s_iload_n G dX6_working_19 rfl ?_
      refine s_icmp_ne G 27 dX6_working_20 (by decide) (fun h20 => ?_) (fun h20 => ?_)
      · refine s_iconst (v := 0) G dX6_working_27 (by decide) ?_
        refine s_iadd G dX6_working_28 ?_
        refine s_istore_n G dX6_working_29 (by decide) rfl ?_
        refine s_iinc G dX6_working_30 rfl (by decide) rfl (nI_1 a) ?_
        refine s_goto G 4 dX6_working_33 (by decide) ?_
        have := ih (a + 1) (by omega)
        rw [wkN, if_neg h20, Nat.add_zero] at this
        rw [Int32.add_zero]
        exact this
      · refine s_iconst (v := 1) G dX6_working_23 (by decide) ?_
        refine s_goto G 28 dX6_working_24 (by decide) ?_
        refine s_iadd G dX6_working_28 ?_
        refine s_istore_n G dX6_working_29 (by decide) rfl ?_
        refine s_iinc G dX6_working_30 rfl (by decide) rfl (nI_1 a) ?_
        refine s_goto G 4 dX6_working_33 (by decide) ?_
        have := ih (a + 1) (by omega)
        rw [wkN, if_pos h20] at this
        rw [nI_1]
        exact this
  refine s_iconst (v := 0) G dX6_working_0 (by decide) ?_
  refine s_istore_n G dX6_working_1 (by decide) rfl ?_
  refine s_iconst (v := 0) G dX6_working_2 (by decide) ?_
  refine s_istore_n G dX6_working_3 (by decide) rfl ?_
  exact loop g.nh 0 (by omega)
theorem r_isOpen {b : Nat} (hS : SimR N g w) (hI : Inv g) (hb : b < g.nb) : Ret E idsR yX6_isOpen cX6_isOpen 2 (some .boolean) 2 45 [.ref (E.ad (14, 0, 0)), .int (nI b)] N (fun r M' => r = some (.int (if opn g b then 1 else 0)) ∧ N = M') := by
  have hb8 : b < 8 := Nat.lt_of_lt_of_le hb hI.nb8
  refine Ret_of_V RX6 (by decide) rfl idsR_nd [some (.ref (E.ad (14, 0, 0))), some (.int (nI b))] rfl (Nat.le_of_ble_eq_true rfl) (fun κ hE G E9 hr => ?_)
  subst hE
  refine s_aload_n G dX6_isOpen_0 rfl ?_
  refine s_iload_n G dX6_isOpen_1 rfl ?_
  refine iX6_90 G (r_working hS hI) (by decide) (Nat.le_of_ble_eq_true rfl) dX6_isOpen_2 (fun r9 M9 hp9 => ?_)
  obtain ⟨rfl, rfl⟩ := hp9
  refine s_aload_n G dX6_isOpen_5 rfl ?_
  refine s_iload_n G dX6_isOpen_6 rfl ?_
  refine s_iconst (v := 3) G dX6_isOpen_7 (by decide) ?_
  refine iX6_71 G (r_bo (k := 3) hb8 (by decide)) (by decide) (Nat.le_of_ble_eq_true rfl) dX6_isOpen_8 (fun r9 M9 hp9 => ?_)
  obtain ⟨rfl, rfl⟩ := hp9
  rw [hS.bo (k := 3) hb (by decide)]
  refine s_icmp_lt G 18 dX6_isOpen_11 (by decide) (fun h11 => ?_) (fun h11 => ?_)
  · refine s_iconst (v := 0) G dX6_isOpen_18 (by decide) ?_
    refine s_zret G E9 hr (Or.inl rfl) dX6_isOpen_19 ⟨by rw [if_neg (i_nle.mpr h11)], rfl⟩
  · refine s_iconst (v := 1) G dX6_isOpen_14 (by decide) ?_
    refine s_goto G 19 dX6_isOpen_15 (by decide) ?_
    refine s_zret G E9 hr (Or.inr rfl) dX6_isOpen_19 ⟨by rw [if_pos (i_nlt.mp h11)], rfl⟩
theorem r_length {b : Nat} (hS : SimR N g w) (hI : Inv g) (hb : b < g.nb) : Ret E idsR yX6_length cX6_length 4 (some .int) 1 22 [.ref (E.ad (14, 0, 0)), .int (nI b)] N (fun r M' => r = some (.int (nI (g.q b).length)) ∧ N = M') := by
  have hv16 := hI.nv16
  refine Ret_of_V RX6 (by decide) rfl idsR_nd [some (.ref (E.ad (14, 0, 0))), some (.int (nI b)), none, none] rfl (Nat.le_of_ble_eq_true rfl) (fun κ hE G E9 hr => ?_)
  subst hE
  have loop : ∀ n a, a + n = g.nv → V κ idsR 4 N [some (.ref (κ.E.ad (14, 0, 0))), some (.int (nI b)), some (.int (nI (lnN g b a))), some (.int (nI a))] [] 4 := by
    intro n
    induction n with
    | zero =>
      intro a ha
      have ha : a = g.nv := by omega
      subst ha
      refine s_iload_n G dX6_length_4 rfl ?_
      refine s_aload_n G dX6_length_5 rfl ?_
      refine gX6_42 G dX6_length_6 ?_
      rw [hS.nv]
      refine s_icmp_ge G 36 dX6_length_9 (by decide) (fun h9 => ?_) (fun h9 => ?_)
      · refine s_iload_n G dX6_length_36 rfl ?_
        refine s_iret G E9 hr dX6_length_37 ⟨by rw [hI.lnN hb], rfl⟩
      · exact absurd (Int32.le_refl _) h9
    | succ n ih =>
      intro a han
      have ha : a < g.nv := by omega
      have ha9 : a < 16 := by omega
      refine s_iload_n G dX6_length_4 rfl ?_
      refine s_aload_n G dX6_length_5 rfl ?_
      refine gX6_42 G dX6_length_6 ?_
      rw [hS.nv]
      refine s_icmp_ge G 36 dX6_length_9 (by decide) (fun h9 => ?_) (fun h9 => ?_)
      · exact absurd h9 (nI_ge ha (by omega))
      refine s_iload_n G dX6_length_12 rfl ?_
      refine s_aload_n G dX6_length_13 rfl ?_
      refine s_iload_n G dX6_length_14 rfl ?_
      refine s_iconst (v := 3) G dX6_length_15 (by decide) ?_
      refine iX6_80 G (r_vi (k := 3) ha9 (by decide)) (by decide) (Nat.le_of_ble_eq_true rfl) dX6_length_16 (fun r9 M9 hp9 => ?_)
      obtain ⟨rfl, rfl⟩ := hp9
      rw [hS.v3 ha]
      refine s_iload_n G dX6_length_19 rfl ?_
      refine s_icmp_ne G 27 dX6_length_20 (by decide) (fun h20 => ?_) (fun h20 => ?_)
      · refine s_iconst (v := 0) G dX6_length_27 (by decide) ?_
        refine s_iadd G dX6_length_28 ?_
        refine s_istore_n G dX6_length_29 (by decide) rfl ?_
        refine s_iinc G dX6_length_30 rfl (by decide) rfl (nI_1 a) ?_
        refine s_goto G 4 dX6_length_33 (by decide) ?_
        have := ih (a + 1) (by omega)
        rw [lnN, if_neg h20, Nat.add_zero] at this
        rw [Int32.add_zero]
        exact this
      · refine s_iconst (v := 1) G dX6_length_23 (by decide) ?_
        refine s_goto G 28 dX6_length_24 (by decide) ?_
        refine s_iadd G dX6_length_28 ?_
        refine s_istore_n G dX6_length_29 (by decide) rfl ?_
        refine s_iinc G dX6_length_30 rfl (by decide) rfl (nI_1 a) ?_
        refine s_goto G 4 dX6_length_33 (by decide) ?_
        have := ih (a + 1) (by omega)
        rw [lnN, if_pos h20] at this
        rw [nI_1]
        exact this
  refine s_iconst (v := 0) G dX6_length_0 (by decide) ?_
  refine s_istore_n G dX6_length_1 (by decide) rfl ?_
  refine s_iconst (v := 0) G dX6_length_2 (by decide) ?_
  refine s_istore_n G dX6_length_3 (by decide) rfl ?_
  exact loop g.nv 0 (by omega)
theorem r_with {s : Int32} (hS : SimR N g w) (hI : Inv g) : Ret E idsR yX6_with cX6_with 4 (some .int) 1 22 [.ref (E.ad (14, 0, 0)), .int s] N (fun r M' => r = some (.int (stsN g s g.nv)) ∧ N = M') := by
  have hv16 := hI.nv16
  refine Ret_of_V RX6 (by decide) rfl idsR_nd [some (.ref (E.ad (14, 0, 0))), some (.int s), none, none] rfl (Nat.le_of_ble_eq_true rfl) (fun κ hE G E9 hr => ?_)
  subst hE
  have loop : ∀ n a, a + n = g.nv → V κ idsR 4 N [some (.ref (κ.E.ad (14, 0, 0))), some (.int s), some (.int (stsN g s a)), some (.int (nI a))] [] 4 := by
    intro n
    induction n with
    | zero =>
      intro a ha
      have ha : a = g.nv := by omega
      subst ha
      refine s_iload_n G dX6_with_4 rfl ?_
      refine s_aload_n G dX6_with_5 rfl ?_
      refine gX6_42 G dX6_with_6 ?_
      rw [hS.nv]
      refine s_icmp_ge G 36 dX6_with_9 (by decide) (fun h9 => ?_) (fun h9 => ?_)
      · refine s_iload_n G dX6_with_36 rfl ?_
        refine s_iret G E9 hr dX6_with_37 ⟨rfl, rfl⟩
      · exact absurd (Int32.le_refl _) h9
    | succ n ih =>
      intro a han
      have ha : a < g.nv := by omega
      have ha9 : a < 16 := by omega
      refine s_iload_n G dX6_with_4 rfl ?_
      refine s_aload_n G dX6_with_5 rfl ?_
      refine gX6_42 G dX6_with_6 ?_
      rw [hS.nv]
      refine s_icmp_ge G 36 dX6_with_9 (by decide) (fun h9 => ?_) (fun h9 => ?_)
      · exact absurd h9 (nI_ge ha (by omega))
      refine s_iload_n G dX6_with_12 rfl ?_
      refine s_aload_n G dX6_with_13 rfl ?_
      refine s_iload_n G dX6_with_14 rfl ?_
      refine s_iconst (v := 2) G dX6_with_15 (by decide) ?_
      refine iX6_80 G (r_vi (k := 2) ha9 (by decide)) (by decide) (Nat.le_of_ble_eq_true rfl) dX6_with_16 (fun r9 M9 hp9 => ?_)
      obtain ⟨rfl, rfl⟩ := hp9
      rw [hS.v2 ha]
      refine s_iload_n G dX6_with_19 rfl ?_
      refine s_icmp_ne G 27 dX6_with_20 (by decide) (fun h20 => ?_) (fun h20 => ?_)
      · refine s_iconst (v := 0) G dX6_with_27 (by decide) ?_
        refine s_iadd G dX6_with_28 ?_
        refine s_istore_n G dX6_with_29 (by decide) rfl ?_
        refine s_iinc G dX6_with_30 rfl (by decide) rfl (nI_1 a) ?_
        refine s_goto G 4 dX6_with_33 (by decide) ?_
        have := ih (a + 1) (by omega)
        rw [stsN, if_neg h20] at this
        exact this
      · refine s_iconst (v := 1) G dX6_with_23 (by decide) ?_
        refine s_goto G 28 dX6_with_24 (by decide) ?_
        refine s_iadd G dX6_with_28 ?_
        refine s_istore_n G dX6_with_29 (by decide) rfl ?_
        refine s_iinc G dX6_with_30 rfl (by decide) rfl (nI_1 a) ?_
        refine s_goto G 4 dX6_with_33 (by decide) ?_
        have := ih (a + 1) (by omega)
        rw [stsN, if_pos h20] at this
        exact this
  refine s_iconst (v := 0) G dX6_with_0 (by decide) ?_
  refine s_istore_n G dX6_with_1 (by decide) rfl ?_
  refine s_iconst (v := 0) G dX6_with_2 (by decide) ?_
  refine s_istore_n G dX6_with_3 (by decide) rfl ?_
  exact loop g.nv 0 (by omega)
theorem r_at {b i u : Nat} (hS : SimR N g w) (hI : Inv g) (hb : b < g.nb) (hu : (g.q b)[i]? = some u) : Ret E idsR yX6_at cX6_at 4 (some .int) 1 22 [.ref (E.ad (14, 0, 0)), .int (nI b), .int (nI i)] N (fun r M' => r = some (.int (nI u)) ∧ N = M') := by
  have hv16 := hI.nv16
  have hui := (hI.qm hb).mp (List.mem_of_getElem? hu)
  have hil := (List.getElem?_eq_some_iff.mp hu).1
  have hl16 := hI.ql16 hb
  refine Ret_of_V RX6 (by decide) rfl idsR_nd [some (.ref (E.ad (14, 0, 0))), some (.int (nI b)), some (.int (nI i)), none] rfl (Nat.le_of_ble_eq_true rfl) (fun κ hE G E9 hr => ?_)
  subst hE
  have loop : ∀ n a, a + n = u → V κ idsR 4 N [some (.ref (κ.E.ad (14, 0, 0))), some (.int (nI b)), some (.int (nI i)), some (.int (nI a))] [] 2 := by
    intro n
    induction n with
    | zero =>
      intro a ha
      have ha : a = u := by omega
      subst ha
      have hv : a < g.nv := hui.1
      have hv9 : a < 16 := by omega
      refine s_iload_n G dX6_at_2 rfl ?_
      refine s_aload_n G dX6_at_3 rfl ?_
      refine gX6_42 G dX6_at_4 ?_
      rw [hS.nv]
      refine s_icmp_ge G 38 dX6_at_7 (by decide) (fun h7 => ?_) (fun h7 => ?_)
      · exact absurd h7 (nI_ge hv (by omega))
      refine s_aload_n G dX6_at_10 rfl ?_
      refine s_iload_n G dX6_at_11 rfl ?_
      refine s_iconst (v := 3) G dX6_at_12 (by decide) ?_
      refine iX6_80 G (r_vi (k := 3) hv9 (by decide)) (by decide) (Nat.le_of_ble_eq_true rfl) dX6_at_13 (fun r9 M9 hp9 => ?_)
      obtain ⟨rfl, rfl⟩ := hp9
      rw [hS.v3 hv]
      refine s_iload_n G dX6_at_16 rfl ?_
      refine s_icmp_ne G 32 dX6_at_17 (by decide) (fun h17 => ?_) (fun h17 => ?_)
      · exact absurd hui.2 h17
      refine s_aload_n G dX6_at_20 rfl ?_
      refine s_iload_n G dX6_at_21 rfl ?_
      refine s_iconst (v := 4) G dX6_at_22 (by decide) ?_
      refine iX6_80 G (r_vi (k := 4) hv9 (by decide)) (by decide) (Nat.le_of_ble_eq_true rfl) dX6_at_23 (fun r9 M9 hp9 => ?_)
      obtain ⟨rfl, rfl⟩ := hp9
      rw [hS.pl hb hu]
      refine s_iload_n G dX6_at_26 rfl ?_
      refine s_icmp_ne G 32 dX6_at_27 (by decide) (fun h27 => ?_) (fun h27 => ?_)
      · exact absurd rfl h27
      refine s_iload_n G dX6_at_30 rfl ?_
      refine s_iret G E9 hr dX6_at_31 ⟨rfl, rfl⟩
    | succ n ih =>
      intro a han
      have hv : a < g.nv := Nat.lt_trans (by omega) hui.1
      have hv9 : a < 16 := by omega
      refine s_iload_n G dX6_at_2 rfl ?_
      refine s_aload_n G dX6_at_3 rfl ?_
      refine gX6_42 G dX6_at_4 ?_
      rw [hS.nv]
      refine s_icmp_ge G 38 dX6_at_7 (by decide) (fun h7 => ?_) (fun h7 => ?_)
      · exact absurd h7 (nI_ge hv (by omega))
      refine s_aload_n G dX6_at_10 rfl ?_
      refine s_iload_n G dX6_at_11 rfl ?_
      refine s_iconst (v := 3) G dX6_at_12 (by decide) ?_
      refine iX6_80 G (r_vi (k := 3) hv9 (by decide)) (by decide) (Nat.le_of_ble_eq_true rfl) dX6_at_13 (fun r9 M9 hp9 => ?_)
      obtain ⟨rfl, rfl⟩ := hp9
      rw [hS.v3 hv]
      refine s_iload_n G dX6_at_16 rfl ?_
      refine s_icmp_ne G 32 dX6_at_17 (by decide) (fun h17 => ?_) (fun h17 => ?_)
      · refine s_iinc G dX6_at_32 rfl (by decide) rfl (nI_1 a) ?_
        refine s_goto G 2 dX6_at_35 (by decide) ?_
        exact ih (a + 1) (by omega)
      refine s_aload_n G dX6_at_20 rfl ?_
      refine s_iload_n G dX6_at_21 rfl ?_
      refine s_iconst (v := 4) G dX6_at_22 (by decide) ?_
      refine iX6_80 G (r_vi (k := 4) hv9 (by decide)) (by decide) (Nat.le_of_ble_eq_true rfl) dX6_at_23 (fun r9 M9 hp9 => ?_)
      obtain ⟨rfl, rfl⟩ := hp9
      obtain ⟨j, hj⟩ := List.getElem?_of_mem ((hI.qm hb).mpr ⟨hv, h17⟩)
      have hjl := (List.getElem?_eq_some_iff.mp hj).1
      rw [hS.pl hb hj]
      refine s_iload_n G dX6_at_26 rfl ?_
      refine s_icmp_ne G 32 dX6_at_27 (by decide) (fun h27 => ?_) (fun h27 => ?_)
      · refine s_iinc G dX6_at_32 rfl (by decide) rfl (nI_1 a) ?_
        refine s_goto G 2 dX6_at_35 (by decide) ?_
        exact ih (a + 1) (by omega)
      · have hji : j = i := nI_inj (by omega) (by omega) h27
        rw [hji, hu] at hj
        have : u = a := by simpa using hj
        omega
  refine s_iconst (v := 0) G dX6_at_0 (by decide) ?_
  refine s_istore_n G dX6_at_1 (by decide) rfl ?_
  exact loop u 0 (by omega)
theorem r_cost {b : Nat} (hS : SimR N g w) (hI : Inv g) (hb : b < g.nb) : Ret E idsR yX6_cost cX6_cost 2 (some .int) 1 22 [.ref (E.ad (14, 0, 0)), .int (nI b)] N (fun r M' => r = some (.int (cst g b)) ∧ N = M') := by
  have hb8 : b < 8 := Nat.lt_of_lt_of_le hb hI.nb8
  refine Ret_of_V RX6 (by decide) rfl idsR_nd [some (.ref (E.ad (14, 0, 0))), some (.int (nI b))] rfl (Nat.le_of_ble_eq_true rfl) (fun κ hE G E9 hr => ?_)
  subst hE
  refine s_aload_n G dX6_cost_0 rfl ?_
  refine s_iload_n G dX6_cost_1 rfl ?_
  refine s_iconst (v := 0) G dX6_cost_2 (by decide) ?_
  refine iX6_71 G (r_bo (k := 0) hb8 (by decide)) (by decide) (Nat.le_of_ble_eq_true rfl) dX6_cost_3 (fun r9 M9 hp9 => ?_)
  obtain ⟨rfl, rfl⟩ := hp9
  rw [hS.bo (k := 0) hb (by decide)]
  refine s_aload_n G dX6_cost_6 rfl ?_
  refine gX6_25 G dX6_cost_7 ?_
  refine s_iconst (v := 2) G dX6_cost_10 (by decide) ?_
  refine al_20 G (show (2 : Int32) = nI 2 from rfl) (by decide) dX6_cost_11 ?_
  refine s_iload_n G dX6_cost_12 rfl ?_
  rw [hS.n2]
  refine s_icmp_ne G 20 dX6_cost_13 (by decide) (fun h13 => ?_) (fun h13 => ?_)
  · refine s_iconst (v := 0) G dX6_cost_20 (by decide) ?_
    refine s_isub G dX6_cost_21 ?_
    refine s_iret G E9 hr dX6_cost_22 ⟨by rw [cst, if_neg (fun q => h13 q.symm), Int32.sub_zero], rfl⟩
  · refine s_iconst (v := 1) G dX6_cost_16 (by decide) ?_
    refine s_goto G 21 dX6_cost_17 (by decide) ?_
    refine s_isub G dX6_cost_21 ?_
    refine s_iret G E9 hr dX6_cost_22 ⟨by rw [cst, if_pos h13.symm], rfl⟩
theorem r_boothTold {b k : Nat} (hS : SimR N g w) (hI : Inv g) (hb : b < g.nb) (hk : k < 10) : Ret E idsR yX6_boothTold cX6_boothTold 3 (some .int) 3 66 [.ref (E.ad (14, 0, 0)), .int (nI b), .int (nI k)] N (fun r M' => r = some (.int (bfc g b k)) ∧ N = M') := by
  have hb8 : b < 8 := Nat.lt_of_lt_of_le hb hI.nb8
  refine Ret_of_V RX6 (by decide) rfl idsR_nd [some (.ref (E.ad (14, 0, 0))), some (.int (nI b)), some (.int (nI k))] rfl (Nat.le_of_ble_eq_true rfl) (fun κ hE G E9 hr => ?_)
  subst hE
  refine s_iload_n G dX6_boothTold_0 rfl ?_
  match k, hk with
  | 0, _ =>
    refine s_tableIn (off := 55) G 56 dX6_boothTold_1 (by decide) (by decide) (by decide) (by decide) ?_
    refine s_aload_n G dX6_boothTold_56 rfl ?_
    refine s_iload_n G dX6_boothTold_57 rfl ?_
    refine iX6_93 G (r_cost hS hI hb) (by decide) (Nat.le_of_ble_eq_true rfl) dX6_boothTold_58 (fun r9 M9 hp9 => ?_)
    obtain ⟨rfl, rfl⟩ := hp9
    refine s_iret G E9 hr dX6_boothTold_61 ⟨rfl, rfl⟩
  | 1, _ =>
    refine s_tableIn (off := 117) G 118 dX6_boothTold_1 (by decide) (by decide) (by decide) (by decide) ?_
    refine s_aload_n G dX6_boothTold_118 rfl ?_
    refine s_iload_n G dX6_boothTold_119 rfl ?_
    refine s_iload_n G dX6_boothTold_120 rfl ?_
    refine iX6_71 G (r_bo (k := 1) hb8 (by decide)) (by decide) (Nat.le_of_ble_eq_true rfl) dX6_boothTold_121 (fun r9 M9 hp9 => ?_)
    obtain ⟨rfl, rfl⟩ := hp9
    rw [hS.bo (k := 1) hb (by decide)]
    refine s_iret G E9 hr dX6_boothTold_124 ⟨rfl, rfl⟩
  | 2, _ =>
    refine s_tableIn (off := 117) G 118 dX6_boothTold_1 (by decide) (by decide) (by decide) (by decide) ?_
    refine s_aload_n G dX6_boothTold_118 rfl ?_
    refine s_iload_n G dX6_boothTold_119 rfl ?_
    refine s_iload_n G dX6_boothTold_120 rfl ?_
    refine iX6_71 G (r_bo (k := 2) hb8 (by decide)) (by decide) (Nat.le_of_ble_eq_true rfl) dX6_boothTold_121 (fun r9 M9 hp9 => ?_)
    obtain ⟨rfl, rfl⟩ := hp9
    rw [hS.bo (k := 2) hb (by decide)]
    refine s_iret G E9 hr dX6_boothTold_124 ⟨rfl, rfl⟩
  | 3, _ =>
    refine s_tableIn (off := 117) G 118 dX6_boothTold_1 (by decide) (by decide) (by decide) (by decide) ?_
    refine s_aload_n G dX6_boothTold_118 rfl ?_
    refine s_iload_n G dX6_boothTold_119 rfl ?_
    refine s_iload_n G dX6_boothTold_120 rfl ?_
    refine iX6_71 G (r_bo (k := 3) hb8 (by decide)) (by decide) (Nat.le_of_ble_eq_true rfl) dX6_boothTold_121 (fun r9 M9 hp9 => ?_)
    obtain ⟨rfl, rfl⟩ := hp9
    rw [hS.bo (k := 3) hb (by decide)]
    refine s_iret G E9 hr dX6_boothTold_124 ⟨rfl, rfl⟩
  | 4, _ =>
    refine s_tableIn (off := 61) G 62 dX6_boothTold_1 (by decide) (by decide) (by decide) (by decide) ?_
    refine s_aload_n G dX6_boothTold_62 rfl ?_
    refine s_iload_n G dX6_boothTold_63 rfl ?_
    refine iX6_90 G (r_working hS hI) (by decide) (Nat.le_of_ble_eq_true rfl) dX6_boothTold_64 (fun r9 M9 hp9 => ?_)
    obtain ⟨rfl, rfl⟩ := hp9
    refine s_iret G E9 hr dX6_boothTold_67 ⟨rfl, rfl⟩
  | 5, _ =>
    refine s_tableIn (off := 67) G 68 dX6_boothTold_1 (by decide) (by decide) (by decide) (by decide) ?_
    refine s_aload_n G dX6_boothTold_68 rfl ?_
    refine s_iload_n G dX6_boothTold_69 rfl ?_
    refine iX6_96 G (r_isOpen hS hI hb) (by decide) (Nat.le_of_ble_eq_true rfl) dX6_boothTold_70 (fun r9 M9 hp9 => ?_)
    obtain ⟨rfl, rfl⟩ := hp9
    refine s_if_eq G 80 dX6_boothTold_73 (by decide) (fun h73 => ?_) (fun h73 => ?_)
    · refine s_iconst (v := 0) G dX6_boothTold_80 (by decide) ?_
      refine s_iret G E9 hr dX6_boothTold_81 ⟨by rw [bfc, if_neg (fun q => by rw [if_pos q] at h73; exact absurd h73 (by decide))], rfl⟩
    · refine s_iconst (v := 1) G dX6_boothTold_76 (by decide) ?_
      refine s_goto G 81 dX6_boothTold_77 (by decide) ?_
      refine s_iret G E9 hr dX6_boothTold_81 ⟨by rw [bfc, if_pos (Decidable.byContradiction (fun q => h73 (by rw [if_neg q])))], rfl⟩
  | 6, _ =>
    refine s_tableIn (off := 81) G 82 dX6_boothTold_1 (by decide) (by decide) (by decide) (by decide) ?_
    refine s_aload_n G dX6_boothTold_82 rfl ?_
    refine gX6_25 G dX6_boothTold_83 ?_
    refine s_iconst (v := 2) G dX6_boothTold_86 (by decide) ?_
    refine al_20 G (show (2 : Int32) = nI 2 from rfl) (by decide) dX6_boothTold_87 ?_
    refine s_iload_n G dX6_boothTold_88 rfl ?_
    rw [hS.n2]
    refine s_icmp_ne G 96 dX6_boothTold_89 (by decide) (fun h89 => ?_) (fun h89 => ?_)
    · refine s_iconst (v := 0) G dX6_boothTold_96 (by decide) ?_
      refine s_iret G E9 hr dX6_boothTold_97 ⟨by rw [bfc, if_neg (fun q => h89 q.symm)], rfl⟩
    · refine s_iconst (v := 1) G dX6_boothTold_92 (by decide) ?_
      refine s_goto G 97 dX6_boothTold_93 (by decide) ?_
      refine s_iret G E9 hr dX6_boothTold_97 ⟨by rw [bfc, if_pos h89.symm], rfl⟩
  | 7, _ =>
    refine s_tableIn (off := 97) G 98 dX6_boothTold_1 (by decide) (by decide) (by decide) (by decide) ?_
    refine s_aload_n G dX6_boothTold_98 rfl ?_
    refine s_iload_n G dX6_boothTold_99 rfl ?_
    refine iX6_99 G (r_length hS hI hb) (by decide) (Nat.le_of_ble_eq_true rfl) dX6_boothTold_100 (fun r9 M9 hp9 => ?_)
    obtain ⟨rfl, rfl⟩ := hp9
    refine s_iret G E9 hr dX6_boothTold_103 ⟨rfl, rfl⟩
  | 8, _ =>
    refine s_tableIn (off := 103) G 104 dX6_boothTold_1 (by decide) (by decide) (by decide) (by decide) ?_
    refine s_aload_n G dX6_boothTold_104 rfl ?_
    refine s_iload_n G dX6_boothTold_105 rfl ?_
    refine s_iconst (v := 4) G dX6_boothTold_106 (by decide) ?_
    refine iX6_71 G (r_bo (k := 4) hb8 (by decide)) (by decide) (Nat.le_of_ble_eq_true rfl) dX6_boothTold_107 (fun r9 M9 hp9 => ?_)
    obtain ⟨rfl, rfl⟩ := hp9
    rw [hS.b4 hb]
    refine s_iret G E9 hr dX6_boothTold_110 ⟨rfl, rfl⟩
  | 9, _ =>
    refine s_tableIn (off := 110) G 111 dX6_boothTold_1 (by decide) (by decide) (by decide) (by decide) ?_
    refine s_aload_n G dX6_boothTold_111 rfl ?_
    refine s_iload_n G dX6_boothTold_112 rfl ?_
    refine s_iconst (v := 5) G dX6_boothTold_113 (by decide) ?_
    refine iX6_71 G (r_bo (k := 5) hb8 (by decide)) (by decide) (Nat.le_of_ble_eq_true rfl) dX6_boothTold_114 (fun r9 M9 hp9 => ?_)
    obtain ⟨rfl, rfl⟩ := hp9
    rw [hS.b5 hb]
    refine s_iret G E9 hr dX6_boothTold_117 ⟨rfl, rfl⟩
  | k + 10, h => omega
theorem r_visitorTold {v k : Nat} (hS : SimR N g w) (hI : Inv g) (hv : v < g.nv) (hk : k < 8) : Ret E idsR yX6_visitorTold cX6_visitorTold 3 (some .int) 1 22 [.ref (E.ad (14, 0, 0)), .int (nI v), .int (nI k)] N (fun r M' => r = some (.int (vfc g v k)) ∧ N = M') := by
  have hv9 : v < 16 := Nat.lt_of_lt_of_le hv hI.nv16
  refine Ret_of_V RX6 (by decide) rfl idsR_nd [some (.ref (E.ad (14, 0, 0))), some (.int (nI v)), some (.int (nI k))] rfl (Nat.le_of_ble_eq_true rfl) (fun κ hE G E9 hr => ?_)
  subst hE
  refine s_aload_n G dX6_visitorTold_0 rfl ?_
  refine s_iload_n G dX6_visitorTold_1 rfl ?_
  refine s_iload_n G dX6_visitorTold_2 rfl ?_
  refine s_iconst (v := 4) G dX6_visitorTold_3 (by decide) ?_
  match k, hk with
  | 0, _ =>
    refine s_icmp_ge G 11 dX6_visitorTold_4 (by decide) (fun h4 => ?_) (fun h4 => ?_)
    · exact absurd h4 (by decide)
    refine s_iload_n G dX6_visitorTold_7 rfl ?_
    refine s_goto G 14 dX6_visitorTold_8 (by decide) ?_
    refine iX6_80 G (r_vi (k := 0) hv9 (by decide)) (by decide) (Nat.le_of_ble_eq_true rfl) dX6_visitorTold_14 (fun r9 M9 hp9 => ?_)
    obtain ⟨rfl, rfl⟩ := hp9
    rw [hS.v0 hv]
    refine s_iret G E9 hr dX6_visitorTold_17 ⟨rfl, rfl⟩
  | 1, _ =>
    refine s_icmp_ge G 11 dX6_visitorTold_4 (by decide) (fun h4 => ?_) (fun h4 => ?_)
    · exact absurd h4 (by decide)
    refine s_iload_n G dX6_visitorTold_7 rfl ?_
    refine s_goto G 14 dX6_visitorTold_8 (by decide) ?_
    refine iX6_80 G (r_vi (k := 1) hv9 (by decide)) (by decide) (Nat.le_of_ble_eq_true rfl) dX6_visitorTold_14 (fun r9 M9 hp9 => ?_)
    obtain ⟨rfl, rfl⟩ := hp9
    rw [hS.v1 hv]
    refine s_iret G E9 hr dX6_visitorTold_17 ⟨rfl, rfl⟩
  | 2, _ =>
    refine s_icmp_ge G 11 dX6_visitorTold_4 (by decide) (fun h4 => ?_) (fun h4 => ?_)
    · exact absurd h4 (by decide)
    refine s_iload_n G dX6_visitorTold_7 rfl ?_
    refine s_goto G 14 dX6_visitorTold_8 (by decide) ?_
    refine iX6_80 G (r_vi (k := 2) hv9 (by decide)) (by decide) (Nat.le_of_ble_eq_true rfl) dX6_visitorTold_14 (fun r9 M9 hp9 => ?_)
    obtain ⟨rfl, rfl⟩ := hp9
    rw [hS.v2 hv]
    refine s_iret G E9 hr dX6_visitorTold_17 ⟨rfl, rfl⟩
  | 3, _ =>
    refine s_icmp_ge G 11 dX6_visitorTold_4 (by decide) (fun h4 => ?_) (fun h4 => ?_)
    · exact absurd h4 (by decide)
    refine s_iload_n G dX6_visitorTold_7 rfl ?_
    refine s_goto G 14 dX6_visitorTold_8 (by decide) ?_
    refine iX6_80 G (r_vi (k := 3) hv9 (by decide)) (by decide) (Nat.le_of_ble_eq_true rfl) dX6_visitorTold_14 (fun r9 M9 hp9 => ?_)
    obtain ⟨rfl, rfl⟩ := hp9
    rw [hS.v3 hv]
    refine s_iret G E9 hr dX6_visitorTold_17 ⟨rfl, rfl⟩
  | 4, _ =>
    refine s_icmp_ge G 11 dX6_visitorTold_4 (by decide) (fun h4 => ?_) (fun h4 => ?_)
    rotate_left
    · exact absurd (by decide) h4
    refine s_iload_n G dX6_visitorTold_11 rfl ?_
    refine s_iconst (v := 1) G dX6_visitorTold_12 (by decide) ?_
    refine s_iadd G dX6_visitorTold_13 ?_
    refine iX6_80 G (r_vi (k := 5) hv9 (by decide)) (by decide) (Nat.le_of_ble_eq_true rfl) dX6_visitorTold_14 (fun r9 M9 hp9 => ?_)
    obtain ⟨rfl, rfl⟩ := hp9
    rw [hS.v5 hv]
    refine s_iret G E9 hr dX6_visitorTold_17 ⟨rfl, rfl⟩
  | 5, _ =>
    refine s_icmp_ge G 11 dX6_visitorTold_4 (by decide) (fun h4 => ?_) (fun h4 => ?_)
    rotate_left
    · exact absurd (by decide) h4
    refine s_iload_n G dX6_visitorTold_11 rfl ?_
    refine s_iconst (v := 1) G dX6_visitorTold_12 (by decide) ?_
    refine s_iadd G dX6_visitorTold_13 ?_
    refine iX6_80 G (r_vi (k := 6) hv9 (by decide)) (by decide) (Nat.le_of_ble_eq_true rfl) dX6_visitorTold_14 (fun r9 M9 hp9 => ?_)
    obtain ⟨rfl, rfl⟩ := hp9
    rw [hS.v6 hv]
    refine s_iret G E9 hr dX6_visitorTold_17 ⟨rfl, rfl⟩
  | 6, _ =>
    refine s_icmp_ge G 11 dX6_visitorTold_4 (by decide) (fun h4 => ?_) (fun h4 => ?_)
    rotate_left
    · exact absurd (by decide) h4
    refine s_iload_n G dX6_visitorTold_11 rfl ?_
    refine s_iconst (v := 1) G dX6_visitorTold_12 (by decide) ?_
    refine s_iadd G dX6_visitorTold_13 ?_
    refine iX6_80 G (r_vi (k := 7) hv9 (by decide)) (by decide) (Nat.le_of_ble_eq_true rfl) dX6_visitorTold_14 (fun r9 M9 hp9 => ?_)
    obtain ⟨rfl, rfl⟩ := hp9
    rw [hS.v7 hv]
    refine s_iret G E9 hr dX6_visitorTold_17 ⟨rfl, rfl⟩
  | 7, _ =>
    refine s_icmp_ge G 11 dX6_visitorTold_4 (by decide) (fun h4 => ?_) (fun h4 => ?_)
    rotate_left
    · exact absurd (by decide) h4
    refine s_iload_n G dX6_visitorTold_11 rfl ?_
    refine s_iconst (v := 1) G dX6_visitorTold_12 (by decide) ?_
    refine s_iadd G dX6_visitorTold_13 ?_
    refine iX6_80 G (r_vi (k := 8) hv9 (by decide)) (by decide) (Nat.le_of_ble_eq_true rfl) dX6_visitorTold_14 (fun r9 M9 hp9 => ?_)
    obtain ⟨rfl, rfl⟩ := hp9
    rw [hS.v8 hv]
    refine s_iret G E9 hr dX6_visitorTold_17 ⟨rfl, rfl⟩
  | k + 8, h => omega
theorem r_counted {k : Nat} (hS : SimR N g 0) (hI : Inv g) (hk : k < 11) : Ret E idsR yX6_counted cX6_counted 4 (some .int) 3 66 [.ref (E.ad (14, 0, 0)), .int (nI k)] N (fun r M' => r = some (.int (tot g k)) ∧ N = M') := by
  have hb8 := hI.nb8
  refine Ret_of_V RX6 (by decide) rfl idsR_nd [some (.ref (E.ad (14, 0, 0))), some (.int (nI k)), none, none] rfl (Nat.le_of_ble_eq_true rfl) (fun κ hE G E9 hr => ?_)
  subst hE
  have hwon : N (20, 0, 0) 3 = g.i 1 0 10 := by rw [← hS.n3, Int32.add_zero]
  refine s_iconst (v := 0) G dX6_counted_0 (by decide) ?_
  refine s_istore_n G dX6_counted_1 (by decide) rfl ?_
  refine s_iload_n G dX6_counted_2 rfl ?_
  match k, hk with
  | 0, _ =>
    refine s_tableIn (off := 53) G 56 dX6_counted_3 (by decide) (by decide) (by decide) (by decide) ?_
    refine s_aload_n G dX6_counted_56 rfl ?_
    refine gX6_25 G dX6_counted_57 ?_
    refine s_iconst (v := 0) G dX6_counted_60 (by decide) ?_
    refine al_20 G (show (0 : Int32) = nI 0 from rfl) (by decide) dX6_counted_61 ?_
    rw [hS.n0]
    refine s_iret G E9 hr dX6_counted_62 ⟨rfl, rfl⟩
  | 1, _ =>
    refine s_tableIn (off := 60) G 63 dX6_counted_3 (by decide) (by decide) (by decide) (by decide) ?_
    refine s_aload_n G dX6_counted_63 rfl ?_
    refine gX6_32 G dX6_counted_64 ?_
    rw [hS.nb]
    refine s_iret G E9 hr dX6_counted_67 ⟨rfl, rfl⟩
  | 2, _ =>
    refine s_tableIn (off := 65) G 68 dX6_counted_3 (by decide) (by decide) (by decide) (by decide) ?_
    refine s_aload_n G dX6_counted_68 rfl ?_
    refine gX6_39 G dX6_counted_69 ?_
    rw [hS.nh]
    refine s_iret G E9 hr dX6_counted_72 ⟨rfl, rfl⟩
  | 3, _ =>
    refine s_tableIn (off := 70) G 73 dX6_counted_3 (by decide) (by decide) (by decide) (by decide) ?_
    refine s_aload_n G dX6_counted_73 rfl ?_
    refine gX6_42 G dX6_counted_74 ?_
    rw [hS.nv]
    refine s_iret G E9 hr dX6_counted_77 ⟨rfl, rfl⟩
  | 4, _ =>
    refine s_tableIn (off := 75) G 78 dX6_counted_3 (by decide) (by decide) (by decide) (by decide) ?_
    have loop : ∀ n a, a + n = g.nb → V κ idsR 4 N [some (.ref (κ.E.ad (14, 0, 0))), some (.int (nI 4)), some (.int (opsN g a)), some (.int (nI a))] [] 80 := by
      intro n
      induction n with
      | zero =>
        intro a ha
        have ha : a = g.nb := by omega
        subst ha
        refine s_iload_n G dX6_counted_80 rfl ?_
        refine s_aload_n G dX6_counted_81 rfl ?_
        refine gX6_32 G dX6_counted_82 ?_
        rw [hS.nb]
        refine s_icmp_ge G 125 dX6_counted_85 (by decide) (fun h85 => ?_) (fun h85 => ?_)
        · refine s_iload_n G dX6_counted_125 rfl ?_
          refine s_iret G E9 hr dX6_counted_126 ⟨rfl, rfl⟩
        · exact absurd (Int32.le_refl _) h85
      | succ n ih =>
        intro a han
        have ha : a < g.nb := by omega
        refine s_iload_n G dX6_counted_80 rfl ?_
        refine s_aload_n G dX6_counted_81 rfl ?_
        refine gX6_32 G dX6_counted_82 ?_
        rw [hS.nb]
        refine s_icmp_ge G 125 dX6_counted_85 (by decide) (fun h85 => ?_) (fun h85 => ?_)
        · exact absurd h85 (nI_ge ha (by omega))
        refine s_iload_n G dX6_counted_88 rfl ?_
        refine s_iload_n G dX6_counted_89 rfl ?_
        refine s_bipush (v := 7) G dX6_counted_90 (by decide) ?_
        refine s_icmp_ne G 104 dX6_counted_92 (by decide) (fun h92 => ?_) (fun h92 => ?_)
        rotate_left
        · exact absurd h92 (by decide)
        refine s_aload_n G dX6_counted_104 rfl ?_
        refine s_iload_n G dX6_counted_105 rfl ?_
        refine iX6_96 G (r_isOpen hS hI ha) (by decide) (Nat.le_of_ble_eq_true rfl) dX6_counted_106 (fun r9 M9 hp9 => ?_)
        obtain ⟨rfl, rfl⟩ := hp9
        refine s_if_eq G 116 dX6_counted_109 (by decide) (fun h109 => ?_) (fun h109 => ?_)
        · have ho : ¬ opn g a := fun q => by rw [if_pos q] at h109; exact absurd h109 (by decide)
          refine s_iconst (v := 0) G dX6_counted_116 (by decide) ?_
          refine s_iadd G dX6_counted_117 ?_
          refine s_istore_n G dX6_counted_118 (by decide) rfl ?_
          refine s_iinc G dX6_counted_119 rfl (by decide) rfl (nI_1 a) ?_
          refine s_goto G 80 dX6_counted_122 (by decide) ?_
          have := ih (a + 1) (by omega)
          rw [opsN, if_neg ho] at this
          exact this
        · have ho : opn g a := Decidable.byContradiction (fun q => h109 (by rw [if_neg q]))
          refine s_iconst (v := 1) G dX6_counted_112 (by decide) ?_
          refine s_goto G 117 dX6_counted_113 (by decide) ?_
          refine s_iadd G dX6_counted_117 ?_
          refine s_istore_n G dX6_counted_118 (by decide) rfl ?_
          refine s_iinc G dX6_counted_119 rfl (by decide) rfl (nI_1 a) ?_
          refine s_goto G 80 dX6_counted_122 (by decide) ?_
          have := ih (a + 1) (by omega)
          rw [opsN, if_pos ho] at this
          exact this
    refine s_iconst (v := 0) G dX6_counted_78 (by decide) ?_
    refine s_istore_n G dX6_counted_79 (by decide) rfl ?_
    exact loop g.nb 0 (by omega)
  | 7, _ =>
    refine s_tableIn (off := 75) G 78 dX6_counted_3 (by decide) (by decide) (by decide) (by decide) ?_
    have loop : ∀ n a, a + n = g.nb → V κ idsR 4 N [some (.ref (κ.E.ad (14, 0, 0))), some (.int (nI 7)), some (.int (prsN g a)), some (.int (nI a))] [] 80 := by
      intro n
      induction n with
      | zero =>
        intro a ha
        have ha : a = g.nb := by omega
        subst ha
        refine s_iload_n G dX6_counted_80 rfl ?_
        refine s_aload_n G dX6_counted_81 rfl ?_
        refine gX6_32 G dX6_counted_82 ?_
        rw [hS.nb]
        refine s_icmp_ge G 125 dX6_counted_85 (by decide) (fun h85 => ?_) (fun h85 => ?_)
        · refine s_iload_n G dX6_counted_125 rfl ?_
          refine s_iret G E9 hr dX6_counted_126 ⟨rfl, rfl⟩
        · exact absurd (Int32.le_refl _) h85
      | succ n ih =>
        intro a han
        have ha : a < g.nb := by omega
        have ha9 : a < 8 := by omega
        refine s_iload_n G dX6_counted_80 rfl ?_
        refine s_aload_n G dX6_counted_81 rfl ?_
        refine gX6_32 G dX6_counted_82 ?_
        rw [hS.nb]
        refine s_icmp_ge G 125 dX6_counted_85 (by decide) (fun h85 => ?_) (fun h85 => ?_)
        · exact absurd h85 (nI_ge ha (by omega))
        refine s_iload_n G dX6_counted_88 rfl ?_
        refine s_iload_n G dX6_counted_89 rfl ?_
        refine s_bipush (v := 7) G dX6_counted_90 (by decide) ?_
        refine s_icmp_ne G 104 dX6_counted_92 (by decide) (fun h92 => ?_) (fun h92 => ?_)
        · exact absurd (show nI 7 = 7 by decide) h92
        refine s_aload_n G dX6_counted_95 rfl ?_
        refine s_iload_n G dX6_counted_96 rfl ?_
        refine s_iconst (v := 2) G dX6_counted_97 (by decide) ?_
        refine iX6_71 G (r_bo (k := 2) ha9 (by decide)) (by decide) (Nat.le_of_ble_eq_true rfl) dX6_counted_98 (fun r9 M9 hp9 => ?_)
        obtain ⟨rfl, rfl⟩ := hp9
        rw [hS.bo (k := 2) ha (by decide)]
        refine s_goto G 117 dX6_counted_101 (by decide) ?_
        refine s_iadd G dX6_counted_117 ?_
        refine s_istore_n G dX6_counted_118 (by decide) rfl ?_
        refine s_iinc G dX6_counted_119 rfl (by decide) rfl (nI_1 a) ?_
        refine s_goto G 80 dX6_counted_122 (by decide) ?_
        exact ih (a + 1) (by omega)
    refine s_iconst (v := 0) G dX6_counted_78 (by decide) ?_
    refine s_istore_n G dX6_counted_79 (by decide) rfl ?_
    exact loop g.nb 0 (by omega)
  | 5, _ =>
    refine s_tableIn (off := 124) G 127 dX6_counted_3 (by decide) (by decide) (by decide) (by decide) ?_
    refine s_aload_n G dX6_counted_127 rfl ?_
    refine s_iload_n G dX6_counted_128 rfl ?_
    refine s_iconst (v := 4) G dX6_counted_129 (by decide) ?_
    refine s_isub G dX6_counted_130 ?_
    refine iX6_143 G (r_with hS hI) (by decide) (Nat.le_of_ble_eq_true rfl) dX6_counted_131 (fun r9 M9 hp9 => ?_)
    obtain ⟨rfl, rfl⟩ := hp9
    refine s_iret G E9 hr dX6_counted_134 ⟨by rw [show (nI 5 - 4 : Int32) = 1 by decide]; rfl, rfl⟩
  | 6, _ =>
    refine s_tableIn (off := 124) G 127 dX6_counted_3 (by decide) (by decide) (by decide) (by decide) ?_
    refine s_aload_n G dX6_counted_127 rfl ?_
    refine s_iload_n G dX6_counted_128 rfl ?_
    refine s_iconst (v := 4) G dX6_counted_129 (by decide) ?_
    refine s_isub G dX6_counted_130 ?_
    refine iX6_143 G (r_with hS hI) (by decide) (Nat.le_of_ble_eq_true rfl) dX6_counted_131 (fun r9 M9 hp9 => ?_)
    obtain ⟨rfl, rfl⟩ := hp9
    refine s_iret G E9 hr dX6_counted_134 ⟨by rw [show (nI 6 - 4 : Int32) = 2 by decide]; rfl, rfl⟩
  | 8, _ =>
    refine s_tableIn (off := 132) G 135 dX6_counted_3 (by decide) (by decide) (by decide) (by decide) ?_
    refine s_aload_n G dX6_counted_135 rfl ?_
    refine gX6_25 G dX6_counted_136 ?_
    refine s_iconst (v := 3) G dX6_counted_139 (by decide) ?_
    refine al_20 G (show (3 : Int32) = nI 3 from rfl) (by decide) dX6_counted_140 ?_
    rw [hwon]
    refine s_iret G E9 hr dX6_counted_141 ⟨rfl, rfl⟩
  | 9, _ =>
    refine s_tableIn (off := 139) G 142 dX6_counted_3 (by decide) (by decide) (by decide) (by decide) ?_
    refine s_aload_n G dX6_counted_142 rfl ?_
    refine gX6_25 G dX6_counted_143 ?_
    refine s_iconst (v := 4) G dX6_counted_146 (by decide) ?_
    refine al_20 G (show (4 : Int32) = nI 4 from rfl) (by decide) dX6_counted_147 ?_
    rw [hS.n4]
    refine s_iret G E9 hr dX6_counted_148 ⟨rfl, rfl⟩
  | 10, _ =>
    refine s_tableOut G 149 dX6_counted_3 (by decide) (by decide) ?_
    refine s_aload_n G dX6_counted_149 rfl ?_
    refine gX6_25 G dX6_counted_150 ?_
    refine s_iconst (v := 1) G dX6_counted_153 (by decide) ?_
    refine al_20 G (show (1 : Int32) = nI 1 from rfl) (by decide) dX6_counted_154 ?_
    rw [hS.n1]
    refine s_iret G E9 hr dX6_counted_155 ⟨rfl, rfl⟩
  | k + 11, h => omega
end RT
