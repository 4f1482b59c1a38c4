/-! ===== the law's green: working, isOpen, cost ===== -/
section Small
variable {E : EX} {σ : Sg} {ω : WS} {g : GS} {w : Int32}
theorem m_working (hL : LayS E σ ω) (hG : SimG ω g w) (hI : Inv g) (b : Nat) : RetS E yX6_working cX6_working 7 (some .int) 0 0 0 0 [.ref (ω.ad (21, 0, 0)), .int (nI b)] σ (fun r σ' => r = some (.int (nI (wk g b))) ∧ σ = σ') := by
  have hh12 := hI.nh12
  have hnh := hG.nh
  refine RetS_of RX6 (by decide) rfl [some (.ref (ω.ad (21, 0, 0))), some (.int (nI b)), none, none, none, none, none] rfl (Nat.le_of_ble_eq_true rfl) (fun κ hE G E9 hr => ?_)
  subst hE
  have hc9 := E9.2.2.1
  have hd9 := E9.2.2.2
  refine h_iconst (v := 0) G dX6_working_0 (by decide) ?_
  refine h_istore_n G dX6_working_1 (by decide) rfl ?_
  refine h_aload_n G dX6_working_2 rfl ?_
  refine wgX6_26 G hL dX6_working_3 ?_
  refine h_astore_n G dX6_working_6 (by decide) rfl ?_
  refine h_aload_n G dX6_working_7 rfl ?_
  refine wle_24 G hL dX6_working_8 ?_
  rw [hnh]
  refine h_istore G dX6_working_9 (by decide) rfl ?_
  refine h_iconst (v := 0) G dX6_working_11 (by decide) ?_
  refine h_istore G dX6_working_12 (by decide) rfl ?_
  have loop : ∀ m k, k + m = g.nh → HV κ 7 σ 0 0 [some (.ref (ω.ad (21, 0, 0))), some (.int (nI b)), some (.int (nI (wkN g b k))), some (.ref (ω.ad (24, 0, 0))), some (.int (nI g.nh)), some (.int (nI k)), none] [] 14 := by
    intro m
    induction m with
    | zero =>
      intro k hk
      have hk : k = g.nh := by omega
      subst hk
      refine h_iload G dX6_working_14 rfl ?_
      refine h_iload G dX6_working_16 rfl ?_
      refine h_icmp_ge G 49 dX6_working_18 (by decide) (fun h18 => ?_) (fun h18 => ?_)
      · refine h_iload_n G dX6_working_49 rfl ?_
        refine h_iret G E9 (by omega) (by omega) hr dX6_working_50 ⟨rfl, rfl⟩
      · exact absurd (nI_le (Nat.le_refl _) (by omega)) h18
    | succ m ih =>
      intro k hk
      have hlt : k < g.nh := by omega
      refine h_iload G dX6_working_14 rfl ?_
      refine h_iload G dX6_working_16 rfl ?_
      refine h_icmp_ge G 49 dX6_working_18 (by decide) (fun h18 => ?_) (fun h18 => ?_)
      · exact absurd h18 (nI_ge hlt (by omega))
      refine h_aload_n G dX6_working_21 rfl ?_
      refine h_iload G dX6_working_22 rfl ?_
      refine war_24 G hL rfl (by first | assumption | omega) dX6_working_24 ?_
      refine h_astore G dX6_working_25 (by decide) rfl ?_
      refine h_iload_n G dX6_working_27 rfl ?_
      refine h_aload G dX6_working_28 rfl ?_
      refine h_iconst (v := 1) G dX6_working_30 (by decide) ?_
      refine wal_34 G hL (by first | assumption | omega) (show (1 : Int32) = nI 1 from rfl) (by decide) dX6_working_31 ?_
      rw [hG.he hlt (by decide)]
      refine h_iload_n G dX6_working_32 rfl ?_
      have ih := ih (k + 1) (by omega)
      refine h_icmp_ne G 40 dX6_working_33 (by decide) (fun h33 => ?_) (fun h33 => ?_)
      · refine h_iconst (v := 0) G dX6_working_40 (by decide) ?_
        refine h_iadd G dX6_working_41 ?_
        refine h_istore_n G dX6_working_42 (by decide) rfl ?_
        rw [show nI (wkN g b k) + 0 = nI (wkN g b (k + 1)) by rw [wkN, if_neg h33]; exact (show nI (wkN g b k) + nI 0 = _ from nI_add _ _)]
        refine h_iinc G dX6_working_43 rfl (by decide) rfl (nI_1 k) ?_
        refine h_goto G 14 dX6_working_46 (by decide) ?_
        exact HV.drop1 6 ih
      · refine h_iconst (v := 1) G dX6_working_36 (by decide) ?_
        refine h_goto G 41 dX6_working_37 (by decide) ?_
        refine h_iadd G dX6_working_41 ?_
        refine h_istore_n G dX6_working_42 (by decide) rfl ?_
        rw [show nI (wkN g b k) + 1 = nI (wkN g b (k + 1)) by rw [wkN, if_pos h33]; exact nI_1 _]
        refine h_iinc G dX6_working_43 rfl (by decide) rfl (nI_1 k) ?_
        refine h_goto G 14 dX6_working_46 (by decide) ?_
        exact HV.drop1 6 ih
  exact loop g.nh 0 (by omega)
theorem m_isOpen (hL : LayS E σ ω) (hG : SimG ω g w) (hI : Inv g) {b : Nat} (hb : b < g.nb) : RetS E yX6_isOpen cX6_isOpen 2 (some .boolean) 1 26 0 0 [.ref (ω.ad (21, 0, 0)), .int (nI b)] σ (fun r σ' => (opn g b ∧ r = some (.int 1) ∧ σ = σ') ∨ (¬ opn g b ∧ r = some (.int 0) ∧ σ = σ')) := by
  have hnb := hG.nb
  refine RetS_of RX6 (by decide) rfl [some (.ref (ω.ad (21, 0, 0))), some (.int (nI b))] rfl (Nat.le_of_ble_eq_true rfl) (fun κ hE G E9 hr => ?_)
  subst hE
  have hc9 := E9.2.2.1
  have hd9 := E9.2.2.2
  refine h_aload_n G dX6_isOpen_0 rfl ?_
  refine h_iload_n G dX6_isOpen_1 rfl ?_
  refine wiX6_60 G (hL.1 (21, 0, 0) trivial) (m_working hL hG hI b) (by decide) (Nat.le_of_ble_eq_true rfl) (by omega) (by omega) dX6_isOpen_2 (fun r9 σ9 hp9 => ?_)
  obtain ⟨rfl, rfl⟩ := hp9
  refine h_aload_n G dX6_isOpen_5 rfl ?_
  refine wgX6_18 G hL dX6_isOpen_6 ?_
  refine h_iload_n G dX6_isOpen_9 rfl ?_
  refine war_22 G hL rfl (by first | assumption | omega) dX6_isOpen_10 ?_
  refine h_iconst (v := 3) G dX6_isOpen_11 (by decide) ?_
  refine wal_32 G hL (by first | assumption | omega) (show (3 : Int32) = nI 3 from rfl) (by decide) dX6_isOpen_12 ?_
  rw [hG.bo hb (by decide)]
  refine h_icmp_lt G 20 dX6_isOpen_13 (by decide) (fun h13 => ?_) (fun h13 => ?_)
  · refine h_iconst (v := 0) G dX6_isOpen_20 (by decide) ?_
    refine h_zret G E9 (by omega) (by omega) hr (Or.inl rfl) dX6_isOpen_21 (Or.inr ⟨fun z => i_nlt.mpr z h13, rfl, rfl⟩)
  · refine h_iconst (v := 1) G dX6_isOpen_16 (by decide) ?_
    refine h_goto G 21 dX6_isOpen_17 (by decide) ?_
    refine h_zret G E9 (by omega) (by omega) hr (Or.inr rfl) dX6_isOpen_21 (Or.inl ⟨i_nlt.mp h13, rfl, rfl⟩)
theorem m_cost (hL : LayS E σ ω) (hG : SimG ω g w) {b : Nat} (hb : b < g.nb) : RetS E yX6_cost cX6_cost 2 (some .int) 0 0 0 0 [.ref (ω.ad (21, 0, 0)), .int (nI b)] σ (fun r σ' => r = some (.int (cst g b)) ∧ σ = σ') := by
  have hnb := hG.nb
  refine RetS_of RX6 (by decide) rfl [some (.ref (ω.ad (21, 0, 0))), some (.int (nI b))] rfl (Nat.le_of_ble_eq_true rfl) (fun κ hE G E9 hr => ?_)
  subst hE
  have hc9 := E9.2.2.1
  have hd9 := E9.2.2.2
  refine h_aload_n G dX6_cost_0 rfl ?_
  refine wgX6_13 G hL dX6_cost_1 ?_
  rw [hG.mk]
  refine h_iload_n G dX6_cost_4 rfl ?_
  refine h_icmp_ne G 21 dX6_cost_5 (by decide) (fun h5 => ?_) (fun h5 => ?_)
  · refine h_aload_n G dX6_cost_21 rfl ?_
    refine wgX6_18 G hL dX6_cost_22 ?_
    refine h_iload_n G dX6_cost_25 rfl ?_
    refine war_22 G hL rfl (by first | assumption | omega) dX6_cost_26 ?_
    refine h_iconst (v := 0) G dX6_cost_27 (by decide) ?_
    refine wal_32 G hL (by first | assumption | omega) (show (0 : Int32) = nI 0 from rfl) (by decide) dX6_cost_28 ?_
    rw [hG.bo hb (by decide)]
    refine h_iret G E9 (by omega) (by omega) hr dX6_cost_29 ⟨by rw [cst, if_neg (fun q => h5 q.symm)], rfl⟩
  · refine h_aload_n G dX6_cost_8 rfl ?_
    refine wgX6_18 G hL dX6_cost_9 ?_
    refine h_iload_n G dX6_cost_12 rfl ?_
    refine war_22 G hL rfl (by first | assumption | omega) dX6_cost_13 ?_
    refine h_iconst (v := 0) G dX6_cost_14 (by decide) ?_
    refine wal_32 G hL (by first | assumption | omega) (show (0 : Int32) = nI 0 from rfl) (by decide) dX6_cost_15 ?_
    rw [hG.bo hb (by decide)]
    refine h_iconst (v := 1) G dX6_cost_16 (by decide) ?_
    refine h_isub G dX6_cost_17 ?_
    refine h_goto G 29 dX6_cost_18 (by decide) ?_
    refine h_iret G E9 (by omega) (by omega) hr dX6_cost_29 ⟨by rw [cst, if_pos h5.symm], rfl⟩
end Small
