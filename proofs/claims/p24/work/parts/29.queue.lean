/-! ===== the law's green: more, enter, exit ===== -/
section Mo
variable {E : EX} {σ : Sg} {ω : WS} {g : GS} {w : Int32}
theorem m_more {t r n : Nat} {lt lr : Pid} {f : Nat → Option Nat} {yr : vp_A} (ht : σ t = some (lt, .inl (E.cy 5, pRefs n f))) (hn : n ≤ 16) (hf : ∀ j, j < n → ∃ a i y, f j = some a ∧ σ a = some (i, .inl (E.cy 0, y))) (hr0 : σ r = some (lr, .inl (E.cy 0, yr))) : RetS E yX6_more cX6_more 4 (some (.array (.array .int))) 0 0 1 (n + 1) [.ref t, .ref r] σ (fun v σ' => ∃ q, v = some (.ref q) ∧ σ q = none ∧ σ' = sup σ q (51, 0, 0) (.inl (E.cy 5, pRefs (n + 1) (fun j => if j < n then f j else if j = n then some r else none)))) := by
  refine RetS_of RX6 (by decide) rfl [some (.ref t), some (.ref r), none, none] rfl (Nat.le_of_ble_eq_true rfl) (fun κ hE G E9 hr => ?_)
  subst hE
  have hc9 := E9.2.2.1
  have hd9 := E9.2.2.2
  refine h_aload_n G dX6_more_0 rfl ?_
  refine h_alen (ty := .array .int) G 5 ht rfl dX6_more_1 ?_
  refine h_iconst (v := 1) G dX6_more_2 (by decide) ?_
  refine h_iadd G dX6_more_3 ?_
  refine h_newA G (51, 0, 0) (k := n + 1) (nI_1 n) (by omega) (by decide +kernel) (by omega) (by omega) dX6_more_4 (fun q hq => ?_)
  refine HV.wid (c2 := 1) (d2 := n + 1) (by omega) (by omega) ?_
  refine h_astore_n G dX6_more_7 (by decide) rfl ?_
  refine h_iconst (v := 0) G dX6_more_8 (by decide) ?_
  refine h_istore_n G dX6_more_9 (by decide) rfl ?_
  have loop : ∀ m k, k + m = n → HV κ 4 (sup σ q (51, 0, 0) (.inl (κ.E.cy 5, pRefs (n + 1) (fun j => if j < k then f j else none)))) 1 (n + 1) [some (.ref t), some (.ref r), some (.ref q), some (.int (nI k))] [] 10 := by
    intro m
    induction m with
    | zero =>
      intro k hk
      have hk : k = n := by omega
      subst hk
      refine h_iload_n G dX6_more_10 rfl ?_
      refine h_aload_n G dX6_more_11 rfl ?_
      refine h_alen (ty := .array .int) G 5 (sup_new hq ht) rfl dX6_more_12 ?_
      refine h_icmp_ge G 28 dX6_more_13 (by decide) (fun h13 => ?_) (fun h13 => ?_)
      · refine h_aload_n G dX6_more_28 rfl ?_
        refine h_aload_n G dX6_more_29 rfl ?_
        refine h_alen (ty := .array .int) G 5 (sup_new hq ht) rfl dX6_more_30 ?_
        refine h_aload_n G dX6_more_31 rfl ?_
        refine h_aasA G (j := k) sup_at (sup_new hq hr0) rfl (by omega) (by omega) dX6_more_32 ?_
        rw [sup_sup]
        refine h_aload_n G dX6_more_33 rfl ?_
        refine h_aret G E9 (by omega) (by omega) hr (Or.inr ⟨_, rfl⟩) dX6_more_34 ⟨q, rfl, hq, ?_⟩
        congr 4
        funext j
        by_cases hj : j = k
        · subst hj; simp [va_up]
        · by_cases hlt : j < k
          · simp [va_up, hj, hlt]
          · simp [va_up, hj, hlt]
      · exact absurd (show nI k ≤ nI k from nI_le (Nat.le_refl _) (by omega)) h13
    | succ m ih =>
      intro k hk
      have hlt : k < n := by omega
      obtain ⟨a, i, y, f1, f2⟩ := hf k hlt
      refine h_iload_n G dX6_more_10 rfl ?_
      refine h_aload_n G dX6_more_11 rfl ?_
      refine h_alen (ty := .array .int) G 5 (sup_new hq ht) rfl dX6_more_12 ?_
      refine h_icmp_ge G 28 dX6_more_13 (by decide) (fun h13 => ?_) (fun h13 => ?_)
      · exact absurd (show nI n ≤ nI k from h13) (nI_ge hlt (by omega))
      refine h_aload_n G dX6_more_16 rfl ?_
      refine h_iload_n G dX6_more_17 rfl ?_
      refine h_aload_n G dX6_more_18 rfl ?_
      refine h_iload_n G dX6_more_19 rfl ?_
      refine h_aalA G (j := k) (sup_new hq ht) rfl hlt (by omega) f1 dX6_more_20 ?_
      refine h_aasA G (j := k) sup_at (sup_new hq f2) rfl (by omega) (by omega) dX6_more_21 ?_
      rw [sup_sup]
      have e : va_up (fun j => if j < k then f j else none) k (some a) = fun j => if j < k + 1 then f j else none := by
        funext j
        by_cases hj : j = k
        · subst hj; simp [va_up, f1]
        · by_cases hlt : j < k
          · simp [va_up, hj, hlt, Nat.lt_succ_of_lt hlt]
          · simp [va_up, hj, hlt, show ¬ j < k + 1 by omega]
      rw [e]
      refine h_iinc G dX6_more_22 rfl (by decide) rfl (nI_1 k) ?_
      refine h_goto G 10 dX6_more_25 (by decide) ?_
      exact ih (k + 1) (by omega)
  have h0 := loop n 0 (by omega)
  simp only [Nat.not_lt_zero, if_false] at h0
  exact h0
end Mo
section Qu
variable {E : EX} {σ : Sg} {ω : WS} {g : GS} {w : Int32}
/-- a list as the ints of a row -/
def KF (K : List Nat) : Nat → Int32 := fun i => (K[i]?).elim 0 nI
theorem KF_app {K : List Nat} {u : Nat} : upd (KF K) K.length (nI u) = KF (K ++ [u]) := by
  funext i
  unfold upd KF
  by_cases h : i = K.length
  · subst h; simp
  · rw [if_neg h]
    by_cases h2 : i < K.length
    · rw [List.getElem?_append_left h2]
    · rw [List.getElem?_eq_none (by omega), List.getElem?_eq_none (by simp; omega)]
theorem KF_at {K : List Nat} {i u : Nat} (h : K[i]? = some u) : KF K i = nI u := by unfold KF; rw [h]; rfl
theorem KF_nil : KF [] = fun _ => 0 := by funext i; rfl
theorem m_enter (hL : LayS E σ ω) (hG : SimG ω g w) (hI : Inv g) {v b : Nat} (hv : v < g.nv) (hb : b < g.nb) (h2 : g.i 4 v 2 = 0) (h3 : g.i 4 v 3 = -1) : RetS E yX6_enter cX6_enter 5 none 0 0 1 16 [.ref (ω.ad (21, 0, 0)), .int (nI v), .int (nI b)] σ (fun r σ' => r = none ∧ SPost E σ ω ((g.set 4 v 3 (nI b)).setq (fun a => if a = b then g.q b ++ [v] else g.q a)) w σ') := by
  have hb8 := hI.nb8
  have hv16 := hI.nv16
  have hql : ω.ql b = (g.q b).length := hG.ql hb8 hb
  have hno : v ∉ g.q b := fun q => by
    have := (hI.qm hb).mp q
    rw [h3] at this
    exact nI_m1 (by omega) this.2.symm
  have hlen : (g.q b).length + 1 ≤ 16 := by
    have := nodup_len g.nv (v :: g.q b) (List.nodup_cons.mpr ⟨hno, hI.qnd hb⟩) (fun u hu => by
      rcases List.mem_cons.mp hu with rfl | hu
      · exact hv
      · exact ((hI.qm hb).mp hu).1)
    simp at this
    omega
  refine RetS_of RX6 (by decide) rfl [some (.ref (ω.ad (21, 0, 0))), some (.int (nI v)), some (.int (nI b)), none, none] rfl (Nat.le_of_ble_eq_true rfl) (fun κ hE G E9 hr => ?_)
  subst hE
  have hc9 := E9.2.2.1
  have hd9 := E9.2.2.2
  have hk : KpS σ σ := KpS.rf
  have hst : Stb ω ω := Stb.rf
  refine h_aload_n G dX6_enter_0 rfl ?_
  refine wgX6_23 G hL dX6_enter_1 ?_
  refine h_iload_n G dX6_enter_4 rfl ?_
  refine war_23 G hL rfl (by first | assumption | omega | (rw [hG.nb]; omega) | (rw [hG.nh]; omega) | (rw [hG.nv]; omega)) dX6_enter_5 ?_
  refine wle_33 G hL (by first | assumption | omega | (rw [hG.nb]; omega) | (rw [hG.nh]; omega) | (rw [hG.nv]; omega)) dX6_enter_6 ?_
  rw [hql]
  refine h_iconst (v := 1) G dX6_enter_7 (by decide) ?_
  refine h_iadd G dX6_enter_8 ?_
  rw [nI_1]
  refine h_newi G (50, 0, 0) rfl (by omega) (by decide +kernel) (by omega) (by omega) dX6_enter_9 (fun q9 hq9 => ?_)
  refine h_astore_n G dX6_enter_11 (by decide) rfl ?_
  refine h_iconst (v := 0) G dX6_enter_12 (by decide) ?_
  refine h_istore G dX6_enter_13 (by decide) rfl ?_
  refine HV.wid (c2 := 1) (d2 := 16) (by omega) (by omega) ?_
  rw [← KF_nil]
  have hq0 : ∀ i, i < (g.q b).length → ∃ u, (g.q b)[i]? = some u := fun i hi => ⟨_, List.getElem?_eq_getElem hi⟩
  have loop : ∀ m k, k + m = (g.q b).length → HV κ 5 (sup σ q9 (50, 0, 0) (.inl (κ.E.cy 0, pInts ((g.q b).length + 1) (KF ((g.q b).take k))))) 1 16 [some (.ref (ω.ad (21, 0, 0))), some (.int (nI v)), some (.int (nI b)), some (.ref q9), some (.int (nI k))] [] 15 := by
    intro m
    induction m with
    | zero =>
      intro k hk0
      have hk0 : k = (g.q b).length := by omega
      subst hk0
      have hL := hL.new (i := (50, 0, 0)) (e := (.inl (κ.E.cy 0, pInts ((g.q b).length + 1) (KF ((g.q b).take (g.q b).length))))) hq9
      refine h_iload G dX6_enter_15 rfl ?_
      refine h_aload_n G dX6_enter_17 rfl ?_
      refine wgX6_23 G hL dX6_enter_18 ?_
      refine h_iload_n G dX6_enter_21 rfl ?_
      refine war_23 G hL rfl (by first | assumption | omega | (rw [hG.nb]; omega) | (rw [hG.nh]; omega) | (rw [hG.nv]; omega)) dX6_enter_22 ?_
      refine wle_33 G hL (by first | assumption | omega | (rw [hG.nb]; omega) | (rw [hG.nh]; omega) | (rw [hG.nv]; omega)) dX6_enter_23 ?_
      rw [hql]
      refine h_icmp_ge G 46 dX6_enter_24 (by decide) (fun h24 => ?_) (fun h24 => ?_)
      rotate_left
      · exact absurd (nI_le (Nat.le_refl _) (by omega)) h24
      refine h_aload_n G dX6_enter_46 rfl ?_
      refine h_aload_n G dX6_enter_47 rfl ?_
      refine wgX6_23 G hL dX6_enter_48 ?_
      refine h_iload_n G dX6_enter_51 rfl ?_
      refine war_23 G hL rfl (by first | assumption | omega | (rw [hG.nb]; omega) | (rw [hG.nh]; omega) | (rw [hG.nv]; omega)) dX6_enter_52 ?_
      refine wle_33 G hL (by first | assumption | omega | (rw [hG.nb]; omega) | (rw [hG.nh]; omega) | (rw [hG.nv]; omega)) dX6_enter_53 ?_
      rw [hql]
      refine h_iload_n G dX6_enter_54 rfl ?_
      refine h_iast G sup_at rfl (by omega) (by omega) dX6_enter_55 ?_
      rw [sup_sup]
      have e : upd (KF ((g.q b).take (g.q b).length)) (g.q b).length (nI v) = KF (g.q b ++ [v]) := by
        rw [List.take_length]; exact KF_app
      rw [e]
      clear hL
      have hL := ‹LayS κ.E σ ω›.new (i := (50, 0, 0)) (e := (.inl (κ.E.cy 0, pInts ((g.q b).length + 1) (KF (g.q b ++ [v]))))) hq9
      refine h_aload_n G dX6_enter_56 rfl ?_
      refine wgX6_23 G hL dX6_enter_57 ?_
      refine h_iload_n G dX6_enter_60 rfl ?_
      refine h_aload_n G dX6_enter_61 rfl ?_
      refine w_setQ G hL (b := b) (tmp := (50, 0, 0)) (by omega) (by omega) sup_at (by decide) rfl dX6_enter_62 (fun σ1 hL1 hk1 => ?_)
      replace hk := hk1 σ (hk.new hq9) (hk.fresh hq9)
      have hG1 : SimG _ _ w := hG.setQ (t := q9) (n := (g.q b).length + 1) (F := KF (g.q b ++ [v])) (L := g.q b ++ [v]) (Q := fun a => if a = b then g.q b ++ [v] else g.q a) hb (by simp) (fun i u h => KF_at h) (if_pos rfl) (fun a _ h => if_neg h)
      have ha1 : (ω.setQ b q9 ((g.q b).length + 1) (KF (g.q b ++ [v]))).ad (21, 0, 0) = ω.ad (21, 0, 0) := setQ_ad (by simp)
      replace hst := hst.setQ (b := b) (t := q9) (n := (g.q b).length + 1) (F := KF (g.q b ++ [v]))
      rw [← ha1]
      generalize hω1 : ω.setQ b q9 ((g.q b).length + 1) (KF (g.q b ++ [v])) = ω1 at hL1 hG1 hst ⊢
      clear hL hG hk1
      have hL := hL1
      have hG := hG1
      have hv1 : v < ω1.nv := by rw [hG.nv]; exact hv
      have fin : SimG ((ω1.wr (35, v, 0) 2 1).wr (35, v, 0) 3 (nI b)) ((g.set 4 v 3 (nI b)).setq (fun a => if a = b then g.q b ++ [v] else g.q a)) w := by
        refine hG.sb rfl rfl (fun kd a k q => ?_) ?_ ?_
        · show (g.set 4 v 3 (nI b)).i kd a k = g.i kd a k
          rw [gi_set, if_neg (by omega)]
        · show stt (g.set 4 v 3 (nI b)) v = 1
          have e2 : (g.set 4 v 3 (nI b)).i 4 v 2 = 0 := by rw [gi_set, if_neg (by omega)]; exact h2
          have e3 : (g.set 4 v 3 (nI b)).i 4 v 3 = nI b := by rw [gi_set, if_pos ⟨rfl, rfl, rfl⟩]
          unfold stt
          rw [e2, e3, if_pos rfl, if_neg (nI_m1 (by omega))]
        · show (g.set 4 v 3 (nI b)).i 4 v 3 = nI b
          rw [gi_set, if_pos ⟨rfl, rfl, rfl⟩]
      refine h_aload_n G dX6_enter_63 rfl ?_
      refine wgX6_31 G hL dX6_enter_64 ?_
      refine h_iload_n G dX6_enter_67 rfl ?_
      refine war_25 G hL rfl hv1 dX6_enter_68 ?_
      refine h_iconst (v := 1) G dX6_enter_69 (by decide) ?_
      refine wpX6_64 G hL hv1 dX6_enter_70 (fun σ9 ω9 ha9 hs9 hL9 hk9 => ?_)
      try rw [← ha9]
      replace hk := KpS.tr hk hk9
      replace hst := hst.tr (Stb.of_ad ha9)
      clear hL hk9 ha9
      have hL := hL9
      clear hL9
      have hG2 := hs9 (fun z => SimG (z.wr (35, v, 0) 3 (nI b)) _ w ∧ v < z.nv) ⟨fin, hv1⟩
      clear hs9
      refine h_aload_n G dX6_enter_73 rfl ?_
      refine wgX6_31 G hL dX6_enter_74 ?_
      refine h_iload_n G dX6_enter_77 rfl ?_
      refine war_25 G hL rfl hG2.2 dX6_enter_78 ?_
      refine h_iload_n G dX6_enter_79 rfl ?_
      refine wpX6_67 G hL hG2.2 dX6_enter_80 (fun σ9 ω9 ha9 hs9 hL9 hk9 => ?_)
      try rw [← ha9]
      replace hk := KpS.tr hk hk9
      replace hst := hst.tr (Stb.of_ad ha9)
      clear hL hk9 ha9
      have hL := hL9
      clear hL9
      have hG3 := hs9 (fun z => SimG z _ w) hG2.1
      clear hs9
      refine h_vret G E9 (by omega) (by omega) hr dX6_enter_83 ⟨rfl, _, hL, hG3, hst, hk⟩
    | succ m ih =>
      intro k hk0
      have hlt : k < (g.q b).length := by omega
      obtain ⟨u, hu⟩ := hq0 k hlt
      have hL := hL.new (i := (50, 0, 0)) (e := (.inl (κ.E.cy 0, pInts ((g.q b).length + 1) (KF ((g.q b).take k))))) hq9
      refine h_iload G dX6_enter_15 rfl ?_
      refine h_aload_n G dX6_enter_17 rfl ?_
      refine wgX6_23 G hL dX6_enter_18 ?_
      refine h_iload_n G dX6_enter_21 rfl ?_
      refine war_23 G hL rfl (by first | assumption | omega | (rw [hG.nb]; omega) | (rw [hG.nh]; omega) | (rw [hG.nv]; omega)) dX6_enter_22 ?_
      refine wle_33 G hL (by first | assumption | omega | (rw [hG.nb]; omega) | (rw [hG.nh]; omega) | (rw [hG.nv]; omega)) dX6_enter_23 ?_
      rw [hql]
      refine h_icmp_ge G 46 dX6_enter_24 (by decide) (fun h24 => ?_) (fun h24 => ?_)
      · exact absurd h24 (nI_ge hlt (by omega))
      refine h_aload_n G dX6_enter_27 rfl ?_
      refine h_iload G dX6_enter_28 rfl ?_
      refine h_aload_n G dX6_enter_30 rfl ?_
      refine wgX6_23 G hL dX6_enter_31 ?_
      refine h_iload_n G dX6_enter_34 rfl ?_
      refine war_23 G hL rfl (by first | assumption | omega | (rw [hG.nb]; omega) | (rw [hG.nh]; omega) | (rw [hG.nv]; omega)) dX6_enter_35 ?_
      refine h_iload G dX6_enter_36 rfl ?_
      refine wal_33 G hL (by omega) rfl (by rw [hql]; exact hlt) dX6_enter_38 ?_
      rw [hG.qe hb hu]
      refine h_iast G sup_at rfl (by omega) (by omega) dX6_enter_39 ?_
      rw [sup_sup]
      have e : upd (KF ((g.q b).take k)) k (nI u) = KF ((g.q b).take (k + 1)) := by
        have h1 : ((g.q b).take k).length = k := by simp; omega
        have h2 : (g.q b).take (k + 1) = (g.q b).take k ++ [u] := by rw [List.take_add_one, hu]; rfl
        rw [h2, ← KF_app, h1]
      rw [e]
      refine h_iinc G dX6_enter_40 rfl (by decide) rfl (nI_1 k) ?_
      refine h_goto G 15 dX6_enter_43 (by decide) ?_
      exact ih (k + 1) (by omega)
  have h0 := loop (g.q b).length 0 (by omega)
  exact h0
theorem m_exit (hL : LayS E σ ω) (hG : SimG ω g w) (hI : Inv g) {v b : Nat} (hv : v < g.nv) (hb : b < g.nb) (hat : g.i 4 v 3 = nI b) : RetS E yX6_exit cX6_exit 9 none 0 0 1 16 [.ref (ω.ad (21, 0, 0)), .int (nI v)] σ (fun r σ' => r = none ∧ SPost E σ ω (leaveQ g v) w σ') := by
  have hb8 := hI.nb8
  have hv16 := hI.nv16
  have hql : ω.ql b = (g.q b).length := hG.ql hb8 hb
  have hq16 := hI.ql16 hb
  have hvq : v ∈ g.q b := (hI.qm hb).mpr ⟨hv, hat⟩
  have hnd := hI.qnd hb
  obtain ⟨L, hLq⟩ : ∃ L, L = g.q b := ⟨_, rfl⟩
  rw [← hLq] at hql hq16 hvq hnd
  have hlen : (L.filter (fun u => u != v)).length + 1 = L.length := by
    have h1 := hnd.erase_eq_filter v
    rw [← h1, List.length_erase_of_mem hvq]
    have := List.length_pos_of_mem hvq
    omega
  have hh0 : g.i 4 v 2 = 0 := by
    rcases hI.vho hv with q | q
    · exact q
    · exact absurd (hat.symm.trans (hI.vha hv q)) (nI_m1 (by omega))
  refine RetS_of RX6 (by decide) rfl [some (.ref (ω.ad (21, 0, 0))), some (.int (nI v)), none, none, none, none, none, none, none] rfl (Nat.le_of_ble_eq_true rfl) (fun κ hE G E9 hr => ?_)
  subst hE
  have hc9 := E9.2.2.1
  have hd9 := E9.2.2.2
  have hk : KpS σ σ := KpS.rf
  have hst : Stb ω ω := Stb.rf
  refine h_aload_n G dX6_exit_0 rfl ?_
  refine wgX6_31 G hL dX6_exit_1 ?_
  refine h_iload_n G dX6_exit_4 rfl ?_
  refine war_25 G hL rfl (by first | assumption | omega | (rw [hG.nb]; omega) | (rw [hG.nh]; omega) | (rw [hG.nv]; omega)) dX6_exit_5 ?_
  refine wgX6_67 G hL (by first | assumption | omega | (rw [hG.nb]; omega) | (rw [hG.nh]; omega) | (rw [hG.nv]; omega)) dX6_exit_6 ?_
  rw [hG.vi hv (by decide), show vfc g v 3 = nI b from hat]
  refine h_istore_n G dX6_exit_9 (by decide) rfl ?_
  refine h_aload_n G dX6_exit_10 rfl ?_
  refine wgX6_23 G hL dX6_exit_11 ?_
  refine h_iload_n G dX6_exit_14 rfl ?_
  refine war_23 G hL rfl (by first | assumption | omega | (rw [hG.nb]; omega) | (rw [hG.nh]; omega) | (rw [hG.nv]; omega)) dX6_exit_15 ?_
  refine wle_33 G hL (by first | assumption | omega | (rw [hG.nb]; omega) | (rw [hG.nh]; omega) | (rw [hG.nv]; omega)) dX6_exit_16 ?_
  rw [hql]
  refine h_iconst (v := 1) G dX6_exit_17 (by decide) ?_
  refine h_isub G dX6_exit_18 ?_
  rw [show nI L.length - 1 = nI (L.filter (fun u => u != v)).length by rw [← hlen]; exact nI_pred _]
  refine h_newi G (50, 0, 0) (k := (L.filter (fun u => u != v)).length) rfl (by omega) (by decide +kernel) (by omega) (by omega) dX6_exit_19 (fun q9 hq9 => ?_)
  refine HV.wid (c2 := 1) (d2 := 16) (by omega) (by omega) ?_
  rw [← KF_nil]
  have hLn : ∀ F, LayS κ.E (sup σ q9 (50, 0, 0) (.inl (κ.E.cy 0, pInts (L.filter (fun u => u != v)).length F))) ω := fun F => hL.new hq9
  have hL0 := hL
  replace hL := hLn (KF [])
  refine h_astore_n G dX6_exit_21 (by decide) rfl ?_
  refine h_iconst (v := 0) G dX6_exit_22 (by decide) ?_
  refine h_istore G dX6_exit_23 (by decide) rfl ?_
  refine h_aload_n G dX6_exit_25 rfl ?_
  refine wgX6_23 G hL dX6_exit_26 ?_
  refine h_iload_n G dX6_exit_29 rfl ?_
  refine war_23 G hL rfl (by first | assumption | omega | (rw [hG.nb]; omega) | (rw [hG.nh]; omega) | (rw [hG.nv]; omega)) dX6_exit_30 ?_
  refine h_astore G dX6_exit_31 (by decide) rfl ?_
  refine h_aload G dX6_exit_33 rfl ?_
  refine wle_33 G hL (by first | assumption | omega | (rw [hG.nb]; omega) | (rw [hG.nh]; omega) | (rw [hG.nv]; omega)) dX6_exit_35 ?_
  rw [hql]
  refine h_istore G dX6_exit_36 (by decide) rfl ?_
  refine h_iconst (v := 0) G dX6_exit_38 (by decide) ?_
  refine h_istore G dX6_exit_39 (by decide) rfl ?_
  have hq0 : ∀ i, i < L.length → ∃ u, L[i]? = some u := fun i hi => ⟨_, List.getElem?_eq_getElem hi⟩
  have loop : ∀ m k, k + m = L.length → HV κ 9 (sup σ q9 (50, 0, 0) (.inl (κ.E.cy 0, pInts (L.filter (fun u => u != v)).length (KF ((L.take k).filter (fun u => u != v)))))) 1 16 [some (.ref (ω.ad (21, 0, 0))), some (.int (nI v)), some (.int (nI b)), some (.ref q9), some (.int (nI ((L.take k).filter (fun u => u != v)).length)), some (.ref (ω.ad (33, b, 0))), some (.int (nI L.length)), some (.int (nI k)), none] [] 41 := by
    intro m
    induction m with
    | zero =>
      intro k hk0
      have hk0 : k = L.length := by omega
      subst hk0
      rw [List.take_length]
      replace hL := hLn (KF (L.filter (fun u => u != v)))
      refine h_iload G dX6_exit_41 rfl ?_
      refine h_iload G dX6_exit_43 rfl ?_
      refine h_icmp_ge G 79 dX6_exit_45 (by decide) (fun h45 => ?_) (fun h45 => ?_)
      rotate_left
      · exact absurd (nI_le (Nat.le_refl _) (by omega)) h45
      refine h_aload_n G dX6_exit_79 rfl ?_
      refine wgX6_23 G hL dX6_exit_80 ?_
      refine h_iload_n G dX6_exit_83 rfl ?_
      refine h_aload_n G dX6_exit_84 rfl ?_
      refine w_setQ G hL (b := b) (tmp := (50, 0, 0)) (by omega) (by omega) sup_at (by decide) rfl dX6_exit_85 (fun σ1 hL1 hk1 => ?_)
      replace hk := hk1 σ (hk.new hq9) (hk.fresh hq9)
      have hG1 : SimG _ _ w := hG.setQ (t := q9) (n := (L.filter (fun u => u != v)).length) (F := KF (L.filter (fun u => u != v))) (L := L.filter (fun u => u != v)) (Q := fun a => (g.q a).filter (fun u => u != v)) hb rfl (fun i u h => KF_at h) (by rw [hLq]) (fun a ha h => filter_id (fun q => by
        have := (hI.qm ha).mp q
        exact h (nI_inj (by omega) (by omega) (this.2.symm.trans hat))))
      have ha1 : (ω.setQ b q9 (L.filter (fun u => u != v)).length (KF (L.filter (fun u => u != v)))).ad (21, 0, 0) = ω.ad (21, 0, 0) := setQ_ad (by simp)
      replace hst := hst.setQ (b := b) (t := q9) (n := (L.filter (fun u => u != v)).length) (F := KF (L.filter (fun u => u != v)))
      rw [← ha1]
      generalize hω1 : ω.setQ b q9 (L.filter (fun u => u != v)).length (KF (L.filter (fun u => u != v))) = ω1 at hL1 hG1 hst ⊢
      clear hL hG hk1
      have hL := hL1
      have hG := hG1
      have hv1 : v < ω1.nv := by rw [hG.nv]; exact hv
      have fin : SimG ((ω1.wr (35, v, 0) 2 0).wr (35, v, 0) 3 (-1)) (leaveQ g v) w := by
        refine hG.sb rfl rfl (fun kd a k q => ?_) ?_ ?_
        · show (g.set 4 v 3 (-1)).i kd a k = g.i kd a k
          rw [gi_set, if_neg (by omega)]
        · show stt (g.set 4 v 3 (-1)) v = 0
          have e2 : (g.set 4 v 3 (-1)).i 4 v 2 = 0 := by rw [gi_set, if_neg (by omega)]; exact hh0
          have e3 : (g.set 4 v 3 (-1)).i 4 v 3 = -1 := by rw [gi_set, if_pos ⟨rfl, rfl, rfl⟩]
          unfold stt
          rw [e2, e3, if_pos rfl, if_pos rfl]
        · show (g.set 4 v 3 (-1)).i 4 v 3 = -1
          rw [gi_set, if_pos ⟨rfl, rfl, rfl⟩]
      refine HV.drop1 5 ?_
      refine h_aload_n G dX6_exit_86 rfl ?_
      refine wgX6_31 G hL dX6_exit_87 ?_
      refine h_iload_n G dX6_exit_90 rfl ?_
      refine war_25 G hL rfl hv1 dX6_exit_91 ?_
      refine h_iconst (v := 0) G dX6_exit_92 (by decide) ?_
      refine wpX6_64 G hL hv1 dX6_exit_93 (fun σ9 ω9 ha9 hs9 hL9 hk9 => ?_)
      try rw [← ha9]
      replace hk := KpS.tr hk hk9
      replace hst := hst.tr (Stb.of_ad ha9)
      clear hL hk9 ha9
      have hL := hL9
      clear hL9
      have hG2 := hs9 (fun z => SimG (z.wr (35, v, 0) 3 (-1)) _ w ∧ v < z.nv) ⟨fin, hv1⟩
      clear hs9
      refine h_aload_n G dX6_exit_96 rfl ?_
      refine wgX6_31 G hL dX6_exit_97 ?_
      refine h_iload_n G dX6_exit_100 rfl ?_
      refine war_25 G hL rfl hG2.2 dX6_exit_101 ?_
      refine h_iconst (v := -1) G dX6_exit_102 (by decide) ?_
      refine wpX6_67 G hL hG2.2 dX6_exit_103 (fun σ9 ω9 ha9 hs9 hL9 hk9 => ?_)
      try rw [← ha9]
      replace hk := KpS.tr hk hk9
      replace hst := hst.tr (Stb.of_ad ha9)
      clear hL hk9 ha9
      have hL := hL9
      clear hL9
      have hG3 := hs9 (fun z => SimG z _ w) hG2.1
      clear hs9
      refine h_vret G E9 (by omega) (by omega) hr dX6_exit_106 ⟨rfl, _, hL, hG3, hst, hk⟩
    | succ m ih =>
      intro k hk0
      have hlt : k < L.length := by omega
      obtain ⟨u, hu⟩ := hq0 k hlt
      have h2 : L.take (k + 1) = L.take k ++ [u] := by rw [List.take_add_one, hu]; rfl
      replace hL := hLn (KF ((L.take k).filter (fun u => u != v)))
      replace ih := ih (k + 1) (by omega)
      refine h_iload G dX6_exit_41 rfl ?_
      refine h_iload G dX6_exit_43 rfl ?_
      refine h_icmp_ge G 79 dX6_exit_45 (by decide) (fun h45 => ?_) (fun h45 => ?_)
      · exact absurd h45 (nI_ge hlt (by omega))
      refine h_aload G dX6_exit_48 rfl ?_
      refine h_iload G dX6_exit_50 rfl ?_
      refine wal_33 G hL (by omega) rfl (by rw [hql]; exact hlt) dX6_exit_52 ?_
      rw [hG.qe hb (by rw [← hLq]; exact hu)]
      refine h_istore G dX6_exit_53 (by decide) rfl ?_
      refine h_iload G dX6_exit_55 rfl ?_
      refine h_iload_n G dX6_exit_57 rfl ?_
      have hu16 : u < 16 := by
        have := (hI.qm hb).mp (by rw [← hLq]; exact List.mem_of_getElem? hu)
        omega
      refine h_icmp_ne G 64 dX6_exit_58 (by decide) (fun h58 => ?_) (fun h58 => ?_)
      · have huv : u ≠ v := fun q => h58 (by rw [q])
        have e1 : (L.take (k + 1)).filter (fun u => u != v) = (L.take k).filter (fun u => u != v) ++ [u] := by
          rw [h2, List.filter_append]
          simp [huv]
        have e2 : ((L.take k).filter (fun u => u != v)).length < (L.filter (fun u => u != v)).length := by
          have h5 : (L.take (k + 1)).filter (fun u => u != v) ++ (L.drop (k + 1)).filter (fun u => u != v) = L.filter (fun u => u != v) := by
            rw [← List.filter_append, List.take_append_drop]
          rw [← h5, e1]
          simp
        refine h_aload_n G dX6_exit_64 rfl ?_
        refine h_iload G dX6_exit_65 rfl ?_
        refine h_iload G dX6_exit_67 rfl ?_
        refine h_iast G sup_at rfl e2 (by omega) dX6_exit_69 ?_
        rw [sup_sup, KF_app, ← e1]
        refine h_iinc G dX6_exit_70 rfl (by decide) rfl (nI_1 _) ?_
        rw [show ((L.take k).filter (fun u => u != v)).length + 1 = ((L.take (k + 1)).filter (fun u => u != v)).length by rw [e1]; simp]
        refine h_iinc G dX6_exit_73 rfl (by decide) rfl (nI_1 k) ?_
        refine h_goto G 41 dX6_exit_76 (by decide) ?_
        exact HV.drop1 8 ih
      · have huv : u = v := nI_inj (by omega) (by omega) h58
        have e1 : (L.take (k + 1)).filter (fun u => u != v) = (L.take k).filter (fun u => u != v) := by
          rw [h2, List.filter_append]
          simp [huv]
        rw [e1] at ih
        refine h_goto G 73 dX6_exit_61 (by decide) ?_
        refine h_iinc G dX6_exit_73 rfl (by decide) rfl (nI_1 k) ?_
        refine h_goto G 41 dX6_exit_76 (by decide) ?_
        exact HV.drop1 8 ih
  have h0 := loop L.length 0 (by omega)
  exact h0
end Qu
