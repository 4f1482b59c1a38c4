/-! ===== what stays true; a booth's turn; a helper's turn; the dart ===== -/
section InvMore
variable {g : GS}
theorem Inv.leave (h : Inv g) {v : Nat} : Inv (leaveQ g v) := by
  obtain ⟨a1, a2, a3, a4, a5, a6, a7⟩ := h
  have e3 : ∀ u, (leaveQ g v).i 4 u 3 = if u = v then -1 else g.i 4 u 3 := fun u => by
    show (g.set 4 v 3 (-1)).i 4 u 3 = _
    rw [gi_set]
    by_cases q : u = v
    · rw [if_pos ⟨rfl, q, rfl⟩, if_pos q]
    · rw [if_neg (by omega), if_neg q]
  have ei : ∀ kd u k, ¬ (kd = 4 ∧ k = 3) → (leaveQ g v).i kd u k = g.i kd u k := fun kd u k q => by
    show (g.set 4 v 3 (-1)).i kd u k = _
    rw [gi_set, if_neg (by omega)]
  refine ⟨a1, fun h hh => ?_, fun u hu => ?_, fun b hb => ?_, a5, a6, a7⟩
  · rw [ei _ _ _ (by omega), ei _ _ _ (by omega)]; exact a2 h hh
  · obtain ⟨b1, b2, b3, b4⟩ := a3 u hu
    rw [ei _ _ _ (by omega), e3]
    refine ⟨b1, ?_, fun q => ?_, fun b hb => by rw [ei _ _ _ (by omega)]; exact b4 b hb⟩
    · by_cases q : u = v
      · rw [if_pos q]; exact Or.inl rfl
      · rw [if_neg q]; exact b2
    · by_cases q2 : u = v
      · rw [if_pos q2]
      · rw [if_neg q2]; exact b3 q
  · obtain ⟨b1, b2, b3⟩ := a4 b hb
    refine ⟨List.Pairwise.filter _ b1, fun u => ?_, by rw [ei _ _ _ (by omega)]; exact b3⟩
    show u ∈ (g.q b).filter (fun u => u != v) ↔ _
    rw [List.mem_filter, b2 u, e3]
    by_cases q : u = v
    · rw [if_pos q]
      constructor
      · rintro ⟨-, q2⟩; simp [q] at q2
      · rintro ⟨-, q2⟩
        have : b < g.nb := hb
        have := a1.1
        exact absurd q2.symm (nI_m1 (by omega))
    · rw [if_neg q]
      constructor
      · rintro ⟨q1, -⟩; exact q1
      · intro q1; exact ⟨q1, by simp [q]⟩
theorem bdIns_mem {L : List (Nat × Nat × Int32)} {x y : Nat × Nat × Int32} (h : y ∈ bdIns L x) : y = x ∨ y ∈ L := by
  have h2 := List.mem_of_mem_take h
  rcases List.mem_append.mp h2 with q | q
  · exact Or.inr ((List.takeWhile_sublist _).subset q)
  · rcases List.mem_cons.mp q with q | q
    · exact Or.inl q
    · exact Or.inr ((List.dropWhile_sublist _).subset q)
theorem bdIns_sorted {L : List (Nat × Nat × Int32)} {x : Nat × Nat × Int32} (h : L.Pairwise (fun a b => b.2.2 ≤ a.2.2)) : (bdIns L x).Pairwise (fun a b => b.2.2 ≤ a.2.2) := by
  rw [bdIns_eq]
  refine List.Pairwise.sublist (List.take_sublist _ _) ?_
  have hs := List.takeWhile_append_dropWhile (p := ge9 x.2.2) (l := L)
  have hd : ∀ y, y ∈ L.dropWhile (ge9 x.2.2) → ¬ x.2.2 ≤ y.2.2 := by
    intro y hy
    obtain ⟨j, hj⟩ := List.getElem?_of_mem hy
    have hL : (L.takeWhile (ge9 x.2.2) ++ L.dropWhile (ge9 x.2.2))[(L.takeWhile (ge9 x.2.2)).length + j]? = some y := by
      rw [List.getElem?_append_right (Nat.le_add_right _ _), Nat.add_sub_cancel_left]
      exact hj
    rw [hs] at hL
    intro q
    have := (tw_lt (s := x.2.2) h hL).mp q
    omega
  rw [List.pairwise_append]
  refine ⟨h.sublist (List.takeWhile_sublist _), ?_, fun a ha b hb => ?_⟩
  · rw [List.pairwise_cons]
    refine ⟨fun b hb => ?_, h.sublist (List.dropWhile_sublist _)⟩
    have := hd b hb
    rw [Int32.le_iff_toInt_le] at this ⊢
    omega
  · have h1 : x.2.2 ≤ a.2.2 := by
      obtain ⟨j, hj⟩ := List.getElem?_of_mem ha
      have hjl := (List.getElem?_eq_some_iff.mp hj).1
      have hL : (L.takeWhile (ge9 x.2.2) ++ L.dropWhile (ge9 x.2.2))[j]? = some a := by
        rw [List.getElem?_append_left hjl]
        exact hj
      rw [hs] at hL
      exact (tw_lt (s := x.2.2) h hL).mpr hjl
    rcases List.mem_cons.mp hb with q | q
    · rw [q]; exact h1
    · have := hd b q
      rw [Int32.le_iff_toInt_le] at this h1 ⊢
      omega
theorem min9_rng {x : Int32} (h : 0 ≤ x ∧ x ≤ 9) : 0 ≤ min9 (x + 1) 9 ∧ min9 (x + 1) 9 ≤ 9 := by
  unfold min9
  obtain ⟨h1, h2⟩ := h
  obtain ⟨j, hj, rfl⟩ := nI_of2 (M := 9) (n := 9) (by decide) (i_nlt.mpr h1) h2
  have : ∀ j, j ≤ 9 → (0 : Int32) ≤ (if 9 < nI j + 1 then 9 else nI j + 1) ∧ (if 9 < nI j + 1 then 9 else nI j + 1) ≤ (9 : Int32) := by decide +kernel
  exact this j hj
theorem play_n {v b : Nat} : (play9 g v b).2.2.1 = g.2.2.1 := by
  unfold play9
  simp only
  split <;> rfl
theorem play_q {v b : Nat} : (play9 g v b).q = g.q := by
  unfold play9
  simp only
  split <;> rfl
theorem play_h {v b a k : Nat} : (play9 g v b).i 3 a k = g.i 3 a k := by
  unfold play9
  simp only
  split <;> simp [gi_set, gi_setbd]
theorem Inv.play (h : Inv g) {v b : Nat} (hv : v < g.nv) (hb : b < g.nb) : Inv (play9 g v b) := by
  have hb8 : b < 8 := Nat.lt_of_lt_of_le hb h.nb8
  have h1 : Inv (((g.set 4 v 0 (g.i 4 v 0 - cst g b)).set 2 b 6 (g.i 2 b 6 + cst g b)).setbd (bdIns g.bd (v, b, pts g v b))) := by
    refine Inv.setbd ((h.v4 (by decide) (by decide)).b2 (fun q => by cases q)) ?_ (fun x hx => ?_) (bdIns_sorted h.bds)
    · rw [bdIns_len]; split <;> omega
    · rcases bdIns_mem hx with q | q
      · rw [q]; exact hv
      · exact h.bdv q
  have h2 := ((((h1.p10 (v := v) (k := b) (x := min9 (g.i 10 v b + 1) 9) (min9_rng (h.vpr hv hb8)).1 (min9_rng (h.vpr hv hb8)).2).v4 (v := v) (k := 6) (x := g.i 4 v 6 + 1) (by decide) (by decide)).b2 (v := b) (k := 5) (x := g.i 2 b 5 + 1) (fun q => by cases q)).v4 (v := v) (k := 7) (x := max9 (g.i 4 v 7) (pts g v b)) (by decide) (by decide))
  unfold play9
  simp only
  split
  · rename_i hc
    have hx : 0 ≤ g.i 2 b 2 - 1 ∧ g.i 2 b 2 - 1 ≤ 99 := by
      have h99 := (h.bpz hb).2
      have h9 := hc.2
      obtain ⟨j, hj, e⟩ := nI_of2 (M := 99) (n := 99) (by decide) (i_nlt.mpr (h.bpz hb).1) h99
      rw [e] at h9 ⊢
      have : ∀ j, j ≤ 99 → (0 : Int32) < nI j → (0 : Int32) ≤ nI j - 1 ∧ nI j - 1 ≤ (99 : Int32) := by decide +kernel
      exact this j hj h9
    exact ((h2.b2 (fun _ => hx)).v4 (by decide) (by decide)).f1
  · exact h2
theorem serve1_n {b : Nat} : (serve1 g b).2.2.1 = g.2.2.1 := by
  unfold serve1
  split
  · rfl
  · simp only
    split
    · rw [play_n]; rfl
    · rfl
theorem serve1_h {b a k : Nat} : (serve1 g b).i 3 a k = g.i 3 a k := by
  unfold serve1
  split
  · rfl
  · simp only
    split
    · rw [play_h]; simp [leaveQ, gi_set, gi_setq]
    · simp [leaveQ, gi_set, gi_setq]
theorem serve1_q {b v : Nat} {Q : List Nat} (hq : g.q b = v :: Q) (hn : (g.q b).Nodup) : (serve1 g b).q b = Q := by
  have h2 : (leaveQ g v).q b = Q := by
    show (g.q b).filter (fun u => u != v) = Q
    rw [hq] at hn ⊢
    rw [List.nodup_cons] at hn
    simp only [List.filter_cons, bne_self_eq_false, Bool.false_eq_true, if_false]
    exact filter_id hn.1
  unfold serve1
  rw [hq]
  simp only
  split
  · rw [play_q]; exact h2
  · exact h2
theorem Inv.srv1 (h : Inv g) {b : Nat} (hb : b < g.nb) : Inv (serve1 g b) := by
  unfold serve1
  split
  · exact h
  · rename_i v Q hq
    have hv : v < g.nv := ((h.qm hb).mp (by rw [hq]; exact List.mem_cons_self)).1
    simp only
    split
    · exact h.leave.play hv hb
    · exact h.leave
theorem serveN_nil {b : Nat} : ∀ (n : Nat) (g : GS), g.q b = [] → serveN g b n = g
  | 0, g, _ => rfl
  | n + 1, g, h => by
    have : serve1 g b = g := by
      unfold serve1
      rw [h]
    rw [serveN, this]
    exact serveN_nil n g h
theorem nb_of {g g' : GS} (h : g'.2.2.1 = g.2.2.1) : g'.nb = g.nb := congrFun h 0
theorem nh_of {g g' : GS} (h : g'.2.2.1 = g.2.2.1) : g'.nh = g.nh := congrFun h 1
theorem nv_of {g g' : GS} (h : g'.2.2.1 = g.2.2.1) : g'.nv = g.nv := congrFun h 2
theorem serveN_cut {b : Nat} : ∀ (n : Nat) (g : GS), Inv g → b < g.nb → (g.q b).length ≤ n → serveN g b n = serveN g b (g.q b).length
  | 0, g, _, _, h => by rw [show (g.q b).length = 0 by omega]
  | n + 1, g, hI, hb, h => by
    cases hq : g.q b with
    | nil => exact serveN_nil (n + 1) g hq
    | cons v Q =>
      have h2 := serve1_q hq (hI.qnd hb)
      rw [hq] at h
      simp only [List.length_cons] at h ⊢
      rw [serveN, serveN]
      have := serveN_cut n _ (hI.srv1 hb) (by rw [nb_of serve1_n]; exact hb) (by rw [h2]; omega)
      rw [this, h2]
end InvMore
section Sv
variable {E : EX} {M : Mem} {f : Nat} {g : GS}
theorem c_serve {b : Nat} (hf : f < 2) (hS : SimC f M g) (hI : Inv g) (hb : b < g.nb) : Ret E idsC yX2_serve cX2_serve 6 none 3 72 [.ref (E.ad (1, f, 0)), .int (nI b)] M (fun r M' => r = none ∧ SimC f M' (serveN g b (wk g b)) ∧ Fr f g.2.2.1 M M') := by
  have hb8 : b < 8 := Nat.lt_of_lt_of_le hb hI.nb8
  have hq16 := hI.ql16 hb
  have hw12 := wk_le hI b
  refine Ret_of_V RX2 (by decide) rfl idsC_nd [some (.ref (E.ad (1, f, 0))), some (.int (nI b)), none, none, none, none] rfl (Nat.le_of_ble_eq_true rfl) (fun κ hE G E9 hr => ?_)
  subst hE
  obtain ⟨T, hT⟩ : ∃ T, T = if (g.q b).length < wk g b then (g.q b).length else wk g b := ⟨_, rfl⟩
  have hfin : serveN g b T = serveN g b (wk g b) := by
    rw [hT]
    by_cases q : (g.q b).length < wk g b
    · rw [if_pos q]; exact (serveN_cut _ g hI hb (by omega)).symm
    · rw [if_neg q]
  have hTq : T ≤ (g.q b).length := by rw [hT]; split <;> omega
  have loop : ∀ n i (g1 : GS) (M1 : Mem), i + n = T → SimC f M1 g1 → Inv g1 → g1.2.2.1 = g.2.2.1 → n ≤ (g1.q b).length → Fr f g.2.2.1 M M1 → serveN g1 b n = serveN g b (wk g b) → V κ idsC 6 M1 [some (.ref (κ.E.ad (1, f, 0))), some (.int (nI b)), some (.ref (κ.E.ad (2, f, b))), some (.int (nI T)), some (.int (nI i)), none] [] 22 := by
    intro n
    induction n with
    | zero =>
      intro i g1 M1 hi hS1 hI1 hn1 hl1 hF1 hG
      have hi : i = T := by omega
      subst hi
      refine s_iload G dX2_serve_22 rfl ?_
      refine s_iload_n G dX2_serve_24 rfl ?_
      refine s_icmp_ge G 83 dX2_serve_25 (by decide) (fun h25 => ?_) (fun h25 => ?_)
      · refine s_vret G E9 hr dX2_serve_83 ⟨rfl, by rw [← hG]; exact hS1, hF1⟩
      · exact absurd (Int32.le_refl _) h25
    | succ n ih =>
      intro i g1 M1 hi hS1 hI1 hn1 hl1 hF1 hG
      have hb1 : b < g1.nb := by rw [nb_of hn1]; exact hb
      obtain ⟨v, Q, hq⟩ : ∃ v Q, g1.q b = v :: Q := by
        cases hq : g1.q b with
        | nil => rw [hq] at hl1; simp at hl1
        | cons v Q => exact ⟨v, Q, rfl⟩
      have hv : v < g1.nv := ((hI1.qm hb1).mp (by rw [hq]; exact List.mem_cons_self)).1
      have hv16 : v < 16 := Nat.lt_of_lt_of_le hv hI1.nv16
      have hsq := serve1_q hq (hI1.qnd hb1)
      have hiT : i < T := by omega
      refine s_iload G dX2_serve_22 rfl ?_
      refine s_iload_n G dX2_serve_24 rfl ?_
      refine s_icmp_ge G 83 dX2_serve_25 (by decide) (fun h25 => ?_) (fun h25 => ?_)
      · exact absurd h25 (nI_ge hiT (by omega))
      refine s_aload_n G dX2_serve_28 rfl ?_
      refine gX2_171 G (by assumption) (by assumption) dX2_serve_29 ?_
      refine s_iconst (v := 0) G dX2_serve_32 (by decide) ?_
      refine al_9 G (by assumption) (by assumption) rfl (by decide) dX2_serve_33 ?_
      rw [hS1.qe hb1 (i := 0) (u := v) (by rw [hq]; rfl)]
      refine s_istore G dX2_serve_34 (by decide) rfl ?_
      refine s_aload_n G dX2_serve_36 rfl ?_
      refine s_iload G dX2_serve_37 rfl ?_
      refine iX2_174 G (by assumption) (c_take hf hS1 hI1 hv) (by decide) (Nat.le_of_ble_eq_true rfl) dX2_serve_39 (fun r9 M9 hp9 => ?_)
      obtain ⟨rfl, hS2, hF2⟩ := hp9
      rename Mem => M2
      have hI2 : Inv (leaveQ g1 v) := hI1.leave
      have hF3 : Fr f g.2.2.1 M M2 := hF1.trans (by rw [← hn1]; exact hF2)
      have hv2 : v < (leaveQ g1 v).nv := hv
      have hb2 : b < (leaveQ g1 v).nb := hb1
      refine s_pop G dX2_serve_42 rfl ?_
      refine s_aload_n G dX2_serve_43 rfl ?_
      refine s_iload G dX2_serve_44 rfl ?_
      refine iX2_96 G (by assumption) (c_isVisitor (n := (leaveQ g1 v).nv) hf hS2.nv (by have := hI2.nv16; omega) (nI v)) (by decide) (Nat.le_of_ble_eq_true rfl) dX2_serve_46 (fun r9 M9 hp9 => ?_)
      obtain ⟨rfl, ⟨j, hj, hjx, rfl⟩ | ⟨hno, rfl⟩⟩ := hp9
      rotate_left
      · exact absurd rfl (hno v hv)
      clear hjx hj
      refine s_if_eq G 77 dX2_serve_49 (by decide) (fun h49 => ?_) (fun h49 => ?_)
      · exact absurd h49 (by decide)
      have go : ∀ M3 : Mem, SimC f M3 (serve1 g1 b) → Fr f g.2.2.1 M M3 → V κ idsC 6 M3 [some (.ref (κ.E.ad (1, f, 0))), some (.int (nI b)), some (.ref (κ.E.ad (2, f, b))), some (.int (nI T)), some (.int (nI i)), some (.int (nI v))] [] 77 := by
        intro M3 hS3 hF3
        refine s_iinc G dX2_serve_77 rfl (by decide) rfl (nI_1 i) ?_
        refine s_goto G 22 dX2_serve_80 (by decide) ?_
        refine V.drop1 5 ?_
        exact ih (i + 1) _ M3 (by omega) hS3 (hI1.srv1 hb1) (serve1_n.trans hn1) (by rw [hsq]; rw [hq] at hl1; simp only [List.length_cons] at hl1; omega) hF3 hG
      refine s_aload_n G dX2_serve_52 rfl ?_
      refine gX2_25 G (by assumption) dX2_serve_53 ?_
      refine s_iload G dX2_serve_56 rfl ?_
      refine ar_8 G (by assumption) rfl (by first | assumption | omega) dX2_serve_58 ?_
      refine gX2_144 G (by assumption) (by assumption) dX2_serve_59 ?_
      rw [hS2.vi (k := 0) hv2 (by decide)]
      refine s_aload_n G dX2_serve_62 rfl ?_
      refine s_iload_n G dX2_serve_63 rfl ?_
      refine iX2_154 G (by assumption) (c_costNow hf hS2 hI2 hb2) (by decide) (Nat.le_of_ble_eq_true rfl) dX2_serve_64 (fun r9 M9 hp9 => ?_)
      obtain ⟨rfl, rfl⟩ := hp9
      refine s_icmp_lt G 77 dX2_serve_67 (by decide) (fun h67 => ?_) (fun h67 => ?_)
      · refine go _ ?_ hF3
        have : serve1 g1 b = leaveQ g1 v := by
          unfold serve1
          rw [hq]
          simp only
          rw [if_neg (i_nle.mpr h67)]
        rw [this]
        exact hS2
      · refine s_aload_n G dX2_serve_70 rfl ?_
        refine s_iload G dX2_serve_71 rfl ?_
        refine s_iload_n G dX2_serve_73 rfl ?_
        refine iX2_177 G (by assumption) (c_play hf hS2 hI2 hv2 hb2) (by decide) (Nat.le_of_ble_eq_true rfl) dX2_serve_74 (fun r9 M9 hp9 => ?_)
        obtain ⟨rfl, hS3, hF4⟩ := hp9
        refine go _ ?_ (hF3.trans (by rw [← hn1]; exact hF4))
        have : serve1 g1 b = play9 (leaveQ g1 v) v b := by
          unfold serve1
          rw [hq]
          simp only
          rw [if_pos (i_nlt.mp h67)]
        rw [this]
        exact hS3
  refine s_aload_n G dX2_serve_0 rfl ?_
  refine gX2_11 G (by assumption) dX2_serve_1 ?_
  refine s_iload_n G dX2_serve_4 rfl ?_
  refine ar_6 G (by assumption) rfl (by first | assumption | omega) dX2_serve_5 ?_
  refine s_astore_n G dX2_serve_6 (by decide) rfl ?_
  refine s_aload_n G dX2_serve_7 rfl ?_
  refine gX2_93 G (by assumption) (by assumption) dX2_serve_8 ?_
  rw [hS.wks hb]
  refine s_aload_n G dX2_serve_11 rfl ?_
  refine gX2_158 G (by assumption) (by assumption) dX2_serve_12 ?_
  rw [hS.ql hb]
  refine iX2_165 G dX2_serve_15 (by decide) (Nat.le_of_ble_eq_true rfl) ?_
  have e1 : (if nI (g.q b).length < nI (wk g b) then nI (g.q b).length else nI (wk g b)) = nI T := by
    rw [hT]
    by_cases q : (g.q b).length < wk g b
    · rw [if_pos (nI_lt q (by omega)), if_pos q]
    · rw [if_neg (nI_nlt (by omega) (by omega)), if_neg q]
  rw [e1]
  refine s_istore_n G dX2_serve_18 (by decide) rfl ?_
  refine s_iconst (v := 0) G dX2_serve_19 (by decide) ?_
  refine s_istore G dX2_serve_20 (by decide) rfl ?_
  exact loop T 0 g M (by omega) hS hI rfl hTq Fr.rf hfin
theorem c_tire {h : Nat} (hf : f < 2) (hS : SimC f M g) (hI : Inv g) (hh : h < g.nh) : Ret E idsC yX2_tireOrRest cX2_tireOrRest 3 none 2 44 [.ref (E.ad (1, f, 0)), .int (nI h)] M (fun r M' => r = none ∧ SimC f M' (tire9 g h) ∧ Fr f g.2.2.1 M M') := by
  have hh12 : h < 12 := Nat.lt_of_lt_of_le hh hI.nh12
  refine Ret_of_V RX2 (by decide) rfl idsC_nd [some (.ref (E.ad (1, f, 0))), some (.int (nI h)), none] rfl (Nat.le_of_ble_eq_true rfl) (fun κ hE G E9 hr => ?_)
  subst hE
  have fin : ∀ (g1 : GS) (M1 : Mem), SimC f M1 g1 → g1.2.2.1 = g.2.2.1 → Fr f g.2.2.1 M M1 → tire9 g h = rest9 g1 h → V κ idsC 3 M1 [some (.ref (κ.E.ad (1, f, 0))), some (.int (nI h)), some (.ref (κ.E.ad (3, f, h)))] [] 49 := by
    intro g1 M1 hS1 hn1 hF1 hG
    have hh1 : h < g1.nh := by rw [nh_of hn1]; exact hh
    refine s_aload_n G dX2_tireOrRest_49 rfl ?_
    refine iX2_220 G (by assumption) (by assumption) (c_rest hf hh12) (by decide) (Nat.le_of_ble_eq_true rfl) dX2_tireOrRest_50 (fun r9 M9 hp9 => ?_)
    obtain ⟨rfl, rfl⟩ := hp9
    refine s_vret G E9 hr dX2_tireOrRest_53 ⟨rfl, ?_, Fr.h3 hF1 hh⟩
    rw [hG, hS1.he (k := 0) hh1 (by decide)]
    exact hS1.h3 (by decide)
  refine s_aload_n G dX2_tireOrRest_0 rfl ?_
  refine gX2_19 G (by assumption) dX2_tireOrRest_1 ?_
  refine s_iload_n G dX2_tireOrRest_4 rfl ?_
  refine ar_7 G (by assumption) rfl (by first | assumption | omega) dX2_tireOrRest_5 ?_
  refine s_astore_n G dX2_tireOrRest_6 (by decide) rfl ?_
  refine s_aload_n G dX2_tireOrRest_7 rfl ?_
  refine gX2_87 G (by assumption) (by assumption) dX2_tireOrRest_8 ?_
  rw [hS.he (k := 1) hh (by decide)]
  refine s_iconst (v := -1) G dX2_tireOrRest_11 (by decide) ?_
  refine s_icmp_eq G 49 dX2_tireOrRest_12 (by decide) (fun h12 => ?_) (fun h12 => ?_)
  · exact fin g M hS rfl Fr.rf (by unfold tire9; rw [if_pos h12])
  refine s_aload_n G dX2_tireOrRest_15 rfl ?_
  refine s_dup G dX2_tireOrRest_16 rfl ?_
  refine gX2_211 G (by assumption) (by assumption) dX2_tireOrRest_17 ?_
  rw [hS.he (k := 2) hh (by decide)]
  refine s_iconst (v := 1) G dX2_tireOrRest_20 (by decide) ?_
  refine s_iadd G dX2_tireOrRest_21 ?_
  refine pX2_211 G (by assumption) (by assumption) dX2_tireOrRest_22 ?_
  refine V.abs (fun M1 hM1 => ?_)
  obtain ⟨g1, hg1⟩ : ∃ g1, g1 = g.set 3 h 2 (g.i 3 h 2 + 1) := ⟨_, rfl⟩
  have hS1 : SimC f M1 g1 := by rw [hM1, hg1]; exact hS.h3 (by decide)
  have hF1 : Fr f g.2.2.1 M M1 := by rw [hM1]; exact Fr.h3 Fr.rf hh
  have hh1 : h < g1.nh := by rw [hg1]; exact hh
  clear hM1
  refine s_aload_n G dX2_tireOrRest_25 rfl ?_
  refine s_dup G dX2_tireOrRest_26 rfl ?_
  refine gX2_214 G (by assumption) (by assumption) dX2_tireOrRest_27 ?_
  rw [hS1.he (k := 0) hh1 (by decide), show g1.i 3 h 0 = g.i 3 h 0 by rw [hg1]; simp [gi_set]]
  refine s_iconst (v := 1) G dX2_tireOrRest_30 (by decide) ?_
  refine s_isub G dX2_tireOrRest_31 ?_
  refine pX2_214 G (by assumption) (by assumption) dX2_tireOrRest_32 ?_
  refine V.abs (fun M2 hM2 => ?_)
  obtain ⟨g2, hg2⟩ : ∃ g2, g2 = g1.set 3 h 0 (g.i 3 h 0 - 1) := ⟨_, rfl⟩
  have hS2 : SimC f M2 g2 := by rw [hM2, hg2]; exact hS1.h3 (by decide)
  have hF2 : Fr f g.2.2.1 M M2 := by rw [hM2]; exact Fr.h3 hF1 hh
  have hh2 : h < g2.nh := by rw [hg2]; exact hh1
  have hn2 : g2.2.2.1 = g.2.2.1 := by rw [hg2, hg1]; rfl
  clear hM2
  have ht : tire9 g h = if 0 < g2.i 3 h 0 then g2 else rest9 (g2.set 3 h 1 (-1)) h := by
    unfold tire9
    rw [if_neg h12, hg2, hg1]
  refine s_aload_n G dX2_tireOrRest_35 rfl ?_
  refine gX2_214 G (by assumption) (by assumption) dX2_tireOrRest_36 ?_
  rw [hS2.he (k := 0) hh2 (by decide)]
  refine s_if_le G 43 dX2_tireOrRest_39 (by decide) (fun h39 => ?_) (fun h39 => ?_)
  · refine s_aload_n G dX2_tireOrRest_43 rfl ?_
    refine s_iload_n G dX2_tireOrRest_44 rfl ?_
    refine s_iconst (v := -1) G dX2_tireOrRest_45 (by decide) ?_
    refine iX2_217 G (by assumption) (c_send hf hS2 ⟨by rw [nb_of hn2]; exact hI.nb8, by rw [nh_of hn2]; exact hI.nh12⟩ hh2 (Or.inl rfl)) (by decide) (Nat.le_of_ble_eq_true rfl) dX2_tireOrRest_46 (fun r9 M9 hp9 => ?_)
    obtain ⟨rfl, hS3, hF3⟩ := hp9
    exact fin _ _ hS3 hn2 (hF2.trans (by rw [← hn2]; exact hF3)) (by rw [ht, if_neg (i_nlt.mpr h39)])
  · refine s_vret G E9 hr dX2_tireOrRest_42 ⟨rfl, by rw [ht, if_pos (i_nle.mp h39)]; exact hS2, hF2⟩
theorem c_dart (hf : f < 2) (hS : SimC f M g) (hI : Inv g) : Ret E idsC yX2_throwDart cX2_throwDart 1 none 0 0 [.ref (E.ad (1, f, 0))] M (fun r M' => r = none ∧ SimC f M' (dart9 g) ∧ Fr f g.2.2.1 M M') := by
  have hb8 := hI.nb8
  refine Ret_of_V RX2 (by decide) rfl idsC_nd [some (.ref (E.ad (1, f, 0)))] rfl (Nat.le_of_ble_eq_true rfl) (fun κ hE G E9 hr => ?_)
  subst hE
  refine s_aload_n G dX2_throwDart_0 rfl ?_
  refine s_aload_n G dX2_throwDart_1 rfl ?_
  refine gX2_36 G (by assumption) dX2_throwDart_2 ?_
  rw [hS.num (k := 8) (by decide) (by decide)]
  refine s_bipush (v := 75) G dX2_throwDart_5 (by decide) ?_
  refine s_imul G dX2_throwDart_7 ?_
  refine s_bipush (v := 74) G dX2_throwDart_8 (by decide) ?_
  refine s_iadd G dX2_throwDart_10 ?_
  refine s_ldc (v := 65537) G dX2_throwDart_11 (by decide +kernel) ?_
  refine s_irem G dX2_throwDart_13 (by decide) ?_
  refine pX2_36 G (by assumption) dX2_throwDart_14 ?_
  refine V.abs (fun M1 hM1 => ?_)
  obtain ⟨g1, hg1⟩ : ∃ g1, g1 = g.set 1 0 8 (rm9 (g.i 1 0 8 * 75 + 74) 65537) := ⟨_, rfl⟩
  have hS1 : SimC f M1 g1 := by rw [hM1, hg1]; exact hS.f1 (by decide)
  have hF1 : Fr f g.2.2.1 M M1 := by rw [hM1]; exact Fr.f1 Fr.rf
  clear hM1
  have hn1 : g1.nb = g.nb := by rw [hg1]; rfl
  have hd : dart9 g = g1.set 1 0 9 (if 0 < g.nb then rm9 (rm9 (g.i 1 0 8 * 75 + 74) 65537) (nI g.nb) else -1) := by
    unfold dart9
    rw [hg1]
  refine s_aload_n G dX2_throwDart_17 rfl ?_
  refine s_aload_n G dX2_throwDart_18 rfl ?_
  refine gX2_46 G (by assumption) dX2_throwDart_19 ?_
  rw [hS1.nb, hn1]
  refine s_if_le G 37 dX2_throwDart_22 (by decide) (fun h22 => ?_) (fun h22 => ?_)
  · have h0 : ¬ 0 < g.nb := fun q => absurd (nI_lt (a := 0) q (by omega)) (i_nlt.mpr h22)
    refine s_iconst (v := -1) G dX2_throwDart_37 (by decide) ?_
    refine pX2_40 G (by assumption) dX2_throwDart_38 ?_
    refine s_vret G E9 hr dX2_throwDart_41 ⟨rfl, by rw [hd, if_neg h0]; exact hS1.f1 (by decide), Fr.f1 hF1⟩
  · have h0 : 0 < g.nb := by
      rcases Nat.eq_zero_or_pos g.nb with q | q
      · exact absurd (by rw [q]; decide) h22
      · exact q
    refine s_aload_n G dX2_throwDart_25 rfl ?_
    refine gX2_36 G (by assumption) dX2_throwDart_26 ?_
    rw [hS1.num (k := 8) (by decide) (by decide), show g1.i 1 0 8 = rm9 (g.i 1 0 8 * 75 + 74) 65537 by rw [hg1]; simp [gi_set]]
    refine s_aload_n G dX2_throwDart_29 rfl ?_
    refine gX2_46 G (by assumption) dX2_throwDart_30 ?_
    rw [hS1.nb, hn1]
    refine s_irem G dX2_throwDart_33 (nI_ne0 h0 (by omega)) ?_
    refine s_goto G 38 dX2_throwDart_34 (by decide) ?_
    refine pX2_40 G (by assumption) dX2_throwDart_38 ?_
    refine s_vret G E9 hr dX2_throwDart_41 ⟨rfl, by rw [hd, if_pos h0]; exact hS1.f1 (by decide), Fr.f1 hF1⟩
end Sv
