/-! ===== law's checks: the booths ===== -/
def Aq (E : EX) (s : Sg) (q20 n : Nat) (c : Nat → Nat) : Prop := ∃ F, s q20 = some ((66, 0, 0), .inl (E.cy 0, pInts n F)) ∧ ∀ v, v < n → F v = nI (c v)
def cq (g : GS) (v m : Nat) : Nat := sN (fun b => (g.q b).count v) m
def mkd (g : GS) : Nat → Int32 := sI (fun b => if nI b = g.i 1 0 9 then 1 else 0)
/-- what a round leaves of the booths -/
def RB (t : Nat) (g h : GS) (n : Nat → Nat) : Prop := (h.nb = g.nb ∧ h.nh = g.nh ∧ h.nv = g.nv) ∧ ((1 ≤ g.nb ∧ g.nb ≤ 7) ∧ (1 ≤ g.nh ∧ g.nh ≤ 11) ∧ (1 ≤ g.nv ∧ g.nv ≤ 14)) ∧ (∀ b, h.i 2 b 0 = g.i 2 b 0 ∧ h.i 2 b 1 = g.i 2 b 1 ∧ h.i 2 b 3 = g.i 2 b 3) ∧ (∀ b, b < g.nb → h.i 2 b 2 ≤ g.i 2 b 2 ∧ h.i 2 b 5 - g.i 2 b 5 = nI (n b) ∧ h.i 2 b 6 - g.i 2 b 6 = nI (n b) * cst h b) ∧ (∀ b, n b ≤ 11 ∧ n b ≤ wk g b ∧ wk g b ≤ 11 ∧ (¬ opn g b → n b = 0)) ∧ (t % 12 = 11 → ∀ b, b < g.nb → ¬ opn h b → h.q b = [])
theorem RFh.rb {g : GS} {t : Nat} {n : Nat → Nat} (h : RFh t g n) : RB t g (round9 g) n := ⟨⟨nb_of r_n, nh_of r_n, nv_of r_n⟩, h.1.1, h.r_b, fun b hb => ⟨h.r_b2 hb, h.r_b5 hb, h.r_b6 hb⟩, fun b => ⟨h.n11 b, h.2.2.2.2.1 b, Nat.le_trans (wkN_leq _) h.1.1.2.1.2, h.2.2.2.2.2 b⟩, fun q _ hb ho => h.r_q q hb ho⟩
section Kb
variable {κ : KX} {s1 : Sg} {g h : GS} {M : Mem} {cN dN aS t q8 q9 q10 q20 : Nat} {x y17 y21 y22 y23 y24 : Int32} {n : Nat → Nat}
theorem p_b1 (G : Gd κ cL_law 34 RL 7 164) (hc9 : cN ≤ κ.R.cells) (hd9 : dN ≤ κ.R.slots) (hC : ClsP κ.E s1 M) (hI : CI M h) (hR : RB t g h n) {k : Nat} (K : HV κ 34 s1 cN dN [some (.ref κ.E.sc.1), some (.ref (κ.E.ad (0, 0, 0))), some (.ref aS), some (.int (nI g.nb)), some (.int (nI g.nh)), some (.int (nI g.nv)), some (.int (nI t)), some (.int x), some (.ref q8), some (.ref q9), some (.ref q10), none, none, none, none, some (.int (nI g.bd.length)), none, some (.int y17), none, some (.int (if t % 12 = 11 then 1 else 0)), some (.ref q20), some (.int y21), some (.int y22), some (.int y23), some (.int y24), some (.int (nI k)), some (.int (nI (wk h k))), none, none, none, none, none, none, none] [] 512) : HV κ 34 s1 cN dN [some (.ref κ.E.sc.1), some (.ref (κ.E.ad (0, 0, 0))), some (.ref aS), some (.int (nI g.nb)), some (.int (nI g.nh)), some (.int (nI g.nv)), some (.int (nI t)), some (.int x), some (.ref q8), some (.ref q9), some (.ref q10), none, none, none, none, some (.int (nI g.bd.length)), none, some (.int y17), none, some (.int (if t % 12 = 11 then 1 else 0)), some (.ref q20), some (.int y21), some (.int y22), some (.int y23), some (.int y24), some (.int (nI k)), some (.int 0), some (.int 0), none, none, none, none, none, none] [] 477 := by
  have hnh := hR.2.1.2.1
  have e1 := hR.1.2.1
  have lh : ∀ m j, j + m = g.nh → HV κ 34 s1 cN dN [some (.ref κ.E.sc.1), some (.ref (κ.E.ad (0, 0, 0))), some (.ref aS), some (.int (nI g.nb)), some (.int (nI g.nh)), some (.int (nI g.nv)), some (.int (nI t)), some (.int x), some (.ref q8), some (.ref q9), some (.ref q10), none, none, none, none, some (.int (nI g.bd.length)), none, some (.int y17), none, some (.int (if t % 12 = 11 then 1 else 0)), some (.ref q20), some (.int y21), some (.int y22), some (.int y23), some (.int y24), some (.int (nI k)), some (.int (nI (wkN h k j))), some (.int (nI j)), none, none, none, none, none, none] [] 477 := by
    intro m
    induction m with
    | zero =>
      intro j hj
      have hj : j = g.nh := by omega
      subst hj
      refine h_iload G dL_law_477 rfl ?_
      refine h_iload G dL_law_479 rfl ?_
      refine h_icmp_ge G 512 dL_law_481 (by decide) (fun h481 => ?_) (fun h481 => ?_)
      rotate_left
      · exact absurd (nI_le (Nat.le_refl _) (by omega)) h481
      rw [show wkN h k g.nh = wk h k from by unfold wk; rw [e1]]
      exact HV.drop1 27 K
    | succ m ih2 =>
      intro j hj
      have hlj : j < g.nh := by omega
      have hlj' : j < h.nh := by omega
      refine h_iload G dL_law_477 rfl ?_
      refine h_iload G dL_law_479 rfl ?_
      refine h_icmp_ge G 512 dL_law_481 (by decide) (fun h481 => ?_) (fun h481 => ?_)
      · exact absurd h481 (nI_ge hlj (by omega))
      refine h_iload G dL_law_484 rfl ?_
      refine h_aload_n G dL_law_486 rfl ?_
      refine h_iload G dL_law_487 rfl ?_
      refine h_iconst (v := 1) G dL_law_489 (by decide) ?_
      refine wiL_104 G hC (f_helper hI hlj' (k := 1) (by decide)) (by decide) (Nat.le_of_ble_eq_true rfl) (by omega) (by omega) dL_law_490 (fun r9 M9 hp9 => ?_)
      obtain ⟨rfl, rfl⟩ := hp9
      rw [setC_self hC]
      refine h_iload G dL_law_493 rfl ?_
      have i2 := ih2 (j + 1) (by omega)
      rw [show wkN h k (j + 1) = wkN h k j + (if h.i 3 j 1 = nI k then 1 else 0) from rfl] at i2
      refine h_icmp_ne G 502 dL_law_495 (by decide) (fun h495 => ?_) (fun h495 => ?_)
      · rw [if_neg h495] at i2
        refine h_iconst (v := 0) G dL_law_502 (by decide) ?_
        refine h_iadd G dL_law_503 ?_
        rw [Int32.add_zero]
        refine h_istore G dL_law_504 (by decide) rfl ?_
        refine h_iinc G dL_law_506 rfl (by decide) rfl (nI_1 j) ?_
        refine h_goto G 477 dL_law_509 (by decide) ?_
        exact i2
      · rw [if_pos h495] at i2
        refine h_iconst (v := 1) G dL_law_498 (by decide) ?_
        refine h_goto G 503 dL_law_499 (by decide) ?_
        refine h_iadd G dL_law_503 ?_
        rw [nI_1]
        refine h_istore G dL_law_504 (by decide) rfl ?_
        refine h_iinc G dL_law_506 rfl (by decide) rfl (nI_1 j) ?_
        refine h_goto G 477 dL_law_509 (by decide) ?_
        exact i2
  exact lh g.nh 0 (by omega)
theorem p_b2a (G : Gd κ cL_law 34 RL 7 164) (hc9 : cN ≤ κ.R.cells) (hd9 : dN ≤ κ.R.slots) (hC : ClsP κ.E s1 M) (hI : CI M h) (hR : RB t g h n) {k a9 : Nat} {f9 : Nat → Option Nat} {f1 : Nat → Int32} (hlt : k < g.nb) (hq9 : s1 q9 = some ((62, 0, 0), .inl (κ.E.cy 5, pRefs g.nb f9))) (hf9 : f9 k = some a9) (h1 : s1 a9 = some ((63, k, 0), .inl (κ.E.cy 0, pInts 10 f1))) (k1 : ∀ j, j < 10 → f1 j = bfc g k j) (K : HV κ 34 s1 cN dN [some (.ref κ.E.sc.1), some (.ref (κ.E.ad (0, 0, 0))), some (.ref aS), some (.int (nI g.nb)), some (.int (nI g.nh)), some (.int (nI g.nv)), some (.int (nI t)), some (.int x), some (.ref q8), some (.ref q9), some (.ref q10), none, none, none, none, some (.int (nI g.bd.length)), none, some (.int y17), none, some (.int (if t % 12 = 11 then 1 else 0)), some (.ref q20), some (.int y21), some (.int y22), some (.int y23), some (.int y24), some (.int (nI k)), some (.int (nI (wk h k))), none, none, none, none, none, none, none] [] 632) : HV κ 34 s1 cN dN [some (.ref κ.E.sc.1), some (.ref (κ.E.ad (0, 0, 0))), some (.ref aS), some (.int (nI g.nb)), some (.int (nI g.nh)), some (.int (nI g.nv)), some (.int (nI t)), some (.int x), some (.ref q8), some (.ref q9), some (.ref q10), none, none, none, none, some (.int (nI g.bd.length)), none, some (.int y17), none, some (.int (if t % 12 = 11 then 1 else 0)), some (.ref q20), some (.int y21), some (.int y22), some (.int y23), some (.int y24), some (.int (nI k)), some (.int (nI (wk h k))), none, none, none, none, none, none, none] [.int (if opn h k then 1 else 0), .int (bfc h k 5)] 583 := by
  have hlt' : k < h.nb := by rw [hR.1.1]; exact hlt
  have eb := hR.2.2.1 k
  have hnb := hR.2.1.1
  refine h_icmp_ne G 630 dL_law_583 (by decide) (fun h583 => ?_) (fun h583 => ?_)
  · exact absurd rfl h583
  refine h_aload_n G dL_law_586 rfl ?_
  refine h_iload G dL_law_587 rfl ?_
  refine h_iconst (v := 1) G dL_law_589 (by decide) ?_
  refine wiL_102 G hC (f_booth hI hlt' (k := 1) (by decide)) (by decide) (Nat.le_of_ble_eq_true rfl) (by omega) (by omega) dL_law_590 (fun r9 M9 hp9 => ?_)
  obtain ⟨rfl, rfl⟩ := hp9
  rw [setC_self hC]
  refine h_aload G dL_law_593 rfl ?_
  refine h_iload G dL_law_595 rfl ?_
  refine h_aalA G hq9 rfl hlt (by omega) hf9 dL_law_597 ?_
  refine h_iconst (v := 1) G dL_law_598 (by decide) ?_
  refine h_iald G h1 (j := 1) rfl (by decide) (by decide) dL_law_599 ?_
  rw [k1 1 (by decide)]
  rw [show bfc h k 1 = bfc g k 1 from eb.2.1]
  refine h_icmp_ne G 630 dL_law_600 (by decide) (fun h600 => ?_) (fun h600 => ?_)
  · exact absurd rfl h600
  refine h_aload_n G dL_law_603 rfl ?_
  refine h_iload G dL_law_604 rfl ?_
  refine h_iconst (v := 2) G dL_law_606 (by decide) ?_
  refine wiL_102 G hC (f_booth hI hlt' (k := 2) (by decide)) (by decide) (Nat.le_of_ble_eq_true rfl) (by omega) (by omega) dL_law_607 (fun r9 M9 hp9 => ?_)
  obtain ⟨rfl, rfl⟩ := hp9
  rw [setC_self hC]
  refine h_aload G dL_law_610 rfl ?_
  refine h_iload G dL_law_612 rfl ?_
  refine h_aalA G hq9 rfl hlt (by omega) hf9 dL_law_614 ?_
  refine h_iconst (v := 2) G dL_law_615 (by decide) ?_
  refine h_iald G h1 (j := 2) rfl (by decide) (by decide) dL_law_616 ?_
  rw [k1 2 (by decide)]
  refine h_icmp_gt G 630 dL_law_617 (by decide) (fun h617 => ?_) (fun h617 => ?_)
  · exact absurd (hR.2.2.2.1 k hlt).1 (Int32.not_le.mpr h617)
  refine h_aload_n G dL_law_620 rfl ?_
  refine h_iload G dL_law_621 rfl ?_
  refine h_iconst (v := 2) G dL_law_623 (by decide) ?_
  refine wiL_102 G hC (f_booth hI hlt' (k := 2) (by decide)) (by decide) (Nat.le_of_ble_eq_true rfl) (by omega) (by omega) dL_law_624 (fun r9 M9 hp9 => ?_)
  obtain ⟨rfl, rfl⟩ := hp9
  rw [setC_self hC]
  refine h_if_ge G 632 dL_law_627 (by decide) (fun h627 => ?_) (fun h627 => ?_)
  rotate_left
  · exact absurd (hI.2.1.bpz hlt').1 h627
  exact K
theorem p_b2 (G : Gd κ cL_law 34 RL 7 164) (hc9 : cN ≤ κ.R.cells) (hd9 : dN ≤ κ.R.slots) (hC : ClsP κ.E s1 M) (hI : CI M h) (hR : RB t g h n) {k a9 : Nat} {f9 : Nat → Option Nat} {f1 : Nat → Int32} (hlt : k < g.nb) (hq9 : s1 q9 = some ((62, 0, 0), .inl (κ.E.cy 5, pRefs g.nb f9))) (hf9 : f9 k = some a9) (h1 : s1 a9 = some ((63, k, 0), .inl (κ.E.cy 0, pInts 10 f1))) (k1 : ∀ j, j < 10 → f1 j = bfc g k j) (K : HV κ 34 s1 cN dN [some (.ref κ.E.sc.1), some (.ref (κ.E.ad (0, 0, 0))), some (.ref aS), some (.int (nI g.nb)), some (.int (nI g.nh)), some (.int (nI g.nv)), some (.int (nI t)), some (.int x), some (.ref q8), some (.ref q9), some (.ref q10), none, none, none, none, some (.int (nI g.bd.length)), none, some (.int y17), none, some (.int (if t % 12 = 11 then 1 else 0)), some (.ref q20), some (.int (y21 + if opn h k then 1 else 0)), some (.int y22), some (.int y23), some (.int (y24 + bfc h k 6)), some (.int (nI k)), some (.int (nI (wk h k))), none, none, none, none, none, none, none] [] 632) : HV κ 34 s1 cN dN [some (.ref κ.E.sc.1), some (.ref (κ.E.ad (0, 0, 0))), some (.ref aS), some (.int (nI g.nb)), some (.int (nI g.nh)), some (.int (nI g.nv)), some (.int (nI t)), some (.int x), some (.ref q8), some (.ref q9), some (.ref q10), none, none, none, none, some (.int (nI g.bd.length)), none, some (.int y17), none, some (.int (if t % 12 = 11 then 1 else 0)), some (.ref q20), some (.int y21), some (.int y22), some (.int y23), some (.int y24), some (.int (nI k)), some (.int (nI (wk h k))), none, none, none, none, none, none, none] [] 512 := by
  have hlt' : k < h.nb := by rw [hR.1.1]; exact hlt
  have eb := hR.2.2.1 k
  have hnb := hR.2.1.1
  have ho : nI (wk h k) < bfc g k 3 ↔ ¬ opn h k := by
    show _ ↔ ¬ h.i 2 k 3 ≤ nI (wk h k)
    rw [eb.2.2, Int32.not_le]
    exact Iff.rfl
  have K531 : HV κ 34 s1 cN dN [some (.ref κ.E.sc.1), some (.ref (κ.E.ad (0, 0, 0))), some (.ref aS), some (.int (nI g.nb)), some (.int (nI g.nh)), some (.int (nI g.nv)), some (.int (nI t)), some (.int x), some (.ref q8), some (.ref q9), some (.ref q10), none, none, none, none, some (.int (nI g.bd.length)), none, some (.int y17), none, some (.int (if t % 12 = 11 then 1 else 0)), some (.ref q20), some (.int y21), some (.int y22), some (.int y23), some (.int y24), some (.int (nI k)), some (.int (nI (wk h k))), none, none, none, none, none, none, none] [.int (if opn h k then 1 else 0), .int y21] 531 := by
    refine h_iadd G dL_law_531 ?_
    refine h_istore G dL_law_532 (by decide) rfl ?_
    refine h_iload G dL_law_534 rfl ?_
    refine h_aload_n G dL_law_536 rfl ?_
    refine h_iload G dL_law_537 rfl ?_
    refine h_bipush (v := 6) G dL_law_539 (by decide) ?_
    refine wiL_102 G hC (f_booth hI hlt' (k := 6) (by decide)) (by decide) (Nat.le_of_ble_eq_true rfl) (by omega) (by omega) dL_law_541 (fun r9 M9 hp9 => ?_)
    obtain ⟨rfl, rfl⟩ := hp9
    rw [setC_self hC]
    refine h_iadd G dL_law_544 ?_
    refine h_istore G dL_law_545 (by decide) rfl ?_
    refine h_aload_n G dL_law_547 rfl ?_
    refine h_iload G dL_law_548 rfl ?_
    refine h_iconst (v := 4) G dL_law_550 (by decide) ?_
    refine wiL_102 G hC (f_booth hI hlt' (k := 4) (by decide)) (by decide) (Nat.le_of_ble_eq_true rfl) (by omega) (by omega) dL_law_551 (fun r9 M9 hp9 => ?_)
    obtain ⟨rfl, rfl⟩ := hp9
    rw [setC_self hC]
    refine h_iload G dL_law_554 rfl ?_
    refine h_icmp_ne G 630 dL_law_556 (by decide) (fun h556 => ?_) (fun h556 => ?_)
    · exact absurd rfl h556
    refine h_aload_n G dL_law_559 rfl ?_
    refine h_iload G dL_law_560 rfl ?_
    refine h_iconst (v := 5) G dL_law_562 (by decide) ?_
    refine wiL_102 G hC (f_booth hI hlt' (k := 5) (by decide)) (by decide) (Nat.le_of_ble_eq_true rfl) (by omega) (by omega) dL_law_563 (fun r9 M9 hp9 => ?_)
    obtain ⟨rfl, rfl⟩ := hp9
    rw [setC_self hC]
    refine h_iload G dL_law_566 rfl ?_
    refine h_aload G dL_law_568 rfl ?_
    refine h_iload G dL_law_570 rfl ?_
    refine h_aalA G hq9 rfl hlt (by omega) hf9 dL_law_572 ?_
    refine h_iconst (v := 3) G dL_law_573 (by decide) ?_
    refine h_iald G h1 (j := 3) rfl (by decide) (by decide) dL_law_574 ?_
    rw [k1 3 (by decide)]
    have K583 : ∀ y : Int32, y = (if opn h k then 1 else 0) → HV κ 34 s1 cN dN [some (.ref κ.E.sc.1), some (.ref (κ.E.ad (0, 0, 0))), some (.ref aS), some (.int (nI g.nb)), some (.int (nI g.nh)), some (.int (nI g.nv)), some (.int (nI t)), some (.int x), some (.ref q8), some (.ref q9), some (.ref q10), none, none, none, none, some (.int (nI g.bd.length)), none, some (.int y17), none, some (.int (if t % 12 = 11 then 1 else 0)), some (.ref q20), some (.int (y21 + if opn h k then 1 else 0)), some (.int y22), some (.int y23), some (.int (y24 + bfc h k 6)), some (.int (nI k)), some (.int (nI (wk h k))), none, none, none, none, none, none, none] [.int y, .int (bfc h k 5)] 583 := fun y hy => by
      rw [hy]
      exact p_b2a G hc9 hd9 hC hI hR hlt hq9 hf9 h1 k1 K
    refine h_icmp_lt G 582 dL_law_575 (by decide) (fun h575 => ?_) (fun h575 => ?_)
    · refine h_iconst (v := 0) G dL_law_582 (by decide) ?_
      exact K583 _ (if_neg (ho.mp h575)).symm
    · refine h_iconst (v := 1) G dL_law_578 (by decide) ?_
      refine h_goto G 583 dL_law_579 (by decide) ?_
      exact K583 _ (if_pos (Decidable.not_not.mp (fun z => h575 (ho.mpr z)))).symm
  refine h_iload G dL_law_512 rfl ?_
  refine h_iload G dL_law_514 rfl ?_
  refine h_aload G dL_law_516 rfl ?_
  refine h_iload G dL_law_518 rfl ?_
  refine h_aalA G hq9 rfl hlt (by omega) hf9 dL_law_520 ?_
  refine h_iconst (v := 3) G dL_law_521 (by decide) ?_
  refine h_iald G h1 (j := 3) rfl (by decide) (by decide) dL_law_522 ?_
  rw [k1 3 (by decide)]
  refine h_icmp_lt G 530 dL_law_523 (by decide) (fun h523 => ?_) (fun h523 => ?_)
  · rw [if_neg (ho.mp h523)] at K531
    refine h_iconst (v := 0) G dL_law_530 (by decide) ?_
    exact K531
  · rw [if_pos (Decidable.not_not.mp (fun z => h523 (ho.mpr z)))] at K531
    refine h_iconst (v := 1) G dL_law_526 (by decide) ?_
    refine h_goto G 531 dL_law_527 (by decide) ?_
    exact K531
theorem take_count {L : List Nat} {j u v : Nat} (hu : L[j]? = some u) : (L.take (j + 1)).count v = (L.take j).count v + if v = u then 1 else 0 := by
  rw [List.take_add_one, hu, List.count_append]
  congr 1
  by_cases q : v = u
  · subst q; simp
  · rw [if_neg q]; simp [List.count_cons, Ne.symm q]
theorem Inv.inq {y : GS} (hI : Inv y) {b u : Nat} (hb : b < y.nb) (hu : u ∈ y.q b) : u < y.nv ∧ stt y u = 1 ∧ y.i 4 u 3 = nI b := by
  have h1 := (hI.qm hb).mp hu
  have hb8 := hI.nb8
  refine ⟨h1.1, ?_, h1.2⟩
  have hne : y.i 4 u 3 ≠ -1 := by rw [h1.2]; exact nI_m1 (by omega)
  unfold stt
  rcases hI.vho h1.1 with q | q
  · rw [if_pos q, if_neg hne]
  · exact absurd (hI.vha h1.1 q) hne
theorem p_b3 (G : Gd κ cL_law 34 RL 7 164) (hc9 : cN ≤ κ.R.cells) (hd9 : dN ≤ κ.R.slots) (hR : RB t g h n) (hI : CI M h) {σ : Sg} (hC0 : ClsP κ.E σ M) (hfr : σ q20 = none) (hE : Ext σ s1) {c : Nat → Nat} (hA : Aq κ.E s1 q20 g.nv c) {k : Nat} (hlt : k < g.nb) (K : ∀ s2, Ext σ s2 → Aq κ.E s2 q20 g.nv (fun v => c v + (h.q k).count v) → HV κ 34 s2 cN dN [some (.ref κ.E.sc.1), some (.ref (κ.E.ad (0, 0, 0))), some (.ref aS), some (.int (nI g.nb)), some (.int (nI g.nh)), some (.int (nI g.nv)), some (.int (nI t)), some (.int x), some (.ref q8), some (.ref q9), some (.ref q10), none, none, none, none, some (.int (nI g.bd.length)), none, some (.int y17), none, some (.int (if t % 12 = 11 then 1 else 0)), some (.ref q20), some (.int y21), some (.int y22), some (.int y23), some (.int y24), some (.int (nI k)), some (.int (nI (wk h k))), none, none, none, none, none, none, none] [] 698) : HV κ 34 s1 cN dN [some (.ref κ.E.sc.1), some (.ref (κ.E.ad (0, 0, 0))), some (.ref aS), some (.int (nI g.nb)), some (.int (nI g.nh)), some (.int (nI g.nv)), some (.int (nI t)), some (.int x), some (.ref q8), some (.ref q9), some (.ref q10), none, none, none, none, some (.int (nI g.bd.length)), none, some (.int y17), none, some (.int (if t % 12 = 11 then 1 else 0)), some (.ref q20), some (.int y21), some (.int y22), some (.int y23), some (.int y24), some (.int (nI k)), some (.int (nI (wk h k))), none, none, none, none, none, none, none] [] 632 := by
  have hlt' : k < h.nb := by rw [hR.1.1]; exact hlt
  have hl16 := hI.2.1.ql16 hlt'
  have e2 := hR.1.2.2
  have hnv := hR.2.1.2.2
  have hnb := hR.2.1.1
  refine h_iconst (v := 0) G dL_law_632 (by decide) ?_
  refine h_istore G dL_law_633 (by decide) rfl ?_
  have lq : ∀ m j, j + m = (h.q k).length → ∀ s2, Ext σ s2 → Aq κ.E s2 q20 g.nv (fun v => c v + ((h.q k).take j).count v) → HV κ 34 s2 cN dN [some (.ref κ.E.sc.1), some (.ref (κ.E.ad (0, 0, 0))), some (.ref aS), some (.int (nI g.nb)), some (.int (nI g.nh)), some (.int (nI g.nv)), some (.int (nI t)), some (.int x), some (.ref q8), some (.ref q9), some (.ref q10), none, none, none, none, some (.int (nI g.bd.length)), none, some (.int y17), none, some (.int (if t % 12 = 11 then 1 else 0)), some (.ref q20), some (.int y21), some (.int y22), some (.int y23), some (.int y24), some (.int (nI k)), some (.int (nI (wk h k))), some (.int (nI j)), none, none, none, none, none, none] [] 635 := by
    intro m
    induction m with
    | zero =>
      intro j hj s2 hE hA
      have hj : j = (h.q k).length := by omega
      subst hj
      have hC := hE.cls hC0
      refine h_iload G dL_law_635 rfl ?_
      refine h_aload_n G dL_law_637 rfl ?_
      refine h_iload G dL_law_638 rfl ?_
      refine h_bipush (v := 7) G dL_law_640 (by decide) ?_
      refine wiL_102 G hC (f_booth hI hlt' (k := 7) (by decide)) (by decide) (Nat.le_of_ble_eq_true rfl) (by omega) (by omega) dL_law_642 (fun r9 M9 hp9 => ?_)
      obtain ⟨rfl, rfl⟩ := hp9
      rw [setC_self hC]
      refine h_icmp_ge G 698 dL_law_645 (by decide) (fun h645 => ?_) (fun h645 => ?_)
      rotate_left
      · exact absurd (nI_le (Nat.le_refl _) (by omega)) h645
      rw [List.take_length] at hA
      exact HV.drop1 27 (K s2 hE hA)
    | succ m ih =>
      intro j hj s2 hE hA
      have hlj : j < (h.q k).length := by omega
      obtain ⟨u, hu⟩ : ∃ u, (h.q k)[j]? = some u := ⟨_, List.getElem?_eq_getElem hlj⟩
      obtain ⟨hu1, hu2, hu3⟩ := hI.2.1.inq hlt' (List.mem_of_getElem? hu)
      have hu1g : u < g.nv := by omega
      have hC := hE.cls hC0
      refine h_iload G dL_law_635 rfl ?_
      refine h_aload_n G dL_law_637 rfl ?_
      refine h_iload G dL_law_638 rfl ?_
      refine h_bipush (v := 7) G dL_law_640 (by decide) ?_
      refine wiL_102 G hC (f_booth hI hlt' (k := 7) (by decide)) (by decide) (Nat.le_of_ble_eq_true rfl) (by omega) (by omega) dL_law_642 (fun r9 M9 hp9 => ?_)
      obtain ⟨rfl, rfl⟩ := hp9
      rw [setC_self hC]
      refine h_icmp_ge G 698 dL_law_645 (by decide) (fun h645 => ?_) (fun h645 => ?_)
      · exact absurd h645 (nI_ge hlj (by omega))
      refine h_aload_n G dL_law_648 rfl ?_
      refine h_iload G dL_law_649 rfl ?_
      refine h_iload G dL_law_651 rfl ?_
      refine wiL_119 G hC (f_queue hI hlt' hu) (by decide) (Nat.le_of_ble_eq_true rfl) (by omega) (by omega) dL_law_653 (fun r9 M9 hp9 => ?_)
      obtain ⟨rfl, rfl⟩ := hp9
      rw [setC_self hC]
      obtain ⟨F, hF, hFc⟩ := hA
      refine h_istore G dL_law_656 (by decide) rfl ?_
      refine h_aload G dL_law_658 rfl ?_
      refine h_iload G dL_law_660 rfl ?_
      refine h_dup2 G dL_law_662 rfl rfl ?_
      refine h_iald G hF (j := u) rfl hu1g (by omega) dL_law_663 ?_
      rw [hFc u hu1g]
      refine h_iconst (v := 1) G dL_law_664 (by decide) ?_
      refine h_iadd G dL_law_665 ?_
      rw [nI_1]
      refine h_iast G hF (j := u) rfl hu1g (by omega) dL_law_666 ?_
      refine HV.abs (fun s3 f3 o3 => ?_)
      have hE3 : Ext σ s3 := fun a z hz => (o3 a (fun w => by rw [w, hfr] at hz; cases hz)).trans (hE a z hz)
      have hA3 : Aq κ.E s3 q20 g.nv (fun v => c v + ((h.q k).take (j + 1)).count v) := by
        refine ⟨_, f3, fun v hv => ?_⟩
        dsimp only
        rw [take_count hu]
        unfold upd
        by_cases q : v = u
        · rw [if_pos q, if_pos q, q, Nat.add_assoc]
        · rw [if_neg q, if_neg q, Nat.add_zero]; exact hFc v hv
      have hC := hE3.cls hC0
      clear hF hFc f3 o3
      refine h_aload_n G dL_law_667 rfl ?_
      refine h_iload G dL_law_668 rfl ?_
      refine h_iconst (v := 2) G dL_law_670 (by decide) ?_
      refine wiL_99 G hC (f_visitor hI hu1 (k := 2) (by decide)) (by decide) (Nat.le_of_ble_eq_true rfl) (by omega) (by omega) dL_law_671 (fun r9 M9 hp9 => ?_)
      obtain ⟨rfl, rfl⟩ := hp9
      rw [setC_self hC, show vfc h u 2 = 1 from hu2]
      refine h_iconst (v := 1) G dL_law_674 (by decide) ?_
      refine h_icmp_ne G 690 dL_law_675 (by decide) (fun h675 => ?_) (fun h675 => ?_)
      · exact absurd rfl h675
      refine h_aload_n G dL_law_678 rfl ?_
      refine h_iload G dL_law_679 rfl ?_
      refine h_iconst (v := 3) G dL_law_681 (by decide) ?_
      refine wiL_99 G hC (f_visitor hI hu1 (k := 3) (by decide)) (by decide) (Nat.le_of_ble_eq_true rfl) (by omega) (by omega) dL_law_682 (fun r9 M9 hp9 => ?_)
      obtain ⟨rfl, rfl⟩ := hp9
      rw [setC_self hC, show vfc h u 3 = nI k from hu3]
      refine h_iload G dL_law_685 rfl ?_
      refine h_icmp_eq G 692 dL_law_687 (by decide) (fun h687 => ?_) (fun h687 => ?_)
      rotate_left
      · exact absurd rfl h687
      refine h_iinc G dL_law_692 rfl (by decide) rfl (nI_1 j) ?_
      refine h_goto G 635 dL_law_695 (by decide) ?_
      exact HV.drop1 28 (ih (j + 1) (by omega) s3 hE3 hA3)
  exact lq (h.q k).length 0 (by omega) s1 hE (by
    obtain ⟨F, hF, hFc⟩ := hA
    refine ⟨F, hF, fun v hv => ?_⟩
    dsimp only
    rw [List.take_zero, List.count_nil, Nat.add_zero]
    exact hFc v hv)
theorem p_b4a (G : Gd κ cL_law 34 RL 7 164) (hc9 : cN ≤ κ.R.cells) (hd9 : dN ≤ κ.R.slots) (hC : ClsP κ.E s1 M) (hI : CI M h) (hR : RB t g h n) {k a9 : Nat} {f9 : Nat → Option Nat} {f1 : Nat → Int32} (hlt : k < g.nb) (hq9 : s1 q9 = some ((62, 0, 0), .inl (κ.E.cy 5, pRefs g.nb f9))) (hf9 : f9 k = some a9) (h1 : s1 a9 = some ((63, k, 0), .inl (κ.E.cy 0, pInts 10 f1))) (k1 : ∀ j, j < 10 → f1 j = bfc g k j) (K : HV κ 34 s1 cN dN [some (.ref κ.E.sc.1), some (.ref (κ.E.ad (0, 0, 0))), some (.ref aS), some (.int (nI g.nb)), some (.int (nI g.nh)), some (.int (nI g.nv)), some (.int (nI t)), some (.int x), some (.ref q8), some (.ref q9), some (.ref q10), none, none, none, none, some (.int (nI g.bd.length)), none, some (.int y17), none, some (.int (if t % 12 = 11 then 1 else 0)), some (.ref q20), some (.int y21), some (.int (y22 + (h.i 2 k 6 - g.i 2 k 6))), some (.int (y23 + nI (n k))), some (.int y24), some (.int (nI (k + 1))), some (.int (nI (wk h k))), some (.int (nI (n k))), none, none, none, none, none, none] [] 465) : HV κ 34 s1 cN dN [some (.ref κ.E.sc.1), some (.ref (κ.E.ad (0, 0, 0))), some (.ref aS), some (.int (nI g.nb)), some (.int (nI g.nh)), some (.int (nI g.nv)), some (.int (nI t)), some (.int x), some (.ref q8), some (.ref q9), some (.ref q10), none, none, none, none, some (.int (nI g.bd.length)), none, some (.int y17), none, some (.int (if t % 12 = 11 then 1 else 0)), some (.ref q20), some (.int y21), some (.int y22), some (.int y23), some (.int y24), some (.int (nI k)), some (.int (nI (wk h k))), some (.int (nI (n k))), none, none, none, none, none, none] [] 781 := by
  have hlt' : k < h.nb := by rw [hR.1.1]; exact hlt
  have eb := hR.2.2.1 k
  have hnb := hR.2.1.1
  have K811 : HV κ 34 s1 cN dN [some (.ref κ.E.sc.1), some (.ref (κ.E.ad (0, 0, 0))), some (.ref aS), some (.int (nI g.nb)), some (.int (nI g.nh)), some (.int (nI g.nv)), some (.int (nI t)), some (.int x), some (.ref q8), some (.ref q9), some (.ref q10), none, none, none, none, some (.int (nI g.bd.length)), none, some (.int y17), none, some (.int (if t % 12 = 11 then 1 else 0)), some (.ref q20), some (.int y21), some (.int y22), some (.int y23), some (.int y24), some (.int (nI k)), some (.int (nI (wk h k))), some (.int (nI (n k))), none, none, none, none, none, none] [] 811 := by
    refine h_iload G dL_law_811 rfl ?_
    refine h_iload G dL_law_813 rfl ?_
    refine h_iadd G dL_law_815 ?_
    refine h_istore G dL_law_816 (by decide) rfl ?_
    refine h_iload G dL_law_818 rfl ?_
    refine h_aload_n G dL_law_820 rfl ?_
    refine h_iload G dL_law_821 rfl ?_
    refine h_bipush (v := 9) G dL_law_823 (by decide) ?_
    refine wiL_102 G hC (f_booth hI hlt' (k := 9) (by decide)) (by decide) (Nat.le_of_ble_eq_true rfl) (by omega) (by omega) dL_law_825 (fun r9 M9 hp9 => ?_)
    obtain ⟨rfl, rfl⟩ := hp9
    rw [setC_self hC]
    refine h_aload G dL_law_828 rfl ?_
    refine h_iload G dL_law_830 rfl ?_
    refine h_aalA G hq9 rfl hlt (by omega) hf9 dL_law_832 ?_
    refine h_bipush (v := 9) G dL_law_833 (by decide) ?_
    refine h_iald G h1 (j := 9) rfl (by decide) (by decide) dL_law_835 ?_
    rw [k1 9 (by decide)]
    refine h_isub G dL_law_836 ?_
    rw [show bfc h k 9 - bfc g k 9 = h.i 2 k 6 - g.i 2 k 6 from rfl]
    refine h_iadd G dL_law_837 ?_
    refine h_istore G dL_law_838 (by decide) rfl ?_
    refine h_iinc G dL_law_840 rfl (by decide) rfl (nI_1 k) ?_
    refine h_goto G 465 dL_law_843 (by decide) ?_
    exact K
  refine h_iload G dL_law_781 rfl ?_
  refine h_if_eq G 811 dL_law_783 (by decide) (fun h783 => ?_) (fun h783 => ?_)
  · exact K811
  have hl : t % 12 = 11 := Decidable.byContradiction (fun z => h783 (if_neg z))
  refine h_iload G dL_law_786 rfl ?_
  refine h_aload G dL_law_788 rfl ?_
  refine h_iload G dL_law_790 rfl ?_
  refine h_aalA G hq9 rfl hlt (by omega) hf9 dL_law_792 ?_
  refine h_iconst (v := 3) G dL_law_793 (by decide) ?_
  refine h_iald G h1 (j := 3) rfl (by decide) (by decide) dL_law_794 ?_
  rw [k1 3 (by decide)]
  refine h_icmp_ge G 811 dL_law_795 (by decide) (fun h795 => ?_) (fun h795 => ?_)
  · exact K811
  have ho : ¬ opn h k := fun z => h795 (by
    show g.i 2 k 3 ≤ nI (wk h k)
    rw [← eb.2.2]
    exact z)
  have hq := hR.2.2.2.2.2 hl k hlt ho
  refine h_aload_n G dL_law_798 rfl ?_
  refine h_iload G dL_law_799 rfl ?_
  refine h_bipush (v := 7) G dL_law_801 (by decide) ?_
  refine wiL_102 G hC (f_booth hI hlt' (k := 7) (by decide)) (by decide) (Nat.le_of_ble_eq_true rfl) (by omega) (by omega) dL_law_803 (fun r9 M9 hp9 => ?_)
  obtain ⟨rfl, rfl⟩ := hp9
  rw [setC_self hC]
  rw [show bfc h k 7 = 0 from by show nI (h.q k).length = 0; rw [hq]; rfl]
  refine h_if_le G 811 dL_law_806 (by decide) (fun h806 => ?_) (fun h806 => ?_)
  · exact K811
  · exact absurd (by decide) h806
theorem p_b4 (G : Gd κ cL_law 34 RL 7 164) (hc9 : cN ≤ κ.R.cells) (hd9 : dN ≤ κ.R.slots) (hC : ClsP κ.E s1 M) (hI : CI M h) (hR : RB t g h n) {k a9 : Nat} {f9 : Nat → Option Nat} {f1 : Nat → Int32} (hlt : k < g.nb) (hq9 : s1 q9 = some ((62, 0, 0), .inl (κ.E.cy 5, pRefs g.nb f9))) (hf9 : f9 k = some a9) (h1 : s1 a9 = some ((63, k, 0), .inl (κ.E.cy 0, pInts 10 f1))) (k1 : ∀ j, j < 10 → f1 j = bfc g k j) (K : HV κ 34 s1 cN dN [some (.ref κ.E.sc.1), some (.ref (κ.E.ad (0, 0, 0))), some (.ref aS), some (.int (nI g.nb)), some (.int (nI g.nh)), some (.int (nI g.nv)), some (.int (nI t)), some (.int x), some (.ref q8), some (.ref q9), some (.ref q10), none, none, none, none, some (.int (nI g.bd.length)), none, some (.int y17), none, some (.int (if t % 12 = 11 then 1 else 0)), some (.ref q20), some (.int y21), some (.int (y22 + (h.i 2 k 6 - g.i 2 k 6))), some (.int (y23 + nI (n k))), some (.int y24), some (.int (nI (k + 1))), some (.int (nI (wk h k))), some (.int (nI (n k))), none, none, none, none, none, none] [] 465) : HV κ 34 s1 cN dN [some (.ref κ.E.sc.1), some (.ref (κ.E.ad (0, 0, 0))), some (.ref aS), some (.int (nI g.nb)), some (.int (nI g.nh)), some (.int (nI g.nv)), some (.int (nI t)), some (.int x), some (.ref q8), some (.ref q9), some (.ref q10), none, none, none, none, some (.int (nI g.bd.length)), none, some (.int y17), none, some (.int (if t % 12 = 11 then 1 else 0)), some (.ref q20), some (.int y21), some (.int y22), some (.int y23), some (.int y24), some (.int (nI k)), some (.int (nI (wk h k))), none, none, none, none, none, none, none] [] 698 := by
  have hlt' : k < h.nb := by rw [hR.1.1]; exact hlt
  have eb := hR.2.2.1 k
  have hnb := hR.2.1.1
  obtain ⟨-, e5, e6⟩ := hR.2.2.2.1 k hlt
  obtain ⟨n1, n2, n3, n4⟩ := hR.2.2.2.2.1 k
  refine h_aload_n G dL_law_698 rfl ?_
  refine h_iload G dL_law_699 rfl ?_
  refine h_bipush (v := 8) G dL_law_701 (by decide) ?_
  refine wiL_102 G hC (f_booth hI hlt' (k := 8) (by decide)) (by decide) (Nat.le_of_ble_eq_true rfl) (by omega) (by omega) dL_law_703 (fun r9 M9 hp9 => ?_)
  obtain ⟨rfl, rfl⟩ := hp9
  rw [setC_self hC]
  refine h_aload G dL_law_706 rfl ?_
  refine h_iload G dL_law_708 rfl ?_
  refine h_aalA G hq9 rfl hlt (by omega) hf9 dL_law_710 ?_
  refine h_bipush (v := 8) G dL_law_711 (by decide) ?_
  refine h_iald G h1 (j := 8) rfl (by decide) (by decide) dL_law_713 ?_
  rw [k1 8 (by decide)]
  refine h_isub G dL_law_714 ?_
  rw [show bfc h k 8 - bfc g k 8 = nI (n k) from e5]
  refine h_istore G dL_law_715 (by decide) rfl ?_
  refine h_iload G dL_law_717 rfl ?_
  refine h_if_lt G 779 dL_law_719 (by decide) (fun h719 => ?_) (fun h719 => ?_)
  · exact absurd h719 (nI_pos (by omega))
  refine h_iload G dL_law_722 rfl ?_
  refine h_aload G dL_law_724 rfl ?_
  refine h_iload G dL_law_726 rfl ?_
  refine h_aalA G hq9 rfl hlt (by omega) hf9 dL_law_728 ?_
  refine h_iconst (v := 4) G dL_law_729 (by decide) ?_
  refine h_iald G h1 (j := 4) rfl (by decide) (by decide) dL_law_730 ?_
  rw [k1 4 (by decide)]
  rw [show bfc g k 4 = nI (wk g k) from rfl]
  refine h_icmp_gt G 779 dL_law_731 (by decide) (fun h731 => ?_) (fun h731 => ?_)
  · exact absurd (nI_lee n2 (by omega)) (Int32.not_le.mpr h731)
  have K749 : HV κ 34 s1 cN dN [some (.ref κ.E.sc.1), some (.ref (κ.E.ad (0, 0, 0))), some (.ref aS), some (.int (nI g.nb)), some (.int (nI g.nh)), some (.int (nI g.nv)), some (.int (nI t)), some (.int x), some (.ref q8), some (.ref q9), some (.ref q10), none, none, none, none, some (.int (nI g.bd.length)), none, some (.int y17), none, some (.int (if t % 12 = 11 then 1 else 0)), some (.ref q20), some (.int y21), some (.int y22), some (.int y23), some (.int y24), some (.int (nI k)), some (.int (nI (wk h k))), some (.int (nI (n k))), none, none, none, none, none, none] [] 749 := by
    refine h_aload_n G dL_law_749 rfl ?_
    refine h_iload G dL_law_750 rfl ?_
    refine h_bipush (v := 9) G dL_law_752 (by decide) ?_
    refine wiL_102 G hC (f_booth hI hlt' (k := 9) (by decide)) (by decide) (Nat.le_of_ble_eq_true rfl) (by omega) (by omega) dL_law_754 (fun r9 M9 hp9 => ?_)
    obtain ⟨rfl, rfl⟩ := hp9
    rw [setC_self hC]
    refine h_aload G dL_law_757 rfl ?_
    refine h_iload G dL_law_759 rfl ?_
    refine h_aalA G hq9 rfl hlt (by omega) hf9 dL_law_761 ?_
    refine h_bipush (v := 9) G dL_law_762 (by decide) ?_
    refine h_iald G h1 (j := 9) rfl (by decide) (by decide) dL_law_764 ?_
    rw [k1 9 (by decide)]
    refine h_isub G dL_law_765 ?_
    refine h_iload G dL_law_766 rfl ?_
    refine h_aload_n G dL_law_768 rfl ?_
    refine h_iload G dL_law_769 rfl ?_
    refine h_iconst (v := 0) G dL_law_771 (by decide) ?_
    refine wiL_102 G hC (f_booth hI hlt' (k := 0) (by decide)) (by decide) (Nat.le_of_ble_eq_true rfl) (by omega) (by omega) dL_law_772 (fun r9 M9 hp9 => ?_)
    obtain ⟨rfl, rfl⟩ := hp9
    rw [setC_self hC]
    refine h_imul G dL_law_775 ?_
    rw [show bfc h k 9 - bfc g k 9 = nI (n k) * bfc h k 0 from e6]
    refine h_icmp_eq G 781 dL_law_776 (by decide) (fun h776 => ?_) (fun h776 => ?_)
    rotate_left
    · exact absurd rfl h776
    exact p_b4a G hc9 hd9 hC hI hR hlt hq9 hf9 h1 k1 K
  refine h_aload G dL_law_734 rfl ?_
  refine h_iload G dL_law_736 rfl ?_
  refine h_aalA G hq9 rfl hlt (by omega) hf9 dL_law_738 ?_
  refine h_iconst (v := 5) G dL_law_739 (by decide) ?_
  refine h_iald G h1 (j := 5) rfl (by decide) (by decide) dL_law_740 ?_
  rw [k1 5 (by decide)]
  refine h_if_ne G 749 dL_law_741 (by decide) (fun h741 => ?_) (fun h741 => ?_)
  · exact K749
  have hz := n4 (fun z => absurd h741 (by rw [show bfc g k 5 = 1 from if_pos z]; decide))
  refine h_iload G dL_law_744 rfl ?_
  refine h_if_gt G 779 dL_law_746 (by decide) (fun h746 => ?_) (fun h746 => ?_)
  · rw [hz] at h746
    exact absurd h746 (by decide)
  exact K749
end Kb
