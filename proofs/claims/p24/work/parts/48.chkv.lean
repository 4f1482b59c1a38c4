/-! ===== law's checks: all booths, and the visitors ===== -/
section Kv
variable {κ : KX} {σ s1 : Sg} {g h : GS} {M : Mem} {cN dN aS t q8 q9 q10 q20 : Nat} {r8 r9 : Nat → Nat} {x z25 z26 z27 z28 y17 y21 y22 y23 y24 : Int32} {n : Nat → Nat}
theorem p_k1 (G : Gd κ cL_law 34 RL 7 164) (hc9 : cN + 1 ≤ κ.R.cells) (hd9 : dN + 16 ≤ κ.R.slots) (hC0 : ClsP κ.E σ M) (hI : CI M h) (hR : RB t g h n) (T9 : Tab κ.E σ (62, 0, 0) 63 q9 r9 g.nb 10 (fun _ _ => True) (fun b k => bfc g b k)) (K : ∀ s1 q20, Ext σ s1 → Aq κ.E s1 q20 g.nv (fun v => cq h v g.nb) → HV κ 34 s1 (cN + 1) (dN + 16) [some (.ref κ.E.sc.1), some (.ref (κ.E.ad (0, 0, 0))), some (.ref aS), some (.int (nI g.nb)), some (.int (nI g.nh)), some (.int (nI g.nv)), some (.int (nI t)), some (.int x), some (.ref q8), some (.ref q9), some (.ref q10), none, none, none, none, some (.int (nI g.bd.length)), none, some (.int y17), none, some (.int (if t % 12 = 11 then 1 else 0)), some (.ref q20), some (.int (opsN h g.nb)), some (.int (sI (fun b => h.i 2 b 6 - g.i 2 b 6) g.nb)), some (.int (sI (fun b => h.i 2 b 5 - g.i 2 b 5) g.nb)), some (.int (mkd h g.nb)), none, none, none, none, none, none, none, none, none] [] 846) : HV κ 34 σ cN dN [some (.ref κ.E.sc.1), some (.ref (κ.E.ad (0, 0, 0))), some (.ref aS), some (.int (nI g.nb)), some (.int (nI g.nh)), some (.int (nI g.nv)), some (.int (nI t)), some (.int x), some (.ref q8), some (.ref q9), some (.ref q10), none, none, none, none, some (.int (nI g.bd.length)), none, some (.int y17), none, some (.int (if t % 12 = 11 then 1 else 0)), none, none, none, none, none, none, none, none, none, none, none, none, none, none] [] 444 := by
  have hnv := hR.2.1.2.2
  have hnb := hR.2.1.1
  obtain ⟨⟨f9, hq9, hf9⟩, hr9⟩ := T9
  refine h_iload G dL_law_444 rfl ?_
  refine h_newi G (66, 0, 0) (k := g.nv) rfl (by omega) (by decide +kernel) (by omega) (by omega) dL_law_446 (fun q20 hq20 => ?_)
  have hE0 : Ext σ (sup σ q20 (66, 0, 0) (.inl (κ.E.cy 0, pInts g.nv (fun _ => 0)))) := fun a z hz => (sup_ne (fun w => by rw [w, hq20] at hz; cases hz)).trans hz
  have hA0 : Aq κ.E (sup σ q20 (66, 0, 0) (.inl (κ.E.cy 0, pInts g.nv (fun _ => 0)))) q20 g.nv (fun v => cq h v 0) := ⟨_, sup_at, fun v _ => rfl⟩
  generalize sup σ q20 (66, 0, 0) (.inl (κ.E.cy 0, pInts g.nv (fun _ => 0))) = s0 at hE0 hA0 ⊢
  refine HV.wid (c2 := cN + 1) (d2 := dN + 16) (by omega) (by omega) ?_
  refine h_astore G dL_law_448 (by decide) rfl ?_
  refine h_iconst (v := 0) G dL_law_450 (by decide) ?_
  refine h_istore G dL_law_451 (by decide) rfl ?_
  refine h_iconst (v := 0) G dL_law_453 (by decide) ?_
  refine h_istore G dL_law_454 (by decide) rfl ?_
  refine h_iconst (v := 0) G dL_law_456 (by decide) ?_
  refine h_istore G dL_law_457 (by decide) rfl ?_
  refine h_iconst (v := 0) G dL_law_459 (by decide) ?_
  refine h_istore G dL_law_460 (by decide) rfl ?_
  refine h_iconst (v := 0) G dL_law_462 (by decide) ?_
  refine h_istore G dL_law_463 (by decide) rfl ?_
  have loop : ∀ m k, k + m = g.nb → ∀ s1, Ext σ s1 → Aq κ.E s1 q20 g.nv (fun v => cq h v k) → HV κ 34 s1 (cN + 1) (dN + 16) [some (.ref κ.E.sc.1), some (.ref (κ.E.ad (0, 0, 0))), some (.ref aS), some (.int (nI g.nb)), some (.int (nI g.nh)), some (.int (nI g.nv)), some (.int (nI t)), some (.int x), some (.ref q8), some (.ref q9), some (.ref q10), none, none, none, none, some (.int (nI g.bd.length)), none, some (.int y17), none, some (.int (if t % 12 = 11 then 1 else 0)), some (.ref q20), some (.int (opsN h k)), some (.int (sI (fun b => h.i 2 b 6 - g.i 2 b 6) k)), some (.int (sI (fun b => h.i 2 b 5 - g.i 2 b 5) k)), some (.int (mkd h k)), some (.int (nI k)), none, none, none, none, none, none, none, none] [] 465 := by
    intro m
    induction m with
    | zero =>
      intro k hk s1 hE hA
      have hk : k = g.nb := by omega
      subst hk
      refine h_iload G dL_law_465 rfl ?_
      refine h_iload_n G dL_law_467 rfl ?_
      refine h_icmp_ge G 846 dL_law_468 (by decide) (fun h468 => ?_) (fun h468 => ?_)
      rotate_left
      · exact absurd (nI_le (Nat.le_refl _) (by omega)) h468
      exact HV.drop1 25 (K s1 q20 hE hA)
    | succ m ih =>
      intro k hk s1 hE hA
      have hlt : k < g.nb := by omega
      have hC := hE.cls hC0
      obtain ⟨f1, h1, k1⟩ := hr9 k hlt
      have e5 := (hR.2.2.2.1 k hlt).2.1
      refine h_iload G dL_law_465 rfl ?_
      refine h_iload_n G dL_law_467 rfl ?_
      refine h_icmp_ge G 846 dL_law_468 (by decide) (fun h468 => ?_) (fun h468 => ?_)
      · exact absurd h468 (nI_ge hlt (by omega))
      refine h_iconst (v := 0) G dL_law_471 (by decide) ?_
      refine h_istore G dL_law_472 (by decide) rfl ?_
      refine h_iconst (v := 0) G dL_law_474 (by decide) ?_
      refine h_istore G dL_law_475 (by decide) rfl ?_
      refine p_b1 G hc9 hd9 hC hI hR ?_
      refine p_b2 G hc9 hd9 hC hI hR hlt (hE _ _ hq9) (hf9 k hlt) (hE _ _ h1) (fun j hj => k1 j hj trivial) ?_
      refine p_b3 G hc9 hd9 hR hI hC0 hq20 hE hA hlt (fun s2 hE2 hA2 => ?_)
      refine p_b4 G hc9 hd9 (hE2.cls hC0) hI hR hlt (hE2 _ _ hq9) (hf9 k hlt) (hE2 _ _ h1) (fun j hj => k1 j hj trivial) ?_
      rw [← e5]
      exact HV.drop1 26 (HV.drop1 27 (ih (k + 1) (by omega) s2 hE2 hA2))
  exact loop g.nb 0 (by omega) s0 hE0 hA0
theorem cq_at {y : GS} (hI : Inv y) {v : Nat} (hv : v < y.nv) : (y.i 4 v 3 = -1 ∧ cq y v y.nb = 0) ∨ (∃ b, b < y.nb ∧ y.i 4 v 3 = nI b) ∧ cq y v y.nb = 1 := by
  have hb8 := hI.nb8
  have hc : ∀ b, b < y.nb → (y.q b).count v = if y.i 4 v 3 = nI b then 1 else 0 := fun b hb => by
    by_cases q : y.i 4 v 3 = nI b
    · rw [if_pos q]
      have hm : v ∈ y.q b := (hI.qm hb).mpr ⟨hv, q⟩
      have h1 := List.nodup_iff_count.mp (hI.qnd hb) v
      have h2 := List.count_pos_iff.mpr hm
      omega
    · rw [if_neg q]
      exact List.count_eq_zero.mpr (fun hm => q ((hI.qm hb).mp hm).2)
  rcases hI.vat hv with q | ⟨b0, hb0, q⟩
  · refine Or.inl ⟨q, ?_⟩
    unfold cq
    rw [← sN_0 y.nb]
    refine sN_congr _ (fun b hb => ?_)
    rw [hc b hb, if_neg (by rw [q]; exact fun z => nI_m1 (by omega) z.symm)]
  · refine Or.inr ⟨⟨b0, hb0, q⟩, ?_⟩
    unfold cq
    have e1 : sN (fun b => (y.q b).count v) y.nb = sN (fun b => if b = b0 then 1 else 0) y.nb := sN_congr _ (fun b hb => by
      rw [hc b hb, q]
      by_cases z : b = b0
      · rw [if_pos (by rw [z]), if_pos z]
      · rw [if_neg (fun w => z (nI_inj (by omega) (by omega) w).symm), if_neg z])
    rw [e1, sN_upd (f := fun _ => 0) (a := b0) (d := 1) y.nb hb0 (fun j hj => if_neg hj) (if_pos rfl), sN_0]
theorem stt_1 {y : GS} (hI : Inv y) {v : Nat} (hv : v < y.nv) : stt y v = 1 ↔ y.i 4 v 3 ≠ -1 := by
  unfold stt
  by_cases q : y.i 4 v 2 = 0
  · rw [if_pos q]
    by_cases z : y.i 4 v 3 = -1
    · rw [if_pos z]
      exact ⟨fun w => absurd w (by decide), fun w => absurd z w⟩
    · rw [if_neg z]
      exact ⟨fun _ => z, fun _ => rfl⟩
  · rw [if_neg q]
    refine ⟨fun w => absurd w (by decide), fun w => ?_⟩
    rcases hI.vho hv with q2 | q2
    · exact absurd q2 q
    · exact absurd (hI.vha hv q2) w
theorem stt_2 {y : GS} (hI : Inv y) {v : Nat} (hv : v < y.nv) : stt y v = 2 ↔ y.i 4 v 2 = 1 := by
  unfold stt
  rcases hI.vho hv with q | q
  · rw [if_pos q, q]
    by_cases z : y.i 4 v 3 = -1
    · rw [if_pos z]; exact ⟨fun w => absurd w (by decide), fun w => absurd w (by decide)⟩
    · rw [if_neg z]; exact ⟨fun w => absurd w (by decide), fun w => absurd w (by decide)⟩
  · rw [q, if_neg (by decide)]
    exact ⟨fun _ => rfl, fun _ => rfl⟩
/-- what a round leaves of the visitors -/
def RV (g h : GS) : Prop := (h.nb = g.nb ∧ h.nv = g.nv) ∧ ((1 ≤ g.nb ∧ g.nb ≤ 7) ∧ (1 ≤ g.nv ∧ g.nv ≤ 14)) ∧ ∀ v, v < g.nv → h.i 4 v 1 = g.i 4 v 1 ∧ ¬ (h.i 4 v 0 < 0) ∧ ¬ (h.i 4 v 6 < g.i 4 v 6) ∧ ¬ (h.i 4 v 7 < g.i 4 v 7) ∧ g.i 4 v 4 ≤ h.i 4 v 4 ∧ (stt g v = 2 → stt h v = 2)
theorem RFh.rv (h : RFh t g n) : RV g (round9 g) := by
  have hI' := h.2.1.round
  have ht := h.2.2.1
  refine ⟨⟨nb_of r_n, nv_of r_n⟩, ⟨h.1.1.1, h.1.1.2.2⟩, fun v hv => ⟨h.r_v1 v, ?_, ?_, ?_, ?_, fun z => ?_⟩⟩
  · obtain ⟨k, k1, k2⟩ := h.r_tok hv
    rw [k2]; exact nI_pos (by omega)
  · obtain ⟨a, b, h1, h2, h3, h4⟩ := h.r_v6 hv
    rw [h3, h4]; exact Int32.not_lt.mpr (nI_lee h1 (by omega))
  · exact Int32.not_lt.mpr (h.r_v7 hv)
  · obtain ⟨a, b, h1, h2, h3, h4⟩ := h.r_v4 hv
    rw [h3, h4]; exact nI_lee h1 (by omega)
  · exact (stt_2 hI' (by rw [nv_of r_n]; exact hv)).mpr (h.r_home ((stt_2 h.2.1 hv).mp z))
theorem p_v2 (G : Gd κ cL_law 34 RL 7 164) (hc9 : cN ≤ κ.R.cells) (hd9 : dN ≤ κ.R.slots) (hC : ClsP κ.E s1 M) (hI : CI M h) (hR : RV g h) {k a8 : Nat} {f8 : Nat → Option Nat} {f1 : Nat → Int32} (hlt : k < g.nv) (hq8 : s1 q8 = some ((60, 0, 0), .inl (κ.E.cy 5, pRefs g.nv f8))) (hf8 : f8 k = some a8) (h1 : s1 a8 = some ((61, k, 0), .inl (κ.E.cy 0, pInts 8 f1))) (k1 : ∀ j, j < 8 → f1 j = vfc g k j) (K : HV κ 34 s1 cN dN [some (.ref κ.E.sc.1), some (.ref (κ.E.ad (0, 0, 0))), some (.ref aS), some (.int (nI g.nb)), some (.int (nI g.nh)), some (.int (nI g.nv)), some (.int (nI t)), some (.int x), some (.ref q8), some (.ref q9), some (.ref q10), none, none, none, none, some (.int (nI g.bd.length)), none, some (.int y17), none, some (.int (if t % 12 = 11 then 1 else 0)), some (.ref q20), some (.int y21), some (.int y22), some (.int y23), some (.int y24), some (.int (z25 + (g.i 4 k 0 - h.i 4 k 0))), some (.int (z26 + (h.i 4 k 6 - g.i 4 k 6))), some (.int (z27 + (h.i 4 k 5 - g.i 4 k 5))), some (.int (z28 + (h.i 4 k 4 - g.i 4 k 4))), some (.int (nI (k + 1))), none, none, none, none] [] 879) : HV κ 34 s1 cN dN [some (.ref κ.E.sc.1), some (.ref (κ.E.ad (0, 0, 0))), some (.ref aS), some (.int (nI g.nb)), some (.int (nI g.nh)), some (.int (nI g.nv)), some (.int (nI t)), some (.int x), some (.ref q8), some (.ref q9), some (.ref q10), none, none, none, none, some (.int (nI g.bd.length)), none, some (.int y17), none, some (.int (if t % 12 = 11 then 1 else 0)), some (.ref q20), some (.int y21), some (.int y22), some (.int y23), some (.int y24), some (.int z25), some (.int z26), some (.int z27), some (.int z28), some (.int (nI k)), none, none, none, none] [] 941 := by
  have hlt' : k < h.nv := by rw [hR.1.2]; exact hlt
  have hnv := hR.2.1.2
  obtain ⟨w1, w0, w6, w7, w4, w2⟩ := hR.2.2 k hlt
  have K1049 : HV κ 34 s1 cN dN [some (.ref κ.E.sc.1), some (.ref (κ.E.ad (0, 0, 0))), some (.ref aS), some (.int (nI g.nb)), some (.int (nI g.nh)), some (.int (nI g.nv)), some (.int (nI t)), some (.int x), some (.ref q8), some (.ref q9), some (.ref q10), none, none, none, none, some (.int (nI g.bd.length)), none, some (.int y17), none, some (.int (if t % 12 = 11 then 1 else 0)), some (.ref q20), some (.int y21), some (.int y22), some (.int y23), some (.int y24), some (.int z25), some (.int z26), some (.int z27), some (.int z28), some (.int (nI k)), none, none, none, none] [] 1049 := by
    refine h_iload G dL_law_1049 rfl ?_
    refine h_aload G dL_law_1051 rfl ?_
    refine h_iload G dL_law_1053 rfl ?_
    refine h_aalA G hq8 rfl hlt (by omega) hf8 dL_law_1055 ?_
    refine h_iconst (v := 0) G dL_law_1056 (by decide) ?_
    refine h_iald G h1 (j := 0) rfl (by decide) (by decide) dL_law_1057 ?_
    rw [k1 0 (by decide)]
    refine h_aload_n G dL_law_1058 rfl ?_
    refine h_iload G dL_law_1059 rfl ?_
    refine h_iconst (v := 0) G dL_law_1061 (by decide) ?_
    refine wiL_99 G hC (f_visitor hI hlt' (k := 0) (by decide)) (by decide) (Nat.le_of_ble_eq_true rfl) (by omega) (by omega) dL_law_1062 (fun r9 M9 hp9 => ?_)
    obtain ⟨rfl, rfl⟩ := hp9
    rw [setC_self hC]
    refine h_isub G dL_law_1065 ?_
    rw [show vfc g k 0 - vfc h k 0 = g.i 4 k 0 - h.i 4 k 0 from rfl]
    refine h_iadd G dL_law_1066 ?_
    refine h_istore G dL_law_1067 (by decide) rfl ?_
    refine h_iload G dL_law_1069 rfl ?_
    refine h_aload_n G dL_law_1071 rfl ?_
    refine h_iload G dL_law_1072 rfl ?_
    refine h_bipush (v := 6) G dL_law_1074 (by decide) ?_
    refine wiL_99 G hC (f_visitor hI hlt' (k := 6) (by decide)) (by decide) (Nat.le_of_ble_eq_true rfl) (by omega) (by omega) dL_law_1076 (fun r9 M9 hp9 => ?_)
    obtain ⟨rfl, rfl⟩ := hp9
    rw [setC_self hC]
    refine h_aload G dL_law_1079 rfl ?_
    refine h_iload G dL_law_1081 rfl ?_
    refine h_aalA G hq8 rfl hlt (by omega) hf8 dL_law_1083 ?_
    refine h_bipush (v := 6) G dL_law_1084 (by decide) ?_
    refine h_iald G h1 (j := 6) rfl (by decide) (by decide) dL_law_1086 ?_
    rw [k1 6 (by decide)]
    refine h_isub G dL_law_1087 ?_
    rw [show vfc h k 6 - vfc g k 6 = h.i 4 k 6 - g.i 4 k 6 from rfl]
    refine h_iadd G dL_law_1088 ?_
    refine h_istore G dL_law_1089 (by decide) rfl ?_
    refine h_iload G dL_law_1091 rfl ?_
    refine h_aload_n G dL_law_1093 rfl ?_
    refine h_iload G dL_law_1094 rfl ?_
    refine h_iconst (v := 5) G dL_law_1096 (by decide) ?_
    refine wiL_99 G hC (f_visitor hI hlt' (k := 5) (by decide)) (by decide) (Nat.le_of_ble_eq_true rfl) (by omega) (by omega) dL_law_1097 (fun r9 M9 hp9 => ?_)
    obtain ⟨rfl, rfl⟩ := hp9
    rw [setC_self hC]
    refine h_aload G dL_law_1100 rfl ?_
    refine h_iload G dL_law_1102 rfl ?_
    refine h_aalA G hq8 rfl hlt (by omega) hf8 dL_law_1104 ?_
    refine h_iconst (v := 5) G dL_law_1105 (by decide) ?_
    refine h_iald G h1 (j := 5) rfl (by decide) (by decide) dL_law_1106 ?_
    rw [k1 5 (by decide)]
    refine h_isub G dL_law_1107 ?_
    rw [show vfc h k 5 - vfc g k 5 = h.i 4 k 5 - g.i 4 k 5 from rfl]
    refine h_iadd G dL_law_1108 ?_
    refine h_istore G dL_law_1109 (by decide) rfl ?_
    refine h_iload G dL_law_1111 rfl ?_
    refine h_aload_n G dL_law_1113 rfl ?_
    refine h_iload G dL_law_1114 rfl ?_
    refine h_iconst (v := 4) G dL_law_1116 (by decide) ?_
    refine wiL_99 G hC (f_visitor hI hlt' (k := 4) (by decide)) (by decide) (Nat.le_of_ble_eq_true rfl) (by omega) (by omega) dL_law_1117 (fun r9 M9 hp9 => ?_)
    obtain ⟨rfl, rfl⟩ := hp9
    rw [setC_self hC]
    refine h_aload G dL_law_1120 rfl ?_
    refine h_iload G dL_law_1122 rfl ?_
    refine h_aalA G hq8 rfl hlt (by omega) hf8 dL_law_1124 ?_
    refine h_iconst (v := 4) G dL_law_1125 (by decide) ?_
    refine h_iald G h1 (j := 4) rfl (by decide) (by decide) dL_law_1126 ?_
    rw [k1 4 (by decide)]
    refine h_isub G dL_law_1127 ?_
    rw [show vfc h k 4 - vfc g k 4 = h.i 4 k 4 - g.i 4 k 4 from rfl]
    refine h_iadd G dL_law_1128 ?_
    refine h_istore G dL_law_1129 (by decide) rfl ?_
    refine h_iinc G dL_law_1131 rfl (by decide) rfl (nI_1 k) ?_
    refine h_goto G 879 dL_law_1134 (by decide) ?_
    exact K
  refine h_aload_n G dL_law_941 rfl ?_
  refine h_iload G dL_law_942 rfl ?_
  refine h_iconst (v := 0) G dL_law_944 (by decide) ?_
  refine wiL_99 G hC (f_visitor hI hlt' (k := 0) (by decide)) (by decide) (Nat.le_of_ble_eq_true rfl) (by omega) (by omega) dL_law_945 (fun r9 M9 hp9 => ?_)
  obtain ⟨rfl, rfl⟩ := hp9
  rw [setC_self hC]
  refine h_if_lt G 1023 dL_law_948 (by decide) (fun h948 => ?_) (fun h948 => ?_)
  · exact absurd h948 w0
  refine h_aload_n G dL_law_951 rfl ?_
  refine h_iload G dL_law_952 rfl ?_
  refine h_iconst (v := 1) G dL_law_954 (by decide) ?_
  refine wiL_99 G hC (f_visitor hI hlt' (k := 1) (by decide)) (by decide) (Nat.le_of_ble_eq_true rfl) (by omega) (by omega) dL_law_955 (fun r9 M9 hp9 => ?_)
  obtain ⟨rfl, rfl⟩ := hp9
  rw [setC_self hC]
  refine h_aload G dL_law_958 rfl ?_
  refine h_iload G dL_law_960 rfl ?_
  refine h_aalA G hq8 rfl hlt (by omega) hf8 dL_law_962 ?_
  refine h_iconst (v := 1) G dL_law_963 (by decide) ?_
  refine h_iald G h1 (j := 1) rfl (by decide) (by decide) dL_law_964 ?_
  rw [k1 1 (by decide)]
  refine h_icmp_ne G 1023 dL_law_965 (by decide) (fun h965 => ?_) (fun h965 => ?_)
  · exact absurd w1 h965
  refine h_aload_n G dL_law_968 rfl ?_
  refine h_iload G dL_law_969 rfl ?_
  refine h_bipush (v := 6) G dL_law_971 (by decide) ?_
  refine wiL_99 G hC (f_visitor hI hlt' (k := 6) (by decide)) (by decide) (Nat.le_of_ble_eq_true rfl) (by omega) (by omega) dL_law_973 (fun r9 M9 hp9 => ?_)
  obtain ⟨rfl, rfl⟩ := hp9
  rw [setC_self hC]
  refine h_aload G dL_law_976 rfl ?_
  refine h_iload G dL_law_978 rfl ?_
  refine h_aalA G hq8 rfl hlt (by omega) hf8 dL_law_980 ?_
  refine h_bipush (v := 6) G dL_law_981 (by decide) ?_
  refine h_iald G h1 (j := 6) rfl (by decide) (by decide) dL_law_983 ?_
  rw [k1 6 (by decide)]
  refine h_icmp_lt G 1023 dL_law_984 (by decide) (fun h984 => ?_) (fun h984 => ?_)
  · exact absurd h984 w6
  refine h_aload_n G dL_law_987 rfl ?_
  refine h_iload G dL_law_988 rfl ?_
  refine h_bipush (v := 7) G dL_law_990 (by decide) ?_
  refine wiL_99 G hC (f_visitor hI hlt' (k := 7) (by decide)) (by decide) (Nat.le_of_ble_eq_true rfl) (by omega) (by omega) dL_law_992 (fun r9 M9 hp9 => ?_)
  obtain ⟨rfl, rfl⟩ := hp9
  rw [setC_self hC]
  refine h_aload G dL_law_995 rfl ?_
  refine h_iload G dL_law_997 rfl ?_
  refine h_aalA G hq8 rfl hlt (by omega) hf8 dL_law_999 ?_
  refine h_bipush (v := 7) G dL_law_1000 (by decide) ?_
  refine h_iald G h1 (j := 7) rfl (by decide) (by decide) dL_law_1002 ?_
  rw [k1 7 (by decide)]
  refine h_icmp_lt G 1023 dL_law_1003 (by decide) (fun h1003 => ?_) (fun h1003 => ?_)
  · exact absurd h1003 w7
  refine h_aload_n G dL_law_1006 rfl ?_
  refine h_iload G dL_law_1007 rfl ?_
  refine h_iconst (v := 4) G dL_law_1009 (by decide) ?_
  refine wiL_99 G hC (f_visitor hI hlt' (k := 4) (by decide)) (by decide) (Nat.le_of_ble_eq_true rfl) (by omega) (by omega) dL_law_1010 (fun r9 M9 hp9 => ?_)
  obtain ⟨rfl, rfl⟩ := hp9
  rw [setC_self hC]
  refine h_aload G dL_law_1013 rfl ?_
  refine h_iload G dL_law_1015 rfl ?_
  refine h_aalA G hq8 rfl hlt (by omega) hf8 dL_law_1017 ?_
  refine h_iconst (v := 4) G dL_law_1018 (by decide) ?_
  refine h_iald G h1 (j := 4) rfl (by decide) (by decide) dL_law_1019 ?_
  rw [k1 4 (by decide)]
  refine h_icmp_ge G 1025 dL_law_1020 (by decide) (fun h1020 => ?_) (fun h1020 => ?_)
  rotate_left
  · exact absurd w4 h1020
  refine h_aload G dL_law_1025 rfl ?_
  refine h_iload G dL_law_1027 rfl ?_
  refine h_aalA G hq8 rfl hlt (by omega) hf8 dL_law_1029 ?_
  refine h_iconst (v := 2) G dL_law_1030 (by decide) ?_
  refine h_iald G h1 (j := 2) rfl (by decide) (by decide) dL_law_1031 ?_
  rw [k1 2 (by decide)]
  refine h_iconst (v := 2) G dL_law_1032 (by decide) ?_
  refine h_icmp_ne G 1049 dL_law_1033 (by decide) (fun h1033 => ?_) (fun h1033 => ?_)
  · exact K1049
  refine h_aload_n G dL_law_1036 rfl ?_
  refine h_iload G dL_law_1037 rfl ?_
  refine h_iconst (v := 2) G dL_law_1039 (by decide) ?_
  refine wiL_99 G hC (f_visitor hI hlt' (k := 2) (by decide)) (by decide) (Nat.le_of_ble_eq_true rfl) (by omega) (by omega) dL_law_1040 (fun r9 M9 hp9 => ?_)
  obtain ⟨rfl, rfl⟩ := hp9
  rw [setC_self hC]
  refine h_iconst (v := 2) G dL_law_1043 (by decide) ?_
  refine h_icmp_eq G 1049 dL_law_1044 (by decide) (fun h1044 => ?_) (fun h1044 => ?_)
  · exact K1049
  · exact absurd (w2 h1033) h1044
theorem p_v1 (G : Gd κ cL_law 34 RL 7 164) (hc9 : cN ≤ κ.R.cells) (hd9 : dN ≤ κ.R.slots) (hC : ClsP κ.E s1 M) (hI : CI M h) (hR : RV g h) {k a8 : Nat} {f8 : Nat → Option Nat} {f1 : Nat → Int32} (hlt : k < g.nv) (hq8 : s1 q8 = some ((60, 0, 0), .inl (κ.E.cy 5, pRefs g.nv f8))) (hf8 : f8 k = some a8) (h1 : s1 a8 = some ((61, k, 0), .inl (κ.E.cy 0, pInts 8 f1))) (k1 : ∀ j, j < 8 → f1 j = vfc g k j) (hA : Aq κ.E s1 q20 g.nv (fun v => cq h v g.nb)) (K : HV κ 34 s1 cN dN [some (.ref κ.E.sc.1), some (.ref (κ.E.ad (0, 0, 0))), some (.ref aS), some (.int (nI g.nb)), some (.int (nI g.nh)), some (.int (nI g.nv)), some (.int (nI t)), some (.int x), some (.ref q8), some (.ref q9), some (.ref q10), none, none, none, none, some (.int (nI g.bd.length)), none, some (.int y17), none, some (.int (if t % 12 = 11 then 1 else 0)), some (.ref q20), some (.int y21), some (.int y22), some (.int y23), some (.int y24), some (.int (z25 + (g.i 4 k 0 - h.i 4 k 0))), some (.int (z26 + (h.i 4 k 6 - g.i 4 k 6))), some (.int (z27 + (h.i 4 k 5 - g.i 4 k 5))), some (.int (z28 + (h.i 4 k 4 - g.i 4 k 4))), some (.int (nI (k + 1))), none, none, none, none] [] 879) : HV κ 34 s1 cN dN [some (.ref κ.E.sc.1), some (.ref (κ.E.ad (0, 0, 0))), some (.ref aS), some (.int (nI g.nb)), some (.int (nI g.nh)), some (.int (nI g.nv)), some (.int (nI t)), some (.int x), some (.ref q8), some (.ref q9), some (.ref q10), none, none, none, none, some (.int (nI g.bd.length)), none, some (.int y17), none, some (.int (if t % 12 = 11 then 1 else 0)), some (.ref q20), some (.int y21), some (.int y22), some (.int y23), some (.int y24), some (.int z25), some (.int z26), some (.int z27), some (.int z28), some (.int (nI k)), none, none, none, none] [] 886 := by
  have K941 := p_v2 G hc9 hd9 hC hI hR hlt hq8 hf8 h1 k1 K
  have hlt' : k < h.nv := by rw [hR.1.2]; exact hlt
  have hnv := hR.2.1.2
  obtain ⟨w1, w0, w6, w7, w4, w2⟩ := hR.2.2 k hlt
  obtain ⟨F, hF, hFc⟩ := hA
  have hFk : F k = nI (cq h k h.nb) := by rw [hR.1.1]; exact hFc k hlt
  have hb8 := hI.2.1.nb8
  refine h_aload G dL_law_886 rfl ?_
  refine h_iload G dL_law_888 rfl ?_
  refine h_iald G hF (j := k) rfl hlt (by omega) dL_law_890 ?_
  rw [hFk]
  refine h_aload_n G dL_law_891 rfl ?_
  refine h_iload G dL_law_892 rfl ?_
  refine h_iconst (v := 2) G dL_law_894 (by decide) ?_
  refine wiL_99 G hC (f_visitor hI hlt' (k := 2) (by decide)) (by decide) (Nat.le_of_ble_eq_true rfl) (by omega) (by omega) dL_law_895 (fun r9 M9 hp9 => ?_)
  obtain ⟨rfl, rfl⟩ := hp9
  rw [setC_self hC]
  refine h_iconst (v := 1) G dL_law_898 (by decide) ?_
  rcases cq_at hI.2.1 hlt' with ⟨c1, c2⟩ | ⟨⟨b0, hb0, c1⟩, c2⟩
  · rw [c2]
    refine h_icmp_ne G 906 dL_law_899 (by decide) (fun h899 => ?_) (fun h899 => ?_)
    rotate_left
    · exact absurd ((stt_1 hI.2.1 hlt').mp h899) (fun z => z c1)
    refine h_iconst (v := 0) G dL_law_906 (by decide) ?_
    refine h_icmp_ne G 1023 dL_law_907 (by decide) (fun h907 => ?_) (fun h907 => ?_)
    · exact absurd rfl h907
    refine h_aload G dL_law_910 rfl ?_
    refine h_iload G dL_law_912 rfl ?_
    refine h_iald G hF (j := k) rfl hlt (by omega) dL_law_914 ?_
    rw [hFk, c2]
    refine h_if_ne G 922 dL_law_915 (by decide) (fun h915 => ?_) (fun h915 => ?_)
    · exact absurd rfl h915
    refine h_iconst (v := 1) G dL_law_918 (by decide) ?_
    refine h_goto G 923 dL_law_919 (by decide) ?_
    refine h_aload_n G dL_law_923 rfl ?_
    refine h_iload G dL_law_924 rfl ?_
    refine h_iconst (v := 3) G dL_law_926 (by decide) ?_
    refine wiL_99 G hC (f_visitor hI hlt' (k := 3) (by decide)) (by decide) (Nat.le_of_ble_eq_true rfl) (by omega) (by omega) dL_law_927 (fun r9 M9 hp9 => ?_)
    obtain ⟨rfl, rfl⟩ := hp9
    rw [setC_self hC]
    rw [show vfc h k 3 = -1 from c1]
    refine h_if_ge G 937 dL_law_930 (by decide) (fun h930 => ?_) (fun h930 => ?_)
    · exact absurd h930 (by decide)
    refine h_iconst (v := 1) G dL_law_933 (by decide) ?_
    refine h_goto G 938 dL_law_934 (by decide) ?_
    refine h_icmp_ne G 1023 dL_law_938 (by decide) (fun h938 => ?_) (fun h938 => ?_)
    · exact absurd rfl h938
    exact K941
  · rw [c2]
    refine h_icmp_ne G 906 dL_law_899 (by decide) (fun h899 => ?_) (fun h899 => ?_)
    · exact absurd ((stt_1 hI.2.1 hlt').mpr (by rw [c1]; exact nI_m1 (by omega))) h899
    refine h_iconst (v := 1) G dL_law_902 (by decide) ?_
    refine h_goto G 907 dL_law_903 (by decide) ?_
    refine h_icmp_ne G 1023 dL_law_907 (by decide) (fun h907 => ?_) (fun h907 => ?_)
    · exact absurd rfl h907
    refine h_aload G dL_law_910 rfl ?_
    refine h_iload G dL_law_912 rfl ?_
    refine h_iald G hF (j := k) rfl hlt (by omega) dL_law_914 ?_
    rw [hFk, c2]
    refine h_if_ne G 922 dL_law_915 (by decide) (fun h915 => ?_) (fun h915 => ?_)
    rotate_left
    · exact absurd h915 (by decide)
    refine h_iconst (v := 0) G dL_law_922 (by decide) ?_
    refine h_aload_n G dL_law_923 rfl ?_
    refine h_iload G dL_law_924 rfl ?_
    refine h_iconst (v := 3) G dL_law_926 (by decide) ?_
    refine wiL_99 G hC (f_visitor hI hlt' (k := 3) (by decide)) (by decide) (Nat.le_of_ble_eq_true rfl) (by omega) (by omega) dL_law_927 (fun r9 M9 hp9 => ?_)
    obtain ⟨rfl, rfl⟩ := hp9
    rw [setC_self hC]
    rw [show vfc h k 3 = nI b0 from c1]
    refine h_if_ge G 937 dL_law_930 (by decide) (fun h930 => ?_) (fun h930 => ?_)
    rotate_left
    · exact absurd (Int32.not_lt.mp (nI_pos (by omega))) h930
    refine h_iconst (v := 0) G dL_law_937 (by decide) ?_
    refine h_icmp_ne G 1023 dL_law_938 (by decide) (fun h938 => ?_) (fun h938 => ?_)
    · exact absurd rfl h938
    exact K941
theorem p_k2 (G : Gd κ cL_law 34 RL 7 164) (hc9 : cN ≤ κ.R.cells) (hd9 : dN ≤ κ.R.slots) (hC : ClsP κ.E s1 M) (hI : CI M h) (hR : RV g h) (T8 : Tab κ.E s1 (60, 0, 0) 61 q8 r8 g.nv 8 (fun _ _ => True) (fun v k => vfc g v k)) (hA : Aq κ.E s1 q20 g.nv (fun v => cq h v g.nb)) (K : HV κ 34 s1 cN dN [some (.ref κ.E.sc.1), some (.ref (κ.E.ad (0, 0, 0))), some (.ref aS), some (.int (nI g.nb)), some (.int (nI g.nh)), some (.int (nI g.nv)), some (.int (nI t)), some (.int x), some (.ref q8), some (.ref q9), some (.ref q10), none, none, none, none, some (.int (nI g.bd.length)), none, some (.int y17), none, some (.int (if t % 12 = 11 then 1 else 0)), some (.ref q20), some (.int y21), some (.int y22), some (.int y23), some (.int y24), some (.int (sI (fun v => g.i 4 v 0 - h.i 4 v 0) g.nv)), some (.int (sI (fun v => h.i 4 v 6 - g.i 4 v 6) g.nv)), some (.int (sI (fun v => h.i 4 v 5 - g.i 4 v 5) g.nv)), some (.int (sI (fun v => h.i 4 v 4 - g.i 4 v 4) g.nv)), none, none, none, none, none] [] 1137) : HV κ 34 s1 cN dN [some (.ref κ.E.sc.1), some (.ref (κ.E.ad (0, 0, 0))), some (.ref aS), some (.int (nI g.nb)), some (.int (nI g.nh)), some (.int (nI g.nv)), some (.int (nI t)), some (.int x), some (.ref q8), some (.ref q9), some (.ref q10), none, none, none, none, some (.int (nI g.bd.length)), none, some (.int y17), none, some (.int (if t % 12 = 11 then 1 else 0)), some (.ref q20), some (.int y21), some (.int y22), some (.int y23), some (.int y24), none, none, none, none, none, none, none, none, none] [] 864 := by
  have hnv := hR.2.1.2
  obtain ⟨⟨f8, hq8, hf8⟩, hr8⟩ := T8
  refine h_iconst (v := 0) G dL_law_864 (by decide) ?_
  refine h_istore G dL_law_865 (by decide) rfl ?_
  refine h_iconst (v := 0) G dL_law_867 (by decide) ?_
  refine h_istore G dL_law_868 (by decide) rfl ?_
  refine h_iconst (v := 0) G dL_law_870 (by decide) ?_
  refine h_istore G dL_law_871 (by decide) rfl ?_
  refine h_iconst (v := 0) G dL_law_873 (by decide) ?_
  refine h_istore G dL_law_874 (by decide) rfl ?_
  refine h_iconst (v := 0) G dL_law_876 (by decide) ?_
  refine h_istore G dL_law_877 (by decide) rfl ?_
  have loop : ∀ m k, k + m = g.nv → HV κ 34 s1 cN dN [some (.ref κ.E.sc.1), some (.ref (κ.E.ad (0, 0, 0))), some (.ref aS), some (.int (nI g.nb)), some (.int (nI g.nh)), some (.int (nI g.nv)), some (.int (nI t)), some (.int x), some (.ref q8), some (.ref q9), some (.ref q10), none, none, none, none, some (.int (nI g.bd.length)), none, some (.int y17), none, some (.int (if t % 12 = 11 then 1 else 0)), some (.ref q20), some (.int y21), some (.int y22), some (.int y23), some (.int y24), some (.int (sI (fun v => g.i 4 v 0 - h.i 4 v 0) k)), some (.int (sI (fun v => h.i 4 v 6 - g.i 4 v 6) k)), some (.int (sI (fun v => h.i 4 v 5 - g.i 4 v 5) k)), some (.int (sI (fun v => h.i 4 v 4 - g.i 4 v 4) k)), some (.int (nI k)), none, none, none, none] [] 879 := by
    intro m
    induction m with
    | zero =>
      intro k hk
      have hk : k = g.nv := by omega
      subst hk
      refine h_iload G dL_law_879 rfl ?_
      refine h_iload G dL_law_881 rfl ?_
      refine h_icmp_ge G 1137 dL_law_883 (by decide) (fun h883 => ?_) (fun h883 => ?_)
      rotate_left
      · exact absurd (nI_le (Nat.le_refl _) (by omega)) h883
      exact HV.drop1 29 K
    | succ m ih =>
      intro k hk
      have hlt : k < g.nv := by omega
      obtain ⟨f1, h1, k1⟩ := hr8 k hlt
      refine h_iload G dL_law_879 rfl ?_
      refine h_iload G dL_law_881 rfl ?_
      refine h_icmp_ge G 1137 dL_law_883 (by decide) (fun h883 => ?_) (fun h883 => ?_)
      · exact absurd h883 (nI_ge hlt (by omega))
      exact p_v1 G hc9 hd9 hC hI hR hlt hq8 (hf8 k hlt) h1 (fun j hj => k1 j hj trivial) hA (ih (k + 1) (by omega))
  exact loop g.nv 0 (by omega)
end Kv
