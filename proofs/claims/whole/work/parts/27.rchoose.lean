/-! ===== the reference: choosing ===== -/
section RC
variable {E : EX} {N : Mem} {g g' : GS} {w : Int32}
theorem SimR.choose (hS : SimR N g w) (hI : Inv g) {v b : Nat} (hv : v < g.nv) (hs : strl g v) (hb : b < g.nb) : SimR (up (up (up N (17, 0, 0) (9 * v + 4) (nI (g.q b).length)) (17, 0, 0) (9 * v + 3) (nI b)) (17, 0, 0) (9 * v + 2) 1) ((g.set 4 v 3 (nI b)).setq (fun a => if a = b then g.q b ++ [v] else g.q a)) w := by
  have hb8 := hI.nb8
  obtain ⟨g1, hg1⟩ : ∃ g1, g1 = (g.set 4 v 3 (nI b)).setq (fun a => if a = b then g.q b ++ [v] else g.q a) := ⟨_, rfl⟩
  have gi : ∀ p q r, ¬ (p = 4 ∧ q = v ∧ r = 3) → g1.i p q r = g.i p q r := fun p q r hno => by
    rw [hg1]
    show (g.set 4 v 3 (nI b)).i p q r = _
    rw [gi_set, if_neg hno]
  have g3 : g1.i 4 v 3 = nI b := by
    rw [hg1]
    show (g.set 4 v 3 (nI b)).i 4 v 3 = _
    rw [gi_set, if_pos ⟨rfl, rfl, rfl⟩]
  have gq : ∀ a, g1.q a = if a = b then g.q b ++ [v] else g.q a := fun a => by rw [hg1]; rfl
  have hn : g1.2.2 = g.2.2 := by rw [hg1]; rfl
  have hbd : g1.bd = g.bd := congrArg Prod.snd hn
  rw [← hg1]
  have e : ∀ (j : Pid) k, j ≠ (17, 0, 0) → up (up (up N (17, 0, 0) (9 * v + 4) (nI (g.q b).length)) (17, 0, 0) (9 * v + 3) (nI b)) (17, 0, 0) (9 * v + 2) 1 j k = N j k := fun j k hj => by
    rw [up_ne hj, up_ne hj, up_ne hj]
  have e17 : ∀ k, k ≠ 9 * v + 2 → k ≠ 9 * v + 3 → k ≠ 9 * v + 4 → up (up (up N (17, 0, 0) (9 * v + 4) (nI (g.q b).length)) (17, 0, 0) (9 * v + 3) (nI b)) (17, 0, 0) (9 * v + 2) 1 (17, 0, 0) k = N (17, 0, 0) k := fun k h1 h2 h3 => by
    rw [up_at, if_neg h1, up_at, if_neg h2, up_at, if_neg h3]
  have hst : ∀ u, u ≠ v → stt g1 u = stt g u := fun u hu => by unfold stt; rw [gi _ _ _ (by omega), gi _ _ _ (by omega)]
  refine hS.of (congrArg Prod.fst hn) (fun k _ => e _ k (by simp)) (fun b hb => ⟨fun k hk => ?_, ?_, ?_⟩) (fun a ha k hk => ?_) (fun u hu => ⟨?_, ?_, ?_, ?_, ?_, ?_, ?_, ?_⟩) (fun u hu b hb => ?_) (fun a ha i u hu => ?_) (fun l x hx => ?_) ?_
  · rw [e _ _ (by simp), gi _ _ _ (by omega)]; exact hS.bo hb hk
  · rw [e _ _ (by simp), gi _ _ _ (by omega)]; exact hS.b4 hb
  · rw [e _ _ (by simp), gi _ _ _ (by omega)]; exact hS.b5 hb
  · rw [e _ _ (by simp), gi _ _ _ (by omega)]; exact hS.he ha hk
  · rw [e17 _ (by omega) (by omega) (by omega), gi _ _ _ (by omega)]; exact hS.v0 hu
  · rw [e17 _ (by omega) (by omega) (by omega), gi _ _ _ (by omega)]; exact hS.v1 hu
  · by_cases q : u = v
    · subst q
      rw [up_at, if_pos rfl]
      unfold stt
      rw [g3, gi _ _ _ (by omega), if_pos hs.1, if_neg (nI_m1 (by omega))]
    · rw [e17 _ (by omega) (by omega) (by omega), hst u q]; exact hS.v2 hu
  · by_cases q : u = v
    · subst q
      rw [up_at, if_neg (by omega), up_at, if_pos rfl, g3]
    · rw [e17 _ (by omega) (by omega) (by omega), gi _ _ _ (by omega)]; exact hS.v3 hu
  · rw [e17 _ (by omega) (by omega) (by omega), gi _ _ _ (by omega)]; exact hS.v5 hu
  · rw [e17 _ (by omega) (by omega) (by omega), gi _ _ _ (by omega)]; exact hS.v6 hu
  · rw [e17 _ (by omega) (by omega) (by omega), gi _ _ _ (by omega)]; exact hS.v7 hu
  · rw [e17 _ (by omega) (by omega) (by omega), gi _ _ _ (by omega)]; exact hS.v8 hu
  · rw [e _ _ (by simp), gi _ _ _ (by omega)]; exact hS.2.2.2.2.1 u hu b hb
  · have old : ∀ c, c < g.nb → (g.q c)[i]? = some u → up (up (up N (17, 0, 0) (9 * v + 4) (nI (g.q b).length)) (17, 0, 0) (9 * v + 3) (nI b)) (17, 0, 0) (9 * v + 2) 1 (17, 0, 0) (9 * u + 4) = nI i := fun c hc hu => by
      have hum := (hI.qm hc).mp (List.mem_of_getElem? hu)
      have huv : u ≠ v := fun q => absurd (hum.2.symm.trans (q ▸ hs.2)) (nI_m1 (by omega))
      rw [e17 _ (by omega) (by omega) (by omega)]
      exact hS.pl hc hu
    rw [gq] at hu
    by_cases q : a = b
    · rw [if_pos q] at hu
      by_cases hi : i = (g.q b).length
      · subst hi
        rw [List.getElem?_append_right (Nat.le_refl _), Nat.sub_self] at hu
        cases hu
        rw [up_at, if_neg (by omega), up_at, if_neg (by omega), up_at, if_pos rfl]
      · have hlt : i < (g.q b).length := by
          have := (List.getElem?_eq_some_iff.mp hu).1
          simp only [List.length_append, List.length_cons, List.length_nil] at this
          omega
        rw [List.getElem?_append_left hlt] at hu
        exact old b hb hu
    · rw [if_neg q] at hu
      exact old a ha hu
  · simp only [e _ _ (show ((19, 0, 0) : Pid) ≠ (17, 0, 0) by simp)]
    rw [hbd] at hx
    exact hS.bde hx
  · simp only [e _ _ (show ((20, 0, 0) : Pid) ≠ (17, 0, 0) by simp)]
    rw [gi _ _ _ (by omega), gi _ _ _ (by omega), gi _ _ _ (by omega), gi _ _ _ (by omega), hbd]
    exact hS.2.2.2.2.2.2.2
theorem SimR.home (hS : SimR N g w) {v : Nat} : SimR (up N (17, 0, 0) (9 * v + 2) 2) (g.set 4 v 2 1) w := by
  obtain ⟨g1, hg1⟩ : ∃ g1, g1 = g.set 4 v 2 1 := ⟨_, rfl⟩
  have gi : ∀ p q r, ¬ (p = 4 ∧ q = v ∧ r = 2) → g1.i p q r = g.i p q r := fun p q r hno => by rw [hg1, gi_set, if_neg hno]
  have g3 : g1.i 4 v 2 = 1 := by rw [hg1, gi_set, if_pos ⟨rfl, rfl, rfl⟩]
  have hn : g1.2 = g.2 := by rw [hg1]; rfl
  have hbd : g1.bd = g.bd := congrArg (fun z => z.2.2) hn
  have hq : g1.q = g.q := congrArg Prod.fst hn
  rw [← hg1]
  have e17 : ∀ k, k ≠ 9 * v + 2 → up N (17, 0, 0) (9 * v + 2) 2 (17, 0, 0) k = N (17, 0, 0) k := fun k h1 => by
    rw [up_at, if_neg h1]
  have hst : ∀ u, u ≠ v → stt g1 u = stt g u := fun u hu => by unfold stt; rw [gi _ _ _ (by omega), gi _ _ _ (by omega)]
  refine hS.of (congrArg (fun z => z.2.1) hn) (fun k _ => by rw [up_ne (by simp)]) (fun b hb => ⟨fun k hk => ?_, ?_, ?_⟩) (fun a ha k hk => ?_) (fun u hu => ⟨?_, ?_, ?_, ?_, ?_, ?_, ?_, ?_⟩) (fun u hu b hb => ?_) (fun a ha i u hu => ?_) (fun l x hx => ?_) ?_
  · rw [up_ne (by simp), gi _ _ _ (by omega)]; exact hS.bo hb hk
  · rw [up_ne (by simp), gi _ _ _ (by omega)]; exact hS.b4 hb
  · rw [up_ne (by simp), gi _ _ _ (by omega)]; exact hS.b5 hb
  · rw [up_ne (by simp), gi _ _ _ (by omega)]; exact hS.he ha hk
  · rw [e17 _ (by omega), gi _ _ _ (by omega)]; exact hS.v0 hu
  · rw [e17 _ (by omega), gi _ _ _ (by omega)]; exact hS.v1 hu
  · by_cases q : u = v
    · subst q
      rw [up_at, if_pos rfl]
      unfold stt
      rw [g3, if_neg (by decide)]
    · rw [e17 _ (by omega), hst u q]; exact hS.v2 hu
  · rw [e17 _ (by omega), gi _ _ _ (by omega)]; exact hS.v3 hu
  · rw [e17 _ (by omega), gi _ _ _ (by omega)]; exact hS.v5 hu
  · rw [e17 _ (by omega), gi _ _ _ (by omega)]; exact hS.v6 hu
  · rw [e17 _ (by omega), gi _ _ _ (by omega)]; exact hS.v7 hu
  · rw [e17 _ (by omega), gi _ _ _ (by omega)]; exact hS.v8 hu
  · rw [up_ne (by simp), gi _ _ _ (by omega)]; exact hS.2.2.2.2.1 u hu b hb
  · rw [hq] at hu
    rw [e17 _ (by omega)]
    exact hS.pl ha hu
  · rw [hbd] at hx
    rw [up_ne (by simp)]
    exact hS.bde hx
  · rw [up_ne (by simp), gi _ _ _ (by omega), gi _ _ _ (by omega), gi _ _ _ (by omega), gi _ _ _ (by omega), hbd]
    exact hS.2.2.2.2.2.2.2
theorem r_choose {v : Nat} (hS : SimR N g w) (hI : Inv g) (hv : v < g.nv) (hs : strl g v) : Ret E idsR yX6_choose cX6_choose 5 none 3 66 [.ref (E.ad (14, 0, 0)), .int (nI v)] N (fun r M' => r = none ∧ SimR M' (choose9 g v) w ∧ M' (14, 0, 0) = N (14, 0, 0)) := by
  have hb8 := hI.nb8
  have hv16 : v < 16 := Nat.lt_of_lt_of_le hv hI.nv16
  refine Ret_of_V RX6 (by decide) rfl idsR_nd [some (.ref (E.ad (14, 0, 0))), some (.int (nI v)), none, none, none] rfl (Nat.le_of_ble_eq_true rfl) (fun κ hE G E9 hr => ?_)
  subst hE
  have fin : V κ idsR 5 N [some (.ref (κ.E.ad (14, 0, 0))), some (.int (nI v)), some (.int (enc (bestN g v g.nb))), some (.int (nI g.nb)), none] [] 111 := by
    refine s_iload_n G dX6_choose_111 rfl ?_
    refine s_iconst (v := -1) G dX6_choose_112 (by decide) ?_
    cases hq : bestN g v g.nb with
    | none =>
      refine s_icmp_eq G 144 dX6_choose_113 (by decide) (fun h113 => ?_) (fun h113 => ?_)
      rotate_left
      · exact absurd rfl h113
      refine s_aload_n G dX6_choose_144 rfl ?_
      refine s_iload_n G dX6_choose_145 rfl ?_
      refine s_iconst (v := 0) G dX6_choose_146 (by decide) ?_
      refine iX6_80 G (r_vi (k := 0) hv16 (by decide)) (by decide) (Nat.le_of_ble_eq_true rfl) dX6_choose_147 (fun r9 M9 hp9 => ?_)
      obtain ⟨rfl, rfl⟩ := hp9
      rw [hS.v0 hv]
      have hc : choose9 g v = if g.i 4 v 0 = 0 then g.set 4 v 2 1 else g := by
        unfold choose9
        rw [hq]
      refine s_if_ne G 160 dX6_choose_150 (by decide) (fun h150 => ?_) (fun h150 => ?_)
      · refine s_vret G E9 hr dX6_choose_160 ⟨rfl, by rw [hc, if_neg h150]; exact hS, rfl⟩
      · refine s_aload_n G dX6_choose_153 rfl ?_
        refine s_iload_n G dX6_choose_154 rfl ?_
        refine s_iconst (v := 2) G dX6_choose_155 (by decide) ?_
        refine s_iconst (v := 2) G dX6_choose_156 (by decide) ?_
        refine iX6_83 G (r_setVi (k := 2) hv16 (by decide) 2) (by decide) (Nat.le_of_ble_eq_true rfl) dX6_choose_157 (fun r9 M9 hp9 => ?_)
        obtain ⟨rfl, rfl⟩ := hp9
        refine s_vret G E9 hr dX6_choose_160 ⟨rfl, by rw [hc, if_pos h150]; exact hS.home, by rw [up_ne (by simp)]⟩
    | some b =>
      have hb := bestN_lt hq
      refine s_icmp_eq G 144 dX6_choose_113 (by decide) (fun h113 => ?_) (fun h113 => ?_)
      · exact absurd h113 (nI_m1 (by omega))
      refine s_aload_n G dX6_choose_116 rfl ?_
      refine s_iload_n G dX6_choose_117 rfl ?_
      refine s_iconst (v := 4) G dX6_choose_118 (by decide) ?_
      refine s_aload_n G dX6_choose_119 rfl ?_
      refine s_iload_n G dX6_choose_120 rfl ?_
      refine iX6_99 G (r_length hS hI hb) (by decide) (Nat.le_of_ble_eq_true rfl) dX6_choose_121 (fun r9 M9 hp9 => ?_)
      obtain ⟨rfl, rfl⟩ := hp9
      refine iX6_83 G (r_setVi (k := 4) hv16 (by decide) (nI (g.q b).length)) (by decide) (Nat.le_of_ble_eq_true rfl) dX6_choose_124 (fun r9 M9 hp9 => ?_)
      obtain ⟨rfl, rfl⟩ := hp9
      refine s_aload_n G dX6_choose_127 rfl ?_
      refine s_iload_n G dX6_choose_128 rfl ?_
      refine s_iconst (v := 3) G dX6_choose_129 (by decide) ?_
      refine s_iload_n G dX6_choose_130 rfl ?_
      refine iX6_83 G (r_setVi (k := 3) hv16 (by decide) (nI b)) (by decide) (Nat.le_of_ble_eq_true rfl) dX6_choose_131 (fun r9 M9 hp9 => ?_)
      obtain ⟨rfl, rfl⟩ := hp9
      refine s_aload_n G dX6_choose_134 rfl ?_
      refine s_iload_n G dX6_choose_135 rfl ?_
      refine s_iconst (v := 2) G dX6_choose_136 (by decide) ?_
      refine s_iconst (v := 1) G dX6_choose_137 (by decide) ?_
      refine iX6_83 G (r_setVi (k := 2) hv16 (by decide) 1) (by decide) (Nat.le_of_ble_eq_true rfl) dX6_choose_138 (fun r9 M9 hp9 => ?_)
      obtain ⟨rfl, rfl⟩ := hp9
      refine s_goto G 160 dX6_choose_141 (by decide) ?_
      have hc : choose9 g v = (g.set 4 v 3 (nI b)).setq (fun a => if a = b then g.q b ++ [v] else g.q a) := by
        unfold choose9
        rw [hq]
      refine s_vret G E9 hr dX6_choose_160 ⟨rfl, by rw [hc]; exact hS.choose hI hv hs hb, by rw [up_ne (by simp), up_ne (by simp), up_ne (by simp)]⟩
  have loop : ∀ n b, b + n = g.nb → V κ idsR 5 N [some (.ref (κ.E.ad (14, 0, 0))), some (.int (nI v)), some (.int (enc (bestN g v b))), some (.int (nI b)), none] [] 4 := by
    intro n
    induction n with
    | zero =>
      intro b hb
      have hb : b = g.nb := by omega
      subst hb
      refine s_iload_n G dX6_choose_4 rfl ?_
      refine s_aload_n G dX6_choose_5 rfl ?_
      refine gX6_32 G dX6_choose_6 ?_
      rw [hS.nb]
      refine s_icmp_ge G 111 dX6_choose_9 (by decide) (fun h9 => ?_) (fun h9 => ?_)
      · exact fin
      · exact absurd (nI_le (Nat.le_refl _) (by omega)) h9
    | succ n ih =>
      intro b hbn
      have hb : b < g.nb := by omega
      have hb9 : b < 8 := by omega
      refine s_iload_n G dX6_choose_4 rfl ?_
      refine s_aload_n G dX6_choose_5 rfl ?_
      refine gX6_32 G dX6_choose_6 ?_
      rw [hS.nb]
      refine s_icmp_ge G 111 dX6_choose_9 (by decide) (fun h9 => ?_) (fun h9 => ?_)
      · exact absurd h9 (nI_ge hb (by omega))
      have next : ∀ (x : Int32) (y4 : Option Value), x = enc (bestN g v (b + 1)) → V κ idsR 5 N [some (.ref (κ.E.ad (14, 0, 0))), some (.int (nI v)), some (.int x), some (.int (nI b)), y4] [] 105 := by
        rintro x y4 rfl
        refine V.drop1 4 ?_
        refine s_iinc G dX6_choose_105 rfl (by decide) rfl (nI_1 b) ?_
        refine s_goto G 4 dX6_choose_108 (by decide) ?_
        exact ih (b + 1) (by omega)
      refine s_aload_n G dX6_choose_12 rfl ?_
      refine s_iload_n G dX6_choose_13 rfl ?_
      refine iX6_96 G (r_isOpen hS hI hb) (by decide) (Nat.le_of_ble_eq_true rfl) dX6_choose_14 (fun r9 M9 hp9 => ?_)
      obtain ⟨rfl, rfl⟩ := hp9
      refine s_if_eq G 105 dX6_choose_17 (by decide) (fun h17 => ?_) (fun h17 => ?_)
      · have hni : ¬ invites g v b := fun q => by rw [if_pos q.1] at h17; exact absurd h17 (by decide)
        exact next _ _ (by rw [bestN, if_neg (fun q => hni q.1)])
      have hop : opn g b := Decidable.byContradiction (fun q => h17 (by rw [if_neg q]))
      refine s_aload_n G dX6_choose_20 rfl ?_
      refine s_iload_n G dX6_choose_21 rfl ?_
      refine s_iconst (v := 2) G dX6_choose_22 (by decide) ?_
      refine iX6_71 G (r_bo (k := 2) hb9 (by decide)) (by decide) (Nat.le_of_ble_eq_true rfl) dX6_choose_23 (fun r9 M9 hp9 => ?_)
      obtain ⟨rfl, rfl⟩ := hp9
      rw [hS.bo (k := 2) hb (by decide)]
      refine s_if_eq G 105 dX6_choose_26 (by decide) (fun h26 => ?_) (fun h26 => ?_)
      · have hni : ¬ invites g v b := fun q => absurd q.2.1 (by rw [h26]; decide)
        exact next _ _ (by rw [bestN, if_neg (fun q => hni q.1)])
      have hpz : 0 < g.i 2 b 2 := by
        have := (hI.bpz hb).1
        rw [Int32.le_iff_toInt_le] at this
        rw [Int32.lt_iff_toInt_lt]
        have h0 : g.i 2 b 2 ≠ 0 := h26
        have h1 : (g.i 2 b 2).toInt ≠ (0 : Int32).toInt := fun q => h0 (Int32.toInt_inj.mp q)
        omega
      refine s_aload_n G dX6_choose_29 rfl ?_
      refine s_iload_n G dX6_choose_30 rfl ?_
      refine iX6_93 G (r_cost hS hI hb) (by decide) (Nat.le_of_ble_eq_true rfl) dX6_choose_31 (fun r9 M9 hp9 => ?_)
      obtain ⟨rfl, rfl⟩ := hp9
      refine s_aload_n G dX6_choose_34 rfl ?_
      refine s_iload_n G dX6_choose_35 rfl ?_
      refine s_iconst (v := 0) G dX6_choose_36 (by decide) ?_
      refine iX6_80 G (r_vi (k := 0) hv16 (by decide)) (by decide) (Nat.le_of_ble_eq_true rfl) dX6_choose_37 (fun r9 M9 hp9 => ?_)
      obtain ⟨rfl, rfl⟩ := hp9
      rw [hS.v0 hv]
      refine s_icmp_le G 46 dX6_choose_40 (by decide) (fun h40 => ?_) (fun h40 => ?_)
      rotate_left
      · have hni : ¬ invites g v b := fun q => h40 q.2.2
        refine s_goto G 105 dX6_choose_43 (by decide) ?_
        exact next _ _ (by rw [bestN, if_neg (fun q => hni q.1)])
      have hin : invites g v b := ⟨hop, hpz, h40⟩
      have pick : ∀ x : Int32, x < 0 → takes g v b (bestN g v b) = true → V κ idsR 5 N [some (.ref (κ.E.ad (14, 0, 0))), some (.int (nI v)), some (.int (enc (bestN g v b))), some (.int (nI b)), some (.int x)] [] 98 := by
        intro x hx ht
        refine s_iload G dX6_choose_98 rfl ?_
        refine s_if_ge G 105 dX6_choose_100 (by decide) (fun h100 => ?_) (fun h100 => ?_)
        · exact absurd hx (i_nlt.mpr h100)
        refine s_iload_n G dX6_choose_103 rfl ?_
        refine s_istore_n G dX6_choose_104 (by decide) rfl ?_
        exact next _ _ (by rw [bestN, if_pos ⟨hin, ht⟩]; rfl)
      have leave : ∀ x : Int32, ¬ x < 0 → takes g v b (bestN g v b) = false → V κ idsR 5 N [some (.ref (κ.E.ad (14, 0, 0))), some (.int (nI v)), some (.int (enc (bestN g v b))), some (.int (nI b)), some (.int x)] [] 98 := by
        intro x hx ht
        refine s_iload G dX6_choose_98 rfl ?_
        refine s_if_ge G 105 dX6_choose_100 (by decide) (fun h100 => ?_) (fun h100 => ?_)
        · exact next _ _ (by rw [bestN, if_neg (fun q => by rw [ht] at q; exact absurd q.2 (by decide))])
        · exact absurd (i_nlt.mp hx) h100
      cases hq : bestN g v b with
      | none =>
        rw [hq] at pick
        refine s_iload_n G dX6_choose_46 rfl ?_
        refine s_iconst (v := -1) G dX6_choose_47 (by decide) ?_
        refine s_icmp_ne G 55 dX6_choose_48 (by decide) (fun h48 => ?_) (fun h48 => ?_)
        · exact absurd rfl h48
        refine s_iconst (v := -1) G dX6_choose_51 (by decide) ?_
        refine s_goto G 66 dX6_choose_52 (by decide) ?_
        refine s_istore G dX6_choose_66 (by decide) rfl ?_
        refine s_iload G dX6_choose_68 rfl ?_
        refine s_if_ne G 98 dX6_choose_70 (by decide) (fun h70 => ?_) (fun h70 => ?_)
        · exact pick _ (by decide) rfl
        · exact absurd h70 (by decide)
      | some o =>
        have ho : o < g.nb := by have := bestN_lt hq; omega
        have l1 := hI.ql16 hb
        have l2 := hI.ql16 ho
        have ht : (nI (g.q b).length - nI (g.q o).length).toInt = ((g.q b).length : Int) - (g.q o).length := pk_sub_toInt (by omega) (by omega)
        have z9 : ((0 : Int32).toInt) = 0 := by decide
        have z0 : (nI (g.q b).length - nI (g.q o).length) = 0 ↔ (g.q b).length = (g.q o).length := by
          constructor
          · intro q
            rw [q] at ht
            omega
          · intro q
            rw [q]
            exact Int32.sub_self _
        rw [hq] at pick leave
        refine s_iload_n G dX6_choose_46 rfl ?_
        refine s_iconst (v := -1) G dX6_choose_47 (by decide) ?_
        refine s_icmp_ne G 55 dX6_choose_48 (by decide) (fun h48 => ?_) (fun h48 => ?_)
        rotate_left
        · exact absurd h48 (nI_m1 (by omega))
        refine s_aload_n G dX6_choose_55 rfl ?_
        refine s_iload_n G dX6_choose_56 rfl ?_
        refine iX6_99 G (r_length hS hI hb) (by decide) (Nat.le_of_ble_eq_true rfl) dX6_choose_57 (fun r9 M9 hp9 => ?_)
        obtain ⟨rfl, rfl⟩ := hp9
        refine s_aload_n G dX6_choose_60 rfl ?_
        refine s_iload_n G dX6_choose_61 rfl ?_
        refine iX6_99 G (r_length hS hI ho) (by decide) (Nat.le_of_ble_eq_true rfl) dX6_choose_62 (fun r9 M9 hp9 => ?_)
        obtain ⟨rfl, rfl⟩ := hp9
        refine s_isub G dX6_choose_65 ?_
        refine s_istore G dX6_choose_66 (by decide) rfl ?_
        refine s_iload G dX6_choose_68 rfl ?_
        refine s_if_ne G 98 dX6_choose_70 (by decide) (fun h70 => ?_) (fun h70 => ?_)
        · rw [z0] at h70
          by_cases hlt : (g.q b).length < (g.q o).length
          · exact pick _ (by rw [Int32.lt_iff_toInt_lt, ht, z9]; omega) (decide_eq_true (Or.inl hlt))
          · exact leave _ (by rw [Int32.lt_iff_toInt_lt, ht, z9]; omega) (decide_eq_false (fun q => q.elim (fun q => hlt q) (fun q => h70 q.1)))
        · rw [z0] at h70
          have ho9 : o < 8 := by omega
          refine s_aload_n G dX6_choose_73 rfl ?_
          refine gX6_19 G dX6_choose_74 ?_
          refine s_bipush (v := 8) G dX6_choose_77 (by decide) ?_
          refine s_iload_n G dX6_choose_79 rfl ?_
          refine s_imul G dX6_choose_80 ?_
          refine s_iload_n G dX6_choose_81 rfl ?_
          refine s_iadd G dX6_choose_82 ?_
          refine al_18 G (ix8 v o) (by omega) dX6_choose_83 ?_
          refine s_aload_n G dX6_choose_84 rfl ?_
          refine gX6_19 G dX6_choose_85 ?_
          refine s_bipush (v := 8) G dX6_choose_88 (by decide) ?_
          refine s_iload_n G dX6_choose_90 rfl ?_
          refine s_imul G dX6_choose_91 ?_
          refine s_iload_n G dX6_choose_92 rfl ?_
          refine s_iadd G dX6_choose_93 ?_
          rw [hS.pr hv hv16 ho9]
          refine al_18 G (ix8 v b) (by omega) dX6_choose_94 ?_
          rw [hS.pr hv hv16 hb9]
          refine s_isub G dX6_choose_95 ?_
          refine s_istore G dX6_choose_96 (by decide) rfl ?_
          have p1 := hI.vpr hv hb9
          have p2 := hI.vpr hv ho9
          have hpt : (g.i 10 v o - g.i 10 v b).toInt = (g.i 10 v o).toInt - (g.i 10 v b).toInt := by
            rw [Int32.le_iff_toInt_le, Int32.le_iff_toInt_le] at p1 p2
            have z8 : ((9 : Int32).toInt) = 9 := by decide
            rw [Int32.toInt_sub]
            apply Int.bmod_eq_of_le <;> omega
          by_cases hlt : g.i 10 v o < g.i 10 v b
          · exact pick _ (by rw [Int32.lt_iff_toInt_lt] at hlt; rw [Int32.lt_iff_toInt_lt, hpt, z9]; omega) (decide_eq_true (Or.inr ⟨h70, hlt⟩))
          · refine leave _ (fun q => hlt ?_) (decide_eq_false (fun q => q.elim (fun q => by omega) (fun q => hlt q.2)))
            rw [Int32.lt_iff_toInt_lt, hpt, z9] at q
            rw [Int32.lt_iff_toInt_lt]
            omega
  refine s_iconst (v := -1) G dX6_choose_0 (by decide) ?_
  refine s_istore_n G dX6_choose_1 (by decide) rfl ?_
  refine s_iconst (v := 0) G dX6_choose_2 (by decide) ?_
  refine s_istore_n G dX6_choose_3 (by decide) rfl ?_
  exact loop g.nb 0 (by omega)
end RC
