/-! ===== the reference: the board, a play ===== -/
theorem set_comm {g : GS} {kd a k kd2 a2 k2 : Nat} {x y : Int32} (h : ¬ (kd = kd2 ∧ a = a2 ∧ k = k2)) : (g.set kd a k x).set kd2 a2 k2 y = (g.set kd2 a2 k2 y).set kd a k x := by
  unfold GS.set
  refine Prod.ext ?_ rfl
  funext p q r
  show (if p = kd2 ∧ q = a2 ∧ r = k2 then y else if p = kd ∧ q = a ∧ r = k then x else g.1 p q r) = (if p = kd ∧ q = a ∧ r = k then x else if p = kd2 ∧ q = a2 ∧ r = k2 then y else g.1 p q r)
  by_cases h1 : p = kd2 ∧ q = a2 ∧ r = k2
  · rw [if_pos h1, if_neg (fun q => h ⟨by omega, by omega, by omega⟩), if_pos h1]
  · rw [if_neg h1]
    by_cases h2 : p = kd ∧ q = a ∧ r = k
    · rw [if_pos h2, if_pos h2]
    · rw [if_neg h2, if_neg h2, if_neg h1]
theorem min9_comm (x y : Int32) : min9 x y = min9 y x := by
  unfold min9
  by_cases h1 : y < x
  · rw [if_pos h1, if_neg]
    rw [Int32.lt_iff_toInt_lt] at h1 ⊢
    omega
  · rw [if_neg h1]
    by_cases h2 : x < y
    · rw [if_pos h2]
    · rw [if_neg h2]
      rw [Int32.lt_iff_toInt_lt] at h1 h2
      exact Int32.toInt_inj.mp (by omega)
section RP
variable {E : EX} {N : Mem} {g g' : GS} {w : Int32}
theorem SimR.setbd (hS : SimR N g w) {L : List (Nat × Nat × Int32)} {N' : Mem} (hM : ∀ j k, j ≠ (19, 0, 0) → ¬ (j = (20, 0, 0) ∧ k = 4) → N' j k = N j k) (hl : N' (20, 0, 0) 4 = nI L.length) (he : ∀ l x, L[l]? = some x → N' (19, 0, 0) (3 * l + 0) = nI x.1 ∧ N' (19, 0, 0) (3 * l + 1) = nI x.2.1 ∧ N' (19, 0, 0) (3 * l + 2) = x.2.2) : SimR N' (g.setbd L) w := by
  refine hS.of (g' := g.setbd L) rfl (fun k _ => hM _ k (by simp) (by simp)) (fun b hb => ⟨fun k hk => ?_, ?_, ?_⟩) (fun a ha k hk => ?_) (fun u hu => ?_) (fun u hu b hb => ?_) (fun a ha i u hu => ?_) he ⟨?_, ?_, ?_, ?_, hl⟩
  · rw [hM _ _ (by simp) (by simp)]; exact hS.bo hb hk
  · rw [hM _ _ (by simp) (by simp)]; exact hS.b4 hb
  · rw [hM _ _ (by simp) (by simp)]; exact hS.b5 hb
  · rw [hM _ _ (by simp) (by simp)]; exact hS.he ha hk
  · rw [hM _ _ (by simp) (by simp), hM _ _ (by simp) (by simp), hM _ _ (by simp) (by simp), hM _ _ (by simp) (by simp), hM _ _ (by simp) (by simp), hM _ _ (by simp) (by simp), hM _ _ (by simp) (by simp), hM _ _ (by simp) (by simp)]
    exact hS.2.2.2.1 u hu
  · rw [hM _ _ (by simp) (by simp)]; exact hS.2.2.2.2.1 u hu b hb
  · rw [hM _ _ (by simp) (by simp)]; exact hS.pl ha hu
  · rw [hM _ _ (by simp) (by simp)]; exact hS.n0
  · rw [hM _ _ (by simp) (by simp)]; exact hS.n1
  · rw [hM _ _ (by simp) (by simp)]; exact hS.n2
  · rw [hM _ _ (by simp) (by simp)]; exact hS.n3
theorem r_write (hS : SimR N g w) (hI : Inv g) (v b : Nat) (s : Int32) : Ret E idsR yX6_write cX6_write 6 none 1 21 [.ref (E.ad (14, 0, 0)), .int (nI v), .int (nI b), .int s] N (fun r M' => r = none ∧ SimR M' (g.setbd (bdIns g.bd (v, b, s))) w ∧ M' (14, 0, 0) = N (14, 0, 0)) := by
  have hL := hI.bd3
  have hs := hI.bds
  have ht := tw_le g.bd s
  generalize hT : (g.bd.takeWhile (ge9 s)).length = t at ht
  refine Ret_of_V RX6 (by decide) rfl idsR_nd [some (.ref (E.ad (14, 0, 0))), some (.int (nI v)), some (.int (nI b)), some (.int s), none, none] rfl (Nat.le_of_ble_eq_true rfl) (fun κ hE G E9 hr => ?_)
  subst hE
  have fin : V κ idsR 6 N [some (.ref (κ.E.ad (14, 0, 0))), some (.int (nI v)), some (.int (nI b)), some (.int s), some (.int (nI t)), none] [] 35 := by
    refine s_iload G dX6_write_35 rfl ?_
    refine s_iconst (v := 3) G dX6_write_37 (by decide) ?_
    refine s_icmp_ne G 42 dX6_write_38 (by decide) (fun h38 => ?_) (fun h38 => ?_)
    rotate_left
    · have ht3 : t = 3 := nI_inj (b := 3) (by omega) (by decide) h38
      have hb9 : bdIns g.bd (v, b, s) = g.bd := by
        apply List.ext_getElem?
        intro j
        by_cases hj : j < 3
        · rw [bdIns_at hj, if_pos (by rw [hT]; omega)]
        · rw [List.getElem?_eq_none (by rw [bdIns_len]; split <;> omega), List.getElem?_eq_none (by omega)]
      refine s_vret G E9 hr dX6_write_41 ⟨rfl, by rw [hb9]; exact hS.setbd (fun _ _ _ _ => rfl) hS.n4 (fun l x hx => hS.bde hx), rfl⟩
    have ht3 : t < 3 := by
      have : t ≠ 3 := fun q => h38 (by rw [q]; rfl)
      omega
    generalize hn9 : (if g.bd.length + 1 ≤ 3 then g.bd.length + 1 else 3) = n9
    have hmin : (if nI g.bd.length + 1 < (3 : Int32) then nI g.bd.length + 1 else (3 : Int32)) = nI n9 := by
      rw [nI_1, show (3 : Int32) = nI 3 from rfl]
      by_cases h3 : g.bd.length + 1 ≤ 3
      · rw [← hn9, if_pos h3]
        by_cases h4 : g.bd.length + 1 = 3
        · rw [h4]; split <;> rfl
        · rw [if_pos (nI_lt (by omega) (by decide))]
      · rw [if_neg (nI_nlt (by omega) (by omega)), ← hn9, if_neg h3]
    have htn : t < n9 := by rw [← hn9]; split <;> omega
    have hn3 : n9 ≤ 3 := by rw [← hn9]; split <;> omega
    have hlen : (bdIns g.bd (v, b, s)).length = n9 := by rw [bdIns_len, hn9]
    have e3 : (3 : Int32) * nI t + 3 = nI (3 * t + 3) := ix3 t 3
    have shift : ∀ n c, c = 3 * t + 2 + n → c < 9 → ∀ M1 : Mem, (∀ j k, j ≠ (19, 0, 0) → M1 j k = N j k) → (∀ j, j ≤ c → M1 (19, 0, 0) j = N (19, 0, 0) j) → (∀ j, c < j → j < 9 → M1 (19, 0, 0) j = N (19, 0, 0) (j - 3)) → V κ idsR 6 M1 [some (.ref (κ.E.ad (14, 0, 0))), some (.int (nI v)), some (.int (nI b)), some (.int s), some (.int (nI t)), some (.int (nI c))] [] 46 := by
      intro n
      induction n with
      | zero =>
        intro c hc hc9 M1 hM1 hA hB
        refine s_iload G dX6_write_46 rfl ?_
        refine s_iconst (v := 3) G dX6_write_48 (by decide) ?_
        refine s_iload G dX6_write_49 rfl ?_
        refine s_imul G dX6_write_51 ?_
        refine s_iconst (v := 3) G dX6_write_52 (by decide) ?_
        refine s_iadd G dX6_write_53 ?_
        rw [e3]
        refine s_icmp_lt G 79 dX6_write_54 (by decide) (fun h54 => ?_) (fun h54 => ?_)
        rotate_left
        · exact absurd (nI_lt (by omega) (by omega)) h54
        refine s_aload_n G dX6_write_79 rfl ?_
        refine gX6_22 G dX6_write_80 ?_
        refine s_iconst (v := 3) G dX6_write_83 (by decide) ?_
        refine s_iload G dX6_write_84 rfl ?_
        refine s_imul G dX6_write_86 ?_
        refine s_iconst (v := 0) G dX6_write_87 (by decide) ?_
        refine s_iadd G dX6_write_88 ?_
        refine s_iload_n G dX6_write_89 rfl ?_
        refine as_19 G (ix3 t 0) (by omega) dX6_write_90 ?_
        refine s_aload_n G dX6_write_91 rfl ?_
        refine gX6_22 G dX6_write_92 ?_
        refine s_iconst (v := 3) G dX6_write_95 (by decide) ?_
        refine s_iload G dX6_write_96 rfl ?_
        refine s_imul G dX6_write_98 ?_
        refine s_iconst (v := 1) G dX6_write_99 (by decide) ?_
        refine s_iadd G dX6_write_100 ?_
        refine s_iload_n G dX6_write_101 rfl ?_
        refine as_19 G (ix3 t 1) (by omega) dX6_write_102 ?_
        refine s_aload_n G dX6_write_103 rfl ?_
        refine gX6_22 G dX6_write_104 ?_
        refine s_iconst (v := 3) G dX6_write_107 (by decide) ?_
        refine s_iload G dX6_write_108 rfl ?_
        refine s_imul G dX6_write_110 ?_
        refine s_iconst (v := 2) G dX6_write_111 (by decide) ?_
        refine s_iadd G dX6_write_112 ?_
        refine s_iload_n G dX6_write_113 rfl ?_
        refine as_19 G (ix3 t 2) (by omega) dX6_write_114 ?_
        refine s_aload_n G dX6_write_115 rfl ?_
        refine gX6_25 G dX6_write_116 ?_
        refine s_iconst (v := 4) G dX6_write_119 (by decide) ?_
        refine s_iconst (v := 3) G dX6_write_120 (by decide) ?_
        refine s_aload_n G dX6_write_121 rfl ?_
        refine gX6_25 G dX6_write_122 ?_
        refine s_iconst (v := 4) G dX6_write_125 (by decide) ?_
        refine al_20 G (show (4 : Int32) = nI 4 from rfl) (by decide) dX6_write_126 ?_
        rw [up_ne (by simp), up_ne (by simp), up_ne (by simp), hM1 _ _ (by simp), hS.n4]
        refine s_iconst (v := 1) G dX6_write_127 (by decide) ?_
        refine s_iadd G dX6_write_128 ?_
        refine iX6_112 G dX6_write_129 (by decide) (Nat.le_of_ble_eq_true rfl) ?_
        rw [hmin]
        refine as_20 G (show (4 : Int32) = nI 4 from rfl) (by decide) dX6_write_132 ?_
        refine s_vret G E9 hr dX6_write_133 ⟨rfl, hS.setbd (fun j k h1 h2 => ?_) ?_ (fun l x hx => ?_), ?_⟩
        · by_cases q : j = (20, 0, 0)
          · subst q
            rw [up_at, if_neg (fun z => h2 ⟨rfl, z⟩), up_ne h1, up_ne h1, up_ne h1]; exact hM1 _ _ h1
          · rw [up_ne q, up_ne h1, up_ne h1, up_ne h1]; exact hM1 _ _ h1
        · rw [up_at, if_pos rfl, hlen]
        · have hln : l < n9 := by
            have := (List.getElem?_eq_some_iff.mp hx).1
            omega
          have hl3 : l < 3 := by omega
          rw [bdIns_at hl3, hT] at hx
          have r1 : ∀ j, up (up (up (up M1 (19, 0, 0) (3 * t + 0) (nI v)) (19, 0, 0) (3 * t + 1) (nI b)) (19, 0, 0) (3 * t + 2) s) (20, 0, 0) 4 (nI n9) (19, 0, 0) j = if j = 3 * t + 2 then s else if j = 3 * t + 1 then nI b else if j = 3 * t + 0 then nI v else M1 (19, 0, 0) j := fun j => by
            rw [up_ne (by simp), up_at, up_at, up_at]
          rw [r1, r1, r1]
          by_cases q1 : l < t
          · rw [if_pos q1] at hx
            rw [if_neg (by omega), if_neg (by omega), if_neg (by omega), if_neg (by omega), if_neg (by omega), if_neg (by omega), if_neg (by omega), if_neg (by omega), if_neg (by omega), hA _ (by omega), hA _ (by omega), hA _ (by omega)]
            exact hS.bde hx
          · rw [if_neg q1] at hx
            by_cases q2 : l = t
            · rw [if_pos q2] at hx
              cases hx
              subst q2
              refine ⟨?_, ?_, ?_⟩
              · rw [if_neg (by omega), if_neg (by omega), if_pos rfl]
              · rw [if_neg (by omega), if_pos rfl]
              · rw [if_pos rfl]
            · rw [if_neg q2] at hx
              rw [if_neg (by omega), if_neg (by omega), if_neg (by omega), if_neg (by omega), if_neg (by omega), if_neg (by omega), if_neg (by omega), if_neg (by omega), if_neg (by omega), hB _ (by omega) (by omega), hB _ (by omega) (by omega), hB _ (by omega) (by omega)]
              have := hS.bde hx
              rw [show 3 * (l - 1) + 0 = 3 * l + 0 - 3 by omega, show 3 * (l - 1) + 1 = 3 * l + 1 - 3 by omega, show 3 * (l - 1) + 2 = 3 * l + 2 - 3 by omega] at this
              exact this
        · rw [up_ne (by simp), up_ne (by simp), up_ne (by simp), up_ne (by simp)]
          exact funext (fun k => hM1 _ k (by simp))
      | succ n ih =>
        intro c hc hc9 M1 hM1 hA hB
        have e4 : nI c - 3 = nI (c - 3) := pk_sub (a := c) (b := 3) (by omega)
        obtain ⟨c0, hc0⟩ : ∃ c0, c = c0 + 1 := ⟨c - 1, by omega⟩
        refine s_iload G dX6_write_46 rfl ?_
        refine s_iconst (v := 3) G dX6_write_48 (by decide) ?_
        refine s_iload G dX6_write_49 rfl ?_
        refine s_imul G dX6_write_51 ?_
        refine s_iconst (v := 3) G dX6_write_52 (by decide) ?_
        refine s_iadd G dX6_write_53 ?_
        rw [e3]
        refine s_icmp_lt G 79 dX6_write_54 (by decide) (fun h54 => ?_) (fun h54 => ?_)
        · exact absurd h54 (nI_nlt (by omega) (by omega))
        refine s_aload_n G dX6_write_57 rfl ?_
        refine gX6_22 G dX6_write_58 ?_
        refine s_iload G dX6_write_61 rfl ?_
        refine s_aload_n G dX6_write_63 rfl ?_
        refine gX6_22 G dX6_write_64 ?_
        refine s_iload G dX6_write_67 rfl ?_
        refine s_iconst (v := 3) G dX6_write_69 (by decide) ?_
        refine s_isub G dX6_write_70 ?_
        refine al_19 G e4 (by omega) dX6_write_71 ?_
        refine as_19 G rfl (by first | assumption | omega) dX6_write_72 ?_
        rw [hA (c - 3) (by omega)]
        subst hc0
        refine s_iinc G dX6_write_73 rfl (by decide) rfl (pk_m1 c0) ?_
        refine s_goto G 46 dX6_write_76 (by decide) ?_
        refine ih c0 (by omega) (by omega) _ (fun j k h1 => by rw [up_ne h1]; exact hM1 j k h1) (fun j hj => ?_) (fun j h1 h2 => ?_)
        · rw [up_at, if_neg (by omega)]; exact hA j (by omega)
        · by_cases q : j = c0 + 1
          · rw [q, up_at, if_pos rfl]
          · rw [up_at, if_neg q]; exact hB j (by omega) h2
    refine s_bipush (v := 8) G dX6_write_42 (by decide) ?_
    refine s_istore G dX6_write_44 (by decide) rfl ?_
    exact shift (8 - (3 * t + 2)) 8 (by omega) (by decide) N (fun _ _ _ => rfl) (fun _ _ => rfl) (fun j h1 h2 => by omega)
  have scan : ∀ n i, i + n = t → V κ idsR 6 N [some (.ref (κ.E.ad (14, 0, 0))), some (.int (nI v)), some (.int (nI b)), some (.int s), some (.int (nI i)), none] [] 3 := by
    intro n
    induction n with
    | zero =>
      intro i hi
      have hi : i = t := by omega
      subst hi
      refine s_iload G dX6_write_3 rfl ?_
      refine s_aload_n G dX6_write_5 rfl ?_
      refine gX6_25 G dX6_write_6 ?_
      refine s_iconst (v := 4) G dX6_write_9 (by decide) ?_
      refine al_20 G (show (4 : Int32) = nI 4 from rfl) (by decide) dX6_write_10 ?_
      rw [hS.n4]
      refine s_icmp_ge G 35 dX6_write_11 (by decide) (fun h11 => ?_) (fun h11 => ?_)
      · exact fin
      · have hlt : i < g.bd.length := by
          have : ¬ g.bd.length ≤ i := fun q => h11 (nI_le q (by omega))
          omega
        have hx : g.bd[i]? = some g.bd[i] := List.getElem?_eq_getElem hlt
        refine s_aload_n G dX6_write_14 rfl ?_
        refine gX6_22 G dX6_write_15 ?_
        refine s_iconst (v := 3) G dX6_write_18 (by decide) ?_
        refine s_iload G dX6_write_19 rfl ?_
        refine s_imul G dX6_write_21 ?_
        refine s_iconst (v := 2) G dX6_write_22 (by decide) ?_
        refine s_iadd G dX6_write_23 ?_
        refine al_19 G (ix3 i 2) (by omega) dX6_write_24 ?_
        rw [(hS.bde hx).2.2]
        refine s_iload_n G dX6_write_25 rfl ?_
        refine s_icmp_lt G 35 dX6_write_26 (by decide) (fun h26 => ?_) (fun h26 => ?_)
        · exact fin
        · exact absurd ((tw_lt hs hx).mp (i_nlt.mp h26)) (by rw [hT]; omega)
    | succ n ih =>
      intro i hi
      have hlt : i < g.bd.length := by omega
      have hx : g.bd[i]? = some g.bd[i] := List.getElem?_eq_getElem hlt
      refine s_iload G dX6_write_3 rfl ?_
      refine s_aload_n G dX6_write_5 rfl ?_
      refine gX6_25 G dX6_write_6 ?_
      refine s_iconst (v := 4) G dX6_write_9 (by decide) ?_
      refine al_20 G (show (4 : Int32) = nI 4 from rfl) (by decide) dX6_write_10 ?_
      rw [hS.n4]
      refine s_icmp_ge G 35 dX6_write_11 (by decide) (fun h11 => ?_) (fun h11 => ?_)
      · exact absurd h11 (nI_ge hlt (by omega))
      refine s_aload_n G dX6_write_14 rfl ?_
      refine gX6_22 G dX6_write_15 ?_
      refine s_iconst (v := 3) G dX6_write_18 (by decide) ?_
      refine s_iload G dX6_write_19 rfl ?_
      refine s_imul G dX6_write_21 ?_
      refine s_iconst (v := 2) G dX6_write_22 (by decide) ?_
      refine s_iadd G dX6_write_23 ?_
      refine al_19 G (ix3 i 2) (by omega) dX6_write_24 ?_
      rw [(hS.bde hx).2.2]
      refine s_iload_n G dX6_write_25 rfl ?_
      refine s_icmp_lt G 35 dX6_write_26 (by decide) (fun h26 => ?_) (fun h26 => ?_)
      · exact absurd ((tw_lt hs hx).mpr (by rw [hT]; omega)) (i_nle.mpr h26)
      refine s_iinc G dX6_write_29 rfl (by decide) rfl (nI_1 i) ?_
      refine s_goto G 3 dX6_write_32 (by decide) ?_
      exact ih (i + 1) (by omega)
  refine s_iconst (v := 0) G dX6_write_0 (by decide) ?_
  refine s_istore G dX6_write_1 (by decide) rfl ?_
  exact scan t 0 (by omega)
theorem r_play {v b : Nat} (hS : SimR N g w) (hI : Inv g) (hb : b < g.nb) (hq : (g.q b)[0]? = some v) : Ret E idsR yX6_play cX6_play 4 (some .boolean) 2 46 [.ref (E.ad (14, 0, 0)), .int (nI v), .int (nI b)] N (fun r M' => ∃ d : Int32, (d = 0 ∨ d = 1) ∧ r = some (.int d) ∧ SimR M' (serve1 g b) (w + d) ∧ M' (14, 0, 0) = N (14, 0, 0) ∧ (serve1 g b).i 1 0 10 = g.i 1 0 10 + d) := by
  have hb8 : b < 8 := Nat.lt_of_lt_of_le hb hI.nb8
  have hvm := (hI.qm hb).mp (List.mem_of_getElem? hq)
  have hv16 : v < 16 := Nat.lt_of_lt_of_le hvm.1 hI.nv16
  obtain ⟨Q, hQ⟩ : ∃ Q, g.q b = v :: Q := by
    cases h : g.q b with
    | nil => rw [h] at hq; cases hq
    | cons x Q => rw [h] at hq; cases hq; exact ⟨Q, rfl⟩
  have hs1 : serve1 g b = if cst (leaveQ g v) b ≤ (leaveQ g v).i 4 v 0 then play9 (leaveQ g v) v b else leaveQ g v := by
    unfold serve1
    rw [hQ]
  refine Ret_of_V RX6 (by decide) rfl idsR_nd [some (.ref (E.ad (14, 0, 0))), some (.int (nI v)), some (.int (nI b)), none] rfl (Nat.le_of_ble_eq_true rfl) (fun κ hE G E9 hr => ?_)
  subst hE
  refine s_aload_n G dX6_play_0 rfl ?_
  refine s_iload_n G dX6_play_1 rfl ?_
  refine iX6_86 G (r_stroll hS hI hb hq) (by decide) (Nat.le_of_ble_eq_true rfl) dX6_play_2 (fun r9 M9 hp9 => ?_)
  obtain ⟨rfl, hS0, hF0⟩ := hp9
  rename Mem => M0
  have hI0 : Inv (leaveQ g v) := hI.leave
  have hb0 : b < (leaveQ g v).nb := hb
  have hv0 : v < (leaveQ g v).nv := hvm.1
  have hw0 : (leaveQ g v).i 1 0 10 = g.i 1 0 10 := lv_i (by omega)
  generalize hg0 : leaveQ g v = g0 at hS0 hI0 hb0 hv0 hs1 hw0
  refine s_aload_n G dX6_play_5 rfl ?_
  refine s_iload_n G dX6_play_6 rfl ?_
  refine s_iconst (v := 0) G dX6_play_7 (by decide) ?_
  refine iX6_80 G (r_vi (k := 0) hv16 (by decide)) (by decide) (Nat.le_of_ble_eq_true rfl) dX6_play_8 (fun r9 M9 hp9 => ?_)
  obtain ⟨rfl, rfl⟩ := hp9
  rw [hS0.v0 hv0]
  refine s_aload_n G dX6_play_11 rfl ?_
  refine s_iload_n G dX6_play_12 rfl ?_
  refine iX6_93 G (r_cost hS0 hI0 hb0) (by decide) (Nat.le_of_ble_eq_true rfl) dX6_play_13 (fun r9 M9 hp9 => ?_)
  obtain ⟨rfl, rfl⟩ := hp9
  refine s_icmp_ge G 21 dX6_play_16 (by decide) (fun h16 => ?_) (fun h16 => ?_)
  rotate_left
  · refine s_iconst (v := 0) G dX6_play_19 (by decide) ?_
    refine s_zret G E9 hr (Or.inl rfl) dX6_play_20 ⟨0, Or.inl rfl, rfl, by rw [hs1, if_neg h16, Int32.add_zero]; exact hS0, hF0, by rw [hs1, if_neg h16, Int32.add_zero]; exact hw0⟩
  have hs2 : serve1 g b = play9 g0 v b := by rw [hs1, if_pos h16]
  refine s_aload_n G dX6_play_21 rfl ?_
  refine s_iload_n G dX6_play_22 rfl ?_
  refine s_iconst (v := 0) G dX6_play_23 (by decide) ?_
  refine s_aload_n G dX6_play_24 rfl ?_
  refine s_iload_n G dX6_play_25 rfl ?_
  refine s_iconst (v := 0) G dX6_play_26 (by decide) ?_
  refine iX6_80 G (r_vi (k := 0) hv16 (by decide)) (by decide) (Nat.le_of_ble_eq_true rfl) dX6_play_27 (fun r9 M9 hp9 => ?_)
  obtain ⟨rfl, rfl⟩ := hp9
  rw [hS0.v0 hv0]
  refine s_aload_n G dX6_play_30 rfl ?_
  refine s_iload_n G dX6_play_31 rfl ?_
  refine iX6_93 G (r_cost hS0 hI0 hb0) (by decide) (Nat.le_of_ble_eq_true rfl) dX6_play_32 (fun r9 M9 hp9 => ?_)
  obtain ⟨rfl, rfl⟩ := hp9
  refine s_isub G dX6_play_35 ?_
  refine iX6_83 G (r_setVi (k := 0) hv16 (by decide) (g0.i 4 v 0 - cst g0 b)) (by decide) (Nat.le_of_ble_eq_true rfl) dX6_play_36 (fun r9 M9 hp9 => ?_)
  obtain ⟨rfl, rfl⟩ := hp9
  refine V.abs (fun M1 hM1 => ?_)
  obtain ⟨g1, hg1⟩ : ∃ g1, g1 = g0.set 4 v 0 (g0.i 4 v 0 - cst g0 b) := ⟨_, rfl⟩
  have hS1 : SimR M1 g1 w := by rw [hM1, hg1]; exact hS0.sv0
  have hF1 : M1 (14, 0, 0) = N (14, 0, 0) := by rw [hM1, up_ne (by simp)]; exact hF0
  have hI1 : Inv g1 := by rw [hg1]; exact hI0.v4 (by decide) (by decide)
  have hb1 : b < g1.nb := by rw [hg1]; exact hb0
  have hv1 : v < g1.nv := by rw [hg1]; exact hv0
  have hc1 : cst g1 b = cst g0 b := by rw [hg1]; exact cst_congr b (by simp [gi_set]) (by simp [gi_set])
  clear hM1
  refine s_aload_n G dX6_play_39 rfl ?_
  refine s_iload_n G dX6_play_40 rfl ?_
  refine s_iconst (v := 5) G dX6_play_41 (by decide) ?_
  refine s_aload_n G dX6_play_42 rfl ?_
  refine s_iload_n G dX6_play_43 rfl ?_
  refine s_iconst (v := 5) G dX6_play_44 (by decide) ?_
  refine iX6_71 G (r_bo (k := 5) hb8 (by decide)) (by decide) (Nat.le_of_ble_eq_true rfl) dX6_play_45 (fun r9 M9 hp9 => ?_)
  obtain ⟨rfl, rfl⟩ := hp9
  rw [hS1.b5 hb1, show g1.i 2 b 6 = g0.i 2 b 6 by rw [hg1, gi_set, if_neg (by omega)]]
  refine s_aload_n G dX6_play_48 rfl ?_
  refine s_iload_n G dX6_play_49 rfl ?_
  refine iX6_93 G (r_cost hS1 hI1 hb1) (by decide) (Nat.le_of_ble_eq_true rfl) dX6_play_50 (fun r9 M9 hp9 => ?_)
  obtain ⟨rfl, rfl⟩ := hp9
  rw [hc1]
  refine s_iadd G dX6_play_53 ?_
  refine iX6_74 G (r_setBo (k := 5) hb8 (by decide) (g0.i 2 b 6 + cst g0 b)) (by decide) (Nat.le_of_ble_eq_true rfl) dX6_play_54 (fun r9 M9 hp9 => ?_)
  obtain ⟨rfl, rfl⟩ := hp9
  refine V.abs (fun M2 hM2 => ?_)
  obtain ⟨g2, hg2⟩ : ∃ g2, g2 = g1.set 2 b 6 (g0.i 2 b 6 + cst g0 b) := ⟨_, rfl⟩
  have hS2 : SimR M2 g2 w := by rw [hM2, hg2]; exact hS1.sb5
  have hF2 : M2 (14, 0, 0) = N (14, 0, 0) := by rw [hM2, up_ne (by simp)]; exact hF1
  have hI2 : Inv g2 := by rw [hg2]; exact hI1.b2 (fun q => by cases q)
  have hb2 : b < g2.nb := by rw [hg2]; exact hb1
  have hv2 : v < g2.nv := by rw [hg2]; exact hv1
  clear hM2
  refine s_aload_n G dX6_play_57 rfl ?_
  refine s_iload_n G dX6_play_58 rfl ?_
  refine s_iconst (v := 4) G dX6_play_59 (by decide) ?_
  refine s_aload_n G dX6_play_60 rfl ?_
  refine s_iload_n G dX6_play_61 rfl ?_
  refine s_iconst (v := 4) G dX6_play_62 (by decide) ?_
  refine iX6_71 G (r_bo (k := 4) hb8 (by decide)) (by decide) (Nat.le_of_ble_eq_true rfl) dX6_play_63 (fun r9 M9 hp9 => ?_)
  obtain ⟨rfl, rfl⟩ := hp9
  rw [hS2.b4 hb2, show g2.i 2 b 5 = g0.i 2 b 5 by rw [hg2, hg1]; simp [gi_set]]
  refine s_iconst (v := 1) G dX6_play_66 (by decide) ?_
  refine s_iadd G dX6_play_67 ?_
  refine iX6_74 G (r_setBo (k := 4) hb8 (by decide) (g0.i 2 b 5 + 1)) (by decide) (Nat.le_of_ble_eq_true rfl) dX6_play_68 (fun r9 M9 hp9 => ?_)
  obtain ⟨rfl, rfl⟩ := hp9
  refine V.abs (fun M3 hM3 => ?_)
  obtain ⟨g3, hg3⟩ : ∃ g3, g3 = g2.set 2 b 5 (g0.i 2 b 5 + 1) := ⟨_, rfl⟩
  have hS3 : SimR M3 g3 w := by rw [hM3, hg3]; exact hS2.sb4
  have hF3 : M3 (14, 0, 0) = N (14, 0, 0) := by rw [hM3, up_ne (by simp)]; exact hF2
  have hI3 : Inv g3 := by rw [hg3]; exact hI2.b2 (fun q => by cases q)
  have hb3 : b < g3.nb := by rw [hg3]; exact hb2
  have hv3 : v < g3.nv := by rw [hg3]; exact hv2
  clear hM3
  have hwk : wk g3 b = wk g0 b := by rw [hg3, hg2, hg1, wk_set (by omega), wk_set (by omega), wk_set (by omega)]
  have hbd3 : g3.bd = g0.bd := by rw [hg3, hg2, hg1]; rfl
  refine s_aload_n G dX6_play_71 rfl ?_
  refine s_iload_n G dX6_play_72 rfl ?_
  refine s_iconst (v := 1) G dX6_play_73 (by decide) ?_
  refine iX6_80 G (r_vi (k := 1) hv16 (by decide)) (by decide) (Nat.le_of_ble_eq_true rfl) dX6_play_74 (fun r9 M9 hp9 => ?_)
  obtain ⟨rfl, rfl⟩ := hp9
  rw [hS3.v1 hv3, show g3.i 4 v 1 = g0.i 4 v 1 by rw [hg3, hg2, hg1]; simp [gi_set]]
  refine s_iconst (v := 3) G dX6_play_77 (by decide) ?_
  refine s_aload_n G dX6_play_78 rfl ?_
  refine gX6_19 G dX6_play_79 ?_
  refine s_bipush (v := 8) G dX6_play_82 (by decide) ?_
  refine s_iload_n G dX6_play_84 rfl ?_
  refine s_imul G dX6_play_85 ?_
  refine s_iload_n G dX6_play_86 rfl ?_
  refine s_iadd G dX6_play_87 ?_
  refine al_18 G (ix8 v b) (by omega) dX6_play_88 ?_
  rw [hS3.pr hv3 hv16 hb8, show g3.i 10 v b = g0.i 10 v b by rw [hg3, hg2, hg1]; simp [gi_set]]
  refine s_imul G dX6_play_89 ?_
  refine s_iadd G dX6_play_90 ?_
  refine s_iconst (v := 5) G dX6_play_91 (by decide) ?_
  refine s_aload_n G dX6_play_92 rfl ?_
  refine s_iload_n G dX6_play_93 rfl ?_
  refine iX6_90 G (r_working hS3 hI3) (by decide) (Nat.le_of_ble_eq_true rfl) dX6_play_94 (fun r9 M9 hp9 => ?_)
  obtain ⟨rfl, rfl⟩ := hp9
  rw [hwk]
  refine s_aload_n G dX6_play_97 rfl ?_
  refine s_iload_n G dX6_play_98 rfl ?_
  refine s_iconst (v := 3) G dX6_play_99 (by decide) ?_
  refine iX6_71 G (r_bo (k := 3) hb8 (by decide)) (by decide) (Nat.le_of_ble_eq_true rfl) dX6_play_100 (fun r9 M9 hp9 => ?_)
  obtain ⟨rfl, rfl⟩ := hp9
  rw [hS3.bo (k := 3) hb3 (by decide), show g3.i 2 b 3 = g0.i 2 b 3 by rw [hg3, hg2, hg1]; simp [gi_set]]
  have rest : V κ idsR 4 M3 [some (.ref (κ.E.ad (14, 0, 0))), some (.int (nI v)), some (.int (nI b)), some (.int (pts g0 v b))] [] 121 := by
    refine s_aload_n G dX6_play_121 rfl ?_
    refine s_iload_n G dX6_play_122 rfl ?_
    refine s_iload_n G dX6_play_123 rfl ?_
    refine s_iload_n G dX6_play_124 rfl ?_
    refine iX6_117 G (r_write hS3 hI3 v b (pts g0 v b)) (by decide) (Nat.le_of_ble_eq_true rfl) dX6_play_125 (fun r9 M9 hp9 => ?_)
    obtain ⟨rfl, hS4, hF4⟩ := hp9
    rw [hbd3] at hS4
    rename Mem => M4
    obtain ⟨g4, hg4⟩ : ∃ g4, g4 = g3.setbd (bdIns g0.bd (v, b, pts g0 v b)) := ⟨_, rfl⟩
    rw [← hg4] at hS4
    have hF4 : M4 (14, 0, 0) = N (14, 0, 0) := hF4.trans hF3
    have hb4 : b < g4.nb := by rw [hg4]; exact hb3
    have hv4 : v < g4.nv := by rw [hg4]; exact hv3
    refine s_aload_n G dX6_play_128 rfl ?_
    refine gX6_19 G dX6_play_129 ?_
    refine s_bipush (v := 8) G dX6_play_132 (by decide) ?_
    refine s_iload_n G dX6_play_134 rfl ?_
    refine s_imul G dX6_play_135 ?_
    refine s_iload_n G dX6_play_136 rfl ?_
    refine s_iadd G dX6_play_137 ?_
    refine s_bipush (v := 9) G dX6_play_138 (by decide) ?_
    refine s_aload_n G dX6_play_140 rfl ?_
    refine gX6_19 G dX6_play_141 ?_
    refine s_bipush (v := 8) G dX6_play_144 (by decide) ?_
    refine s_iload_n G dX6_play_146 rfl ?_
    refine s_imul G dX6_play_147 ?_
    refine s_iload_n G dX6_play_148 rfl ?_
    refine s_iadd G dX6_play_149 ?_
    refine al_18 G (ix8 v b) (by omega) dX6_play_150 ?_
    rw [hS4.pr hv4 hv16 hb8, show g4.i 10 v b = g0.i 10 v b by rw [hg4, hg3, hg2, hg1]; simp [gi_set, gi_setbd]]
    refine s_iconst (v := 1) G dX6_play_151 (by decide) ?_
    refine s_iadd G dX6_play_152 ?_
    refine iX6_112 G dX6_play_153 (by decide) (Nat.le_of_ble_eq_true rfl) ?_
    rw [show (if g0.i 10 v b + 1 < 9 then g0.i 10 v b + 1 else 9) = min9 (g0.i 10 v b + 1) 9 from (min9_comm 9 (g0.i 10 v b + 1))]
    refine as_18 G (ix8 v b) (by omega) dX6_play_156 ?_
    refine V.abs (fun M5 hM5 => ?_)
    obtain ⟨g5, hg5⟩ : ∃ g5, g5 = g4.set 10 v b (min9 (g0.i 10 v b + 1) 9) := ⟨_, rfl⟩
    have hS5 : SimR M5 g5 w := by rw [hM5, hg5]; exact hS4.sp hv4 hb8
    have hF5 : M5 (14, 0, 0) = N (14, 0, 0) := by rw [hM5, up_ne (by simp)]; exact hF4
    have hb5 : b < g5.nb := by rw [hg5]; exact hb4
    have hv5 : v < g5.nv := by rw [hg5]; exact hv4
    clear hM5
    refine s_aload_n G dX6_play_157 rfl ?_
    refine s_iload_n G dX6_play_158 rfl ?_
    refine s_bipush (v := 7) G dX6_play_159 (by decide) ?_
    refine s_aload_n G dX6_play_161 rfl ?_
    refine s_iload_n G dX6_play_162 rfl ?_
    refine s_bipush (v := 7) G dX6_play_163 (by decide) ?_
    refine iX6_80 G (r_vi (k := 7) hv16 (by decide)) (by decide) (Nat.le_of_ble_eq_true rfl) dX6_play_165 (fun r9 M9 hp9 => ?_)
    obtain ⟨rfl, rfl⟩ := hp9
    rw [hS5.v7 hv5, show g5.i 4 v 6 = g0.i 4 v 6 by rw [hg5, hg4, hg3, hg2, hg1]; simp [gi_set, gi_setbd]]
    refine s_iconst (v := 1) G dX6_play_168 (by decide) ?_
    refine s_iadd G dX6_play_169 ?_
    refine iX6_83 G (r_setVi (k := 7) hv16 (by decide) (g0.i 4 v 6 + 1)) (by decide) (Nat.le_of_ble_eq_true rfl) dX6_play_170 (fun r9 M9 hp9 => ?_)
    obtain ⟨rfl, rfl⟩ := hp9
    refine V.abs (fun M6 hM6 => ?_)
    obtain ⟨g6, hg6⟩ : ∃ g6, g6 = g5.set 4 v 6 (g0.i 4 v 6 + 1) := ⟨_, rfl⟩
    have hS6 : SimR M6 g6 w := by rw [hM6, hg6]; exact hS5.sv7
    have hF6 : M6 (14, 0, 0) = N (14, 0, 0) := by rw [hM6, up_ne (by simp)]; exact hF5
    have hb6 : b < g6.nb := by rw [hg6]; exact hb5
    have hv6 : v < g6.nv := by rw [hg6]; exact hv5
    clear hM6
    refine s_aload_n G dX6_play_173 rfl ?_
    refine s_iload_n G dX6_play_174 rfl ?_
    refine s_bipush (v := 8) G dX6_play_175 (by decide) ?_
    refine s_aload_n G dX6_play_177 rfl ?_
    refine s_iload_n G dX6_play_178 rfl ?_
    refine s_bipush (v := 8) G dX6_play_179 (by decide) ?_
    refine iX6_80 G (r_vi (k := 8) hv16 (by decide)) (by decide) (Nat.le_of_ble_eq_true rfl) dX6_play_181 (fun r9 M9 hp9 => ?_)
    obtain ⟨rfl, rfl⟩ := hp9
    rw [hS6.v8 hv6, show g6.i 4 v 7 = g0.i 4 v 7 by rw [hg6, hg5, hg4, hg3, hg2, hg1]; simp [gi_set, gi_setbd]]
    refine s_iload_n G dX6_play_184 rfl ?_
    refine iX6_120 G dX6_play_185 (by decide) (Nat.le_of_ble_eq_true rfl) ?_
    refine iX6_83 G (r_setVi (k := 8) hv16 (by decide) (max9 (g0.i 4 v 7) (pts g0 v b))) (by decide) (Nat.le_of_ble_eq_true rfl) dX6_play_188 (fun r9 M9 hp9 => ?_)
    obtain ⟨rfl, rfl⟩ := hp9
    refine V.abs (fun M7 hM7 => ?_)
    obtain ⟨g7, hg7⟩ : ∃ g7, g7 = g6.set 4 v 7 (max9 (g0.i 4 v 7) (pts g0 v b)) := ⟨_, rfl⟩
    have hS7 : SimR M7 g7 w := by rw [hM7, hg7]; exact hS6.sv8
    have hF7 : M7 (14, 0, 0) = N (14, 0, 0) := by rw [hM7, up_ne (by simp)]; exact hF6
    have hb7 : b < g7.nb := by rw [hg7]; exact hb6
    have hv7 : v < g7.nv := by rw [hg7]; exact hv6
    clear hM7
    have hpl : play9 g0 v b = if g0.i 2 b 1 ≤ pts g0 v b ∧ 0 < g0.i 2 b 2 then ((g7.set 2 b 2 (g0.i 2 b 2 - 1)).set 4 v 4 (g0.i 4 v 4 + 1)).set 1 0 10 (g0.i 1 0 10 + 1) else g7 := by
      have e7 : g7 = ((((((g0.set 4 v 0 (g0.i 4 v 0 - cst g0 b)).set 2 b 6 (g0.i 2 b 6 + cst g0 b)).setbd (bdIns g0.bd (v, b, pts g0 v b))).set 10 v b (min9 (g0.i 10 v b + 1) 9)).set 4 v 6 (g0.i 4 v 6 + 1)).set 2 b 5 (g0.i 2 b 5 + 1)).set 4 v 7 (max9 (g0.i 4 v 7) (pts g0 v b)) := by
        rw [hg7, hg6, hg5, hg4, hg3, hg2, hg1]
        rw [set_comm (kd := 4) (a := v) (k := 6) (kd2 := 2) (a2 := b) (k2 := 5) (by omega), set_comm (kd := 10) (a := v) (k := b) (kd2 := 2) (a2 := b) (k2 := 5) (by omega)]
        rfl
      rw [e7]
      unfold play9
      simp only [gi_set, gi_setbd]
    have hw7 : g7.i 1 0 10 = g.i 1 0 10 := by rw [← hw0, hg7, hg6, hg5, hg4, hg3, hg2, hg1]; simp [gi_set, gi_setbd]
    refine s_iload_n G dX6_play_191 rfl ?_
    refine s_aload_n G dX6_play_192 rfl ?_
    refine s_iload_n G dX6_play_193 rfl ?_
    refine s_iconst (v := 1) G dX6_play_194 (by decide) ?_
    refine iX6_71 G (r_bo (k := 1) hb8 (by decide)) (by decide) (Nat.le_of_ble_eq_true rfl) dX6_play_195 (fun r9 M9 hp9 => ?_)
    obtain ⟨rfl, rfl⟩ := hp9
    rw [hS7.bo (k := 1) hb7 (by decide), show g7.i 2 b 1 = g0.i 2 b 1 by rw [hg7, hg6, hg5, hg4, hg3, hg2, hg1]; simp [gi_set, gi_setbd]]
    refine s_icmp_lt G 210 dX6_play_198 (by decide) (fun h198 => ?_) (fun h198 => ?_)
    · refine s_iconst (v := 0) G dX6_play_210 (by decide) ?_
      refine s_zret G E9 hr (Or.inl rfl) dX6_play_211 ⟨0, Or.inl rfl, rfl, by rw [hs2, hpl, if_neg (fun q => i_nlt.mpr q.1 h198), Int32.add_zero]; exact hS7, hF7, by rw [hs2, hpl, if_neg (fun q => i_nlt.mpr q.1 h198), Int32.add_zero]; exact hw7⟩
    refine s_aload_n G dX6_play_201 rfl ?_
    refine s_iload_n G dX6_play_202 rfl ?_
    refine s_iconst (v := 2) G dX6_play_203 (by decide) ?_
    refine iX6_71 G (r_bo (k := 2) hb8 (by decide)) (by decide) (Nat.le_of_ble_eq_true rfl) dX6_play_204 (fun r9 M9 hp9 => ?_)
    obtain ⟨rfl, rfl⟩ := hp9
    rw [hS7.bo (k := 2) hb7 (by decide), show g7.i 2 b 2 = g0.i 2 b 2 by rw [hg7, hg6, hg5, hg4, hg3, hg2, hg1]; simp [gi_set, gi_setbd]]
    refine s_if_ne G 212 dX6_play_207 (by decide) (fun h207 => ?_) (fun h207 => ?_)
    rotate_left
    · refine s_iconst (v := 0) G dX6_play_210 (by decide) ?_
      refine s_zret G E9 hr (Or.inl rfl) dX6_play_211 ⟨0, Or.inl rfl, rfl, by rw [hs2, hpl, if_neg (fun q => absurd q.2 (by rw [h207]; decide)), Int32.add_zero]; exact hS7, hF7, by rw [hs2, hpl, if_neg (fun q => absurd q.2 (by rw [h207]; decide)), Int32.add_zero]; exact hw7⟩
    have hpz : 0 < g0.i 2 b 2 := by
      have := (hI0.bpz hb0).1
      rw [Int32.le_iff_toInt_le] at this
      rw [Int32.lt_iff_toInt_lt]
      have h1 : (g0.i 2 b 2).toInt ≠ (0 : Int32).toInt := fun q => h207 (Int32.toInt_inj.mp q)
      omega
    refine s_aload_n G dX6_play_212 rfl ?_
    refine s_iload_n G dX6_play_213 rfl ?_
    refine s_iconst (v := 2) G dX6_play_214 (by decide) ?_
    refine s_aload_n G dX6_play_215 rfl ?_
    refine s_iload_n G dX6_play_216 rfl ?_
    refine s_iconst (v := 2) G dX6_play_217 (by decide) ?_
    refine iX6_71 G (r_bo (k := 2) hb8 (by decide)) (by decide) (Nat.le_of_ble_eq_true rfl) dX6_play_218 (fun r9 M9 hp9 => ?_)
    obtain ⟨rfl, rfl⟩ := hp9
    rw [hS7.bo (k := 2) hb7 (by decide), show g7.i 2 b 2 = g0.i 2 b 2 by rw [hg7, hg6, hg5, hg4, hg3, hg2, hg1]; simp [gi_set, gi_setbd]]
    refine s_iconst (v := 1) G dX6_play_221 (by decide) ?_
    refine s_isub G dX6_play_222 ?_
    refine iX6_74 G (r_setBo (k := 2) hb8 (by decide) (g0.i 2 b 2 - 1)) (by decide) (Nat.le_of_ble_eq_true rfl) dX6_play_223 (fun r9 M9 hp9 => ?_)
    obtain ⟨rfl, rfl⟩ := hp9
    refine V.abs (fun M8 hM8 => ?_)
    have hS8 : SimR M8 (g7.set 2 b 2 (g0.i 2 b 2 - 1)) w := by rw [hM8]; exact hS7.sb2
    have hF8 : M8 (14, 0, 0) = N (14, 0, 0) := by rw [hM8, up_ne (by simp)]; exact hF7
    clear hM8
    refine s_aload_n G dX6_play_226 rfl ?_
    refine s_iload_n G dX6_play_227 rfl ?_
    refine s_iconst (v := 5) G dX6_play_228 (by decide) ?_
    refine s_aload_n G dX6_play_229 rfl ?_
    refine s_iload_n G dX6_play_230 rfl ?_
    refine s_iconst (v := 5) G dX6_play_231 (by decide) ?_
    refine iX6_80 G (r_vi (k := 5) hv16 (by decide)) (by decide) (Nat.le_of_ble_eq_true rfl) dX6_play_232 (fun r9 M9 hp9 => ?_)
    obtain ⟨rfl, rfl⟩ := hp9
    rw [hS8.v5 hv7, show (g7.set 2 b 2 (g0.i 2 b 2 - 1)).i 4 v 4 = g0.i 4 v 4 by rw [hg7, hg6, hg5, hg4, hg3, hg2, hg1]; simp [gi_set, gi_setbd]]
    refine s_iconst (v := 1) G dX6_play_235 (by decide) ?_
    refine s_iadd G dX6_play_236 ?_
    refine iX6_83 G (r_setVi (k := 5) hv16 (by decide) (g0.i 4 v 4 + 1)) (by decide) (Nat.le_of_ble_eq_true rfl) dX6_play_237 (fun r9 M9 hp9 => ?_)
    obtain ⟨rfl, rfl⟩ := hp9
    refine V.abs (fun M10 hM10 => ?_)
    have hS10 : SimR M10 ((g7.set 2 b 2 (g0.i 2 b 2 - 1)).set 4 v 4 (g0.i 4 v 4 + 1)) w := by rw [hM10]; exact hS8.sv5
    have hF10 : M10 (14, 0, 0) = N (14, 0, 0) := by rw [hM10, up_ne (by simp)]; exact hF8
    clear hM10
    have e10 : ((g7.set 2 b 2 (g0.i 2 b 2 - 1)).set 4 v 4 (g0.i 4 v 4 + 1)).i 1 0 10 = g0.i 1 0 10 := by rw [hg7, hg6, hg5, hg4, hg3, hg2, hg1]; simp [gi_set, gi_setbd]
    refine s_iconst (v := 1) G dX6_play_240 (by decide) ?_
    refine s_zret G E9 hr (Or.inr rfl) dX6_play_241 ⟨1, Or.inr rfl, rfl, by rw [hs2, hpl, if_pos ⟨i_nlt.mp h198, hpz⟩, ← e10]; exact hS10.win, hF10, by rw [hs2, hpl, if_pos ⟨i_nlt.mp h198, hpz⟩, gi_set, if_pos ⟨rfl, rfl, rfl⟩, hw0]⟩
  refine s_isub G dX6_play_103 ?_
  refine s_imul G dX6_play_104 ?_
  refine s_iadd G dX6_play_105 ?_
  refine s_istore_n G dX6_play_106 (by decide) rfl ?_
  refine s_aload_n G dX6_play_107 rfl ?_
  refine gX6_25 G dX6_play_108 ?_
  refine s_iconst (v := 2) G dX6_play_111 (by decide) ?_
  refine al_20 G (show (2 : Int32) = nI 2 from rfl) (by decide) dX6_play_112 ?_
  rw [hS3.n2, show g3.i 1 0 9 = g0.i 1 0 9 by rw [hg3, hg2, hg1]; simp [gi_set]]
  refine s_iload_n G dX6_play_113 rfl ?_
  refine s_icmp_ne G 121 dX6_play_114 (by decide) (fun h114 => ?_) (fun h114 => ?_)
  · have hp : pts g0 v b = g0.i 4 v 1 + 3 * g0.i 10 v b + 5 * (nI (wk g0 b) - g0.i 2 b 3) := by
      unfold pts
      simp only
      rw [if_neg (fun q => h114 q.symm)]
    rw [← hp]
    exact rest
  · have hp : pts g0 v b = (g0.i 4 v 1 + 3 * g0.i 10 v b + 5 * (nI (wk g0 b) - g0.i 2 b 3)) * 2 := by
      unfold pts
      simp only
      rw [if_pos h114.symm, Int32.mul_comm]
    refine s_iload_n G dX6_play_117 rfl ?_
    refine s_iconst (v := 2) G dX6_play_118 (by decide) ?_
    refine s_imul G dX6_play_119 ?_
    refine s_istore_n G dX6_play_120 (by decide) rfl ?_
    rw [← hp]
    exact rest
end RP
