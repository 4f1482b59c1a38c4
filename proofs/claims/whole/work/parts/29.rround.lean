/-! ===== the reference: the hour's end, rounds ===== -/
/-- while those who wait at closed booths leave one by one -/
def CR (G g1 : GS) (b : Nat) : Prop := g1.2.2 = G.2.2 ∧ Inv g1 ∧ (∀ p q r, ¬ (p = 4 ∧ r = 3) → g1.i p q r = G.i p q r) ∧ (∀ q, g1.i 4 q 3 = G.i 4 q 3 ∨ (q < G.nv ∧ g1.i 4 q 3 = -1 ∧ ∃ c, c < G.nb ∧ G.i 4 q 3 = nI c ∧ ¬ opn G c)) ∧ (∀ c, c < G.nb → c < b → ¬ opn G c → g1.q c = []) ∧ ∀ c, c < G.nb → opn G c → g1.q c = G.q c
theorem CR.open_ {G g1 : GS} {b : Nat} (h : CR G g1 b) (c : Nat) : opn g1 c ↔ opn G c := by
  unfold opn
  rw [h.2.2.1 2 c 3 (by omega), wk_congr (g := G) (g' := g1) c (nh_of (congrArg Prod.fst h.1)) (fun a _ => h.2.2.1 3 a 1 (by omega))]
theorem CR.leave {G g1 : GS} {b v : Nat} (h : CR G g1 b) (hb : b < G.nb) (ho : ¬ opn G b) (hv : v ∈ g1.q b) : CR G (leaveQ g1 v) b := by
  obtain ⟨h1, h2, h3, h4, h5, h6⟩ := h
  have hnb : g1.nb = G.nb := nb_of (congrArg Prod.fst h1)
  have hnv : g1.nv = G.nv := nv_of (congrArg Prod.fst h1)
  have hb8 := h2.nb8
  have hm := (h2.qm (by rw [hnb]; exact hb)).mp hv
  have hGv : G.i 4 v 3 = nI b := by
    rcases h4 v with q | ⟨_, q, _⟩
    · rw [← q]; exact hm.2
    · exact absurd (hm.2.symm.trans q) (nI_m1 (by omega))
  refine ⟨h1, h2.leave, fun p q r hno => ?_, fun q => ?_, fun c hc hcb hoc => ?_, fun c hc hoc => ?_⟩
  · rw [lv_i (fun z => hno ⟨z.1, z.2.2⟩)]; exact h3 p q r hno
  · by_cases hq : q = v
    · subst hq
      exact Or.inr ⟨by rw [← hnv]; exact hm.1, lv_3, b, hb, hGv, ho⟩
    · rw [lv_i (by omega)]; exact h4 q
  · show (g1.q c).filter (fun u => u != v) = []
    rw [h5 c hc hcb hoc]
    rfl
  · show (g1.q c).filter (fun u => u != v) = G.q c
    rw [filter_id (fun q => ?_)]
    · exact h6 c hc hoc
    · have := ((h2.qm (by rw [hnb]; exact hc)).mp q).2
      have hcb : c = b := nI_inj (by omega) (by omega) (this.symm.trans hm.2)
      exact ho (hcb ▸ hoc)
theorem CR.next {G g1 : GS} {b : Nat} (h : CR G g1 b) (hq : opn G b ∨ g1.q b = []) : CR G g1 (b + 1) := by
  obtain ⟨h1, h2, h3, h4, h5, h6⟩ := h
  refine ⟨h1, h2, h3, h4, fun c hc hcb hoc => ?_, h6⟩
  by_cases q : c = b
  · subst q
    rcases hq with z | z
    · exact absurd z hoc
    · exact z
  · exact h5 c hc (by omega) hoc
theorem CR.fin_i {G g1 : GS} (h : CR G g1 G.nb) (p q r : Nat) : (clear9 G).i p q r = g1.i p q r := by
  obtain ⟨h1, h2, h3, h4, h5, h6⟩ := h
  have hnb : g1.nb = G.nb := nb_of (congrArg Prod.fst h1)
  have hnv : g1.nv = G.nv := nv_of (congrArg Prod.fst h1)
  have hb8 := h2.nb8
  show (if p = 4 ∧ r = 3 ∧ q < G.nv ∧ (∃ b, b < G.nb ∧ G.i 4 q 3 = nI b ∧ ¬ opn G b) then -1 else G.i p q r) = g1.i p q r
  by_cases hc : p = 4 ∧ r = 3 ∧ q < G.nv ∧ (∃ b, b < G.nb ∧ G.i 4 q 3 = nI b ∧ ¬ opn G b)
  · rw [if_pos hc]
    obtain ⟨rfl, rfl, hq, c, hc, e, ho⟩ := hc
    rcases h4 q with z | ⟨_, z, _⟩
    · have := (h2.qm (b := c) (v := q) (by rw [hnb]; exact hc)).mpr ⟨by rw [hnv]; exact hq, by rw [z]; exact e⟩
      rw [h5 c hc hc ho] at this
      cases this
    · exact z.symm
  · rw [if_neg hc]
    by_cases hp : p = 4 ∧ r = 3
    · obtain ⟨rfl, rfl⟩ := hp
      rcases h4 q with z | ⟨z1, _, z2⟩
      · exact z.symm
      · exact absurd ⟨rfl, rfl, z1, z2⟩ hc
    · exact (h3 p q r hp).symm
theorem CR.fin_q {G g1 : GS} (h : CR G g1 G.nb) (b : Nat) (hb : b < G.nb) : (clear9 G).q b = g1.q b := by
  obtain ⟨h1, h2, h3, h4, h5, h6⟩ := h
  show (if b < G.nb ∧ ¬ opn G b then [] else G.q b) = g1.q b
  by_cases ho : opn G b
  · rw [if_neg (fun q => q.2 ho)]; exact (h6 b hb ho).symm
  · rw [if_pos ⟨hb, ho⟩]; exact (h5 b hb hb ho).symm
theorem won_choose {g : GS} {v : Nat} : (choose9 g v).i 1 0 10 = g.i 1 0 10 := by
  unfold choose9
  split
  · rename_i b _
    show (g.set 4 v 3 (nI b)).i 1 0 10 = _
    rw [gi_set, if_neg (by omega)]
  · split
    · rw [gi_set, if_neg (by omega)]
    · rfl
theorem won_chooseN {g : GS} : ∀ n, (chooseN g n).i 1 0 10 = g.i 1 0 10
  | 0 => rfl
  | n + 1 => by
    rw [chooseN]
    split
    · rw [won_choose, won_chooseN n]
    · exact won_chooseN n
theorem won_rest {g : GS} {h : Nat} : (rest9 g h).i 1 0 10 = g.i 1 0 10 := by
  unfold rest9
  rw [gi_set, if_neg (by omega)]
theorem won_tire {g : GS} {h : Nat} : (tire9 g h).i 1 0 10 = g.i 1 0 10 := by
  unfold tire9
  split
  · exact won_rest
  · simp only
    split
    · rw [gi_set, if_neg (by omega), gi_set, if_neg (by omega)]
    · rw [won_rest, gi_set, if_neg (by omega), gi_set, if_neg (by omega), gi_set, if_neg (by omega)]
theorem won_tiresN {g : GS} : ∀ n, (tiresN g n).i 1 0 10 = g.i 1 0 10
  | 0 => rfl
  | n + 1 => by rw [tiresN, won_tire, won_tiresN n]
theorem won_mark : ∀ (L : List (Nat × Nat × Int32)) (g : GS) (k : Nat), (markN g k L).i 1 0 10 = g.i 1 0 10
  | [], _, _ => rfl
  | x :: L, g, k => by
    rw [markN, won_mark L, gi_set, if_neg (by omega), gi_set, if_neg (by omega)]
theorem clr_ne {G : GS} {p q r : Nat} (h : p ≠ 4) : (clear9 G).i p q r = G.i p q r := by
  show (if p = 4 ∧ r = 3 ∧ q < G.nv ∧ (∃ b, b < G.nb ∧ G.i 4 q 3 = nI b ∧ ¬ opn G b) then -1 else G.i p q r) = G.i p q r
  rw [if_neg (fun z => h z.1)]
theorem won_endHour {g : GS} : (endHour9 g).i 1 0 10 = g.i 1 0 10 := by
  unfold endHour9
  rw [clr_ne (by decide), gi_setbd]
  exact won_mark g.bd g 0
theorem won_rnd1 {g : GS} : (rnd1 g).i 1 0 10 = g.i 1 0 10 := by
  unfold rnd1
  split
  · unfold dart9
    simp only
    rw [gi_set, if_neg (by omega), gi_set, if_neg (by omega)]
  · rfl
theorem won_rnd2 {g : GS} : (rnd2 g).i 1 0 10 = g.i 1 0 10 := (won_chooseN _).trans won_rnd1
theorem won_rnd4 {g : GS} : (rnd4 g).i 1 0 10 = (rnd3 g).i 1 0 10 := won_tiresN _
theorem won_rnd5 {g : GS} : (rnd5 g).i 1 0 10 = (rnd3 g).i 1 0 10 := by
  unfold rnd5
  split
  · rw [won_endHour]; exact won_rnd4
  · exact won_rnd4
section RR
variable {E : EX} {N : Mem} {g g' : GS} {w : Int32}
theorem r_endHour (hS : SimR N g w) (hI : Inv g) : Ret E idsR yX6_endHour cX6_endHour 3 none 3 66 [.ref (E.ad (14, 0, 0))] N (fun r M' => r = none ∧ SimR M' (endHour9 g) w ∧ M' (14, 0, 0) = N (14, 0, 0)) := by
  have hb8 := hI.nb8
  have hv16 := hI.nv16
  have hbd := hI.bd3
  refine Ret_of_V RX6 (by decide) rfl idsR_nd [some (.ref (E.ad (14, 0, 0))), none, none] rfl (Nat.le_of_ble_eq_true rfl) (fun κ hE G E9 hr => ?_)
  subst hE
  obtain ⟨Gh, hG⟩ : ∃ Gh, Gh = (markN g 0 g.bd).setbd [] := ⟨_, rfl⟩
  have hIG : Inv Gh := by rw [hG]; exact (hI.markN g.bd 0).setbd (by simp) (fun x hx => by cases hx) List.Pairwise.nil
  have hnG : Gh.2.2.1 = g.2.2.1 := by
    rw [hG]
    exact congrArg (fun z => z.2.1) (markN_n g.bd g 0)
  have hvG := nv_of hnG
  have hbG := nb_of hnG
  have clr : ∀ n b, b + n = Gh.nb → ∀ (g1 : GS) (M1 : Mem), CR Gh g1 b → SimR M1 g1 w → M1 (14, 0, 0) = N (14, 0, 0) → V κ idsR 3 M1 [some (.ref (κ.E.ad (14, 0, 0))), some (.int (nI b)), none] [] 74 := by
    intro n
    induction n with
    | zero =>
      intro b hb g1 M1 hC hS1 hF1
      have hb : b = Gh.nb := by omega
      subst hb
      have hn1 : g1.nb = Gh.nb := nb_of (congrArg Prod.fst hC.1)
      refine s_iload_n G dX6_endHour_74 rfl ?_
      refine s_aload_n G dX6_endHour_75 rfl ?_
      refine gX6_32 G dX6_endHour_76 ?_
      rw [hS1.nb, hn1]
      refine s_icmp_ge G 117 dX6_endHour_79 (by decide) (fun h79 => ?_) (fun h79 => ?_)
      rotate_left
      · exact absurd (Int32.le_refl _) h79
      refine s_vret G E9 hr dX6_endHour_117 ⟨rfl, ?_, hF1⟩
      show SimR M1 (clear9 ((markN g 0 g.bd).setbd [])) w
      rw [← hG]
      exact hS1.congr hC.1.symm (fun p q r => hC.fin_i p q r) (fun b hb => hC.fin_q b (by rw [← hn1]; exact hb))
    | succ n ih =>
      intro b hbn g1 M1 hC hS1 hF1
      have hb : b < Gh.nb := by omega
      have hn1 : g1.nb = Gh.nb := nb_of (congrArg Prod.fst hC.1)
      refine s_iload_n G dX6_endHour_74 rfl ?_
      refine s_aload_n G dX6_endHour_75 rfl ?_
      refine gX6_32 G dX6_endHour_76 ?_
      rw [hS1.nb, hn1]
      refine s_icmp_ge G 117 dX6_endHour_79 (by decide) (fun h79 => ?_) (fun h79 => ?_)
      · exact absurd h79 (nI_ge hb (by omega))
      have inner : ∀ m (g2 : GS) (M2 : Mem), (g2.q b).length = m → CR Gh g2 b → SimR M2 g2 w → M2 (14, 0, 0) = N (14, 0, 0) → V κ idsR 3 M2 [some (.ref (κ.E.ad (14, 0, 0))), some (.int (nI b)), none] [] 82 := by
        intro m
        induction m with
        | zero =>
          intro g2 M2 hm hC2 hS2 hF2
          have hb2 : b < g2.nb := by rw [nb_of (congrArg Prod.fst hC2.1)]; exact hb
          have hI2 := hC2.2.1
          refine s_aload_n G dX6_endHour_82 rfl ?_
          refine s_iload_n G dX6_endHour_83 rfl ?_
          refine iX6_96 G (r_isOpen hS2 hI2 hb2) (by decide) (Nat.le_of_ble_eq_true rfl) dX6_endHour_84 (fun r9 M9 hp9 => ?_)
          obtain ⟨rfl, rfl⟩ := hp9
          refine s_if_ne G 111 dX6_endHour_87 (by decide) (fun h87 => ?_) (fun h87 => ?_)
          · refine s_iinc G dX6_endHour_111 rfl (by decide) rfl (nI_1 b) ?_
            refine s_goto G 74 dX6_endHour_114 (by decide) ?_
            exact ih (b + 1) (by omega) g2 M2 (hC2.next (Or.inr (List.length_eq_zero_iff.mp hm))) hS2 hF2
          refine s_aload_n G dX6_endHour_90 rfl ?_
          refine s_iload_n G dX6_endHour_91 rfl ?_
          refine iX6_99 G (r_length hS2 hI2 hb2) (by decide) (Nat.le_of_ble_eq_true rfl) dX6_endHour_92 (fun r9 M9 hp9 => ?_)
          obtain ⟨rfl, rfl⟩ := hp9
          rw [hm]
          refine s_if_le G 111 dX6_endHour_95 (by decide) (fun h95 => ?_) (fun h95 => ?_)
          · refine s_iinc G dX6_endHour_111 rfl (by decide) rfl (nI_1 b) ?_
            refine s_goto G 74 dX6_endHour_114 (by decide) ?_
            exact ih (b + 1) (by omega) g2 M2 (hC2.next (Or.inr (List.length_eq_zero_iff.mp hm))) hS2 hF2
          · exact absurd (by decide) h95
        | succ m im =>
          intro g2 M2 hm hC2 hS2 hF2
          have hb2 : b < g2.nb := by rw [nb_of (congrArg Prod.fst hC2.1)]; exact hb
          have hI2 := hC2.2.1
          have hl16 := hI2.ql16 hb2
          obtain ⟨v, Q, hq⟩ : ∃ v Q, g2.q b = v :: Q := by
            cases hq : g2.q b with
            | nil => rw [hq] at hm; simp at hm
            | cons v Q => exact ⟨v, Q, rfl⟩
          have h0 : (g2.q b)[0]? = some v := by rw [hq]; rfl
          refine s_aload_n G dX6_endHour_82 rfl ?_
          refine s_iload_n G dX6_endHour_83 rfl ?_
          refine iX6_96 G (r_isOpen hS2 hI2 hb2) (by decide) (Nat.le_of_ble_eq_true rfl) dX6_endHour_84 (fun r9 M9 hp9 => ?_)
          obtain ⟨rfl, rfl⟩ := hp9
          refine s_if_ne G 111 dX6_endHour_87 (by decide) (fun h87 => ?_) (fun h87 => ?_)
          · have ho : opn g2 b := Decidable.byContradiction (fun q => h87 (by rw [if_neg q]))
            refine s_iinc G dX6_endHour_111 rfl (by decide) rfl (nI_1 b) ?_
            refine s_goto G 74 dX6_endHour_114 (by decide) ?_
            exact ih (b + 1) (by omega) g2 M2 (hC2.next (Or.inl ((hC2.open_ b).mp ho))) hS2 hF2
          have ho : ¬ opn g2 b := fun q => by rw [if_pos q] at h87; exact absurd h87 (by decide)
          refine s_aload_n G dX6_endHour_90 rfl ?_
          refine s_iload_n G dX6_endHour_91 rfl ?_
          refine iX6_99 G (r_length hS2 hI2 hb2) (by decide) (Nat.le_of_ble_eq_true rfl) dX6_endHour_92 (fun r9 M9 hp9 => ?_)
          obtain ⟨rfl, rfl⟩ := hp9
          rw [hm]
          refine s_if_le G 111 dX6_endHour_95 (by decide) (fun h95 => ?_) (fun h95 => ?_)
          · exact absurd h95 (nI_ge (a := 0) (b := m + 1) (by omega) (by omega))
          refine s_aload_n G dX6_endHour_98 rfl ?_
          refine s_aload_n G dX6_endHour_99 rfl ?_
          refine s_iload_n G dX6_endHour_100 rfl ?_
          refine s_iconst (v := 0) G dX6_endHour_101 (by decide) ?_
          refine iX6_105 G (r_at (i := 0) hS2 hI2 hb2 h0) (by decide) (Nat.le_of_ble_eq_true rfl) dX6_endHour_102 (fun r9 M9 hp9 => ?_)
          obtain ⟨rfl, rfl⟩ := hp9
          refine iX6_86 G (r_stroll hS2 hI2 hb2 h0) (by decide) (Nat.le_of_ble_eq_true rfl) dX6_endHour_105 (fun r9 M9 hp9 => ?_)
          obtain ⟨rfl, hS3, hF3⟩ := hp9
          refine s_goto G 82 dX6_endHour_108 (by decide) ?_
          refine im (leaveQ g2 v) _ ?_ (hC2.leave hb (fun q => ho ((hC2.open_ b).mpr q)) (by rw [hq]; exact List.mem_cons_self)) hS3 (hF3.trans hF2)
          show ((g2.q b).filter (fun u => u != v)).length = m
          have hnd := hI2.qnd hb2
          rw [hq] at hnd hm ⊢
          have hn := List.nodup_cons.mp hnd
          simp only [List.filter_cons, bne_self_eq_false, Bool.false_eq_true, if_false]
          rw [filter_id hn.1]
          simpa using hm
      exact inner _ g1 M1 rfl hC hS1 hF1
  have mk : ∀ n l (g1 : GS) (M1 : Mem), l + n = g.bd.length → SimR M1 g1 w → Inv g1 → g1.2.2 = g.2.2 → M1 (14, 0, 0) = N (14, 0, 0) → markN g1 l (g.bd.drop l) = markN g 0 g.bd → V κ idsR 3 M1 [some (.ref (κ.E.ad (14, 0, 0))), some (.int (nI l)), none] [] 2 := by
    intro n
    induction n with
    | zero =>
      intro l g1 M1 hl hS1 hI1 hn1 hF1 hm
      have hl : l = g.bd.length := by omega
      subst hl
      have hlen : g1.bd = g.bd := congrArg Prod.snd hn1
      rw [List.drop_length] at hm
      have hm : g1 = markN g 0 g.bd := hm
      refine s_iload_n G dX6_endHour_2 rfl ?_
      refine s_aload_n G dX6_endHour_3 rfl ?_
      refine gX6_25 G dX6_endHour_4 ?_
      refine s_iconst (v := 4) G dX6_endHour_7 (by decide) ?_
      refine al_20 G (show (4 : Int32) = nI 4 from rfl) (by decide) dX6_endHour_8 ?_
      rw [hS1.n4, hlen]
      refine s_icmp_ge G 65 dX6_endHour_9 (by decide) (fun h9 => ?_) (fun h9 => ?_)
      rotate_left
      · exact absurd (Int32.le_refl _) h9
      refine s_aload_n G dX6_endHour_65 rfl ?_
      refine gX6_25 G dX6_endHour_66 ?_
      refine s_iconst (v := 4) G dX6_endHour_69 (by decide) ?_
      refine s_iconst (v := 0) G dX6_endHour_70 (by decide) ?_
      refine as_20 G (show (4 : Int32) = nI 4 from rfl) (by decide) dX6_endHour_71 ?_
      refine V.abs (fun M2 hM2 => ?_)
      have hS2 : SimR M2 Gh w := by
        rw [hG, hM2, ← hm]
        refine hS1.setbd (fun j k h1 h2 => ?_) (by rw [up_at, if_pos rfl]; rfl) (fun l x hx => by simp at hx)
        by_cases h5 : j = (20, 0, 0)
        · subst h5
          rw [up_at, if_neg (fun q => h2 ⟨rfl, q⟩)]
        · rw [up_ne h5]
      have hF2 : M2 (14, 0, 0) = N (14, 0, 0) := by rw [hM2, up_ne (by simp)]; exact hF1
      clear hM2
      refine s_iconst (v := 0) G dX6_endHour_72 (by decide) ?_
      refine s_istore_n G dX6_endHour_73 (by decide) rfl ?_
      exact clr Gh.nb 0 (by omega) Gh M2 ⟨rfl, hIG, fun _ _ _ _ => rfl, fun _ => Or.inl rfl, fun _ _ q => absurd q (by omega), fun _ _ _ => rfl⟩ hS2 hF2
    | succ n ih =>
      intro l g1 M1 hl hS1 hI1 hn1 hF1 hm
      have hlen : g1.bd = g.bd := congrArg Prod.snd hn1
      have hl9 : l < g.bd.length := by omega
      rw [List.drop_eq_getElem_cons hl9] at hm
      have hx : g1.bd[l]? = some g.bd[l] := by rw [hlen]; exact List.getElem?_eq_getElem hl9
      generalize g.bd[l] = x at hx hm
      have hxv : x.1 < g1.nv := hI1.bdv (List.mem_of_getElem? hx)
      have hx16 : x.1 < 16 := Nat.lt_of_lt_of_le hxv hI1.nv16
      refine s_iload_n G dX6_endHour_2 rfl ?_
      refine s_aload_n G dX6_endHour_3 rfl ?_
      refine gX6_25 G dX6_endHour_4 ?_
      refine s_iconst (v := 4) G dX6_endHour_7 (by decide) ?_
      refine al_20 G (show (4 : Int32) = nI 4 from rfl) (by decide) dX6_endHour_8 ?_
      rw [hS1.n4, hlen]
      refine s_icmp_ge G 65 dX6_endHour_9 (by decide) (fun h9 => ?_) (fun h9 => ?_)
      · exact absurd h9 (nI_ge hl9 (by omega))
      refine s_aload_n G dX6_endHour_12 rfl ?_
      refine gX6_22 G dX6_endHour_13 ?_
      refine s_iconst (v := 3) G dX6_endHour_16 (by decide) ?_
      refine s_iload_n G dX6_endHour_17 rfl ?_
      refine s_imul G dX6_endHour_18 ?_
      refine s_iconst (v := 0) G dX6_endHour_19 (by decide) ?_
      refine s_iadd G dX6_endHour_20 ?_
      refine al_19 G (ix3 l 0) (by omega) dX6_endHour_21 ?_
      rw [(hS1.bde hx).1]
      refine s_istore_n G dX6_endHour_22 (by decide) rfl ?_
      refine s_aload_n G dX6_endHour_23 rfl ?_
      refine s_iload_n G dX6_endHour_24 rfl ?_
      refine s_bipush (v := 6) G dX6_endHour_25 (by decide) ?_
      refine s_aload_n G dX6_endHour_27 rfl ?_
      refine s_iload_n G dX6_endHour_28 rfl ?_
      refine s_bipush (v := 6) G dX6_endHour_29 (by decide) ?_
      refine iX6_80 G (r_vi (k := 6) hx16 (by decide)) (by decide) (Nat.le_of_ble_eq_true rfl) dX6_endHour_31 (fun r9 M9 hp9 => ?_)
      obtain ⟨rfl, rfl⟩ := hp9
      rw [hS1.v6 hxv]
      refine s_iconst (v := 3) G dX6_endHour_34 (by decide) ?_
      refine s_iadd G dX6_endHour_35 ?_
      refine s_iload_n G dX6_endHour_36 rfl ?_
      refine s_isub G dX6_endHour_37 ?_
      refine iX6_83 G (r_setVi (k := 6) hx16 (by decide) (g1.i 4 x.1 5 + 3 - nI l)) (by decide) (Nat.le_of_ble_eq_true rfl) dX6_endHour_38 (fun r9 M9 hp9 => ?_)
      obtain ⟨rfl, rfl⟩ := hp9
      rw [show g1.i 4 x.1 5 + 3 - nI l = g1.i 4 x.1 5 + (3 - nI l) by rw [Int32.sub_eq_add_neg, Int32.sub_eq_add_neg, Int32.add_assoc]]
      refine V.abs (fun M2 hM2 => ?_)
      obtain ⟨g2, hg2⟩ : ∃ g2, g2 = g1.set 4 x.1 5 (g1.i 4 x.1 5 + (3 - nI l)) := ⟨_, rfl⟩
      have hS2 : SimR M2 g2 w := by rw [hM2, hg2]; exact hS1.sv6
      have hF2 : M2 (14, 0, 0) = N (14, 0, 0) := by rw [hM2, up_ne (by simp)]; exact hF1
      have e0 : g2.i 4 x.1 0 = g1.i 4 x.1 0 := by rw [hg2]; simp [gi_set]
      have hv2 : x.1 < g2.nv := by rw [hg2]; exact hxv
      have hm1 : mark1 g1 l x = g2.set 4 x.1 0 (if l = 0 then g1.i 4 x.1 0 + 5 else g1.i 4 x.1 0) := by rw [hg2]; rfl
      clear hM2
      have next : ∀ M3 : Mem, SimR M3 (mark1 g1 l x) w → M3 (14, 0, 0) = N (14, 0, 0) → V κ idsR 3 M3 [some (.ref (κ.E.ad (14, 0, 0))), some (.int (nI l)), some (.int (nI x.1))] [] 59 := by
        intro M3 hS3 hF3
        refine V.drop1 2 ?_
        refine s_iinc G dX6_endHour_59 rfl (by decide) rfl (nI_1 l) ?_
        refine s_goto G 2 dX6_endHour_62 (by decide) ?_
        exact ih (l + 1) _ M3 (by omega) hS3 hI1.mark1 hn1 hF3 hm
      refine s_iload_n G dX6_endHour_41 rfl ?_
      refine s_if_ne G 59 dX6_endHour_42 (by decide) (fun h42 => ?_) (fun h42 => ?_)
      · have hl0 : l ≠ 0 := fun q => h42 (by rw [q]; rfl)
        refine next M2 ?_ hF2
        rw [hm1, if_neg hl0]
        refine hS2.congr rfl (fun kd a k => ?_) (fun b hb => rfl)
        rw [gi_set]
        split
        · rename_i q; obtain ⟨rfl, rfl, rfl⟩ := q; exact e0.symm
        · rfl
      · have hl0 : l = 0 := nI_inj (b := 0) (by omega) (by decide) h42
        refine s_aload_n G dX6_endHour_45 rfl ?_
        refine s_iload_n G dX6_endHour_46 rfl ?_
        refine s_iconst (v := 0) G dX6_endHour_47 (by decide) ?_
        refine s_aload_n G dX6_endHour_48 rfl ?_
        refine s_iload_n G dX6_endHour_49 rfl ?_
        refine s_iconst (v := 0) G dX6_endHour_50 (by decide) ?_
        refine iX6_80 G (r_vi (k := 0) hx16 (by decide)) (by decide) (Nat.le_of_ble_eq_true rfl) dX6_endHour_51 (fun r9 M9 hp9 => ?_)
        obtain ⟨rfl, rfl⟩ := hp9
        rw [hS2.v0 hv2, e0]
        refine s_iconst (v := 5) G dX6_endHour_54 (by decide) ?_
        refine s_iadd G dX6_endHour_55 ?_
        refine iX6_83 G (r_setVi (k := 0) hx16 (by decide) (g1.i 4 x.1 0 + 5)) (by decide) (Nat.le_of_ble_eq_true rfl) dX6_endHour_56 (fun r9 M9 hp9 => ?_)
        obtain ⟨rfl, rfl⟩ := hp9
        exact next _ (by rw [hm1, if_pos hl0]; exact hS2.sv0) (by rw [up_ne (by simp)]; exact hF2)
  refine s_iconst (v := 0) G dX6_endHour_0 (by decide) ?_
  refine s_istore_n G dX6_endHour_1 (by decide) rfl ?_
  exact mk g.bd.length 0 g N (by omega) hS hI rfl rfl (by rw [List.drop_zero])
end RR
