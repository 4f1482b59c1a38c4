/-! ===== the law's green: the board ===== -/
section WrP
/-- x comes in ahead of the first with fewer points -/
def insR (x : Ln) : List Ln → List Ln
  | [] => [x]
  | y :: ys => if y.2.2 < x.2.2 then x :: y :: ys else y :: insR x ys
theorem insR_eq (x : Ln) : ∀ L : List Ln, insR x L = L.takeWhile (fun y => decide (x.2.2 ≤ y.2.2)) ++ x :: L.dropWhile (fun y => decide (x.2.2 ≤ y.2.2))
  | [] => rfl
  | y :: ys => by
    unfold insR
    by_cases h : y.2.2 < x.2.2
    · rw [if_pos h, List.takeWhile_cons, List.dropWhile_cons, if_neg (by simpa using i_nle.mpr h), if_neg (by simpa using i_nle.mpr h)]
      rfl
    · rw [if_neg h, List.takeWhile_cons, List.dropWhile_cons, if_pos (by simpa using i_nlt.mp h), if_pos (by simpa using i_nlt.mp h), insR_eq x ys]
      rfl
theorem insR_len (x : Ln) : ∀ L : List Ln, (insR x L).length = L.length + 1
  | [] => rfl
  | y :: ys => by
    unfold insR
    split
    · rfl
    · simp [insR_len x ys]
theorem bdIns_ins (L : List Ln) (x : Ln) : bdIns L x = (insR x L).take 3 := by rw [insR_eq]; rfl
/-- how far it has come: done or not, what is made by now, what is left -/
def WJ (x : Ln) (L : List Ln) (dn : Int32) (made rest : List Ln) : Prop := (dn = 0 ∧ insR x L = made ++ insR x rest) ∨ (dn = 1 ∧ insR x L = made ++ rest)
end WrP
section Wr
variable {E : EX} {σ σ0 : Sg} {ω : WS} {g : GS} {w : Int32}
theorem RowsAt.ex {lab : Pid} {t n : Nat} {L : List Ln} (h : RowsAt E σ lab t n L) (hn : L.length = n) : ∃ f : Nat → Option Nat, σ t = some (lab, .inl (E.cy 5, pRefs n f)) ∧ (∀ j, j < n → ∃ a i y, f j = some a ∧ σ a = some (i, .inl (E.cy 0, y))) ∧ ∀ (j : Nat) (x : Ln), L[j]? = some x → ∃ a, f j = some a ∧ LineAt E σ a x := by
  obtain ⟨f, h1, h0, h2⟩ := h
  refine ⟨f, h1, fun j hj => ?_, h2⟩
  obtain ⟨a, e1, F, e2, -⟩ := h2 j _ (List.getElem?_eq_getElem (by omega))
  exact ⟨a, _, _, e1, e2⟩
theorem LineAt.new {a q : Nat} {x : Ln} {i : Pid} {e : va_E} (h : LineAt E σ a x) (hq : σ q = none) : LineAt E (sup σ q i e) a x := h.kp (fun e hs => sup_new hq hs)
theorem RowsAt.new {lab : Pid} {t n q : Nat} {L : List Ln} {i : Pid} {e : va_E} (h : RowsAt E σ lab t n L) (hq : σ q = none) : RowsAt E (sup σ q i e) lab t n L := h.kp (fun e hs => sup_new hq hs) (fun a e hs => sup_new hq hs)
/-- one line more -/
theorem RowsAt.more {t n q r : Nat} {L : List Ln} {x : Ln} {f : Nat → Option Nat} {lab : Pid} (h : RowsAt E σ lab t n L) (hf : σ t = some (lab, .inl (E.cy 5, pRefs n f))) (hn : L.length = n) (hx : LineAt E σ r x) (hq : σ q = none) : RowsAt E (sup σ q (51, 0, 0) (.inl (E.cy 5, pRefs (n + 1) (fun j => if j < n then f j else if j = n then some r else none)))) (51, 0, 0) q (n + 1) (L ++ [x]) := by
  obtain ⟨f2, h1, h0, h2⟩ := h
  have hff : f2 = f := by
    rw [hf] at h1
    cases h1
    rfl
  subst hff
  refine ⟨_, sup_at, by simp; omega, fun j z hz => ?_⟩
  by_cases hj : j < L.length
  · rw [List.getElem?_append_left hj] at hz
    obtain ⟨a, e1, e2⟩ := h2 j z hz
    exact ⟨a, by rw [if_pos (by omega)]; exact e1, e2.new hq⟩
  · have hj2 := (List.getElem?_eq_some_iff.mp hz).1
    simp at hj2
    have : j = L.length := by omega
    subst this
    simp at hz
    subst hz
    exact ⟨r, by rw [if_neg (by omega), if_pos hn], hx.new hq⟩
theorem m_write (hL : LayS E σ ω) (hG : SimG ω g w) (hb3 : g.bd.length ≤ 3) {v b : Nat} {p : Int32} : RetS E yX6_write cX6_write 10 none 1 23 13 48 [.ref (ω.ad (21, 0, 0)), .int (nI v), .int (nI b), .int p] σ (fun r σ' => r = none ∧ SPost E σ ω (g.setbd (bdIns g.bd (v, b, p))) w σ') := by
  have hbd := hG.bd
  have hnl := hG.nl
  refine RetS_of RX6 (by decide) rfl [some (.ref (ω.ad (21, 0, 0))), some (.int (nI v)), some (.int (nI b)), some (.int p), none, none, none, none, none, none] rfl (Nat.le_of_ble_eq_true rfl) (fun κ hE G E9 hr => ?_)
  subst hE
  have hc9 := E9.2.2.1
  have hd9 := E9.2.2.2
  have hk : KpS σ σ := KpS.rf
  have hst : Stb ω ω := Stb.rf
  refine h_iconst (v := 0) G dX6_write_0 (by decide) ?_
  refine h_newA G (51, 0, 0) (k := 0) rfl (by omega) (by decide +kernel) (by omega) (by omega) dX6_write_1 (fun q1 hq1 => ?_)
  refine HV.wid (c2 := 1) (d2 := 0) (by omega) (by omega) ?_
  have hL0 := hL
  replace hk := hk.new (i := (51, 0, 0)) (e := (.inl (κ.E.cy 5, pRefs 0 (fun _ => none)))) hq1
  replace hL := hL.new (i := (51, 0, 0)) (e := (.inl (κ.E.cy 5, pRefs 0 (fun _ => none)))) hq1
  have hR : RowsAt κ.E (sup σ q1 (51, 0, 0) (.inl (κ.E.cy 5, pRefs 0 (fun _ => none)))) (51, 0, 0) q1 0 [] := ⟨_, sup_at, Nat.le_refl _, fun j x hx => by cases hx⟩
  refine h_astore G dX6_write_4 (by decide) rfl ?_
  refine h_iconst (v := 0) G dX6_write_6 (by decide) ?_
  refine h_istore G dX6_write_7 (by decide) rfl ?_
  refine h_aload_n G dX6_write_9 rfl ?_
  refine wgX6_35 G hL dX6_write_10 ?_
  refine h_astore G dX6_write_13 (by decide) rfl ?_
  refine h_aload G dX6_write_15 rfl ?_
  refine wle_26 G hL dX6_write_17 ?_
  rw [hnl]
  refine h_istore G dX6_write_18 (by decide) rfl ?_
  refine h_iconst (v := 0) G dX6_write_20 (by decide) ?_
  refine h_istore G dX6_write_21 (by decide) rfl ?_
  obtain ⟨x, hx⟩ : ∃ x : Ln, x = (v, b, p) := ⟨_, rfl⟩
  generalize hσ1 : sup σ q1 (51, 0, 0) (.inl (κ.E.cy 5, pRefs 0 (fun _ => none))) = σ1 at hL hk hR ⊢
  have tail : ∀ (σ2 : Sg) (c d t : Nat) (dn : Int32), c ≤ 12 → d ≤ 45 → LayS κ.E σ2 ω → KpS σ σ2 → ∀ made : List Ln, made = insR x g.bd → RowsAt κ.E σ2 (51, 0, 0) t made.length made → HV κ 10 σ2 c d [some (.ref (ω.ad (21, 0, 0))), some (.int (nI v)), some (.int (nI b)), some (.int p), some (.ref t), some (.int dn), none, none, none, none] [] 117 := by
    intro σ2 c d t dn hc hd hL hk made hm hR
    have hml : made.length = g.bd.length + 1 := by rw [hm]; exact insR_len _ _
    refine h_iconst (v := 3) G dX6_write_117 (by decide) ?_
    refine h_aload G dX6_write_118 rfl ?_
    refine w_rlen G hR dX6_write_120 ?_
    refine wiX6_88 G dX6_write_121 (by decide) (Nat.le_of_ble_eq_true rfl) (by omega) (by omega) ?_
    refine h_istore G dX6_write_124 (by decide) rfl ?_
    have hmin : (if nI made.length < 3 then nI made.length else 3) = nI (min made.length 3) := by
      rw [show (3 : Int32) = nI 3 from rfl]
      by_cases q : made.length < 3
      · rw [if_pos (nI_lt q (by decide) : nI made.length < nI 3), Nat.min_eq_left (by omega)]
      · rw [if_neg (fun z => q ((nI_ltI (b := 3) (by omega) (by decide)).mp z)), Nat.min_eq_right (by omega)]
    rw [hmin]
    have hn3 : min made.length 3 ≤ 3 := Nat.min_le_right _ _
    have hnm : min made.length 3 ≤ made.length := Nat.min_le_left _ _
    generalize hmn : min made.length 3 = mn at hn3 hnm ⊢
    refine h_aload_n G dX6_write_126 rfl ?_
    refine h_iload G dX6_write_127 rfl ?_
    refine h_newA G (53, 0, 0) (k := mn) rfl (by omega) (by decide +kernel) (by omega) (by omega) dX6_write_129 (fun q2 hq2 => ?_)
    have hL2 := hL.new (i := (53, 0, 0)) (e := (.inl (κ.E.cy 5, pRefs mn (fun _ => none)))) hq2
    have hR2 := hR.new (i := (53, 0, 0)) (e := (.inl (κ.E.cy 5, pRefs mn (fun _ => none)))) hq2
    refine w_newB G hL2 (tmp := (53, 0, 0)) (by omega) sup_at (by decide) dX6_write_132 (fun σ3 hL3 hk3 hk4 => ?_)
    replace hk := hk3 σ (hk.new hq2) (hk.fresh hq2)
    have hR3 := hR2.kp (fun e hs => hk4 _ _ _ hs (by decide) (by decide)) (fun a e hs => hk4 _ _ _ hs (by decide) (by decide))
    clear hk3 hk4 hR2 hL2 hR hL
    refine h_iconst (v := 0) G dX6_write_135 (by decide) ?_
    refine h_istore G dX6_write_136 (by decide) rfl ?_
    have e21 : ∀ L, (ω.setB q2 mn L).ad (21, 0, 0) = ω.ad (21, 0, 0) := fun L => setB_ad (by simp)
    have loop2 : ∀ m k, k + m = mn → ∀ σ4 : Sg, LayS κ.E σ4 (ω.setB q2 mn (made.take k)) → KpS σ σ4 → RowsAt κ.E σ4 (51, 0, 0) t made.length made → HV κ 10 σ4 (c + 1) (d + mn) [some (.ref (ω.ad (21, 0, 0))), some (.int (nI v)), some (.int (nI b)), some (.int p), some (.ref t), some (.int dn), some (.int (nI mn)), some (.int (nI k)), none, none] [] 138 := by
      intro m
      induction m with
      | zero =>
        intro k hk0 σ4 hL hk hR
        have hk0 : k = mn := by omega
        subst hk0
        refine h_iload G dX6_write_138 rfl ?_
        refine h_iload G dX6_write_140 rfl ?_
        refine h_icmp_ge G 163 dX6_write_142 (by decide) (fun h142 => ?_) (fun h142 => ?_)
        rotate_left
        · exact absurd (nI_le (Nat.le_refl _) (by omega)) h142
        refine h_vret G E9 (by omega) (by omega) hr dX6_write_163 ⟨rfl, _, hL, ?_, hst.setB, hk⟩
        have e : made.take k = bdIns g.bd (v, b, p) := by
          rw [bdIns_ins, ← hx, ← hm, ← hmn]
          by_cases q : made.length < 3
          · rw [Nat.min_eq_left (by omega), List.take_length, List.take_of_length_le (by omega)]
          · rw [Nat.min_eq_right (by omega)]
        have hG2 : SimG (ω.setB q2 k (made.take k)) (g.setbd (made.take k)) w := hG.setB (by simp; omega)
        rw [e] at hG2 ⊢
        exact hG2
      | succ m ih =>
        intro k hk0 σ4 hL hk hR
        have hlt : k < mn := by omega
        have hgt : made[k]? = some made[k] := List.getElem?_eq_getElem (by omega)
        have htl : (made.take k).length = k := by simp; omega
        refine h_iload G dX6_write_138 rfl ?_
        refine h_iload G dX6_write_140 rfl ?_
        refine h_icmp_ge G 163 dX6_write_142 (by decide) (fun h142 => ?_) (fun h142 => ?_)
        · exact absurd h142 (nI_ge hlt (by omega))
        rw [← e21 (made.take k)]
        refine h_aload_n G dX6_write_145 rfl ?_
        refine wgX6_35 G hL dX6_write_146 ?_
        refine h_iload G dX6_write_149 rfl ?_
        refine h_aload G dX6_write_151 rfl ?_
        refine h_iload G dX6_write_153 rfl ?_
        refine w_line G hR (by omega) rfl hgt dX6_write_155 (fun a ha => ?_)
        refine w_addB G hL ha (show nI k = nI (made.take k).length by rw [htl]) (show (made.take k).length < mn by omega) dX6_write_156 (fun σ5 hL5 hk5 => ?_)
        replace hk := KpS.tr hk (fun a i e hs hn => hk5 a i e hs (fun z => hn (by rw [z]; decide)))
        have hR5 := hR.kp (fun e hs => hk5 _ _ _ hs (by decide)) (fun a e hs => hk5 _ _ _ hs (by decide))
        rw [setB_setB] at hL5
        have e4 : (ω.setB q2 mn (made.take k)).ad (26, 0, 0) = q2 := rfl
        have e5 : (ω.setB q2 mn (made.take k)).nl = mn := rfl
        have e6 : (ω.setB q2 mn (made.take k)).bd ++ [made[k]] = made.take (k + 1) := by
          rw [List.take_add_one, hgt]; rfl
        rw [e4, e5, e6] at hL5
        rw [e21]
        refine h_iinc G dX6_write_157 rfl (by decide) rfl (nI_1 k) ?_
        refine h_goto G 138 dX6_write_160 (by decide) ?_
        exact ih (k + 1) (by omega) σ5 hL5 hk hR5
    exact loop2 mn 0 (by omega) _ hL3 hk hR3
  have loop : ∀ m k, k + m = g.bd.length → ∀ (σ2 : Sg) (c d t : Nat) (dn : Int32) (made : List Ln), WJ x g.bd dn made (g.bd.drop k) → made.length ≤ k + 1 → c ≤ 1 + 3 * k → d ≤ 11 * k → LayS κ.E σ2 ω → KpS σ σ2 → RowsAt κ.E σ2 (51, 0, 0) t made.length made → HV κ 10 σ2 c d [some (.ref (ω.ad (21, 0, 0))), some (.int (nI v)), some (.int (nI b)), some (.int p), some (.ref t), some (.int dn), some (.ref (ω.ad (26, 0, 0))), some (.int (nI g.bd.length)), some (.int (nI k)), none] [] 23 := by
    intro m
    induction m with
    | zero =>
      intro k hk0 σ2 c d t dn made hW hml hc hd hL hk hR
      have hk0 : k = g.bd.length := by omega
      subst hk0
      rw [List.drop_length] at hW
      refine h_iload G dX6_write_23 rfl ?_
      refine h_iload G dX6_write_25 rfl ?_
      refine h_icmp_ge G 90 dX6_write_27 (by decide) (fun h27 => ?_) (fun h27 => ?_)
      rotate_left
      · exact absurd (nI_le (Nat.le_refl _) (by omega)) h27
      refine HV.drop1 6 (HV.drop1 7 (HV.drop1 8 ?_))
      refine h_iload G dX6_write_90 rfl ?_
      rcases hW with ⟨rfl, hW⟩ | ⟨rfl, hW⟩
      · refine h_if_ne G 117 dX6_write_92 (by decide) (fun h92 => ?_) (fun h92 => ?_)
        · exact absurd rfl h92
        refine h_aload G dX6_write_95 rfl ?_
        refine h_iconst (v := 3) G dX6_write_97 (by decide) ?_
        refine h_newi G (52, 0, 0) (k := 3) rfl (by decide) (by decide +kernel) (by omega) (by omega) dX6_write_98 (fun ql hql => ?_)
        refine h_dup G dX6_write_100 rfl ?_
        refine h_iconst (v := 0) G dX6_write_101 (by decide) ?_
        refine h_iload_n G dX6_write_102 rfl ?_
        refine h_iast G (n := 3) (j := 0) sup_at rfl (by decide) (by decide) dX6_write_103 ?_
        rw [sup_sup]
        refine h_dup G dX6_write_104 rfl ?_
        refine h_iconst (v := 1) G dX6_write_105 (by decide) ?_
        refine h_iload_n G dX6_write_106 rfl ?_
        refine h_iast G (n := 3) (j := 1) sup_at rfl (by decide) (by decide) dX6_write_107 ?_
        rw [sup_sup]
        refine h_dup G dX6_write_108 rfl ?_
        refine h_iconst (v := 2) G dX6_write_109 (by decide) ?_
        refine h_iload_n G dX6_write_110 rfl ?_
        refine h_iast G (n := 3) (j := 2) sup_at rfl (by decide) (by decide) dX6_write_111 ?_
        rw [sup_sup]
        refine HV.lab (j := (36, 0, 0)) sup_at ?_
        rw [sup_sup]
        have hln : LineAt κ.E (sup σ2 ql (36, 0, 0) (.inl (κ.E.cy 0, pInts 3 (upd (upd (upd (fun _ => 0) 0 (nI v)) 1 (nI b)) 2 p)))) ql x := ⟨_, sup_at, by rw [hx]; simp [upd], by rw [hx]; simp [upd], by rw [hx]; simp [upd]⟩
        have hL3 := hL.new (i := (36, 0, 0)) (e := (.inl (κ.E.cy 0, pInts 3 (upd (upd (upd (fun _ => 0) 0 (nI v)) 1 (nI b)) 2 p)))) hql
        have hR3 := hR.new (i := (36, 0, 0)) (e := (.inl (κ.E.cy 0, pInts 3 (upd (upd (upd (fun _ => 0) 0 (nI v)) 1 (nI b)) 2 p)))) hql
        have hk3 := hk.new (i := (36, 0, 0)) (e := (.inl (κ.E.cy 0, pInts 3 (upd (upd (upd (fun _ => 0) 0 (nI v)) 1 (nI b)) 2 p)))) hql
        generalize sup σ2 ql (36, 0, 0) (.inl (κ.E.cy 0, pInts 3 (upd (upd (upd (fun _ => 0) 0 (nI v)) 1 (nI b)) 2 p))) = σ3 at hln hL3 hR3 hk3 ⊢
        obtain ⟨f, hf1, hf2, -⟩ := hR3.ex rfl
        obtain ⟨F, hF1, -⟩ := id hln
        refine wiX6_84 G (m_more hf1 (by omega) hf2 hF1) (by decide) (Nat.le_of_ble_eq_true rfl) (by omega) (by omega) dX6_write_112 (fun r9 σ9 hp9 => ?_)
        obtain ⟨q, rfl, hq, rfl⟩ := hp9
        refine h_astore G dX6_write_115 (by decide) rfl ?_
        refine tail _ _ _ _ _ (by omega) (by omega) (hL3.new hq) (hk3.new hq) (made ++ [x]) hW.symm ?_
        rw [show (made ++ [x]).length = made.length + 1 by simp]
        exact hR3.more hf1 rfl hln hq
      · refine h_if_ne G 117 dX6_write_92 (by decide) (fun h92 => ?_) (fun h92 => ?_)
        rotate_left
        · exact absurd h92 (by decide)
        refine tail _ _ _ _ _ (by omega) (by omega) hL hk made ?_ hR
        rw [hW, List.append_nil]
    | succ m ih =>
      intro k hk0 σ2 c d t dn made hW hml hc hd hL hk hR
      have hlt : k < g.bd.length := by omega
      obtain ⟨y, hy⟩ : ∃ y, g.bd[k]? = some y := ⟨_, List.getElem?_eq_getElem hlt⟩
      have hdr : g.bd.drop k = y :: g.bd.drop (k + 1) := by
        have := List.drop_eq_getElem_cons hlt
        rw [List.getElem?_eq_getElem hlt] at hy
        cases hy
        exact this
      rw [hdr] at hW
      have app : ∀ (σ3 : Sg) (c d t a : Nat) (dn : Int32) (made : List Ln), WJ x g.bd dn (made ++ [y]) (g.bd.drop (k + 1)) → made.length ≤ k + 1 → c ≤ 3 + 3 * k → d ≤ 11 * k + 6 → LayS κ.E σ3 ω → KpS σ σ3 → RowsAt κ.E σ3 (51, 0, 0) t made.length made → LineAt κ.E σ3 a y → HV κ 10 σ3 c d [some (.ref (ω.ad (21, 0, 0))), some (.int (nI v)), some (.int (nI b)), some (.int p), some (.ref t), some (.int dn), some (.ref (ω.ad (26, 0, 0))), some (.int (nI g.bd.length)), some (.int (nI k)), some (.ref a)] [] 75 := by
        intro σ3 c d t a dn made hW hml hc hd hL hk hR hln
        obtain ⟨f, hf1, hf2, -⟩ := hR.ex rfl
        obtain ⟨F, hF1, -⟩ := id hln
        refine h_aload G dX6_write_75 rfl ?_
        refine h_aload G dX6_write_77 rfl ?_
        refine wiX6_84 G (m_more hf1 (by omega) hf2 hF1) (by decide) (Nat.le_of_ble_eq_true rfl) (by omega) (by omega) dX6_write_79 (fun r9 σ9 hp9 => ?_)
        obtain ⟨q, rfl, hq, rfl⟩ := hp9
        refine h_astore G dX6_write_82 (by decide) rfl ?_
        refine h_iinc G dX6_write_84 rfl (by decide) rfl (nI_1 k) ?_
        refine h_goto G 23 dX6_write_87 (by decide) ?_
        refine HV.drop1 9 (ih (k + 1) (by omega) _ _ _ _ _ (made ++ [y]) hW (by simp; omega) (by omega) (by omega) (hL.new hq) (hk.new hq) ?_)
        rw [show (made ++ [y]).length = made.length + 1 by simp]
        exact hR.more hf1 rfl hln hq
      clear ih
      refine h_iload G dX6_write_23 rfl ?_
      refine h_iload G dX6_write_25 rfl ?_
      refine h_icmp_ge G 90 dX6_write_27 (by decide) (fun h27 => ?_) (fun h27 => ?_)
      · exact absurd h27 (nI_ge hlt (by omega))
      refine h_aload G dX6_write_30 rfl ?_
      refine h_iload G dX6_write_32 rfl ?_
      refine w_line G hL.2.2 (by have := hL.2.1.2.2.2.1; omega) rfl (by rw [hbd]; exact hy) dX6_write_34 (fun a hla => ?_)
      refine h_astore G dX6_write_35 (by decide) rfl ?_
      refine h_iload G dX6_write_37 rfl ?_
      rcases hW with ⟨rfl, hW⟩ | ⟨rfl, hW⟩
      · refine h_if_ne G 75 dX6_write_39 (by decide) (fun h39 => ?_) (fun h39 => ?_)
        · exact absurd rfl h39
        refine h_aload G dX6_write_42 rfl ?_
        refine h_iconst (v := 2) G dX6_write_44 (by decide) ?_
        refine w_lval G hla (show (2 : Int32) = nI 2 from rfl) (by decide) dX6_write_45 ?_
        refine h_iload_n G dX6_write_46 rfl ?_
        have hins : insR x (y :: g.bd.drop (k + 1)) = if y.2.2 < x.2.2 then x :: y :: g.bd.drop (k + 1) else y :: insR x (g.bd.drop (k + 1)) := rfl
        have hxp : x.2.2 = p := by rw [hx]
        have hmk : made.length = k := by
          have h1 := congrArg List.length hW
          rw [insR_len, List.length_append, insR_len, List.length_cons, List.length_drop] at h1
          omega
        refine h_icmp_ge G 75 dX6_write_47 (by decide) (fun h47 => ?_) (fun h47 => ?_)
        · have h47 : p ≤ y.2.2 := h47
          rw [hins, if_neg (by rw [hxp]; exact i_nlt.mpr h47)] at hW
          refine app σ2 c d t a 0 made (Or.inl ⟨rfl, by rw [hW]; simp⟩) (by omega) (by omega) (by omega) hL hk hR hla
        · have h47 : ¬ p ≤ y.2.2 := h47
          rw [hins, if_pos (by rw [hxp]; exact i_nle.mp h47)] at hW
          have hml2 : made.length ≤ k + 1 := hml
          refine h_aload G dX6_write_50 rfl ?_
          refine h_iconst (v := 3) G dX6_write_52 (by decide) ?_
          refine h_newi G (52, 0, 0) (k := 3) rfl (by decide) (by decide +kernel) (by omega) (by omega) dX6_write_53 (fun ql hql => ?_)
          refine h_dup G dX6_write_55 rfl ?_
          refine h_iconst (v := 0) G dX6_write_56 (by decide) ?_
          refine h_iload_n G dX6_write_57 rfl ?_
          refine h_iast G (n := 3) (j := 0) sup_at rfl (by decide) (by decide) dX6_write_58 ?_
          rw [sup_sup]
          refine h_dup G dX6_write_59 rfl ?_
          refine h_iconst (v := 1) G dX6_write_60 (by decide) ?_
          refine h_iload_n G dX6_write_61 rfl ?_
          refine h_iast G (n := 3) (j := 1) sup_at rfl (by decide) (by decide) dX6_write_62 ?_
          rw [sup_sup]
          refine h_dup G dX6_write_63 rfl ?_
          refine h_iconst (v := 2) G dX6_write_64 (by decide) ?_
          refine h_iload_n G dX6_write_65 rfl ?_
          refine h_iast G (n := 3) (j := 2) sup_at rfl (by decide) (by decide) dX6_write_66 ?_
          rw [sup_sup]
          refine HV.lab (j := (36, 0, 0)) sup_at ?_
          rw [sup_sup]
          have hln : LineAt κ.E (sup σ2 ql (36, 0, 0) (.inl (κ.E.cy 0, pInts 3 (upd (upd (upd (fun _ => 0) 0 (nI v)) 1 (nI b)) 2 p)))) ql x := ⟨_, sup_at, by rw [hx]; simp [upd], by rw [hx]; simp [upd], by rw [hx]; simp [upd]⟩
          have hL3 := hL.new (i := (36, 0, 0)) (e := (.inl (κ.E.cy 0, pInts 3 (upd (upd (upd (fun _ => 0) 0 (nI v)) 1 (nI b)) 2 p)))) hql
          have hR3 := hR.new (i := (36, 0, 0)) (e := (.inl (κ.E.cy 0, pInts 3 (upd (upd (upd (fun _ => 0) 0 (nI v)) 1 (nI b)) 2 p)))) hql
          have hk3 := hk.new (i := (36, 0, 0)) (e := (.inl (κ.E.cy 0, pInts 3 (upd (upd (upd (fun _ => 0) 0 (nI v)) 1 (nI b)) 2 p)))) hql
          have hla4 := hla.new (i := (36, 0, 0)) (e := (.inl (κ.E.cy 0, pInts 3 (upd (upd (upd (fun _ => 0) 0 (nI v)) 1 (nI b)) 2 p)))) hql
          generalize sup σ2 ql (36, 0, 0) (.inl (κ.E.cy 0, pInts 3 (upd (upd (upd (fun _ => 0) 0 (nI v)) 1 (nI b)) 2 p))) = σ3 at hln hL3 hR3 hk3 hla4 ⊢
          obtain ⟨f, hf1, hf2, -⟩ := hR3.ex rfl
          obtain ⟨F, hF1, -⟩ := id hln
          have hla3 : LineAt κ.E σ3 a y := by assumption
          refine wiX6_84 G (m_more hf1 (by omega) hf2 hF1) (by decide) (Nat.le_of_ble_eq_true rfl) (by omega) (by omega) dX6_write_67 (fun r9 σ9 hp9 => ?_)
          obtain ⟨q, rfl, hq, rfl⟩ := hp9
          refine h_astore G dX6_write_70 (by decide) rfl ?_
          refine h_iconst (v := 1) G dX6_write_72 (by decide) ?_
          refine h_istore G dX6_write_73 (by decide) rfl ?_
          refine app _ _ _ _ a 1 (made ++ [x]) (Or.inr ⟨rfl, by rw [hW]; simp⟩) ?_ (by omega) (by omega) (hL3.new hq) (hk3.new hq) ?_ (hla3.new hq)
          · simp; omega
          · rw [show (made ++ [x]).length = made.length + 1 by simp]
            exact hR3.more hf1 rfl hln hq
      · refine h_if_ne G 75 dX6_write_39 (by decide) (fun h39 => ?_) (fun h39 => ?_)
        rotate_left
        · exact absurd h39 (by decide)
        refine app σ2 c d t a 1 made (Or.inr ⟨rfl, by rw [hW]; simp⟩) (by omega) (by omega) (by omega) hL hk hR hla
  exact loop g.bd.length 0 (by omega) σ1 1 0 q1 0 [] (Or.inl ⟨rfl, by simp⟩) (by simp) (by omega) (by omega) hL hk hR
end Wr
