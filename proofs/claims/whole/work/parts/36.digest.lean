/-! ===== the digest ===== -/
def mix (d : Int64) (x : Int32) : Int64 := d * 31 + x.toInt64
def foldN (f : Nat → Int32) (d : Int64) : Nat → Int64
  | 0 => d
  | n + 1 => mix (foldN f d n) (f n)
def dgB (g : GS) (d : Int64) (b : Nat) : Int64 := foldN (fun i => nI ((g.q b).getD i 0)) (foldN (bfc g b) d 10) (g.q b).length
def dgBs (g : GS) (d : Int64) : Nat → Int64
  | 0 => d
  | n + 1 => dgB g (dgBs g d n) n
def dgHs (g : GS) (d : Int64) : Nat → Int64
  | 0 => d
  | n + 1 => foldN (fun k => g.i 3 n k) (dgHs g d n) 3
def dgV (g : GS) (d : Int64) (v : Nat) : Int64 := foldN (fun b => g.i 10 v b) (foldN (vfc g v) d 8) g.nb
def dgVs (g : GS) (d : Int64) : Nat → Int64
  | 0 => d
  | n + 1 => dgV g (dgVs g d n) n
def dgLs (g : GS) (d : Int64) : Nat → Int64
  | 0 => d
  | n + 1 => foldN (lfc (g.bd.getD n (0, 0, 0))) (dgLs g d n) 3
def dgs (g : GS) : Int64 := dgLs g (dgVs g (dgHs g (dgBs g (foldN (tot g) 653 11) g.nb) g.nh) g.nv) g.bd.length
section DgC
variable {E : EX} {M : Mem} {g : GS}
theorem c_mixed (d : Int64) (x : Int32) : Ret E idsC yX5_mixed cX5_mixed 3 (some .long) 0 0 [.long d, .int x] M (fun r M' => r = some (.long (mix d x)) ∧ M = M') := by
  refine Ret_of_V RX5 (by decide) rfl idsC_nd [some (.long d), none, some (.int x)] rfl (Nat.le_of_ble_eq_true rfl) (fun κ hE G E9 hr => ?_)
  subst hE
  refine s_lload_n G dX5_mixed_0 rfl ?_
  refine s_ldc2 (v := 31) G dX5_mixed_1 (by decide +kernel) ?_
  refine s_lmul G dX5_mixed_4 ?_
  refine s_iload_n G dX5_mixed_5 rfl ?_
  refine s_i2l G dX5_mixed_6 ?_
  refine s_ladd G dX5_mixed_7 ?_
  refine s_lret G E9 hr dX5_mixed_8 ⟨rfl, rfl⟩
theorem c_withBooth {b : Nat} (hS : SimC 0 M g) (hI : Inv g) (hb : b < g.nb) (d : Int64) : Ret E idsC yX5_withBooth cX5_withBooth 8 (some .long) 2 44 [.ref (E.ad (0, 0, 0)), .long d, .int (nI b)] M (fun r M' => r = some (.long (dgB g d b)) ∧ M = M') := by
  have h0 : 0 < 2 := by decide
  have hb8 : b < 8 := Nat.lt_of_lt_of_le hb hI.nb8
  have hl16 := hI.ql16 hb
  refine Ret_of_V RX5 (by decide) rfl idsC_nd [some (.ref (E.ad (0, 0, 0))), some (.long d), none, some (.int (nI b)), none, none, none, none] rfl (Nat.le_of_ble_eq_true rfl) (fun κ hE G E9 hr => ?_)
  subst hE
  have l2 : ∀ n i, i + n = (g.q b).length → V κ idsC 8 M [some (.ref (κ.E.ad (0, 0, 0))), some (.long d), none, some (.int (nI b)), some (.long (foldN (fun i => nI ((g.q b).getD i 0)) (foldN (bfc g b) d 10) i)), none, some (.ref (κ.E.ad (2, 0, b))), some (.int (nI i))] [] 50 := by
    intro n
    induction n with
    | zero =>
      intro i hi
      have hi : i = (g.q b).length := by omega
      subst hi
      refine s_iload G dX5_withBooth_50 rfl ?_
      refine s_aload G dX5_withBooth_52 rfl ?_
      refine gX5_108 G (by assumption) (by assumption) dX5_withBooth_54 ?_
      rw [hS.ql hb]
      refine s_icmp_ge G 81 dX5_withBooth_57 (by decide) (fun h57 => ?_) (fun h57 => ?_)
      · refine s_lload G dX5_withBooth_81 rfl ?_
        refine s_lret G E9 hr dX5_withBooth_83 ⟨rfl, rfl⟩
      · exact absurd (Int32.le_refl _) h57
    | succ n ih =>
      intro i hi
      have hlt : i < (g.q b).length := by omega
      have hi16 : i < 16 := by omega
      have hx : (g.q b)[i]? = some (g.q b)[i] := List.getElem?_eq_getElem hlt
      refine s_iload G dX5_withBooth_50 rfl ?_
      refine s_aload G dX5_withBooth_52 rfl ?_
      refine gX5_108 G (by assumption) (by assumption) dX5_withBooth_54 ?_
      rw [hS.ql hb]
      refine s_icmp_ge G 81 dX5_withBooth_57 (by decide) (fun h57 => ?_) (fun h57 => ?_)
      · exact absurd h57 (nI_ge hlt (by omega))
      refine s_lload G dX5_withBooth_60 rfl ?_
      refine s_aload G dX5_withBooth_62 rfl ?_
      refine gX5_116 G (by assumption) (by assumption) dX5_withBooth_64 ?_
      refine s_iload G dX5_withBooth_67 rfl ?_
      refine al_9 G (by assumption) (by assumption) rfl (by first | assumption | omega) dX5_withBooth_69 ?_
      rw [hS.qe hb hx]
      refine iX5_175 G (c_mixed (foldN (fun i => nI ((g.q b).getD i 0)) (foldN (bfc g b) d 10) i) (nI (g.q b)[i])) (by decide) (Nat.le_of_ble_eq_true rfl) dX5_withBooth_70 (fun r9 M9 hp9 => ?_)
      obtain ⟨rfl, rfl⟩ := hp9
      refine s_lstore G dX5_withBooth_73 (by decide) rfl ?_
      refine s_iinc G dX5_withBooth_75 rfl (by decide) rfl (nI_1 i) ?_
      refine s_goto G 50 dX5_withBooth_78 (by decide) ?_
      have := ih (i + 1) (by omega)
      rw [foldN] at this
      simp only [List.getD_eq_getElem?_getD, hx, Option.getD_some] at this ⊢
      exact this
  have l1 : ∀ n i, i + n = 10 → V κ idsC 8 M [some (.ref (κ.E.ad (0, 0, 0))), some (.long d), none, some (.int (nI b)), some (.long (foldN (bfc g b) d i)), none, some (.int (nI i)), none] [] 6 := by
    intro n
    induction n with
    | zero =>
      intro i hi
      have hi : i = 10 := by omega
      subst hi
      refine s_iload G dX5_withBooth_6 rfl ?_
      refine s_bipush (v := 10) G dX5_withBooth_8 (by decide) ?_
      refine s_icmp_ge G 36 dX5_withBooth_10 (by decide) (fun h10 => ?_) (fun h10 => ?_)
      rotate_left
      · exact absurd (by decide) h10
      refine s_aload_n G dX5_withBooth_36 rfl ?_
      refine gX5_10 G dX5_withBooth_37 ?_
      refine gX5_71 G (by assumption) dX5_withBooth_40 ?_
      refine s_iload_n G dX5_withBooth_43 rfl ?_
      refine ar_6 G (by assumption) rfl (by first | assumption | omega) dX5_withBooth_44 ?_
      refine s_astore G dX5_withBooth_45 (by decide) rfl ?_
      refine s_iconst (v := 0) G dX5_withBooth_47 (by decide) ?_
      refine s_istore G dX5_withBooth_48 (by decide) rfl ?_
      exact l2 (g.q b).length 0 (by omega)
    | succ n ih =>
      intro i hi
      have hi10 : i < 10 := by omega
      refine s_iload G dX5_withBooth_6 rfl ?_
      refine s_bipush (v := 10) G dX5_withBooth_8 (by decide) ?_
      refine s_icmp_ge G 36 dX5_withBooth_10 (by decide) (fun h10 => ?_) (fun h10 => ?_)
      · exact absurd h10 (nI_ge (a := i) (b := 10) hi10 (by decide))
      refine s_lload G dX5_withBooth_13 rfl ?_
      refine s_aload_n G dX5_withBooth_15 rfl ?_
      refine gX5_10 G dX5_withBooth_16 ?_
      refine s_iload_n G dX5_withBooth_19 rfl ?_
      refine s_iload G dX5_withBooth_20 rfl ?_
      refine iX5_105 G (by assumption) (c_boothFact h0 hS hI hb hi10) (by decide) (Nat.le_of_ble_eq_true rfl) dX5_withBooth_22 (fun r9 M9 hp9 => ?_)
      obtain ⟨rfl, rfl⟩ := hp9
      refine iX5_175 G (c_mixed (foldN (bfc g b) d i) (bfc g b i)) (by decide) (Nat.le_of_ble_eq_true rfl) dX5_withBooth_25 (fun r9 M9 hp9 => ?_)
      obtain ⟨rfl, rfl⟩ := hp9
      refine s_lstore G dX5_withBooth_28 (by decide) rfl ?_
      refine s_iinc G dX5_withBooth_30 rfl (by decide) rfl (nI_1 i) ?_
      refine s_goto G 6 dX5_withBooth_33 (by decide) ?_
      exact ih (i + 1) (by omega)
  refine s_lload_n G dX5_withBooth_0 rfl ?_
  refine s_lstore G dX5_withBooth_1 (by decide) rfl ?_
  refine s_iconst (v := 0) G dX5_withBooth_3 (by decide) ?_
  refine s_istore G dX5_withBooth_4 (by decide) rfl ?_
  exact l1 10 0 (by decide)
theorem c_withVisitor {v : Nat} (hS : SimC 0 M g) (hI : Inv g) (hv : v < g.nv) (d : Int64) : Ret E idsC yX5_withVisitor cX5_withVisitor 7 (some .long) 2 41 [.ref (E.ad (0, 0, 0)), .long d, .ref (E.ad (4, 0, v))] M (fun r M' => r = some (.long (dgV g d v)) ∧ M = M') := by
  have h0 : 0 < 2 := by decide
  have hb8 := hI.nb8
  have hv16 : v < 16 := Nat.lt_of_lt_of_le hv hI.nv16
  refine Ret_of_V RX5 (by decide) rfl idsC_nd [some (.ref (E.ad (0, 0, 0))), some (.long d), none, some (.ref (E.ad (4, 0, v))), none, none, none] rfl (Nat.le_of_ble_eq_true rfl) (fun κ hE G E9 hr => ?_)
  subst hE
  have l2 : ∀ n i, i + n = g.nb → V κ idsC 7 M [some (.ref (κ.E.ad (0, 0, 0))), some (.long d), none, some (.ref (κ.E.ad (4, 0, v))), some (.long (foldN (fun b => g.i 10 v b) (foldN (vfc g v) d 8) i)), none, some (.int (nI i))] [] 35 := by
    intro n
    induction n with
    | zero =>
      intro i hi
      have hi : i = g.nb := by omega
      subst hi
      refine s_iload G dX5_withVisitor_35 rfl ?_
      refine s_aload_n G dX5_withVisitor_37 rfl ?_
      refine gX5_10 G dX5_withVisitor_38 ?_
      refine gX5_164 G (by assumption) dX5_withVisitor_41 ?_
      rw [hS.nb]
      refine s_icmp_ge G 67 dX5_withVisitor_44 (by decide) (fun h44 => ?_) (fun h44 => ?_)
      · refine s_lload G dX5_withVisitor_67 rfl ?_
        refine s_lret G E9 hr dX5_withVisitor_69 ⟨rfl, rfl⟩
      · exact absurd (Int32.le_refl _) h44
    | succ n ih =>
      intro i hi
      have hlt : i < g.nb := by omega
      have hi8 : i < 8 := by omega
      refine s_iload G dX5_withVisitor_35 rfl ?_
      refine s_aload_n G dX5_withVisitor_37 rfl ?_
      refine gX5_10 G dX5_withVisitor_38 ?_
      refine gX5_164 G (by assumption) dX5_withVisitor_41 ?_
      rw [hS.nb]
      refine s_icmp_ge G 67 dX5_withVisitor_44 (by decide) (fun h44 => ?_) (fun h44 => ?_)
      · exact absurd h44 (nI_ge hlt (by omega))
      refine s_lload G dX5_withVisitor_47 rfl ?_
      refine s_aload_n G dX5_withVisitor_49 rfl ?_
      refine gX5_124 G (by assumption) (by assumption) dX5_withVisitor_50 ?_
      refine s_iload G dX5_withVisitor_53 rfl ?_
      refine al_10 G (by assumption) (by assumption) rfl (by first | assumption | omega) dX5_withVisitor_55 ?_
      rw [hS.pr hv hi8]
      refine iX5_175 G (c_mixed (foldN (fun b => g.i 10 v b) (foldN (vfc g v) d 8) i) (g.i 10 v i)) (by decide) (Nat.le_of_ble_eq_true rfl) dX5_withVisitor_56 (fun r9 M9 hp9 => ?_)
      obtain ⟨rfl, rfl⟩ := hp9
      refine s_lstore G dX5_withVisitor_59 (by decide) rfl ?_
      refine s_iinc G dX5_withVisitor_61 rfl (by decide) rfl (nI_1 i) ?_
      refine s_goto G 35 dX5_withVisitor_64 (by decide) ?_
      exact ih (i + 1) (by omega)
  have l1 : ∀ n i, i + n = 8 → V κ idsC 7 M [some (.ref (κ.E.ad (0, 0, 0))), some (.long d), none, some (.ref (κ.E.ad (4, 0, v))), some (.long (foldN (vfc g v) d i)), none, some (.int (nI i))] [] 6 := by
    intro n
    induction n with
    | zero =>
      intro i hi
      have hi : i = 8 := by omega
      subst hi
      refine s_iload G dX5_withVisitor_6 rfl ?_
      refine s_bipush (v := 8) G dX5_withVisitor_8 (by decide) ?_
      refine s_icmp_ge G 32 dX5_withVisitor_10 (by decide) (fun h10 => ?_) (fun h10 => ?_)
      rotate_left
      · exact absurd (by decide) h10
      refine s_iconst (v := 0) G dX5_withVisitor_32 (by decide) ?_
      refine s_istore G dX5_withVisitor_33 (by decide) rfl ?_
      exact l2 g.nb 0 (by omega)
    | succ n ih =>
      intro i hi
      have hi10 : i < 8 := by omega
      refine s_iload G dX5_withVisitor_6 rfl ?_
      refine s_bipush (v := 8) G dX5_withVisitor_8 (by decide) ?_
      refine s_icmp_ge G 32 dX5_withVisitor_10 (by decide) (fun h10 => ?_) (fun h10 => ?_)
      · exact absurd h10 (nI_ge (a := i) (b := 8) hi10 (by decide))
      refine s_lload G dX5_withVisitor_13 rfl ?_
      refine s_aload_n G dX5_withVisitor_15 rfl ?_
      refine s_iload G dX5_withVisitor_16 rfl ?_
      refine iX5_123 G (by assumption) (by assumption) (c_fact4 h0 hS hI hv hi10) (by decide) (Nat.le_of_ble_eq_true rfl) dX5_withVisitor_18 (fun r9 M9 hp9 => ?_)
      obtain ⟨rfl, rfl⟩ := hp9
      refine iX5_175 G (c_mixed (foldN (vfc g v) d i) (vfc g v i)) (by decide) (Nat.le_of_ble_eq_true rfl) dX5_withVisitor_21 (fun r9 M9 hp9 => ?_)
      obtain ⟨rfl, rfl⟩ := hp9
      refine s_lstore G dX5_withVisitor_24 (by decide) rfl ?_
      refine s_iinc G dX5_withVisitor_26 rfl (by decide) rfl (nI_1 i) ?_
      refine s_goto G 6 dX5_withVisitor_29 (by decide) ?_
      exact ih (i + 1) (by omega)
  refine s_lload_n G dX5_withVisitor_0 rfl ?_
  refine s_lstore G dX5_withVisitor_1 (by decide) rfl ?_
  refine s_iconst (v := 0) G dX5_withVisitor_3 (by decide) ?_
  refine s_istore G dX5_withVisitor_4 (by decide) rfl ?_
  exact l1 8 0 (by decide)
theorem c_digest (hS : SimC 0 M g) (hI : Inv g) : Ret E idsC yX5_digest cX5_digest 5 (some .long) 3 71 [.ref (E.ad (0, 0, 0))] M (fun r M' => r = some (.long (dgs g)) ∧ M = M') := by
  have h0 : 0 < 2 := by decide
  have hb8 := hI.nb8
  have hh12 := hI.nh12
  have hv16 := hI.nv16
  have hl3 := hI.bd3
  refine Ret_of_V RX5 (by decide) rfl idsC_nd [some (.ref (E.ad (0, 0, 0))), none, none, none, none] rfl (Nat.le_of_ble_eq_true rfl) (fun κ hE G E9 hr => ?_)
  subst hE
  have ll : ∀ n l, l + n = g.bd.length → ∀ x4 : Option Value, V κ idsC 5 M [some (.ref (κ.E.ad (0, 0, 0))), some (.long (dgLs g (dgVs g (dgHs g (dgBs g (foldN (tot g) 653 11) g.nb) g.nh) g.nv) l)), none, some (.int (nI l)), none] [] 146 := by
    intro n
    induction n with
    | zero =>
      intro l hl x4
      have hl : l = g.bd.length := by omega
      subst hl
      refine s_iload_n G dX5_digest_146 rfl ?_
      refine s_aload_n G dX5_digest_147 rfl ?_
      refine gX5_10 G dX5_digest_148 ?_
      refine gX5_127 G (by assumption) dX5_digest_151 ?_
      refine gX5_131 G (by assumption) dX5_digest_154 ?_
      rw [hS.bdl]
      refine s_icmp_ge G 199 dX5_digest_157 (by decide) (fun h157 => ?_) (fun h157 => ?_)
      · refine s_lload_n G dX5_digest_199 rfl ?_
        refine s_lret G E9 hr dX5_digest_200 ⟨rfl, rfl⟩
      · exact absurd (Int32.le_refl _) h157
    | succ n ih =>
      intro l hl x4
      have hlt : l < g.bd.length := by omega
      have hx : g.bd[l]? = some g.bd[l] := List.getElem?_eq_getElem hlt
      have hgd : g.bd.getD l (0, 0, 0) = g.bd[l] := by simp only [List.getD_eq_getElem?_getD, hx, Option.getD_some]
      refine s_iload_n G dX5_digest_146 rfl ?_
      refine s_aload_n G dX5_digest_147 rfl ?_
      refine gX5_10 G dX5_digest_148 ?_
      refine gX5_127 G (by assumption) dX5_digest_151 ?_
      refine gX5_131 G (by assumption) dX5_digest_154 ?_
      rw [hS.bdl]
      refine s_icmp_ge G 199 dX5_digest_157 (by decide) (fun h157 => ?_) (fun h157 => ?_)
      · exact absurd h157 (nI_ge hlt (by omega))
      generalize hd0 : dgLs g (dgVs g (dgHs g (dgBs g (foldN (tot g) 653 11) g.nb) g.nh) g.nv) l = d0
      have lk : ∀ n k, k + n = 3 → V κ idsC 5 M [some (.ref (κ.E.ad (0, 0, 0))), some (.long (foldN (lfc g.bd[l]) d0 k)), none, some (.int (nI l)), some (.int (nI k))] [] 163 := by
        intro n
        induction n with
        | zero =>
          intro k hk
          have hk : k = 3 := by omega
          subst hk
          refine s_iload G dX5_digest_163 rfl ?_
          refine s_iconst (v := 3) G dX5_digest_165 (by decide) ?_
          refine s_icmp_ge G 193 dX5_digest_166 (by decide) (fun h166 => ?_) (fun h166 => ?_)
          rotate_left
          · exact absurd (by decide) h166
          refine V.drop1 4 ?_
          refine s_iinc G dX5_digest_193 rfl (by decide) rfl (nI_1 l) ?_
          refine s_goto G 146 dX5_digest_196 (by decide) ?_
          have := ih (l + 1) (by omega) none
          rw [dgLs, hd0, hgd] at this
          exact this
        | succ n ik =>
          intro k hk
          have hk3 : k < 3 := by omega
          refine s_iload G dX5_digest_163 rfl ?_
          refine s_iconst (v := 3) G dX5_digest_165 (by decide) ?_
          refine s_icmp_ge G 193 dX5_digest_166 (by decide) (fun h166 => ?_) (fun h166 => ?_)
          · exact absurd h166 (nI_ge (a := k) (b := 3) hk3 (by decide))
          refine s_lload_n G dX5_digest_169 rfl ?_
          refine s_aload_n G dX5_digest_170 rfl ?_
          refine gX5_10 G dX5_digest_171 ?_
          refine gX5_127 G (by assumption) dX5_digest_174 ?_
          refine s_iload_n G dX5_digest_177 rfl ?_
          refine s_iload G dX5_digest_178 rfl ?_
          refine iX5_138 G (by assumption) (c_fact1 h0 hS hI hx hk3) (by decide) (Nat.le_of_ble_eq_true rfl) dX5_digest_180 (fun r9 M9 hp9 => ?_)
          obtain ⟨rfl, rfl⟩ := hp9
          refine iX5_175 G (c_mixed (foldN (lfc g.bd[l]) d0 k) (lfc g.bd[l] k)) (by decide) (Nat.le_of_ble_eq_true rfl) dX5_digest_183 (fun r9 M9 hp9 => ?_)
          obtain ⟨rfl, rfl⟩ := hp9
          refine s_lstore_n G dX5_digest_186 (by decide) rfl ?_
          refine s_iinc G dX5_digest_187 rfl (by decide) rfl (nI_1 k) ?_
          refine s_goto G 163 dX5_digest_190 (by decide) ?_
          exact ik (k + 1) (by omega)
      refine s_iconst (v := 0) G dX5_digest_160 (by decide) ?_
      refine s_istore G dX5_digest_161 (by decide) rfl ?_
      exact lk 3 0 (by decide)
  have lv : ∀ n v, v + n = g.nv → V κ idsC 5 M [some (.ref (κ.E.ad (0, 0, 0))), some (.long (dgVs g (dgHs g (dgBs g (foldN (tot g) 653 11) g.nb) g.nh) v)), none, some (.int (nI v)), none] [] 112 := by
    intro n
    induction n with
    | zero =>
      intro v hv
      have hv : v = g.nv := by omega
      subst hv
      refine s_iload_n G dX5_digest_112 rfl ?_
      refine s_aload_n G dX5_digest_113 rfl ?_
      refine gX5_10 G dX5_digest_114 ?_
      refine gX5_185 G (by assumption) dX5_digest_117 ?_
      rw [hS.nv]
      refine s_icmp_ge G 144 dX5_digest_120 (by decide) (fun h120 => ?_) (fun h120 => ?_)
      · refine s_iconst (v := 0) G dX5_digest_144 (by decide) ?_
        refine s_istore_n G dX5_digest_145 (by decide) rfl ?_
        exact ll g.bd.length 0 (by omega) none
      · exact absurd (Int32.le_refl _) h120
    | succ n ih =>
      intro v hvn
      have hv : v < g.nv := by omega
      have hv9 : v < 16 := by omega
      refine s_iload_n G dX5_digest_112 rfl ?_
      refine s_aload_n G dX5_digest_113 rfl ?_
      refine gX5_10 G dX5_digest_114 ?_
      refine gX5_185 G (by assumption) dX5_digest_117 ?_
      rw [hS.nv]
      refine s_icmp_ge G 144 dX5_digest_120 (by decide) (fun h120 => ?_) (fun h120 => ?_)
      · exact absurd h120 (nI_ge hv (by omega))
      refine s_aload_n G dX5_digest_123 rfl ?_
      refine s_lload_n G dX5_digest_124 rfl ?_
      refine s_aload_n G dX5_digest_125 rfl ?_
      refine gX5_10 G dX5_digest_126 ?_
      refine gX5_85 G (by assumption) dX5_digest_129 ?_
      refine s_iload_n G dX5_digest_132 rfl ?_
      refine ar_8 G (by assumption) rfl (by first | assumption | omega) dX5_digest_133 ?_
      refine iX5_188 G (c_withVisitor hS hI hv (dgVs g (dgHs g (dgBs g (foldN (tot g) 653 11) g.nb) g.nh) v)) (by decide) (Nat.le_of_ble_eq_true rfl) dX5_digest_134 (fun r9 M9 hp9 => ?_)
      obtain ⟨rfl, rfl⟩ := hp9
      refine s_lstore_n G dX5_digest_137 (by decide) rfl ?_
      refine s_iinc G dX5_digest_138 rfl (by decide) rfl (nI_1 v) ?_
      refine s_goto G 112 dX5_digest_141 (by decide) ?_
      exact ih (v + 1) (by omega)
  have lh : ∀ n h, h + n = g.nh → V κ idsC 5 M [some (.ref (κ.E.ad (0, 0, 0))), some (.long (dgHs g (dgBs g (foldN (tot g) 653 11) g.nb) h)), none, some (.int (nI h)), none] [] 59 := by
    intro n
    induction n with
    | zero =>
      intro h hh
      have hh : h = g.nh := by omega
      subst hh
      refine s_iload_n G dX5_digest_59 rfl ?_
      refine s_aload_n G dX5_digest_60 rfl ?_
      refine gX5_10 G dX5_digest_61 ?_
      refine gX5_182 G (by assumption) dX5_digest_64 ?_
      rw [hS.nh]
      refine s_icmp_ge G 110 dX5_digest_67 (by decide) (fun h67 => ?_) (fun h67 => ?_)
      · refine s_iconst (v := 0) G dX5_digest_110 (by decide) ?_
        refine s_istore_n G dX5_digest_111 (by decide) rfl ?_
        exact lv g.nv 0 (by omega)
      · exact absurd (Int32.le_refl _) h67
    | succ n ih =>
      intro h hhn
      have hh : h < g.nh := by omega
      have hh9 : h < 12 := by omega
      refine s_iload_n G dX5_digest_59 rfl ?_
      refine s_aload_n G dX5_digest_60 rfl ?_
      refine gX5_10 G dX5_digest_61 ?_
      refine gX5_182 G (by assumption) dX5_digest_64 ?_
      rw [hS.nh]
      refine s_icmp_ge G 110 dX5_digest_67 (by decide) (fun h67 => ?_) (fun h67 => ?_)
      · exact absurd h67 (nI_ge hh (by omega))
      generalize hd0 : dgHs g (dgBs g (foldN (tot g) 653 11) g.nb) h = d0
      have lk : ∀ n k, k + n = 3 → V κ idsC 5 M [some (.ref (κ.E.ad (0, 0, 0))), some (.long (foldN (fun k => g.i 3 h k) d0 k)), none, some (.int (nI h)), some (.int (nI k))] [] 73 := by
        intro n
        induction n with
        | zero =>
          intro k hk
          have hk : k = 3 := by omega
          subst hk
          refine s_iload G dX5_digest_73 rfl ?_
          refine s_iconst (v := 3) G dX5_digest_75 (by decide) ?_
          refine s_icmp_ge G 104 dX5_digest_76 (by decide) (fun h76 => ?_) (fun h76 => ?_)
          rotate_left
          · exact absurd (by decide) h76
          refine V.drop1 4 ?_
          refine s_iinc G dX5_digest_104 rfl (by decide) rfl (nI_1 h) ?_
          refine s_goto G 59 dX5_digest_107 (by decide) ?_
          have := ih (h + 1) (by omega)
          rw [dgHs, hd0] at this
          exact this
        | succ n ik =>
          intro k hk
          have hk3 : k < 3 := by omega
          refine s_iload G dX5_digest_73 rfl ?_
          refine s_iconst (v := 3) G dX5_digest_75 (by decide) ?_
          refine s_icmp_ge G 104 dX5_digest_76 (by decide) (fun h76 => ?_) (fun h76 => ?_)
          · exact absurd h76 (nI_ge (a := k) (b := 3) hk3 (by decide))
          refine s_lload_n G dX5_digest_79 rfl ?_
          refine s_aload_n G dX5_digest_80 rfl ?_
          refine gX5_10 G dX5_digest_81 ?_
          refine gX5_58 G (by assumption) dX5_digest_84 ?_
          refine s_iload_n G dX5_digest_87 rfl ?_
          refine ar_7 G (by assumption) rfl (by first | assumption | omega) dX5_digest_88 ?_
          refine s_iload G dX5_digest_89 rfl ?_
          refine iX5_120 G (by assumption) (by assumption) (c_fact3 h0 hh9 hk3) (by decide) (Nat.le_of_ble_eq_true rfl) dX5_digest_91 (fun r9 M9 hp9 => ?_)
          obtain ⟨rfl, rfl⟩ := hp9
          rw [hS.he hh hk3]
          refine iX5_175 G (c_mixed (foldN (fun k => g.i 3 h k) d0 k) (g.i 3 h k)) (by decide) (Nat.le_of_ble_eq_true rfl) dX5_digest_94 (fun r9 M9 hp9 => ?_)
          obtain ⟨rfl, rfl⟩ := hp9
          refine s_lstore_n G dX5_digest_97 (by decide) rfl ?_
          refine s_iinc G dX5_digest_98 rfl (by decide) rfl (nI_1 k) ?_
          refine s_goto G 73 dX5_digest_101 (by decide) ?_
          exact ik (k + 1) (by omega)
      refine s_iconst (v := 0) G dX5_digest_70 (by decide) ?_
      refine s_istore G dX5_digest_71 (by decide) rfl ?_
      exact lk 3 0 (by decide)
  have lb : ∀ n b, b + n = g.nb → V κ idsC 5 M [some (.ref (κ.E.ad (0, 0, 0))), some (.long (dgBs g (foldN (tot g) 653 11) b)), none, some (.int (nI b)), none] [] 33 := by
    intro n
    induction n with
    | zero =>
      intro b hb
      have hb : b = g.nb := by omega
      subst hb
      refine s_iload_n G dX5_digest_33 rfl ?_
      refine s_aload_n G dX5_digest_34 rfl ?_
      refine gX5_10 G dX5_digest_35 ?_
      refine gX5_164 G (by assumption) dX5_digest_38 ?_
      rw [hS.nb]
      refine s_icmp_ge G 57 dX5_digest_41 (by decide) (fun h41 => ?_) (fun h41 => ?_)
      · refine s_iconst (v := 0) G dX5_digest_57 (by decide) ?_
        refine s_istore_n G dX5_digest_58 (by decide) rfl ?_
        exact lh g.nh 0 (by omega)
      · exact absurd (Int32.le_refl _) h41
    | succ n ih =>
      intro b hbn
      have hb : b < g.nb := by omega
      refine s_iload_n G dX5_digest_33 rfl ?_
      refine s_aload_n G dX5_digest_34 rfl ?_
      refine gX5_10 G dX5_digest_35 ?_
      refine gX5_164 G (by assumption) dX5_digest_38 ?_
      rw [hS.nb]
      refine s_icmp_ge G 57 dX5_digest_41 (by decide) (fun h41 => ?_) (fun h41 => ?_)
      · exact absurd h41 (nI_ge hb (by omega))
      refine s_aload_n G dX5_digest_44 rfl ?_
      refine s_lload_n G dX5_digest_45 rfl ?_
      refine s_iload_n G dX5_digest_46 rfl ?_
      refine iX5_179 G (c_withBooth hS hI hb (dgBs g (foldN (tot g) 653 11) b)) (by decide) (Nat.le_of_ble_eq_true rfl) dX5_digest_47 (fun r9 M9 hp9 => ?_)
      obtain ⟨rfl, rfl⟩ := hp9
      refine s_lstore_n G dX5_digest_50 (by decide) rfl ?_
      refine s_iinc G dX5_digest_51 rfl (by decide) rfl (nI_1 b) ?_
      refine s_goto G 33 dX5_digest_54 (by decide) ?_
      exact ih (b + 1) (by omega)
  have lt : ∀ n k, k + n = 11 → V κ idsC 5 M [some (.ref (κ.E.ad (0, 0, 0))), some (.long (foldN (tot g) 653 k)), none, some (.int (nI k)), none] [] 6 := by
    intro n
    induction n with
    | zero =>
      intro k hk
      have hk : k = 11 := by omega
      subst hk
      refine s_iload_n G dX5_digest_6 rfl ?_
      refine s_bipush (v := 11) G dX5_digest_7 (by decide) ?_
      refine s_icmp_ge G 31 dX5_digest_9 (by decide) (fun h9 => ?_) (fun h9 => ?_)
      rotate_left
      · exact absurd (by decide) h9
      refine s_iconst (v := 0) G dX5_digest_31 (by decide) ?_
      refine s_istore_n G dX5_digest_32 (by decide) rfl ?_
      exact lb g.nb 0 (by omega)
    | succ n ih =>
      intro k hk
      have hk11 : k < 11 := by omega
      refine s_iload_n G dX5_digest_6 rfl ?_
      refine s_bipush (v := 11) G dX5_digest_7 (by decide) ?_
      refine s_icmp_ge G 31 dX5_digest_9 (by decide) (fun h9 => ?_) (fun h9 => ?_)
      · exact absurd h9 (nI_ge (a := k) (b := 11) hk11 (by decide))
      refine s_lload_n G dX5_digest_12 rfl ?_
      refine s_aload_n G dX5_digest_13 rfl ?_
      refine gX5_10 G dX5_digest_14 ?_
      refine s_iload_n G dX5_digest_17 rfl ?_
      refine iX5_143 G (by assumption) (c_total h0 hS hI hk11) (by decide) (Nat.le_of_ble_eq_true rfl) dX5_digest_18 (fun r9 M9 hp9 => ?_)
      obtain ⟨rfl, rfl⟩ := hp9
      refine iX5_175 G (c_mixed (foldN (tot g) 653 k) (tot g k)) (by decide) (Nat.le_of_ble_eq_true rfl) dX5_digest_21 (fun r9 M9 hp9 => ?_)
      obtain ⟨rfl, rfl⟩ := hp9
      refine s_lstore_n G dX5_digest_24 (by decide) rfl ?_
      refine s_iinc G dX5_digest_25 rfl (by decide) rfl (nI_1 k) ?_
      refine s_goto G 6 dX5_digest_28 (by decide) ?_
      exact ih (k + 1) (by omega)
  refine s_ldc2 (v := 653) G dX5_digest_0 (by decide +kernel) ?_
  refine s_lstore_n G dX5_digest_3 (by decide) rfl ?_
  refine s_iconst (v := 0) G dX5_digest_4 (by decide) ?_
  refine s_istore_n G dX5_digest_5 (by decide) rfl ?_
  exact lt 11 0 (by decide)
end DgC
theorem foldN_lines (g : GS) (d : Int64) (f : Nat → Int32) (hf : ∀ l k, k < 3 → f (3 * l + k) = lfc (g.bd.getD l (0, 0, 0)) k) : ∀ n, foldN f d (3 * n) = dgLs g d n
  | 0 => rfl
  | n + 1 => by
    rw [show 3 * (n + 1) = 3 * n + 1 + 1 + 1 by omega, foldN, foldN, foldN, foldN_lines g d f hf n, dgLs, foldN, foldN, foldN, foldN]
    rw [← hf n 0 (by decide), ← hf n 1 (by decide), ← hf n 2 (by decide)]
    rfl
section DgR
variable {E : EX} {N : Mem} {g : GS}
theorem r_digest (hS0 : SimR N g 0) (hI : Inv g) : Ret E idsR yX6_digest cX6_digest 5 (some .long) 4 89 [.ref (E.ad (14, 0, 0))] N (fun r M' => r = some (.long (dgs g)) ∧ M' (14, 0, 0) 0 = 0 ∧ SimR M' g 0) := by
  have hb8 := hI.nb8
  have hh12 := hI.nh12
  have hv16 := hI.nv16
  have hl3 := hI.bd3
  refine Ret_of_V RX6 (by decide) rfl idsR_nd [some (.ref (E.ad (14, 0, 0))), none, none, none, none] rfl (Nat.le_of_ble_eq_true rfl) (fun κ hE G E9 hr => ?_)
  subst hE
  refine s_aload_n G dX6_digest_0 rfl ?_
  refine s_iconst (v := 0) G dX6_digest_1 (by decide) ?_
  refine pX6_28 G dX6_digest_2 ?_
  refine V.abs (fun M hM => ?_)
  have hS : SimR M g 0 := by rw [hM]; exact hS0.thr
  have hz : M (14, 0, 0) 0 = 0 := by rw [hM, up_at, if_pos rfl]
  clear hM
  obtain ⟨F, hF⟩ : ∃ F : Nat → Int32, F = fun j => M (19, 0, 0) j := ⟨_, rfl⟩
  have ll : ∀ n k, k + n = 3 * g.bd.length → V κ idsR 5 M [some (.ref (κ.E.ad (14, 0, 0))), some (.long (foldN (fun j => lfc (g.bd.getD (j / 3) (0, 0, 0)) (j % 3)) (dgVs g (dgHs g (dgBs g (foldN (tot g) 653 11) g.nb) g.nh) g.nv) k)), none, some (.int (nI k)), none] [] 250 := by
    intro n
    induction n with
    | zero =>
      intro k hk
      have hk : k = 3 * g.bd.length := by omega
      subst hk
      refine s_iload_n G dX6_digest_250 rfl ?_
      refine s_iconst (v := 3) G dX6_digest_251 (by decide) ?_
      refine s_aload_n G dX6_digest_252 rfl ?_
      refine gX6_25 G dX6_digest_253 ?_
      refine s_iconst (v := 4) G dX6_digest_256 (by decide) ?_
      refine al_20 G (show (4 : Int32) = nI 4 from rfl) (by decide) dX6_digest_257 ?_
      rw [hS.n4]
      refine s_imul G dX6_digest_258 ?_
      rw [show (3 : Int32) * nI g.bd.length = nI (3 * g.bd.length) from pk_mul 3 _]
      refine s_icmp_ge G 282 dX6_digest_259 (by decide) (fun h259 => ?_) (fun h259 => ?_)
      rotate_left
      · exact absurd (Int32.le_refl _) h259
      refine s_lload_n G dX6_digest_282 rfl ?_
      refine s_lret G E9 hr dX6_digest_283 ⟨?_, hz, hS⟩
      rw [foldN_lines g _ _ (fun l k hk => by rw [show (3 * l + k) / 3 = l by omega, show (3 * l + k) % 3 = k by omega])]
      rfl
    | succ n ih =>
      intro k hk
      have hk9 : k < 9 := by omega
      have hl : k / 3 < g.bd.length := by omega
      have hx : g.bd[k / 3]? = some g.bd[k / 3] := List.getElem?_eq_getElem hl
      have hgd : g.bd.getD (k / 3) (0, 0, 0) = g.bd[k / 3] := by simp only [List.getD_eq_getElem?_getD, hx, Option.getD_some]
      have hv : M (19, 0, 0) k = lfc (g.bd.getD (k / 3) (0, 0, 0)) (k % 3) := by
        have hb := hS.bde hx
        have hk3 : k % 3 < 3 := Nat.mod_lt _ (by decide)
        have hke : k = 3 * (k / 3) + k % 3 := by omega
        rw [hgd]
        generalize k % 3 = r at hk3 hke
        generalize g.bd[k / 3] = x at hb
        rw [hke]
        match r, hk3 with
        | 0, _ => exact hb.1
        | 1, _ => exact hb.2.1
        | 2, _ => exact hb.2.2
        | r + 3, h => omega
      refine s_iload_n G dX6_digest_250 rfl ?_
      refine s_iconst (v := 3) G dX6_digest_251 (by decide) ?_
      refine s_aload_n G dX6_digest_252 rfl ?_
      refine gX6_25 G dX6_digest_253 ?_
      refine s_iconst (v := 4) G dX6_digest_256 (by decide) ?_
      refine al_20 G (show (4 : Int32) = nI 4 from rfl) (by decide) dX6_digest_257 ?_
      rw [hS.n4]
      refine s_imul G dX6_digest_258 ?_
      rw [show (3 : Int32) * nI g.bd.length = nI (3 * g.bd.length) from pk_mul 3 _]
      refine s_icmp_ge G 282 dX6_digest_259 (by decide) (fun h259 => ?_) (fun h259 => ?_)
      · exact absurd h259 (nI_ge (by omega) (by omega))
      refine s_lload_n G dX6_digest_262 rfl ?_
      refine s_ldc2 (v := 31) G dX6_digest_263 (by decide +kernel) ?_
      refine s_lmul G dX6_digest_266 ?_
      refine s_aload_n G dX6_digest_267 rfl ?_
      refine gX6_22 G dX6_digest_268 ?_
      refine s_iload_n G dX6_digest_271 rfl ?_
      refine al_19 G rfl (by first | assumption | omega) dX6_digest_272 ?_
      rw [hv]
      refine s_i2l G dX6_digest_273 ?_
      refine s_ladd G dX6_digest_274 ?_
      refine s_lstore_n G dX6_digest_275 (by decide) rfl ?_
      refine s_iinc G dX6_digest_276 rfl (by decide) rfl (nI_1 k) ?_
      refine s_goto G 250 dX6_digest_279 (by decide) ?_
      exact ih (k + 1) (by omega)
  have lv : ∀ n v, v + n = g.nv → V κ idsR 5 M [some (.ref (κ.E.ad (14, 0, 0))), some (.long (dgVs g (dgHs g (dgBs g (foldN (tot g) 653 11) g.nb) g.nh) v)), none, some (.int (nI v)), none] [] 165 := by
    intro n
    induction n with
    | zero =>
      intro v hv
      have hv : v = g.nv := by omega
      subst hv
      refine s_iload_n G dX6_digest_165 rfl ?_
      refine s_aload_n G dX6_digest_166 rfl ?_
      refine gX6_42 G dX6_digest_167 ?_
      rw [hS.nv]
      refine s_icmp_ge G 248 dX6_digest_170 (by decide) (fun h170 => ?_) (fun h170 => ?_)
      · refine s_iconst (v := 0) G dX6_digest_248 (by decide) ?_
        refine s_istore_n G dX6_digest_249 (by decide) rfl ?_
        exact ll (3 * g.bd.length) 0 (by omega)
      · exact absurd (Int32.le_refl _) h170
    | succ n ih =>
      intro v hvn
      have hv : v < g.nv := by omega
      have hv9 : v < 16 := by omega
      refine s_iload_n G dX6_digest_165 rfl ?_
      refine s_aload_n G dX6_digest_166 rfl ?_
      refine gX6_42 G dX6_digest_167 ?_
      rw [hS.nv]
      refine s_icmp_ge G 248 dX6_digest_170 (by decide) (fun h170 => ?_) (fun h170 => ?_)
      · exact absurd h170 (nI_ge hv (by omega))
      generalize hd0 : dgVs g (dgHs g (dgBs g (foldN (tot g) 653 11) g.nb) g.nh) v = d0
      have lp : ∀ n b, b + n = g.nb → V κ idsR 5 M [some (.ref (κ.E.ad (14, 0, 0))), some (.long (foldN (fun b => g.i 10 v b) (foldN (vfc g v) d0 8) b)), none, some (.int (nI v)), some (.int (nI b))] [] 207 := by
        intro n
        induction n with
        | zero =>
          intro b hb
          have hb : b = g.nb := by omega
          subst hb
          refine s_iload G dX6_digest_207 rfl ?_
          refine s_aload_n G dX6_digest_209 rfl ?_
          refine gX6_32 G dX6_digest_210 ?_
          rw [hS.nb]
          refine s_icmp_ge G 242 dX6_digest_213 (by decide) (fun h213 => ?_) (fun h213 => ?_)
          rotate_left
          · exact absurd (Int32.le_refl _) h213
          refine V.drop1 4 ?_
          refine s_iinc G dX6_digest_242 rfl (by decide) rfl (nI_1 v) ?_
          refine s_goto G 165 dX6_digest_245 (by decide) ?_
          have := ih (v + 1) (by omega)
          rw [dgVs, hd0] at this
          exact this
        | succ n ik =>
          intro b hbn
          have hb : b < g.nb := by omega
          have hb9 : b < 8 := by omega
          refine s_iload G dX6_digest_207 rfl ?_
          refine s_aload_n G dX6_digest_209 rfl ?_
          refine gX6_32 G dX6_digest_210 ?_
          rw [hS.nb]
          refine s_icmp_ge G 242 dX6_digest_213 (by decide) (fun h213 => ?_) (fun h213 => ?_)
          · exact absurd h213 (nI_ge hb (by omega))
          refine s_lload_n G dX6_digest_216 rfl ?_
          refine s_ldc2 (v := 31) G dX6_digest_217 (by decide +kernel) ?_
          refine s_lmul G dX6_digest_220 ?_
          refine s_aload_n G dX6_digest_221 rfl ?_
          refine gX6_19 G dX6_digest_222 ?_
          refine s_bipush (v := 8) G dX6_digest_225 (by decide) ?_
          refine s_iload_n G dX6_digest_227 rfl ?_
          refine s_imul G dX6_digest_228 ?_
          refine s_iload G dX6_digest_229 rfl ?_
          refine s_iadd G dX6_digest_231 ?_
          refine al_18 G (ix8 v b) (by omega) dX6_digest_232 ?_
          rw [hS.pr hv hv9 hb9]
          refine s_i2l G dX6_digest_233 ?_
          refine s_ladd G dX6_digest_234 ?_
          refine s_lstore_n G dX6_digest_235 (by decide) rfl ?_
          refine s_iinc G dX6_digest_236 rfl (by decide) rfl (nI_1 b) ?_
          refine s_goto G 207 dX6_digest_239 (by decide) ?_
          exact ik (b + 1) (by omega)
      have lk : ∀ n k, k + n = 8 → V κ idsR 5 M [some (.ref (κ.E.ad (14, 0, 0))), some (.long (foldN (vfc g v) d0 k)), none, some (.int (nI v)), some (.int (nI k))] [] 176 := by
        intro n
        induction n with
        | zero =>
          intro k hk
          have hk : k = 8 := by omega
          subst hk
          refine s_iload G dX6_digest_176 rfl ?_
          refine s_bipush (v := 8) G dX6_digest_178 (by decide) ?_
          refine s_icmp_ge G 204 dX6_digest_180 (by decide) (fun h180 => ?_) (fun h180 => ?_)
          rotate_left
          · exact absurd (by decide) h180
          refine s_iconst (v := 0) G dX6_digest_204 (by decide) ?_
          refine s_istore G dX6_digest_205 (by decide) rfl ?_
          exact lp g.nb 0 (by omega)
        | succ n ik =>
          intro k hk
          have hk8 : k < 8 := by omega
          refine s_iload G dX6_digest_176 rfl ?_
          refine s_bipush (v := 8) G dX6_digest_178 (by decide) ?_
          refine s_icmp_ge G 204 dX6_digest_180 (by decide) (fun h180 => ?_) (fun h180 => ?_)
          · exact absurd h180 (nI_ge (a := k) (b := 8) hk8 (by decide))
          refine s_lload_n G dX6_digest_183 rfl ?_
          refine s_ldc2 (v := 31) G dX6_digest_184 (by decide +kernel) ?_
          refine s_lmul G dX6_digest_187 ?_
          refine s_aload_n G dX6_digest_188 rfl ?_
          refine s_iload_n G dX6_digest_189 rfl ?_
          refine s_iload G dX6_digest_190 rfl ?_
          refine iX6_108 G (r_visitorTold hS hI hv hk8) (by decide) (Nat.le_of_ble_eq_true rfl) dX6_digest_192 (fun r9 M9 hp9 => ?_)
          obtain ⟨rfl, rfl⟩ := hp9
          refine s_i2l G dX6_digest_195 ?_
          refine s_ladd G dX6_digest_196 ?_
          refine s_lstore_n G dX6_digest_197 (by decide) rfl ?_
          refine s_iinc G dX6_digest_198 rfl (by decide) rfl (nI_1 k) ?_
          refine s_goto G 176 dX6_digest_201 (by decide) ?_
          exact ik (k + 1) (by omega)
      refine s_iconst (v := 0) G dX6_digest_173 (by decide) ?_
      refine s_istore G dX6_digest_174 (by decide) rfl ?_
      exact lk 8 0 (by decide)
  have lh : ∀ n h, h + n = g.nh → V κ idsR 5 M [some (.ref (κ.E.ad (14, 0, 0))), some (.long (dgHs g (dgBs g (foldN (tot g) 653 11) g.nb) h)), none, some (.int (nI h)), none] [] 119 := by
    intro n
    induction n with
    | zero =>
      intro h hh
      have hh : h = g.nh := by omega
      subst hh
      refine s_iload_n G dX6_digest_119 rfl ?_
      refine s_aload_n G dX6_digest_120 rfl ?_
      refine gX6_39 G dX6_digest_121 ?_
      rw [hS.nh]
      refine s_icmp_ge G 163 dX6_digest_124 (by decide) (fun h124 => ?_) (fun h124 => ?_)
      · refine s_iconst (v := 0) G dX6_digest_163 (by decide) ?_
        refine s_istore_n G dX6_digest_164 (by decide) rfl ?_
        exact lv g.nv 0 (by omega)
      · exact absurd (Int32.le_refl _) h124
    | succ n ih =>
      intro h hhn
      have hh : h < g.nh := by omega
      have hh9 : h < 12 := by omega
      refine s_iload_n G dX6_digest_119 rfl ?_
      refine s_aload_n G dX6_digest_120 rfl ?_
      refine gX6_39 G dX6_digest_121 ?_
      rw [hS.nh]
      refine s_icmp_ge G 163 dX6_digest_124 (by decide) (fun h124 => ?_) (fun h124 => ?_)
      · exact absurd h124 (nI_ge hh (by omega))
      generalize hd0 : dgHs g (dgBs g (foldN (tot g) 653 11) g.nb) h = d0
      have lk : ∀ n k, k + n = 3 → V κ idsR 5 M [some (.ref (κ.E.ad (14, 0, 0))), some (.long (foldN (fun k => g.i 3 h k) d0 k)), none, some (.int (nI h)), some (.int (nI k))] [] 130 := by
        intro n
        induction n with
        | zero =>
          intro k hk
          have hk : k = 3 := by omega
          subst hk
          refine s_iload G dX6_digest_130 rfl ?_
          refine s_iconst (v := 3) G dX6_digest_132 (by decide) ?_
          refine s_icmp_ge G 157 dX6_digest_133 (by decide) (fun h133 => ?_) (fun h133 => ?_)
          rotate_left
          · exact absurd (by decide) h133
          refine V.drop1 4 ?_
          refine s_iinc G dX6_digest_157 rfl (by decide) rfl (nI_1 h) ?_
          refine s_goto G 119 dX6_digest_160 (by decide) ?_
          have := ih (h + 1) (by omega)
          rw [dgHs, hd0] at this
          exact this
        | succ n ik =>
          intro k hk
          have hk3 : k < 3 := by omega
          refine s_iload G dX6_digest_130 rfl ?_
          refine s_iconst (v := 3) G dX6_digest_132 (by decide) ?_
          refine s_icmp_ge G 157 dX6_digest_133 (by decide) (fun h133 => ?_) (fun h133 => ?_)
          · exact absurd h133 (nI_ge (a := k) (b := 3) hk3 (by decide))
          refine s_lload_n G dX6_digest_136 rfl ?_
          refine s_ldc2 (v := 31) G dX6_digest_137 (by decide +kernel) ?_
          refine s_lmul G dX6_digest_140 ?_
          refine s_aload_n G dX6_digest_141 rfl ?_
          refine s_iload_n G dX6_digest_142 rfl ?_
          refine s_iload G dX6_digest_143 rfl ?_
          refine iX6_63 G (r_he hh9 hk3) (by decide) (Nat.le_of_ble_eq_true rfl) dX6_digest_145 (fun r9 M9 hp9 => ?_)
          obtain ⟨rfl, rfl⟩ := hp9
          rw [hS.he hh hk3]
          refine s_i2l G dX6_digest_148 ?_
          refine s_ladd G dX6_digest_149 ?_
          refine s_lstore_n G dX6_digest_150 (by decide) rfl ?_
          refine s_iinc G dX6_digest_151 rfl (by decide) rfl (nI_1 k) ?_
          refine s_goto G 130 dX6_digest_154 (by decide) ?_
          exact ik (k + 1) (by omega)
      refine s_iconst (v := 0) G dX6_digest_127 (by decide) ?_
      refine s_istore G dX6_digest_128 (by decide) rfl ?_
      exact lk 3 0 (by decide)
  have lb : ∀ n b, b + n = g.nb → V κ idsR 5 M [some (.ref (κ.E.ad (14, 0, 0))), some (.long (dgBs g (foldN (tot g) 653 11) b)), none, some (.int (nI b)), none] [] 38 := by
    intro n
    induction n with
    | zero =>
      intro b hb
      have hb : b = g.nb := by omega
      subst hb
      refine s_iload_n G dX6_digest_38 rfl ?_
      refine s_aload_n G dX6_digest_39 rfl ?_
      refine gX6_32 G dX6_digest_40 ?_
      rw [hS.nb]
      refine s_icmp_ge G 117 dX6_digest_43 (by decide) (fun h43 => ?_) (fun h43 => ?_)
      · refine s_iconst (v := 0) G dX6_digest_117 (by decide) ?_
        refine s_istore_n G dX6_digest_118 (by decide) rfl ?_
        exact lh g.nh 0 (by omega)
      · exact absurd (Int32.le_refl _) h43
    | succ n ih =>
      intro b hbn
      have hb : b < g.nb := by omega
      have hl16 := hI.ql16 hb
      refine s_iload_n G dX6_digest_38 rfl ?_
      refine s_aload_n G dX6_digest_39 rfl ?_
      refine gX6_32 G dX6_digest_40 ?_
      rw [hS.nb]
      refine s_icmp_ge G 117 dX6_digest_43 (by decide) (fun h43 => ?_) (fun h43 => ?_)
      · exact absurd h43 (nI_ge hb (by omega))
      generalize hd0 : dgBs g (foldN (tot g) 653 11) b = d0
      have lq : ∀ n i, i + n = (g.q b).length → V κ idsR 5 M [some (.ref (κ.E.ad (14, 0, 0))), some (.long (foldN (fun i => nI ((g.q b).getD i 0)) (foldN (bfc g b) d0 10) i)), none, some (.int (nI b)), some (.int (nI i))] [] 80 := by
        intro n
        induction n with
        | zero =>
          intro i hi
          have hi : i = (g.q b).length := by omega
          subst hi
          refine s_iload G dX6_digest_80 rfl ?_
          refine s_aload_n G dX6_digest_82 rfl ?_
          refine s_iload_n G dX6_digest_83 rfl ?_
          refine iX6_99 G (r_length hS hI hb) (by decide) (Nat.le_of_ble_eq_true rfl) dX6_digest_84 (fun r9 M9 hp9 => ?_)
          obtain ⟨rfl, rfl⟩ := hp9
          refine s_icmp_ge G 111 dX6_digest_87 (by decide) (fun h87 => ?_) (fun h87 => ?_)
          rotate_left
          · exact absurd (Int32.le_refl _) h87
          refine V.drop1 4 ?_
          refine s_iinc G dX6_digest_111 rfl (by decide) rfl (nI_1 b) ?_
          refine s_goto G 38 dX6_digest_114 (by decide) ?_
          have := ih (b + 1) (by omega)
          rw [dgBs, hd0] at this
          exact this
        | succ n ik =>
          intro i hi
          have hlt : i < (g.q b).length := by omega
          have hx : (g.q b)[i]? = some (g.q b)[i] := List.getElem?_eq_getElem hlt
          refine s_iload G dX6_digest_80 rfl ?_
          refine s_aload_n G dX6_digest_82 rfl ?_
          refine s_iload_n G dX6_digest_83 rfl ?_
          refine iX6_99 G (r_length hS hI hb) (by decide) (Nat.le_of_ble_eq_true rfl) dX6_digest_84 (fun r9 M9 hp9 => ?_)
          obtain ⟨rfl, rfl⟩ := hp9
          refine s_icmp_ge G 111 dX6_digest_87 (by decide) (fun h87 => ?_) (fun h87 => ?_)
          · exact absurd h87 (nI_ge hlt (by omega))
          refine s_lload_n G dX6_digest_90 rfl ?_
          refine s_ldc2 (v := 31) G dX6_digest_91 (by decide +kernel) ?_
          refine s_lmul G dX6_digest_94 ?_
          refine s_aload_n G dX6_digest_95 rfl ?_
          refine s_iload_n G dX6_digest_96 rfl ?_
          refine s_iload G dX6_digest_97 rfl ?_
          refine iX6_105 G (r_at hS hI hb hx) (by decide) (Nat.le_of_ble_eq_true rfl) dX6_digest_99 (fun r9 M9 hp9 => ?_)
          obtain ⟨rfl, rfl⟩ := hp9
          refine s_i2l G dX6_digest_102 ?_
          refine s_ladd G dX6_digest_103 ?_
          refine s_lstore_n G dX6_digest_104 (by decide) rfl ?_
          refine s_iinc G dX6_digest_105 rfl (by decide) rfl (nI_1 i) ?_
          refine s_goto G 80 dX6_digest_108 (by decide) ?_
          have := ik (i + 1) (by omega)
          rw [foldN] at this
          simp only [List.getD_eq_getElem?_getD, hx, Option.getD_some] at this ⊢
          exact this
      have lk : ∀ n k, k + n = 10 → V κ idsR 5 M [some (.ref (κ.E.ad (14, 0, 0))), some (.long (foldN (bfc g b) d0 k)), none, some (.int (nI b)), some (.int (nI k))] [] 49 := by
        intro n
        induction n with
        | zero =>
          intro k hk
          have hk : k = 10 := by omega
          subst hk
          refine s_iload G dX6_digest_49 rfl ?_
          refine s_bipush (v := 10) G dX6_digest_51 (by decide) ?_
          refine s_icmp_ge G 77 dX6_digest_53 (by decide) (fun h53 => ?_) (fun h53 => ?_)
          rotate_left
          · exact absurd (by decide) h53
          refine s_iconst (v := 0) G dX6_digest_77 (by decide) ?_
          refine s_istore G dX6_digest_78 (by decide) rfl ?_
          exact lq (g.q b).length 0 (by omega)
        | succ n ik =>
          intro k hk
          have hk8 : k < 10 := by omega
          refine s_iload G dX6_digest_49 rfl ?_
          refine s_bipush (v := 10) G dX6_digest_51 (by decide) ?_
          refine s_icmp_ge G 77 dX6_digest_53 (by decide) (fun h53 => ?_) (fun h53 => ?_)
          · exact absurd h53 (nI_ge (a := k) (b := 10) hk8 (by decide))
          refine s_lload_n G dX6_digest_56 rfl ?_
          refine s_ldc2 (v := 31) G dX6_digest_57 (by decide +kernel) ?_
          refine s_lmul G dX6_digest_60 ?_
          refine s_aload_n G dX6_digest_61 rfl ?_
          refine s_iload_n G dX6_digest_62 rfl ?_
          refine s_iload G dX6_digest_63 rfl ?_
          refine iX6_102 G (r_boothTold hS hI hb hk8) (by decide) (Nat.le_of_ble_eq_true rfl) dX6_digest_65 (fun r9 M9 hp9 => ?_)
          obtain ⟨rfl, rfl⟩ := hp9
          refine s_i2l G dX6_digest_68 ?_
          refine s_ladd G dX6_digest_69 ?_
          refine s_lstore_n G dX6_digest_70 (by decide) rfl ?_
          refine s_iinc G dX6_digest_71 rfl (by decide) rfl (nI_1 k) ?_
          refine s_goto G 49 dX6_digest_74 (by decide) ?_
          exact ik (k + 1) (by omega)
      refine s_iconst (v := 0) G dX6_digest_46 (by decide) ?_
      refine s_istore G dX6_digest_47 (by decide) rfl ?_
      exact lk 10 0 (by decide)
  have lt : ∀ n k, k + n = 11 → V κ idsR 5 M [some (.ref (κ.E.ad (14, 0, 0))), some (.long (foldN (tot g) 653 k)), none, some (.int (nI k)), none] [] 11 := by
    intro n
    induction n with
    | zero =>
      intro k hk
      have hk : k = 11 := by omega
      subst hk
      refine s_iload_n G dX6_digest_11 rfl ?_
      refine s_bipush (v := 11) G dX6_digest_12 (by decide) ?_
      refine s_icmp_ge G 36 dX6_digest_14 (by decide) (fun h14 => ?_) (fun h14 => ?_)
      rotate_left
      · exact absurd (by decide) h14
      refine s_iconst (v := 0) G dX6_digest_36 (by decide) ?_
      refine s_istore_n G dX6_digest_37 (by decide) rfl ?_
      exact lb g.nb 0 (by omega)
    | succ n ih =>
      intro k hk
      have hk11 : k < 11 := by omega
      refine s_iload_n G dX6_digest_11 rfl ?_
      refine s_bipush (v := 11) G dX6_digest_12 (by decide) ?_
      refine s_icmp_ge G 36 dX6_digest_14 (by decide) (fun h14 => ?_) (fun h14 => ?_)
      · exact absurd h14 (nI_ge (a := k) (b := 11) hk11 (by decide))
      refine s_lload_n G dX6_digest_17 rfl ?_
      refine s_ldc2 (v := 31) G dX6_digest_18 (by decide +kernel) ?_
      refine s_lmul G dX6_digest_21 ?_
      refine s_aload_n G dX6_digest_22 rfl ?_
      refine s_iload_n G dX6_digest_23 rfl ?_
      refine iX6_146 G (r_counted hS hI hk11) (by decide) (Nat.le_of_ble_eq_true rfl) dX6_digest_24 (fun r9 M9 hp9 => ?_)
      obtain ⟨rfl, rfl⟩ := hp9
      refine s_i2l G dX6_digest_27 ?_
      refine s_ladd G dX6_digest_28 ?_
      refine s_lstore_n G dX6_digest_29 (by decide) rfl ?_
      refine s_iinc G dX6_digest_30 rfl (by decide) rfl (nI_1 k) ?_
      refine s_goto G 11 dX6_digest_33 (by decide) ?_
      exact ih (k + 1) (by omega)
  refine s_ldc2 (v := 653) G dX6_digest_5 (by decide +kernel) ?_
  refine s_lstore_n G dX6_digest_8 (by decide) rfl ?_
  refine s_iconst (v := 0) G dX6_digest_9 (by decide) ?_
  refine s_istore_n G dX6_digest_10 (by decide) rfl ?_
  exact lt 11 0 (by decide)
end DgR
