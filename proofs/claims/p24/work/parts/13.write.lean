/-! ===== the board ===== -/
def ge9 (s : Int32) (y : Nat × Nat × Int32) : Bool := decide (s ≤ y.2.2)
theorem bdIns_eq (L : List (Nat × Nat × Int32)) (x : Nat × Nat × Int32) : bdIns L x = (L.takeWhile (ge9 x.2.2) ++ x :: L.dropWhile (ge9 x.2.2)).take 3 := rfl
theorem tw_le (L : List (Nat × Nat × Int32)) (s : Int32) : (L.takeWhile (ge9 s)).length ≤ L.length := by
  induction L with
  | nil => exact Nat.le_refl 0
  | cons a L ih =>
    rw [List.takeWhile_cons]
    split
    · simp only [List.length_cons]; omega
    · simp
theorem tw_lt {L : List (Nat × Nat × Int32)} {s : Int32} : ∀ {i : Nat} {y : Nat × Nat × Int32}, L.Pairwise (fun a b => b.2.2 ≤ a.2.2) → L[i]? = some y → (s ≤ y.2.2 ↔ i < (L.takeWhile (ge9 s)).length) := by
  induction L with
  | nil => intro i y _ h; simp at h
  | cons a L ih =>
    intro i y hp h
    rw [List.pairwise_cons] at hp
    rw [List.takeWhile_cons]
    by_cases ha : ge9 s a = true
    · rw [if_pos ha]
      cases i with
      | zero =>
        simp only [List.getElem?_cons_zero, Option.some.injEq] at h
        subst h
        exact ⟨fun _ => Nat.succ_pos _, fun _ => of_decide_eq_true ha⟩
      | succ i =>
        simp only [List.getElem?_cons_succ] at h
        rw [ih hp.2 h]
        simp only [List.length_cons]
        omega
    · rw [if_neg ha]
      have h9 : ¬ s ≤ a.2.2 := fun q => ha (decide_eq_true q)
      constructor
      · intro q
        exfalso
        cases i with
        | zero =>
          simp only [List.getElem?_cons_zero, Option.some.injEq] at h
          subst h
          exact h9 q
        | succ i =>
          simp only [List.getElem?_cons_succ] at h
          have := hp.1 y (List.mem_of_getElem? h)
          rw [Int32.le_iff_toInt_le] at q this h9
          omega
      · intro q
        exact absurd q (by simp)
theorem bdIns_len {L : List (Nat × Nat × Int32)} {x : Nat × Nat × Int32} : (bdIns L x).length = if L.length + 1 ≤ 3 then L.length + 1 else 3 := by
  rw [bdIns_eq, List.length_take, List.length_append, List.length_cons]
  have h := congrArg List.length (List.takeWhile_append_dropWhile (p := ge9 x.2.2) (l := L))
  rw [List.length_append] at h
  split <;> omega
theorem bdIns_at {L : List (Nat × Nat × Int32)} {x : Nat × Nat × Int32} {j : Nat} (hj : j < 3) : (bdIns L x)[j]? = if j < (L.takeWhile (ge9 x.2.2)).length then L[j]? else if j = (L.takeWhile (ge9 x.2.2)).length then some x else L[j - 1]? := by
  rw [bdIns_eq, List.getElem?_take_of_lt hj]
  have hs := List.takeWhile_append_dropWhile (p := ge9 x.2.2) (l := L)
  generalize hA : L.takeWhile (ge9 x.2.2) = A at hs ⊢
  generalize hB : L.dropWhile (ge9 x.2.2) = B at hs ⊢
  subst hs
  by_cases h1 : j < A.length
  · rw [if_pos h1, List.getElem?_append_left h1, List.getElem?_append_left h1]
  · rw [if_neg h1, List.getElem?_append_right (by omega)]
    by_cases h2 : j = A.length
    · rw [if_pos h2, h2, Nat.sub_self]
      rfl
    · rw [if_neg h2, List.getElem?_append_right (by omega)]
      have : j - A.length = (j - 1 - A.length) + 1 := by omega
      rw [this, List.getElem?_cons_succ]
section Wr
variable {E : EX} {M : Mem} {f : Nat}
/-- the memory but for the board -/
def noB (f : Nat) (M M' : Mem) : Prop := (∀ i : Pid, i ≠ (5, f, 0) → i ≠ (11, f, 0) → i ≠ (12, f, 0) → i ≠ (13, f, 0) → M' i = M i) ∧ ∀ k, k ≠ 0 → M' (5, f, 0) k = M (5, f, 0) k
theorem c_write {L : List (Nat × Nat × Int32)} (hf : f < 2) (hl : M (5, f, 0) 0 = nI L.length) (hL : L.length ≤ 3) (he : ∀ l x, L[l]? = some x → M (11, f, 0) l = nI x.1 ∧ M (12, f, 0) l = nI x.2.1 ∧ M (13, f, 0) l = x.2.2) (hs : L.Pairwise (fun a b => b.2.2 ≤ a.2.2)) (v b : Nat) (s : Int32) : Ret E idsC yX1_write cX1_write 6 none 1 21 [.ref (E.ad (5, f, 0)), .int (nI v), .int (nI b), .int s] M (fun r M' => r = none ∧ noB f M M' ∧ M' (5, f, 0) 0 = nI (bdIns L (v, b, s)).length ∧ ∀ l x, (bdIns L (v, b, s))[l]? = some x → M' (11, f, 0) l = nI x.1 ∧ M' (12, f, 0) l = nI x.2.1 ∧ M' (13, f, 0) l = x.2.2) := by
  have ht := tw_le L s
  generalize hT : (L.takeWhile (ge9 s)).length = t at ht
  refine Ret_of_V RX1 (by decide) rfl idsC_nd [some (.ref (E.ad (5, f, 0))), some (.int (nI v)), some (.int (nI b)), some (.int s), none, none] rfl (Nat.le_of_ble_eq_true rfl) (fun κ hE G E9 hr => ?_)
  subst hE
  -- behind the search: the place is t
  have fin : V κ idsC 6 M [some (.ref (κ.E.ad (5, f, 0))), some (.int (nI v)), some (.int (nI b)), some (.int s), some (.int (nI t)), some (.int (nI L.length))] [] 44 := by
    refine s_iload G dX1_write_44 rfl ?_
    refine s_iconst (v := 3) G dX1_write_46 (by decide) ?_
    refine s_icmp_lt G 51 dX1_write_47 (by decide) (fun h47 => ?_) (fun h47 => ?_)
    rotate_left
    · have ht3 : t = 3 := by
        have : ¬ t < 3 := fun q => h47 (nI_lt (b := 3) q (by decide))
        omega
      have hb9 : bdIns L (v, b, s) = L := by
        apply List.ext_getElem?
        intro j
        by_cases hj : j < 3
        · rw [bdIns_at hj, if_pos (by rw [hT]; omega)]
        · rw [List.getElem?_eq_none (by rw [bdIns_len]; split <;> omega), List.getElem?_eq_none (by omega)]
      refine s_vret G E9 hr dX1_write_50 ⟨rfl, ⟨fun _ _ _ _ _ => rfl, fun _ _ => rfl⟩, by rw [hb9]; exact hl, fun l x hx => he l x (by rw [hb9] at hx; exact hx)⟩
    have ht3 : t < 3 := (nI_ltI (b := 3) (by omega) (by decide)).mp h47
    refine s_aload_n G dX1_write_51 rfl ?_
    refine s_aload_n G dX1_write_52 rfl ?_
    refine gX1_21 G (by assumption) dX1_write_53 ?_
    refine s_iconst (v := 1) G dX1_write_56 (by decide) ?_
    refine s_iadd G dX1_write_57 ?_
    refine s_iconst (v := 3) G dX1_write_58 (by decide) ?_
    rw [hl]
    refine iX1_25 G dX1_write_59 (by decide) (Nat.le_of_ble_eq_true rfl) ?_
    refine pX1_21 G (by assumption) dX1_write_62 ?_
    generalize hn9 : (if L.length + 1 ≤ 3 then L.length + 1 else 3) = n9
    have hmin : (if (3 : Int32) < nI L.length + 1 then (3 : Int32) else nI L.length + 1) = nI n9 := by
      rw [nI_1, show (3 : Int32) = nI 3 from rfl]
      by_cases h3 : L.length + 1 ≤ 3
      · rw [if_neg (fun q => nI_nlt (a := 3) (b := L.length + 1) h3 (by decide) q), ← hn9, if_pos h3]
      · rw [if_pos (nI_lt (a := 3) (by omega) (by omega)), ← hn9, if_neg h3]
    rw [hmin]
    have hn1 : 1 ≤ n9 := by rw [← hn9]; split <;> omega
    have hn3 : n9 ≤ 3 := by rw [← hn9]; split <;> omega
    have htn : t < n9 := by rw [← hn9]; split <;> omega
    have hlen : (bdIns L (v, b, s)).length = n9 := by rw [bdIns_len, hn9]
    have shift : ∀ n c, c = t + n → c < n9 → ∀ M1 : Mem, noB f M M1 → M1 (5, f, 0) 0 = nI n9 → (∀ j, j ≤ c → M1 (11, f, 0) j = M (11, f, 0) j ∧ M1 (12, f, 0) j = M (12, f, 0) j ∧ M1 (13, f, 0) j = M (13, f, 0) j) → (∀ j, c < j → j < n9 → M1 (11, f, 0) j = M (11, f, 0) (j - 1) ∧ M1 (12, f, 0) j = M (12, f, 0) (j - 1) ∧ M1 (13, f, 0) j = M (13, f, 0) (j - 1)) → V κ idsC 6 M1 [some (.ref (κ.E.ad (5, f, 0))), some (.int (nI v)), some (.int (nI b)), some (.int s), some (.int (nI t)), some (.int (nI c))] [] 73 := by
      intro n
      induction n with
      | zero =>
        intro c hc hcn M1 hM1 hM2 hA hB
        have hc : c = t := by omega
        subst hc
        have hc3 : c < 3 := by omega
        refine s_iload G dX1_write_73 rfl ?_
        refine s_iload G dX1_write_75 rfl ?_
        refine s_icmp_le G 134 dX1_write_77 (by decide) (fun h77 => ?_) (fun h77 => ?_)
        rotate_left
        · exact absurd (show nI c ≤ nI c from Int32.le_refl _) h77
        refine s_aload_n G dX1_write_134 rfl ?_
        refine gX1_9 G (by assumption) dX1_write_135 ?_
        refine s_iload G dX1_write_138 rfl ?_
        refine s_iload_n G dX1_write_140 rfl ?_
        refine as_11 G (by assumption) rfl (by first | assumption | omega) dX1_write_141 ?_
        refine s_aload_n G dX1_write_142 rfl ?_
        refine gX1_15 G (by assumption) dX1_write_143 ?_
        refine s_iload G dX1_write_146 rfl ?_
        refine s_iload_n G dX1_write_148 rfl ?_
        refine as_12 G (by assumption) rfl (by first | assumption | omega) dX1_write_149 ?_
        refine s_aload_n G dX1_write_150 rfl ?_
        refine gX1_18 G (by assumption) dX1_write_151 ?_
        refine s_iload G dX1_write_154 rfl ?_
        refine s_iload_n G dX1_write_156 rfl ?_
        refine as_13 G (by assumption) rfl (by first | assumption | omega) dX1_write_157 ?_
        refine s_vret G E9 hr dX1_write_158 ⟨rfl, ⟨fun i h1 h2 h3 h4 => ?_, fun k hk => ?_⟩, ?_, fun l x hx => ?_⟩
        · rw [up_ne h4, up_ne h3, up_ne h2]; exact hM1.1 i h1 h2 h3 h4
        · rw [up_ne (by simp), up_ne (by simp), up_ne (by simp)]; exact hM1.2 k hk
        · rw [up_ne (by simp), up_ne (by simp), up_ne (by simp), hlen]; exact hM2
        · have hl3 : l < 3 := by
            have := (List.getElem?_eq_some_iff.mp hx).1
            omega
          have hln : l < n9 := by
            have := (List.getElem?_eq_some_iff.mp hx).1
            omega
          rw [bdIns_at hl3, hT] at hx
          have r1 : up (up (up M1 (11, f, 0) c (nI v)) (12, f, 0) c (nI b)) (13, f, 0) c s (11, f, 0) l = if l = c then nI v else M1 (11, f, 0) l := by simp [up]
          have r2 : up (up (up M1 (11, f, 0) c (nI v)) (12, f, 0) c (nI b)) (13, f, 0) c s (12, f, 0) l = if l = c then nI b else M1 (12, f, 0) l := by simp [up]
          have r3 : up (up (up M1 (11, f, 0) c (nI v)) (12, f, 0) c (nI b)) (13, f, 0) c s (13, f, 0) l = if l = c then s else M1 (13, f, 0) l := by simp [up]
          rw [r1, r2, r3]
          by_cases q1 : l < c
          · rw [if_pos q1] at hx
            rw [if_neg (by omega), if_neg (by omega), if_neg (by omega), (hA l (by omega)).1, (hA l (by omega)).2.1, (hA l (by omega)).2.2]
            exact he l x hx
          · rw [if_neg q1] at hx
            by_cases q2 : l = c
            · rw [if_pos q2] at hx
              cases hx
              rw [if_pos q2, if_pos q2, if_pos q2]
              exact ⟨rfl, rfl, rfl⟩
            · rw [if_neg q2] at hx
              rw [if_neg q2, if_neg q2, if_neg q2, (hB l (by omega) hln).1, (hB l (by omega) hln).2.1, (hB l (by omega) hln).2.2]
              exact he (l - 1) x hx
      | succ n ih =>
        intro c hc hcn M1 hM1 hM2 hA hB
        have hc3 : c < 3 := by omega
        obtain ⟨c, rfl⟩ : ∃ c', c = c' + 1 := ⟨c - 1, by omega⟩
        have hcc : c < 3 := by omega
        have e1 : nI (c + 1) - 1 = nI c := nI_pred c
        refine s_iload G dX1_write_73 rfl ?_
        refine s_iload G dX1_write_75 rfl ?_
        refine s_icmp_le G 134 dX1_write_77 (by decide) (fun h77 => ?_) (fun h77 => ?_)
        · exact absurd h77 (nI_ge (by omega) (by omega))
        refine s_aload_n G dX1_write_80 rfl ?_
        refine gX1_9 G (by assumption) dX1_write_81 ?_
        refine s_iload G dX1_write_84 rfl ?_
        refine s_aload_n G dX1_write_86 rfl ?_
        refine gX1_9 G (by assumption) dX1_write_87 ?_
        refine s_iload G dX1_write_90 rfl ?_
        refine s_iconst (v := 1) G dX1_write_92 (by decide) ?_
        refine s_isub G dX1_write_93 ?_
        refine al_11 G (by assumption) e1 hcc dX1_write_94 ?_
        refine as_11 G (by assumption) rfl (by first | assumption | omega) dX1_write_95 ?_
        refine s_aload_n G dX1_write_96 rfl ?_
        refine gX1_15 G (by assumption) dX1_write_97 ?_
        refine s_iload G dX1_write_100 rfl ?_
        refine s_aload_n G dX1_write_102 rfl ?_
        refine gX1_15 G (by assumption) dX1_write_103 ?_
        refine s_iload G dX1_write_106 rfl ?_
        refine s_iconst (v := 1) G dX1_write_108 (by decide) ?_
        refine s_isub G dX1_write_109 ?_
        refine al_12 G (by assumption) e1 hcc dX1_write_110 ?_
        refine as_12 G (by assumption) rfl (by first | assumption | omega) dX1_write_111 ?_
        refine s_aload_n G dX1_write_112 rfl ?_
        refine gX1_18 G (by assumption) dX1_write_113 ?_
        refine s_iload G dX1_write_116 rfl ?_
        refine s_aload_n G dX1_write_118 rfl ?_
        refine gX1_18 G (by assumption) dX1_write_119 ?_
        refine s_iload G dX1_write_122 rfl ?_
        refine s_iconst (v := 1) G dX1_write_124 (by decide) ?_
        refine s_isub G dX1_write_125 ?_
        refine al_13 G (by assumption) e1 hcc dX1_write_126 ?_
        refine as_13 G (by assumption) rfl (by first | assumption | omega) dX1_write_127 ?_
        refine s_iinc G dX1_write_128 rfl (by decide) rfl (pk_m1 c) ?_
        refine s_goto G 73 dX1_write_131 (by decide) ?_
        refine ih c (by omega) (by omega) _ ⟨fun i h1 h2 h3 h4 => ?_, fun k hk => ?_⟩ ?_ (fun j hj => ?_) (fun j h1 h2 => ?_)
        · rw [up_ne h4, up_ne h3, up_ne h2]; exact hM1.1 i h1 h2 h3 h4
        · rw [up_ne (by simp), up_ne (by simp), up_ne (by simp)]; exact hM1.2 k hk
        · rw [up_ne (by simp), up_ne (by simp), up_ne (by simp)]; exact hM2
        · have := hA j (by omega)
          simp only [up, Prod.mk.injEq]
          rw [if_neg (by omega), if_neg (by omega), if_neg (by omega), if_neg (by omega), if_neg (by omega), if_neg (by omega), if_neg (by omega), if_neg (by omega), if_neg (by omega)]
          exact this
        · by_cases hj : j = c + 1
          · subst hj
            have h3 := hA c (by omega)
            simp only [Nat.add_sub_cancel]
            refine ⟨?_, ?_, ?_⟩
            · rw [← h3.1]; simp [up]
            · rw [← h3.2.1]; simp [up]
            · rw [← h3.2.2]; simp [up]
          · have h3 := hB j (by omega) h2
            refine ⟨?_, ?_, ?_⟩
            · rw [← h3.1]; simp [up, hj]
            · rw [← h3.2.1]; simp [up, hj]
            · rw [← h3.2.2]; simp [up, hj]
    refine s_aload_n G dX1_write_65 rfl ?_
    refine gX1_21 G (by assumption) dX1_write_66 ?_
    refine s_iconst (v := 1) G dX1_write_69 (by decide) ?_
    rw [up_at, if_pos rfl]
    have e2 : nI n9 - 1 = nI (n9 - 1) := pk_sub (a := n9) (b := 1) hn1
    refine s_isub G dX1_write_70 ?_
    rw [e2]
    refine s_istore G dX1_write_71 (by decide) rfl ?_
    refine shift (n9 - 1 - t) (n9 - 1) (by omega) (by omega) _ ⟨fun i h1 h2 h3 h4 => up_ne h1, fun k hk => by rw [up_at, if_neg hk]⟩ (by rw [up_at, if_pos rfl]) (fun j hj => by rw [up_ne (by simp), up_ne (by simp), up_ne (by simp)]; exact ⟨rfl, rfl, rfl⟩) (fun j h1 h2 => by omega)
  have scan : ∀ n i, i + n = L.length → V κ idsC 6 M [some (.ref (κ.E.ad (5, f, 0))), some (.int (nI v)), some (.int (nI b)), some (.int s), some (.int (nI (if i < t then i else t))), some (.int (nI i))] [] 6 := by
    intro n
    induction n with
    | zero =>
      intro i hi
      have hi : i = L.length := by omega
      subst hi
      refine s_iload G dX1_write_6 rfl ?_
      refine s_aload_n G dX1_write_8 rfl ?_
      refine gX1_21 G (by assumption) dX1_write_9 ?_
      refine s_icmp_ge G 44 dX1_write_12 (by decide) (fun h12 => ?_) (fun h12 => ?_)
      · rw [if_neg (by omega)]
        exact fin
      · rw [hl] at h12
        exact absurd (Int32.le_refl _) h12
    | succ n ih =>
      intro i hi
      have hil : i < L.length := by omega
      have hi3 : i < 3 := by omega
      obtain ⟨y, hy⟩ : ∃ y, L[i]? = some y := ⟨_, List.getElem?_eq_getElem hil⟩
      have hk := tw_lt (s := s) hs hy
      rw [hT] at hk
      refine s_iload G dX1_write_6 rfl ?_
      refine s_aload_n G dX1_write_8 rfl ?_
      refine gX1_21 G (by assumption) dX1_write_9 ?_
      refine s_icmp_ge G 44 dX1_write_12 (by decide) (fun h12 => ?_) (fun h12 => ?_)
      · rw [hl] at h12
        exact absurd h12 (nI_ge hil (by omega))
      refine s_iload G dX1_write_15 rfl ?_
      refine s_iconst (v := 3) G dX1_write_17 (by decide) ?_
      refine s_icmp_ge G 44 dX1_write_18 (by decide) (fun h18 => ?_) (fun h18 => ?_)
      · exact absurd h18 (nI_ge (b := 3) hi3 (by decide))
      refine s_aload_n G dX1_write_21 rfl ?_
      refine gX1_18 G (by assumption) dX1_write_22 ?_
      refine s_iload G dX1_write_25 rfl ?_
      refine al_13 G (by assumption) rfl (by first | assumption | omega) dX1_write_27 ?_
      refine s_iload_n G dX1_write_28 rfl ?_
      rw [(he i y hy).2.2]
      refine s_icmp_lt G 38 dX1_write_29 (by decide) (fun h29 => ?_) (fun h29 => ?_)
      · have hit : ¬ i < t := fun q => i_nlt.mpr (hk.mpr q) h29
        rw [if_neg hit]
        refine s_iinc G dX1_write_38 rfl (by decide) rfl (nI_1 i) ?_
        refine s_goto G 6 dX1_write_41 (by decide) ?_
        have := ih (i + 1) (by omega)
        rw [if_neg (by omega)] at this
        exact this
      · have hit : i < t := hk.mp (i_nlt.mp h29)
        refine s_iload G dX1_write_32 rfl ?_
        refine s_iconst (v := 1) G dX1_write_34 (by decide) ?_
        refine s_iadd G dX1_write_35 ?_
        rw [nI_1]
        refine s_istore G dX1_write_36 (by decide) rfl ?_
        refine s_iinc G dX1_write_38 rfl (by decide) rfl (nI_1 i) ?_
        refine s_goto G 6 dX1_write_41 (by decide) ?_
        have := ih (i + 1) (by omega)
        have e3 : (if i + 1 < t then i + 1 else t) = i + 1 := by split <;> omega
        rw [e3] at this
        exact this
  refine s_iconst (v := 0) G dX1_write_0 (by decide) ?_
  refine s_istore G dX1_write_1 (by decide) rfl ?_
  refine s_iconst (v := 0) G dX1_write_3 (by decide) ?_
  refine s_istore G dX1_write_4 (by decide) rfl ?_
  have := scan L.length 0 (by omega)
  have e4 : (if 0 < t then 0 else t) = 0 := by split <;> omega
  rw [e4] at this
  exact this
end Wr
