/-! ===== the green of the class: its small methods ===== -/
theorem wkN_pos {g : GS} {h b : Nat} (hb : g.i 3 h 1 = nI b) : ∀ n, h < n → 1 ≤ wkN g b n
  | 0, q => by omega
  | n + 1, q => by
    unfold wkN
    by_cases hn : n = h
    · subst hn
      rw [if_pos hb]
      omega
    · have := wkN_pos hb n (by omega)
      omega
section Fete1
variable {E : EX} {M : Mem} {f : Nat} {g : GS}
theorem c_isBooth {n : Nat} (hf : f < 2) (hM : M (1, f, 0) 1 = nI n) (hn : n < 2 ^ 31) (x : Int32) : Ret E idsC yX2_isBooth cX2_isBooth 2 (some .boolean) 0 0 [.ref (E.ad (1, f, 0)), .int x] M (fun r M' => M = M' ∧ ((∃ b, b < n ∧ x = nI b ∧ r = some (.int 1)) ∨ ((∀ b, b < n → x ≠ nI b) ∧ r = some (.int 0)))) := by
  refine Ret_of_V RX2 (by decide) rfl idsC_nd [some (.ref (E.ad (1, f, 0))), some (.int x)] rfl (Nat.le_of_ble_eq_true rfl) (fun κ hE G E9 hr => ?_)
  subst hE
  refine s_iload_n G dX2_isBooth_0 rfl ?_
  refine s_if_lt G 16 dX2_isBooth_1 (by decide) (fun h1 => ?_) (fun h1 => ?_)
  · refine s_iconst (v := 0) G dX2_isBooth_16 (by decide) ?_
    refine s_zret G E9 hr (Or.inl rfl) dX2_isBooth_17 ⟨rfl, Or.inr ⟨fun b hb q => nI_pos (n := b) (by omega) (by rw [← q]; exact h1), rfl⟩⟩
  refine s_iload_n G dX2_isBooth_4 rfl ?_
  refine s_aload_n G dX2_isBooth_5 rfl ?_
  refine gX2_46 G (by assumption) dX2_isBooth_6 ?_
  refine s_icmp_ge G 16 dX2_isBooth_9 (by decide) (fun h9 => ?_) (fun h9 => ?_)
  · rw [hM] at h9
    refine s_iconst (v := 0) G dX2_isBooth_16 (by decide) ?_
    refine s_zret G E9 hr (Or.inl rfl) dX2_isBooth_17 ⟨rfl, Or.inr ⟨fun b hb q => nI_ge hb hn (by rw [← q]; exact h9), rfl⟩⟩
  · rw [hM] at h9
    refine s_iconst (v := 1) G dX2_isBooth_12 (by decide) ?_
    refine s_goto G 17 dX2_isBooth_13 (by decide) ?_
    obtain ⟨j, hj, hx⟩ : ∃ j, j < n ∧ x = nI j := by
      rcases pk_ix x hn with q | q | q
      · exact absurd q h1
      · exact absurd q h9
      · exact q
    refine s_zret G E9 hr (Or.inr rfl) dX2_isBooth_17 ⟨rfl, Or.inl ⟨j, hj, hx, rfl⟩⟩
theorem c_isHelper {n : Nat} (hf : f < 2) (hM : M (1, f, 0) 3 = nI n) (hn : n < 2 ^ 31) (x : Int32) : Ret E idsC yX2_isHelper cX2_isHelper 2 (some .boolean) 0 0 [.ref (E.ad (1, f, 0)), .int x] M (fun r M' => M = M' ∧ ((∃ b, b < n ∧ x = nI b ∧ r = some (.int 1)) ∨ ((∀ b, b < n → x ≠ nI b) ∧ r = some (.int 0)))) := by
  refine Ret_of_V RX2 (by decide) rfl idsC_nd [some (.ref (E.ad (1, f, 0))), some (.int x)] rfl (Nat.le_of_ble_eq_true rfl) (fun κ hE G E9 hr => ?_)
  subst hE
  refine s_iload_n G dX2_isHelper_0 rfl ?_
  refine s_if_lt G 16 dX2_isHelper_1 (by decide) (fun h1 => ?_) (fun h1 => ?_)
  · refine s_iconst (v := 0) G dX2_isHelper_16 (by decide) ?_
    refine s_zret G E9 hr (Or.inl rfl) dX2_isHelper_17 ⟨rfl, Or.inr ⟨fun b hb q => nI_pos (n := b) (by omega) (by rw [← q]; exact h1), rfl⟩⟩
  refine s_iload_n G dX2_isHelper_4 rfl ?_
  refine s_aload_n G dX2_isHelper_5 rfl ?_
  refine gX2_49 G (by assumption) dX2_isHelper_6 ?_
  refine s_icmp_ge G 16 dX2_isHelper_9 (by decide) (fun h9 => ?_) (fun h9 => ?_)
  · rw [hM] at h9
    refine s_iconst (v := 0) G dX2_isHelper_16 (by decide) ?_
    refine s_zret G E9 hr (Or.inl rfl) dX2_isHelper_17 ⟨rfl, Or.inr ⟨fun b hb q => nI_ge hb hn (by rw [← q]; exact h9), rfl⟩⟩
  · rw [hM] at h9
    refine s_iconst (v := 1) G dX2_isHelper_12 (by decide) ?_
    refine s_goto G 17 dX2_isHelper_13 (by decide) ?_
    obtain ⟨j, hj, hx⟩ : ∃ j, j < n ∧ x = nI j := by
      rcases pk_ix x hn with q | q | q
      · exact absurd q h1
      · exact absurd q h9
      · exact q
    refine s_zret G E9 hr (Or.inr rfl) dX2_isHelper_17 ⟨rfl, Or.inl ⟨j, hj, hx, rfl⟩⟩
theorem c_isVisitor {n : Nat} (hf : f < 2) (hM : M (1, f, 0) 5 = nI n) (hn : n < 2 ^ 31) (x : Int32) : Ret E idsC yX2_isVisitor cX2_isVisitor 2 (some .boolean) 0 0 [.ref (E.ad (1, f, 0)), .int x] M (fun r M' => M = M' ∧ ((∃ b, b < n ∧ x = nI b ∧ r = some (.int 1)) ∨ ((∀ b, b < n → x ≠ nI b) ∧ r = some (.int 0)))) := by
  refine Ret_of_V RX2 (by decide) rfl idsC_nd [some (.ref (E.ad (1, f, 0))), some (.int x)] rfl (Nat.le_of_ble_eq_true rfl) (fun κ hE G E9 hr => ?_)
  subst hE
  refine s_iload_n G dX2_isVisitor_0 rfl ?_
  refine s_if_lt G 16 dX2_isVisitor_1 (by decide) (fun h1 => ?_) (fun h1 => ?_)
  · refine s_iconst (v := 0) G dX2_isVisitor_16 (by decide) ?_
    refine s_zret G E9 hr (Or.inl rfl) dX2_isVisitor_17 ⟨rfl, Or.inr ⟨fun b hb q => nI_pos (n := b) (by omega) (by rw [← q]; exact h1), rfl⟩⟩
  refine s_iload_n G dX2_isVisitor_4 rfl ?_
  refine s_aload_n G dX2_isVisitor_5 rfl ?_
  refine gX2_52 G (by assumption) dX2_isVisitor_6 ?_
  refine s_icmp_ge G 16 dX2_isVisitor_9 (by decide) (fun h9 => ?_) (fun h9 => ?_)
  · rw [hM] at h9
    refine s_iconst (v := 0) G dX2_isVisitor_16 (by decide) ?_
    refine s_zret G E9 hr (Or.inl rfl) dX2_isVisitor_17 ⟨rfl, Or.inr ⟨fun b hb q => nI_ge hb hn (by rw [← q]; exact h9), rfl⟩⟩
  · rw [hM] at h9
    refine s_iconst (v := 1) G dX2_isVisitor_12 (by decide) ?_
    refine s_goto G 17 dX2_isVisitor_13 (by decide) ?_
    obtain ⟨j, hj, hx⟩ : ∃ j, j < n ∧ x = nI j := by
      rcases pk_ix x hn with q | q | q
      · exact absurd q h1
      · exact absurd q h9
      · exact q
    refine s_zret G E9 hr (Or.inr rfl) dX2_isVisitor_17 ⟨rfl, Or.inl ⟨j, hj, hx, rfl⟩⟩
theorem c_costNow {b : Nat} (hf : f < 2) (hS : SimC f M g) (hI : Inv g) (hb : b < g.nb) : Ret E idsC yX2_costNow cX2_costNow 2 (some .int) 0 0 [.ref (E.ad (1, f, 0)), .int (nI b)] M (fun r M' => r = some (.int (cst g b)) ∧ M = M') := by
  have hb8 : b < 8 := Nat.lt_of_lt_of_le hb hI.nb8
  have e1 := hS.num (k := 9) (by decide) (by decide)
  have e2 := hS.bo (k := 0) hb (by decide) (by decide)
  refine Ret_of_V RX2 (by decide) rfl idsC_nd [some (.ref (E.ad (1, f, 0))), some (.int (nI b))] rfl (Nat.le_of_ble_eq_true rfl) (fun κ hE G E9 hr => ?_)
  subst hE
  refine s_iload_n G dX2_costNow_0 rfl ?_
  refine s_aload_n G dX2_costNow_1 rfl ?_
  refine gX2_40 G (by assumption) dX2_costNow_2 ?_
  refine s_icmp_ne G 22 dX2_costNow_5 (by decide) (fun h5 => ?_) (fun h5 => ?_)
  · refine s_aload_n G dX2_costNow_22 rfl ?_
    refine gX2_11 G (by assumption) dX2_costNow_23 ?_
    refine s_iload_n G dX2_costNow_26 rfl ?_
    refine ar_6 G (by assumption) rfl (by first | assumption | omega) dX2_costNow_27 ?_
    refine gX2_104 G (by assumption) (by assumption) dX2_costNow_28 ?_
    exact s_iret G E9 hr dX2_costNow_31 (by rw [e1] at h5; simp [cst, h5, e2])
  · refine s_aload_n G dX2_costNow_8 rfl ?_
    refine gX2_11 G (by assumption) dX2_costNow_9 ?_
    refine s_iload_n G dX2_costNow_12 rfl ?_
    refine ar_6 G (by assumption) rfl (by first | assumption | omega) dX2_costNow_13 ?_
    refine gX2_104 G (by assumption) (by assumption) dX2_costNow_14 ?_
    refine s_iconst (v := 1) G dX2_costNow_17 (by decide) ?_
    refine s_isub G dX2_costNow_18 ?_
    refine s_goto G 31 dX2_costNow_19 (by decide) ?_
    exact s_iret G E9 hr dX2_costNow_31 (by rw [e1] at h5; simp [cst, h5, e2])
theorem c_send {h : Nat} {x : Int32} (hf : f < 2) (hS : SimC f M g) (hI : g.nb ≤ 8 ∧ g.nh ≤ 12) (hh : h < g.nh) (hx : x = -1 ∨ ∃ b, b < g.nb ∧ x = nI b) : Ret E idsC yX2_send cX2_send 4 none 1 21 [.ref (E.ad (1, f, 0)), .int (nI h), .int x] M (fun r M' => r = none ∧ SimC f M' (g.set 3 h 1 x) ∧ Fr f g.2.2.1 M M') := by
  have hb8 := hI.1
  have hh12 : h < 12 := Nat.lt_of_lt_of_le hh hI.2
  refine Ret_of_V RX2 (by decide) rfl idsC_nd [some (.ref (E.ad (1, f, 0))), some (.int (nI h)), some (.int x), none] rfl (Nat.le_of_ble_eq_true rfl) (fun κ hE G E9 hr => ?_)
  subst hE
  refine s_aload_n G dX2_send_0 rfl ?_
  refine s_iload_n G dX2_send_1 rfl ?_
  refine iX2_83 G (by assumption) (c_isHelper hf hS.nh (by have := hI.2; omega) (nI h)) (by decide) (Nat.le_of_ble_eq_true rfl) dX2_send_2 (fun r9 M9 hp9 => ?_)
  obtain ⟨rfl, ⟨j, hj, hjx, rfl⟩ | ⟨hno, rfl⟩⟩ := hp9
  rotate_left
  · exact absurd rfl (hno h hh)
  clear hjx hj
  refine s_if_ne G 9 dX2_send_5 (by decide) (fun h5 => ?_) (fun h5 => ?_)
  rotate_left
  · exact absurd h5 (by decide)
  refine s_aload_n G dX2_send_9 rfl ?_
  refine gX2_19 G (by assumption) dX2_send_10 ?_
  refine s_iload_n G dX2_send_13 rfl ?_
  refine ar_7 G (by assumption) rfl (by first | assumption | omega) dX2_send_14 ?_
  refine s_astore_n G dX2_send_15 (by decide) rfl ?_
  refine s_aload_n G dX2_send_16 rfl ?_
  refine s_aload_n G dX2_send_17 rfl ?_
  refine gX2_87 G (by assumption) (by assumption) dX2_send_18 ?_
  have ea := hS.he (k := 1) hh (by decide)
  rw [ea]
  have hw0 := fun b => wk_send (g := g) (h := h) (x := x) b hh
  have hwl : ∀ b, wk g b ≤ 12 := fun b => Nat.le_trans (wkN_le g b g.nh) hI.2
  have hwp : ∀ b, g.i 3 h 1 = nI b → 1 ≤ wk g b := fun b q => wkN_pos q g.nh hh
  have tail : ∀ M1 : Mem, (∀ kd a k, ¬ (kd = 2 ∧ k = 4) → M1 (kd, f, a) k = M (kd, f, a) k) → Fr f g.2.2.1 M M1 → (∀ b, b < g.nb → M1 (2, f, b) 4 = nI (wk g b - (if g.i 3 h 1 = nI b then 1 else 0))) → V κ idsC 4 M1 [some (.ref (κ.E.ad (1, f, 0))), some (.int (nI h)), some (.int x), some (.ref (κ.E.ad (3, f, h)))] [] 45 := by
    intro M1 hM1 hF1 hw1
    have hnb1 : M1 (1, f, 0) 1 = nI g.nb := by rw [hM1 _ _ _ (by omega)]; exact hS.nb
    have fin : ∀ M2 : Mem, M2 = up M1 (3, f, h) 1 x → V κ idsC 4 M2 [some (.ref (κ.E.ad (1, f, 0))), some (.int (nI h)), some (.int x), some (.ref (κ.E.ad (3, f, h)))] [] 62 := by
      rintro M2 rfl
      refine s_aload_n G dX2_send_62 rfl ?_
      refine s_aload_n G dX2_send_63 rfl ?_
      refine gX2_87 G (by assumption) (by assumption) dX2_send_64 ?_
      rw [up_at, if_pos rfl]
      refine iX2_90 G (by assumption) (c_isBooth (n := g.nb) hf (by rw [up_ne (by simp)]; exact hnb1) (by omega) x) (by decide) (Nat.le_of_ble_eq_true rfl) dX2_send_67 (fun r9 M9 hp9 => ?_)
      obtain ⟨rfl, ⟨b1, hb1, hbx, rfl⟩ | ⟨hno, rfl⟩⟩ := hp9
      · refine s_if_eq G 91 dX2_send_70 (by decide) (fun h70 => ?_) (fun h70 => ?_)
        · exact absurd h70 (by decide)
        have hb18 : b1 < 8 := by omega
        refine s_aload_n G dX2_send_73 rfl ?_
        refine gX2_11 G (by assumption) dX2_send_74 ?_
        refine s_aload_n G dX2_send_77 rfl ?_
        refine gX2_87 G (by assumption) (by assumption) dX2_send_78 ?_
        refine ar_6 G (by assumption) (by rw [up_at, if_pos rfl]; exact hbx) hb18 dX2_send_81 ?_
        refine s_dup G dX2_send_82 rfl ?_
        refine gX2_93 G (by assumption) (by assumption) dX2_send_83 ?_
        refine s_iconst (v := 1) G dX2_send_86 (by decide) ?_
        refine s_iadd G dX2_send_87 ?_
        refine pX2_93 G (by assumption) (by assumption) dX2_send_88 ?_
        refine s_vret G E9 hr dX2_send_91 ⟨rfl, hS.send (fun kd a k h1 h2 => ?_) ?_ (fun b hb => ?_), Fr.b2 (Fr.h3 hF1 hh) hb1⟩
        · have n1 : ¬ ((kd, f, a) = ((2, f, b1) : Pid) ∧ k = 4) := by rintro ⟨q, q2⟩; cases q; exact h1 ⟨rfl, q2⟩
          have n2 : ¬ ((kd, f, a) = ((3, f, h) : Pid) ∧ k = 1) := by rintro ⟨q, q2⟩; cases q; exact h2 ⟨rfl, rfl, q2⟩
          simp only [up]
          rw [if_neg n1, if_neg n2]
          exact hM1 _ _ _ h1
        · simp [up]
        · have e0 := hw0 b
          have e1 := hw1 b hb
          have e2 := hwl b
          by_cases hbb : b = b1
          · subst hbb
            rw [if_pos hbx] at e0
            have : up (up M1 (3, f, h) 1 x) (2, f, b) 4 (up M1 (3, f, h) 1 x (2, f, b) 4 + 1) (2, f, b) 4 = M1 (2, f, b) 4 + 1 := by simp [up]
            rw [this, e1, nI_1]
            congr 1
            have e3 := hwp b
            split at e0 <;> split <;> first | omega | contradiction | (have := e3 (by assumption); omega)
          · have hne : x ≠ nI b := fun q => hbb (nI_inj (by omega) (by omega) (q.symm.trans hbx))
            rw [if_neg hne] at e0
            have : up (up M1 (3, f, h) 1 x) (2, f, b1) 4 (up M1 (3, f, h) 1 x (2, f, b1) 4 + 1) (2, f, b) 4 = M1 (2, f, b) 4 := by simp [up, hbb]
            rw [this, e1]
            congr 1
            have e3 := hwp b
            split at e0 <;> split <;> first | omega | contradiction | (have := e3 (by assumption); omega)
      · refine s_if_eq G 91 dX2_send_70 (by decide) (fun h70 => ?_) (fun h70 => ?_)
        rotate_left
        · exact absurd rfl h70
        refine s_vret G E9 hr dX2_send_91 ⟨rfl, hS.send (fun kd a k h1 h2 => ?_) ?_ (fun b hb => ?_), Fr.h3 hF1 hh⟩
        · have n2 : ¬ ((kd, f, a) = ((3, f, h) : Pid) ∧ k = 1) := by rintro ⟨q, q2⟩; cases q; exact h2 ⟨rfl, rfl, q2⟩
          simp only [up]
          rw [if_neg n2]
          exact hM1 _ _ _ h1
        · simp [up]
        · have e0 := hw0 b
          have e1 := hw1 b hb
          have e2 := hwl b
          rw [if_neg (hno b hb)] at e0
          rw [up_ne (by simp), e1]
          congr 1
          have e3 := hwp b
          split at e0 <;> split <;> first | omega | contradiction | (have := e3 (by assumption); omega)
    refine s_aload_n G dX2_send_45 rfl ?_
    refine s_aload_n G dX2_send_46 rfl ?_
    refine s_iload_n G dX2_send_47 rfl ?_
    refine iX2_90 G (by assumption) (c_isBooth (n := g.nb) hf hnb1 (by omega) x) (by decide) (Nat.le_of_ble_eq_true rfl) dX2_send_48 (fun r9 M9 hp9 => ?_)
    obtain ⟨rfl, ⟨b1, hb1, hbx, rfl⟩ | ⟨hno, rfl⟩⟩ := hp9
    · refine s_if_eq G 58 dX2_send_51 (by decide) (fun h51 => ?_) (fun h51 => ?_)
      · exact absurd h51 (by decide)
      refine s_iload_n G dX2_send_54 rfl ?_
      refine s_goto G 59 dX2_send_55 (by decide) ?_
      refine pX2_87 G (by assumption) (by assumption) dX2_send_59 ?_
      exact fin _ rfl
    · refine s_if_eq G 58 dX2_send_51 (by decide) (fun h51 => ?_) (fun h51 => ?_)
      rotate_left
      · exact absurd rfl h51
      have hx1 : x = -1 := hx.resolve_right (fun ⟨b, hb, q⟩ => hno b hb q)
      refine s_iconst (v := -1) G dX2_send_58 (by decide) ?_
      refine pX2_87 G (by assumption) (by assumption) dX2_send_59 ?_
      exact fin _ (by rw [hx1])
  refine iX2_90 G (by assumption) (c_isBooth (n := g.nb) hf hS.nb (by omega) (g.i 3 h 1)) (by decide) (Nat.le_of_ble_eq_true rfl) dX2_send_21 (fun r9 M9 hp9 => ?_)
  obtain ⟨rfl, ⟨b0, hb0, hbx, rfl⟩ | ⟨hno, rfl⟩⟩ := hp9
  · refine s_if_eq G 45 dX2_send_24 (by decide) (fun h24 => ?_) (fun h24 => ?_)
    · exact absurd h24 (by decide)
    have hb08 : b0 < 8 := by omega
    refine s_aload_n G dX2_send_27 rfl ?_
    refine gX2_11 G (by assumption) dX2_send_28 ?_
    refine s_aload_n G dX2_send_31 rfl ?_
    refine gX2_87 G (by assumption) (by assumption) dX2_send_32 ?_
    refine ar_6 G (by assumption) (ea.trans hbx) hb08 dX2_send_35 ?_
    refine s_dup G dX2_send_36 rfl ?_
    refine gX2_93 G (by assumption) (by assumption) dX2_send_37 ?_
    refine s_iconst (v := 1) G dX2_send_40 (by decide) ?_
    refine s_isub G dX2_send_41 ?_
    refine pX2_93 G (by assumption) (by assumption) dX2_send_42 ?_
    refine tail _ (fun kd a k h1 => ?_) (Fr.b2 Fr.rf hb0) (fun b hb => ?_)
    · simp only [up]
      rw [if_neg (by rintro ⟨q, q2⟩; cases q; exact h1 ⟨rfl, q2⟩)]
    · have e0 := hw0 b
      by_cases hbb : b = b0
      · subst hbb
        rw [up_at, if_pos rfl, hS.wks hb, if_pos hbx]
        rw [if_pos hbx] at e0
        exact pk_sub (a := wk g b) (b := 1) (hwp b hbx)
      · have hne : ¬ g.i 3 h 1 = nI b := fun q => hbb (nI_inj (by omega) (by omega) (q.symm.trans hbx))
        rw [up_ne (by simp [hbb]), hS.wks hb, if_neg hne]
        rfl
  · refine s_if_eq G 45 dX2_send_24 (by decide) (fun h24 => ?_) (fun h24 => ?_)
    rotate_left
    · exact absurd rfl h24
    refine tail _ (fun _ _ _ _ => rfl) Fr.rf (fun b hb => ?_)
    rw [hS.wks hb, if_neg (hno b hb)]
    rfl
end Fete1
