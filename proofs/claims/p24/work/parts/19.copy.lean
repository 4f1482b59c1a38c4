/-! ===== copies, and what is new on the green ===== -/
section Copy
variable {E : EX} {M : Mem}
/-- the fields of an object are another's -/
def sameF (M M' : Mem) (i j : Pid) (n : Nat) : Prop := ∀ k, k < n → M' i k = M j k
theorem c_copy0 {b : Nat} (hb : b < 8) : Ret E idsC yX0_copyFrom cX0_copyFrom 3 none 0 0 [.ref (E.ad (2, 1, b)), .ref (E.ad (2, 0, b))] M (fun r M' => r = none ∧ sameF M M' (2, 1, b) (2, 0, b) 8 ∧ sameF M M' (9, 1, b) (9, 0, b) 16 ∧ ∀ i : Pid, i ≠ (2, 1, b) → i ≠ (9, 1, b) → M' i = M i) := by
  have h0 : 0 < 2 := by decide
  have h1 : 1 < 2 := by decide
  refine Ret_of_V RX0 (by decide) rfl idsC_nd [some (.ref (E.ad (2, 1, b))), some (.ref (E.ad (2, 0, b))), none] rfl (Nat.le_of_ble_eq_true rfl) (fun κ hE G E9 hr => ?_)
  subst hE
  refine s_aload_n G dX0_copyFrom_0 rfl ?_
  refine s_aload_n G dX0_copyFrom_1 rfl ?_
  refine gX0_15 G (by assumption) (by assumption) dX0_copyFrom_2 ?_
  refine pX0_15 G (by assumption) (by assumption) dX0_copyFrom_5 ?_
  refine s_aload_n G dX0_copyFrom_8 rfl ?_
  refine s_aload_n G dX0_copyFrom_9 rfl ?_
  refine gX0_19 G (by assumption) (by assumption) dX0_copyFrom_10 ?_
  refine pX0_19 G (by assumption) (by assumption) dX0_copyFrom_13 ?_
  refine s_aload_n G dX0_copyFrom_16 rfl ?_
  refine s_aload_n G dX0_copyFrom_17 rfl ?_
  refine gX0_22 G (by assumption) (by assumption) dX0_copyFrom_18 ?_
  refine pX0_22 G (by assumption) (by assumption) dX0_copyFrom_21 ?_
  refine s_aload_n G dX0_copyFrom_24 rfl ?_
  refine s_aload_n G dX0_copyFrom_25 rfl ?_
  refine gX0_25 G (by assumption) (by assumption) dX0_copyFrom_26 ?_
  refine pX0_25 G (by assumption) (by assumption) dX0_copyFrom_29 ?_
  refine s_aload_n G dX0_copyFrom_32 rfl ?_
  refine s_aload_n G dX0_copyFrom_33 rfl ?_
  refine gX0_28 G (by assumption) (by assumption) dX0_copyFrom_34 ?_
  refine pX0_28 G (by assumption) (by assumption) dX0_copyFrom_37 ?_
  refine s_aload_n G dX0_copyFrom_40 rfl ?_
  refine s_aload_n G dX0_copyFrom_41 rfl ?_
  refine gX0_31 G (by assumption) (by assumption) dX0_copyFrom_42 ?_
  refine pX0_31 G (by assumption) (by assumption) dX0_copyFrom_45 ?_
  refine s_aload_n G dX0_copyFrom_48 rfl ?_
  refine s_aload_n G dX0_copyFrom_49 rfl ?_
  refine gX0_34 G (by assumption) (by assumption) dX0_copyFrom_50 ?_
  refine pX0_34 G (by assumption) (by assumption) dX0_copyFrom_53 ?_
  refine s_aload_n G dX0_copyFrom_56 rfl ?_
  refine s_aload_n G dX0_copyFrom_57 rfl ?_
  refine gX0_37 G (by assumption) (by assumption) dX0_copyFrom_58 ?_
  refine pX0_37 G (by assumption) (by assumption) dX0_copyFrom_61 ?_
  refine V.abs (fun M1 hM1 => ?_)
  have hf : sameF M M1 (2, 1, b) (2, 0, b) 8 := by
    intro k hk
    rw [hM1]
    have hk9 : k = 0 ∨ k = 1 ∨ k = 2 ∨ k = 3 ∨ k = 4 ∨ k = 5 ∨ k = 6 ∨ k = 7 := by omega
    rcases hk9 with rfl | rfl | rfl | rfl | rfl | rfl | rfl | rfl <;> simp [up]
  have ho : ∀ i : Pid, i ≠ (2, 1, b) → M1 i = M i := by
    intro i hi
    rw [hM1]
    rw [up_ne hi]; rw [up_ne hi]; rw [up_ne hi]; rw [up_ne hi]; rw [up_ne hi]; rw [up_ne hi]; rw [up_ne hi]; rw [up_ne hi]
  clear hM1
  have loop : ∀ n c, c + n = 16 → ∀ M2 : Mem, sameF M M2 (2, 1, b) (2, 0, b) 8 → (∀ i : Pid, i ≠ (2, 1, b) → i ≠ (9, 1, b) → M2 i = M i) → sameF M M2 (9, 1, b) (9, 0, b) c → V κ idsC 3 M2 [some (.ref (κ.E.ad (2, 1, b))), some (.ref (κ.E.ad (2, 0, b))), some (.int (nI c))] [] 66 := by
    intro n
    induction n with
    | zero =>
      intro c hc M2 h2 h3 h4
      have hc : c = 16 := by omega
      subst hc
      refine s_iload_n G dX0_copyFrom_66 rfl ?_
      refine s_bipush (v := 16) G dX0_copyFrom_67 (by decide) ?_
      refine s_icmp_ge G 90 dX0_copyFrom_69 (by decide) (fun h69 => ?_) (fun h69 => ?_)
      · refine s_vret G E9 hr dX0_copyFrom_90 ⟨rfl, h2, h4, h3⟩
      · exact absurd (show ((16 : Int32) ≤ nI 16) by decide) h69
    | succ n ih =>
      intro c hc M2 h2 h3 h4
      have hc16 : c < 16 := by omega
      refine s_iload_n G dX0_copyFrom_66 rfl ?_
      refine s_bipush (v := 16) G dX0_copyFrom_67 (by decide) ?_
      refine s_icmp_ge G 90 dX0_copyFrom_69 (by decide) (fun h69 => ?_) (fun h69 => ?_)
      · exact absurd h69 (nI_ge (b := 16) hc16 (by decide))
      refine s_aload_n G dX0_copyFrom_72 rfl ?_
      refine gX0_9 G (by assumption) (by assumption) dX0_copyFrom_73 ?_
      refine s_iload_n G dX0_copyFrom_76 rfl ?_
      refine s_aload_n G dX0_copyFrom_77 rfl ?_
      refine gX0_9 G (by assumption) (by assumption) dX0_copyFrom_78 ?_
      refine s_iload_n G dX0_copyFrom_81 rfl ?_
      refine al_9 G (by assumption) (by assumption) rfl (by first | assumption | omega) dX0_copyFrom_82 ?_
      refine as_9 G (by assumption) (by assumption) rfl (by first | assumption | omega) dX0_copyFrom_83 ?_
      refine s_iinc G dX0_copyFrom_84 rfl (by decide) rfl (nI_1 c) ?_
      refine s_goto G 66 dX0_copyFrom_87 (by decide) ?_
      refine ih (c + 1) (by omega) _ (fun k hk => ?_) (fun i q1 q2 => ?_) (fun k hk => ?_)
      · rw [up_ne (by simp)]; exact h2 k hk
      · rw [up_ne q2]; exact h3 i q1 q2
      · rw [up_at]
        by_cases q : k = c
        · rw [if_pos q, q, h3 (9, 0, b) (by simp) (by simp)]
        · rw [if_neg q]; exact h4 k (by omega)
  refine s_iconst (v := 0) G dX0_copyFrom_64 (by decide) ?_
  refine s_istore_n G dX0_copyFrom_65 (by decide) rfl ?_
  exact loop 16 0 (by omega) M1 hf (fun i q1 _ => ho i q1) (fun k hk => by omega)
theorem c_copy3 {b : Nat} (hb : b < 12) : Ret E idsC yX3_copyFrom cX3_copyFrom 2 none 0 0 [.ref (E.ad (3, 1, b)), .ref (E.ad (3, 0, b))] M (fun r M' => r = none ∧ sameF M M' (3, 1, b) (3, 0, b) 3 ∧ ∀ i : Pid, i ≠ (3, 1, b) → M' i = M i) := by
  have h0 : 0 < 2 := by decide
  have h1 : 1 < 2 := by decide
  refine Ret_of_V RX3 (by decide) rfl idsC_nd [some (.ref (E.ad (3, 1, b))), some (.ref (E.ad (3, 0, b)))] rfl (Nat.le_of_ble_eq_true rfl) (fun κ hE G E9 hr => ?_)
  subst hE
  refine s_aload_n G dX3_copyFrom_0 rfl ?_
  refine s_aload_n G dX3_copyFrom_1 rfl ?_
  refine gX3_9 G (by assumption) (by assumption) dX3_copyFrom_2 ?_
  refine pX3_9 G (by assumption) (by assumption) dX3_copyFrom_5 ?_
  refine s_aload_n G dX3_copyFrom_8 rfl ?_
  refine s_aload_n G dX3_copyFrom_9 rfl ?_
  refine gX3_15 G (by assumption) (by assumption) dX3_copyFrom_10 ?_
  refine pX3_15 G (by assumption) (by assumption) dX3_copyFrom_13 ?_
  refine s_aload_n G dX3_copyFrom_16 rfl ?_
  refine s_aload_n G dX3_copyFrom_17 rfl ?_
  refine gX3_18 G (by assumption) (by assumption) dX3_copyFrom_18 ?_
  refine pX3_18 G (by assumption) (by assumption) dX3_copyFrom_21 ?_
  refine V.abs (fun M1 hM1 => ?_)
  have hf : sameF M M1 (3, 1, b) (3, 0, b) 3 := by
    intro k hk
    rw [hM1]
    have hk9 : k = 0 ∨ k = 1 ∨ k = 2 := by omega
    rcases hk9 with rfl | rfl | rfl <;> simp [up]
  have ho : ∀ i : Pid, i ≠ (3, 1, b) → M1 i = M i := by
    intro i hi
    rw [hM1]
    rw [up_ne hi]; rw [up_ne hi]; rw [up_ne hi]
  clear hM1
  refine s_vret G E9 hr dX3_copyFrom_24 ⟨rfl, hf, ho⟩
theorem c_copy4 {b : Nat} (hb : b < 16) (hz : M (4, 0, b) 2 = 0 ∨ M (4, 0, b) 2 = 1) : Ret E idsC yX4_copyFrom cX4_copyFrom 3 none 0 0 [.ref (E.ad (4, 1, b)), .ref (E.ad (4, 0, b))] M (fun r M' => r = none ∧ sameF M M' (4, 1, b) (4, 0, b) 8 ∧ sameF M M' (10, 1, b) (10, 0, b) 8 ∧ ∀ i : Pid, i ≠ (4, 1, b) → i ≠ (10, 1, b) → M' i = M i) := by
  have h0 : 0 < 2 := by decide
  have h1 : 1 < 2 := by decide
  refine Ret_of_V RX4 (by decide) rfl idsC_nd [some (.ref (E.ad (4, 1, b))), some (.ref (E.ad (4, 0, b))), none] rfl (Nat.le_of_ble_eq_true rfl) (fun κ hE G E9 hr => ?_)
  subst hE
  refine s_aload_n G dX4_copyFrom_0 rfl ?_
  refine s_aload_n G dX4_copyFrom_1 rfl ?_
  refine gX4_15 G (by assumption) (by assumption) dX4_copyFrom_2 ?_
  refine pX4_15 G (by assumption) (by assumption) dX4_copyFrom_5 ?_
  refine s_aload_n G dX4_copyFrom_8 rfl ?_
  refine s_aload_n G dX4_copyFrom_9 rfl ?_
  refine gX4_19 G (by assumption) (by assumption) dX4_copyFrom_10 ?_
  refine pX4_19 G (by assumption) (by assumption) dX4_copyFrom_13 ?_
  refine s_aload_n G dX4_copyFrom_16 rfl ?_
  refine s_aload_n G dX4_copyFrom_17 rfl ?_
  refine gX4_25 G (by assumption) (by assumption) dX4_copyFrom_18 ?_
  refine pX4_25 G (by assumption) (by assumption) (by simpa [up] using hz) dX4_copyFrom_21 ?_
  refine s_aload_n G dX4_copyFrom_24 rfl ?_
  refine s_aload_n G dX4_copyFrom_25 rfl ?_
  refine gX4_22 G (by assumption) (by assumption) dX4_copyFrom_26 ?_
  refine pX4_22 G (by assumption) (by assumption) dX4_copyFrom_29 ?_
  refine s_aload_n G dX4_copyFrom_32 rfl ?_
  refine s_aload_n G dX4_copyFrom_33 rfl ?_
  refine gX4_29 G (by assumption) (by assumption) dX4_copyFrom_34 ?_
  refine pX4_29 G (by assumption) (by assumption) dX4_copyFrom_37 ?_
  refine s_aload_n G dX4_copyFrom_40 rfl ?_
  refine s_aload_n G dX4_copyFrom_41 rfl ?_
  refine gX4_32 G (by assumption) (by assumption) dX4_copyFrom_42 ?_
  refine pX4_32 G (by assumption) (by assumption) dX4_copyFrom_45 ?_
  refine s_aload_n G dX4_copyFrom_48 rfl ?_
  refine s_aload_n G dX4_copyFrom_49 rfl ?_
  refine gX4_35 G (by assumption) (by assumption) dX4_copyFrom_50 ?_
  refine pX4_35 G (by assumption) (by assumption) dX4_copyFrom_53 ?_
  refine s_aload_n G dX4_copyFrom_56 rfl ?_
  refine s_aload_n G dX4_copyFrom_57 rfl ?_
  refine gX4_38 G (by assumption) (by assumption) dX4_copyFrom_58 ?_
  refine pX4_38 G (by assumption) (by assumption) dX4_copyFrom_61 ?_
  refine V.abs (fun M1 hM1 => ?_)
  have hf : sameF M M1 (4, 1, b) (4, 0, b) 8 := by
    intro k hk
    rw [hM1]
    have hk9 : k = 0 ∨ k = 1 ∨ k = 2 ∨ k = 3 ∨ k = 4 ∨ k = 5 ∨ k = 6 ∨ k = 7 := by omega
    rcases hk9 with rfl | rfl | rfl | rfl | rfl | rfl | rfl | rfl <;> simp [up]
  have ho : ∀ i : Pid, i ≠ (4, 1, b) → M1 i = M i := by
    intro i hi
    rw [hM1]
    rw [up_ne hi]; rw [up_ne hi]; rw [up_ne hi]; rw [up_ne hi]; rw [up_ne hi]; rw [up_ne hi]; rw [up_ne hi]; rw [up_ne hi]
  clear hM1
  have loop : ∀ n c, c + n = 8 → ∀ M2 : Mem, sameF M M2 (4, 1, b) (4, 0, b) 8 → (∀ i : Pid, i ≠ (4, 1, b) → i ≠ (10, 1, b) → M2 i = M i) → sameF M M2 (10, 1, b) (10, 0, b) c → V κ idsC 3 M2 [some (.ref (κ.E.ad (4, 1, b))), some (.ref (κ.E.ad (4, 0, b))), some (.int (nI c))] [] 66 := by
    intro n
    induction n with
    | zero =>
      intro c hc M2 h2 h3 h4
      have hc : c = 8 := by omega
      subst hc
      refine s_iload_n G dX4_copyFrom_66 rfl ?_
      refine s_bipush (v := 8) G dX4_copyFrom_67 (by decide) ?_
      refine s_icmp_ge G 90 dX4_copyFrom_69 (by decide) (fun h69 => ?_) (fun h69 => ?_)
      · refine s_vret G E9 hr dX4_copyFrom_90 ⟨rfl, h2, h4, h3⟩
      · exact absurd (show ((8 : Int32) ≤ nI 8) by decide) h69
    | succ n ih =>
      intro c hc M2 h2 h3 h4
      have hc16 : c < 8 := by omega
      refine s_iload_n G dX4_copyFrom_66 rfl ?_
      refine s_bipush (v := 8) G dX4_copyFrom_67 (by decide) ?_
      refine s_icmp_ge G 90 dX4_copyFrom_69 (by decide) (fun h69 => ?_) (fun h69 => ?_)
      · exact absurd h69 (nI_ge (b := 8) hc16 (by decide))
      refine s_aload_n G dX4_copyFrom_72 rfl ?_
      refine gX4_9 G (by assumption) (by assumption) dX4_copyFrom_73 ?_
      refine s_iload_n G dX4_copyFrom_76 rfl ?_
      refine s_aload_n G dX4_copyFrom_77 rfl ?_
      refine gX4_9 G (by assumption) (by assumption) dX4_copyFrom_78 ?_
      refine s_iload_n G dX4_copyFrom_81 rfl ?_
      refine al_10 G (by assumption) (by assumption) rfl (by first | assumption | omega) dX4_copyFrom_82 ?_
      refine as_10 G (by assumption) (by assumption) rfl (by first | assumption | omega) dX4_copyFrom_83 ?_
      refine s_iinc G dX4_copyFrom_84 rfl (by decide) rfl (nI_1 c) ?_
      refine s_goto G 66 dX4_copyFrom_87 (by decide) ?_
      refine ih (c + 1) (by omega) _ (fun k hk => ?_) (fun i q1 q2 => ?_) (fun k hk => ?_)
      · rw [up_ne (by simp)]; exact h2 k hk
      · rw [up_ne q2]; exact h3 i q1 q2
      · rw [up_at]
        by_cases q : k = c
        · rw [if_pos q, q, h3 (10, 0, b) (by simp) (by simp)]
        · rw [if_neg q]; exact h4 k (by omega)
  refine s_iconst (v := 0) G dX4_copyFrom_64 (by decide) ?_
  refine s_istore_n G dX4_copyFrom_65 (by decide) rfl ?_
  exact loop 8 0 (by omega) M1 hf (fun i q1 _ => ho i q1) (fun k hk => by omega)
theorem c_copy1 : Ret E idsC yX1_copyFrom cX1_copyFrom 3 none 0 0 [.ref (E.ad (5, 1, 0)), .ref (E.ad (5, 0, 0))] M (fun r M' => r = none ∧ M' (5, 1, 0) 0 = M (5, 0, 0) 0 ∧ sameF M M' (11, 1, 0) (11, 0, 0) 3 ∧ sameF M M' (12, 1, 0) (12, 0, 0) 3 ∧ sameF M M' (13, 1, 0) (13, 0, 0) 3 ∧ ∀ i : Pid, i ≠ (5, 1, 0) → i ≠ (11, 1, 0) → i ≠ (12, 1, 0) → i ≠ (13, 1, 0) → M' i = M i) := by
  have h0 : 0 < 2 := by decide
  have h1 : 1 < 2 := by decide
  refine Ret_of_V RX1 (by decide) rfl idsC_nd [some (.ref (E.ad (5, 1, 0))), some (.ref (E.ad (5, 0, 0))), none] rfl (Nat.le_of_ble_eq_true rfl) (fun κ hE G E9 hr => ?_)
  subst hE
  have loop : ∀ n c, c + n = 3 → ∀ M2 : Mem, M2 (5, 1, 0) 0 = M (5, 0, 0) 0 → (∀ i : Pid, i ≠ (5, 1, 0) → i ≠ (11, 1, 0) → i ≠ (12, 1, 0) → i ≠ (13, 1, 0) → M2 i = M i) → sameF M M2 (11, 1, 0) (11, 0, 0) c → sameF M M2 (12, 1, 0) (12, 0, 0) c → sameF M M2 (13, 1, 0) (13, 0, 0) c → V κ idsC 3 M2 [some (.ref (κ.E.ad (5, 1, 0))), some (.ref (κ.E.ad (5, 0, 0))), some (.int (nI c))] [] 10 := by
    intro n
    induction n with
    | zero =>
      intro c hc M2 h2 h3 h4 h5 h6
      have hc : c = 3 := by omega
      subst hc
      refine s_iload_n G dX1_copyFrom_10 rfl ?_
      refine s_iconst (v := 3) G dX1_copyFrom_11 (by decide) ?_
      refine s_icmp_ge G 57 dX1_copyFrom_12 (by decide) (fun h12 => ?_) (fun h12 => ?_)
      · refine s_vret G E9 hr dX1_copyFrom_57 ⟨rfl, h2, h4, h5, h6, h3⟩
      · exact absurd (show ((3 : Int32) ≤ nI 3) by decide) h12
    | succ n ih =>
      intro c hc M2 h2 h3 h4 h5 h6
      have hc3 : c < 3 := by omega
      refine s_iload_n G dX1_copyFrom_10 rfl ?_
      refine s_iconst (v := 3) G dX1_copyFrom_11 (by decide) ?_
      refine s_icmp_ge G 57 dX1_copyFrom_12 (by decide) (fun h12 => ?_) (fun h12 => ?_)
      · exact absurd h12 (nI_ge (b := 3) hc3 (by decide))
      refine s_aload_n G dX1_copyFrom_15 rfl ?_
      refine gX1_9 G (by assumption) dX1_copyFrom_16 ?_
      refine s_iload_n G dX1_copyFrom_19 rfl ?_
      refine s_aload_n G dX1_copyFrom_20 rfl ?_
      refine gX1_9 G (by assumption) dX1_copyFrom_21 ?_
      refine s_iload_n G dX1_copyFrom_24 rfl ?_
      refine al_11 G (by assumption) rfl (by first | assumption | omega) dX1_copyFrom_25 ?_
      refine as_11 G (by assumption) rfl (by first | assumption | omega) dX1_copyFrom_26 ?_
      refine s_aload_n G dX1_copyFrom_27 rfl ?_
      refine gX1_15 G (by assumption) dX1_copyFrom_28 ?_
      refine s_iload_n G dX1_copyFrom_31 rfl ?_
      refine s_aload_n G dX1_copyFrom_32 rfl ?_
      refine gX1_15 G (by assumption) dX1_copyFrom_33 ?_
      refine s_iload_n G dX1_copyFrom_36 rfl ?_
      refine al_12 G (by assumption) rfl (by first | assumption | omega) dX1_copyFrom_37 ?_
      refine as_12 G (by assumption) rfl (by first | assumption | omega) dX1_copyFrom_38 ?_
      refine s_aload_n G dX1_copyFrom_39 rfl ?_
      refine gX1_18 G (by assumption) dX1_copyFrom_40 ?_
      refine s_iload_n G dX1_copyFrom_43 rfl ?_
      refine s_aload_n G dX1_copyFrom_44 rfl ?_
      refine gX1_18 G (by assumption) dX1_copyFrom_45 ?_
      refine s_iload_n G dX1_copyFrom_48 rfl ?_
      refine al_13 G (by assumption) rfl (by first | assumption | omega) dX1_copyFrom_49 ?_
      refine as_13 G (by assumption) rfl (by first | assumption | omega) dX1_copyFrom_50 ?_
      refine s_iinc G dX1_copyFrom_51 rfl (by decide) rfl (nI_1 c) ?_
      refine s_goto G 10 dX1_copyFrom_54 (by decide) ?_
      have e11 : M2 (11, 0, 0) = M (11, 0, 0) := h3 _ (by simp) (by simp) (by simp) (by simp)
      have e12 : M2 (12, 0, 0) = M (12, 0, 0) := h3 _ (by simp) (by simp) (by simp) (by simp)
      have e13 : M2 (13, 0, 0) = M (13, 0, 0) := h3 _ (by simp) (by simp) (by simp) (by simp)
      refine ih (c + 1) (by omega) _ ?_ (fun i q1 q2 q3 q4 => ?_) (fun k hk => ?_) (fun k hk => ?_) (fun k hk => ?_)
      · simp [up, h2]
      · rw [up_ne q4, up_ne q3, up_ne q2]; exact h3 i q1 q2 q3 q4
      · by_cases q : k = c
        · simp [up, q, e11]
        · simp [up, q]; exact h4 k (by omega)
      · by_cases q : k = c
        · simp [up, q, e12]
        · simp [up, q]; exact h5 k (by omega)
      · by_cases q : k = c
        · simp [up, q, e13]
        · simp [up, q]; exact h6 k (by omega)
  refine s_aload_n G dX1_copyFrom_0 rfl ?_
  refine s_aload_n G dX1_copyFrom_1 rfl ?_
  refine gX1_21 G (by assumption) dX1_copyFrom_2 ?_
  refine pX1_21 G (by assumption) dX1_copyFrom_5 ?_
  refine s_iconst (v := 0) G dX1_copyFrom_8 (by decide) ?_
  refine s_istore_n G dX1_copyFrom_9 (by decide) rfl ?_
  exact loop 3 0 (by omega) _ (by simp [up]) (fun i q1 _ _ _ => up_ne q1) (fun k hk => by omega) (fun k hk => by omega) (fun k hk => by omega)
/-- a copy of a green holds what it holds -/
theorem SimC.copy {M' : Mem} {g : GS} (hS : SimC 0 M g) (hI : Inv g) (h1 : ∀ k, M' (1, 1, 0) k = M (1, 0, 0) k ∨ (k ≠ 1 ∧ k ≠ 3 ∧ k ≠ 5 ∧ (k < 7 ∨ 10 < k))) (h2 : ∀ b, b < g.nb → sameF M M' (2, 1, b) (2, 0, b) 8 ∧ sameF M M' (9, 1, b) (9, 0, b) 16) (h3 : ∀ h, h < g.nh → sameF M M' (3, 1, h) (3, 0, h) 3) (h4 : ∀ v, v < g.nv → sameF M M' (4, 1, v) (4, 0, v) 8 ∧ sameF M M' (10, 1, v) (10, 0, v) 8) (h5 : M' (5, 1, 0) 0 = M (5, 0, 0) 0) (h6 : sameF M M' (11, 1, 0) (11, 0, 0) 3) (h7 : sameF M M' (12, 1, 0) (12, 0, 0) 3) (h8 : sameF M M' (13, 1, 0) (13, 0, 0) 3) : SimC 1 M' g := by
  have q16 := fun b (hb : b < g.nb) => hI.ql16 hb
  have l3 := hI.bd3
  obtain ⟨⟨a1, a2, a3, a4⟩, a5, a6, a7, a8, a9⟩ := hS
  refine ⟨⟨?_, ?_, ?_, fun k p q => ?_⟩, fun b hb => ?_, fun h hh k hk => ?_, fun v hv => ⟨fun k hk => ?_, fun b hb => ?_⟩, h5.trans a8, fun l x hx => ?_⟩
  · rw [(h1 1).resolve_right (by omega)]; exact a1
  · rw [(h1 3).resolve_right (by omega)]; exact a2
  · rw [(h1 5).resolve_right (by omega)]; exact a3
  · rw [(h1 k).resolve_right (by omega)]; exact a4 k p q
  · obtain ⟨b1, b2, b3, b4⟩ := a5 b hb
    obtain ⟨c1, c2⟩ := h2 b hb
    refine ⟨fun k p q => (c1 k (by omega)).trans (b1 k p q), (c1 4 (by omega)).trans b2, (c1 7 (by omega)).trans b3, fun i u hu => ?_⟩
    have := (List.getElem?_eq_some_iff.mp hu).1
    have := q16 b hb
    exact (c2 i (by omega)).trans (b4 i u hu)
  · exact (h3 h hh k hk).trans (a6 h hh k hk)
  · exact ((h4 v hv).1 k hk).trans ((a7 v hv).1 k hk)
  · exact ((h4 v hv).2 b hb).trans ((a7 v hv).2 b hb)
  · have := (List.getElem?_eq_some_iff.mp hx).1
    obtain ⟨e1, e2, e3⟩ := a9 l x hx
    exact ⟨(h6 l (by omega)).trans e1, (h7 l (by omega)).trans e2, (h8 l (by omega)).trans e3⟩
theorem c_copy2 {g : GS} (hS : SimC 0 M g) (hI : Inv g) : Ret E idsC yX2_copyFrom cX2_copyFrom 3 none 1 22 [.ref (E.ad (1, 1, 0)), .ref (E.ad (1, 0, 0))] M (fun r M' => r = none ∧ SimC 1 M' g ∧ ∀ kd f a, f ≠ 1 → M' (kd, f, a) = M (kd, f, a)) := by
  have h0 : 0 < 2 := by decide
  have h1 : 1 < 2 := by decide
  have hb8 := hI.nb8
  have hh12 := hI.nh12
  have hv16 := hI.nv16
  refine Ret_of_V RX2 (by decide) rfl idsC_nd [some (.ref (E.ad (1, 1, 0))), some (.ref (E.ad (1, 0, 0))), none] rfl (Nat.le_of_ble_eq_true rfl) (fun κ hE G E9 hr => ?_)
  subst hE
  refine s_aload_n G dX2_copyFrom_0 rfl ?_
  refine s_aload_n G dX2_copyFrom_1 rfl ?_
  refine gX2_46 G (by assumption) dX2_copyFrom_2 ?_
  refine pX2_46 G (by assumption) dX2_copyFrom_5 ?_
  refine s_aload_n G dX2_copyFrom_8 rfl ?_
  refine s_aload_n G dX2_copyFrom_9 rfl ?_
  refine gX2_49 G (by assumption) dX2_copyFrom_10 ?_
  refine pX2_49 G (by assumption) dX2_copyFrom_13 ?_
  refine s_aload_n G dX2_copyFrom_16 rfl ?_
  refine s_aload_n G dX2_copyFrom_17 rfl ?_
  refine gX2_52 G (by assumption) dX2_copyFrom_18 ?_
  refine pX2_52 G (by assumption) dX2_copyFrom_21 ?_
  refine s_aload_n G dX2_copyFrom_24 rfl ?_
  refine s_aload_n G dX2_copyFrom_25 rfl ?_
  refine gX2_55 G (by assumption) dX2_copyFrom_26 ?_
  refine pX2_55 G (by assumption) dX2_copyFrom_29 ?_
  refine s_aload_n G dX2_copyFrom_32 rfl ?_
  refine s_aload_n G dX2_copyFrom_33 rfl ?_
  refine gX2_36 G (by assumption) dX2_copyFrom_34 ?_
  refine pX2_36 G (by assumption) dX2_copyFrom_37 ?_
  refine s_aload_n G dX2_copyFrom_40 rfl ?_
  refine s_aload_n G dX2_copyFrom_41 rfl ?_
  refine gX2_40 G (by assumption) dX2_copyFrom_42 ?_
  refine pX2_40 G (by assumption) dX2_copyFrom_45 ?_
  refine s_aload_n G dX2_copyFrom_48 rfl ?_
  refine s_aload_n G dX2_copyFrom_49 rfl ?_
  refine gX2_58 G (by assumption) dX2_copyFrom_50 ?_
  refine pX2_58 G (by assumption) dX2_copyFrom_53 ?_
  refine V.abs (fun M1 hM1 => ?_)
  have hnum : ∀ k, M1 (1, 1, 0) k = M (1, 0, 0) k ∨ (k ≠ 1 ∧ k ≠ 3 ∧ k ≠ 5 ∧ (k < 7 ∨ 10 < k)) := by
    intro k
    by_cases q : k ≠ 1 ∧ k ≠ 3 ∧ k ≠ 5 ∧ (k < 7 ∨ 10 < k)
    · exact Or.inr q
    · left
      have hk9 : k = 1 ∨ k = 3 ∨ k = 5 ∨ k = 7 ∨ k = 8 ∨ k = 9 ∨ k = 10 := by omega
      rw [hM1]
      rcases hk9 with rfl | rfl | rfl | rfl | rfl | rfl | rfl <;> simp [up]
  have ho : ∀ kd f a, f ≠ 1 → M1 (kd, f, a) = M (kd, f, a) := by
    intro kd f a q
    rw [hM1, up_ne (by simp [q]), up_ne (by simp [q]), up_ne (by simp [q]), up_ne (by simp [q]), up_ne (by simp [q]), up_ne (by simp [q]), up_ne (by simp [q])]
  clear hM1
  have en1 : M1 (1, 1, 0) 1 = nI g.nb := ((hnum 1).resolve_right (by omega)).trans hS.nb
  have en3 : M1 (1, 1, 0) 3 = nI g.nh := ((hnum 3).resolve_right (by omega)).trans hS.nh
  have en5 : M1 (1, 1, 0) 5 = nI g.nv := ((hnum 5).resolve_right (by omega)).trans hS.nv
  have pv : ∀ n v, v + n = g.nv → ∀ M2 : Mem, M2 (1, 1, 0) = M1 (1, 1, 0) → (∀ kd f a, f ≠ 1 → M2 (kd, f, a) = M (kd, f, a)) → (∀ b, b < g.nb → sameF M M2 (2, 1, b) (2, 0, b) 8 ∧ sameF M M2 (9, 1, b) (9, 0, b) 16) → (∀ h, h < g.nh → sameF M M2 (3, 1, h) (3, 0, h) 3) → (∀ u, u < v → sameF M M2 (4, 1, u) (4, 0, u) 8 ∧ sameF M M2 (10, 1, u) (10, 0, u) 8) → V κ idsC 3 M2 [some (.ref (κ.E.ad (1, 1, 0))), some (.ref (κ.E.ad (1, 0, 0))), some (.int (nI v))] [] 120 := by
    intro n
    induction n with
    | zero =>
      intro v hv M2 hn2 ho2 hb2 hh2 hv2
      have hv : v = g.nv := by omega
      subst hv
      refine s_iload_n G dX2_copyFrom_120 rfl ?_
      refine s_aload_n G dX2_copyFrom_121 rfl ?_
      refine gX2_52 G (by assumption) dX2_copyFrom_122 ?_
      rw [hn2, en5]
      refine s_icmp_ge G 149 dX2_copyFrom_125 (by decide) (fun h125 => ?_) (fun h125 => ?_)
      rotate_left
      · exact absurd (Int32.le_refl _) h125
      refine s_aload_n G dX2_copyFrom_149 rfl ?_
      refine gX2_32 G (by assumption) dX2_copyFrom_150 ?_
      refine s_aload_n G dX2_copyFrom_153 rfl ?_
      refine gX2_32 G (by assumption) dX2_copyFrom_154 ?_
      refine iX2_71 G (by assumption) (c_copy1) (by decide) (Nat.le_of_ble_eq_true rfl) dX2_copyFrom_157 (fun r9 M9 hp9 => ?_)
      obtain ⟨rfl, k1, k2, k3, k4, k5⟩ := hp9
      rename Mem => M3
      refine s_vret G E9 hr dX2_copyFrom_160 ⟨rfl, ?_, fun kd f a q => ?_⟩
      · refine hS.copy hI (fun k => ?_) (fun b hb => ?_) (fun h hh => ?_) (fun u hu => ?_) ?_ ?_ ?_ ?_
        · rw [k5 _ (by simp) (by simp) (by simp) (by simp), hn2]; exact hnum k
        · refine ⟨fun k hk => ?_, fun k hk => ?_⟩
          · rw [k5 _ (by simp) (by simp) (by simp) (by simp)]; exact (hb2 b hb).1 k hk
          · rw [k5 _ (by simp) (by simp) (by simp) (by simp)]; exact (hb2 b hb).2 k hk
        · intro k hk
          rw [k5 _ (by simp) (by simp) (by simp) (by simp)]; exact hh2 h hh k hk
        · refine ⟨fun k hk => ?_, fun k hk => ?_⟩
          · rw [k5 _ (by simp) (by simp) (by simp) (by simp)]; exact (hv2 u hu).1 k hk
          · rw [k5 _ (by simp) (by simp) (by simp) (by simp)]; exact (hv2 u hu).2 k hk
        · rw [k1, ho2 _ _ _ (by decide)]
        · intro k hk; rw [k2 k hk, ho2 _ _ _ (by decide)]
        · intro k hk; rw [k3 k hk, ho2 _ _ _ (by decide)]
        · intro k hk; rw [k4 k hk, ho2 _ _ _ (by decide)]
      · rw [k5 _ (by simp [q]) (by simp [q]) (by simp [q]) (by simp [q])]; exact ho2 kd f a q
    | succ n ih =>
      intro v hv M2 hn2 ho2 hb2 hh2 hv2
      have hvn : v < g.nv := by omega
      have hv9 : v < 16 := by omega
      refine s_iload_n G dX2_copyFrom_120 rfl ?_
      refine s_aload_n G dX2_copyFrom_121 rfl ?_
      refine gX2_52 G (by assumption) dX2_copyFrom_122 ?_
      rw [hn2, en5]
      refine s_icmp_ge G 149 dX2_copyFrom_125 (by decide) (fun h125 => ?_) (fun h125 => ?_)
      · exact absurd h125 (nI_ge hvn (by omega))
      refine s_aload_n G dX2_copyFrom_128 rfl ?_
      refine gX2_25 G (by assumption) dX2_copyFrom_129 ?_
      refine s_iload_n G dX2_copyFrom_132 rfl ?_
      refine ar_8 G (by assumption) rfl (by first | assumption | omega) dX2_copyFrom_133 ?_
      refine s_aload_n G dX2_copyFrom_134 rfl ?_
      refine gX2_25 G (by assumption) dX2_copyFrom_135 ?_
      refine s_iload_n G dX2_copyFrom_138 rfl ?_
      refine ar_8 G (by assumption) rfl (by first | assumption | omega) dX2_copyFrom_139 ?_
      refine iX2_68 G (by assumption) (by assumption) (c_copy4 hv9 (by rw [ho2 _ _ _ (by decide), hS.vi (k := 2) hvn (by decide)]; exact hI.vho hvn)) (by decide) (Nat.le_of_ble_eq_true rfl) dX2_copyFrom_140 (fun r9 M9 hp9 => ?_)
      obtain ⟨rfl, k1, k2, k3⟩ := hp9
      refine s_iinc G dX2_copyFrom_143 rfl (by decide) rfl (nI_1 v) ?_
      refine s_goto G 120 dX2_copyFrom_146 (by decide) ?_
      refine ih (v + 1) (by omega) _ ?_ (fun kd f a q => ?_) (fun b hb => ?_) (fun h hh => ?_) (fun u hu => ?_)
      · rw [k3 _ (by simp) (by simp)]; exact hn2
      · rw [k3 _ (by simp [q]) (by simp [q])]; exact ho2 kd f a q
      · refine ⟨fun k hk => ?_, fun k hk => ?_⟩
        · rw [k3 _ (by simp) (by simp)]; exact (hb2 b hb).1 k hk
        · rw [k3 _ (by simp) (by simp)]; exact (hb2 b hb).2 k hk
      · intro k hk
        rw [k3 _ (by simp) (by simp)]; exact hh2 h hh k hk
      · by_cases q : u = v
        · subst q
          refine ⟨fun k hk => ?_, fun k hk => ?_⟩
          · rw [k1 k hk, ho2 _ _ _ (by decide)]
          · rw [k2 k hk, ho2 _ _ _ (by decide)]
        · refine ⟨fun k hk => ?_, fun k hk => ?_⟩
          · rw [k3 _ (by simp [q]) (by simp)]; exact (hv2 u (by omega)).1 k hk
          · rw [k3 _ (by simp) (by simp [q])]; exact (hv2 u (by omega)).2 k hk
  have ph : ∀ n h, h + n = g.nh → ∀ M2 : Mem, M2 (1, 1, 0) = M1 (1, 1, 0) → (∀ kd f a, f ≠ 1 → M2 (kd, f, a) = M (kd, f, a)) → (∀ b, b < g.nb → sameF M M2 (2, 1, b) (2, 0, b) 8 ∧ sameF M M2 (9, 1, b) (9, 0, b) 16) → (∀ u, u < h → sameF M M2 (3, 1, u) (3, 0, u) 3) → V κ idsC 3 M2 [some (.ref (κ.E.ad (1, 1, 0))), some (.ref (κ.E.ad (1, 0, 0))), some (.int (nI h))] [] 89 := by
    intro n
    induction n with
    | zero =>
      intro h hh M2 hn2 ho2 hb2 hh2
      have hh : h = g.nh := by omega
      subst hh
      refine s_iload_n G dX2_copyFrom_89 rfl ?_
      refine s_aload_n G dX2_copyFrom_90 rfl ?_
      refine gX2_49 G (by assumption) dX2_copyFrom_91 ?_
      rw [hn2, en3]
      refine s_icmp_ge G 118 dX2_copyFrom_94 (by decide) (fun h94 => ?_) (fun h94 => ?_)
      · refine s_iconst (v := 0) G dX2_copyFrom_118 (by decide) ?_
        refine s_istore_n G dX2_copyFrom_119 (by decide) rfl ?_
        exact pv g.nv 0 (by omega) M2 hn2 ho2 hb2 hh2 (fun u hu => by omega)
      · exact absurd (Int32.le_refl _) h94
    | succ n ih =>
      intro h hh M2 hn2 ho2 hb2 hh2
      have hhn : h < g.nh := by omega
      have hh9 : h < 12 := by omega
      refine s_iload_n G dX2_copyFrom_89 rfl ?_
      refine s_aload_n G dX2_copyFrom_90 rfl ?_
      refine gX2_49 G (by assumption) dX2_copyFrom_91 ?_
      rw [hn2, en3]
      refine s_icmp_ge G 118 dX2_copyFrom_94 (by decide) (fun h94 => ?_) (fun h94 => ?_)
      · exact absurd h94 (nI_ge hhn (by omega))
      refine s_aload_n G dX2_copyFrom_97 rfl ?_
      refine gX2_19 G (by assumption) dX2_copyFrom_98 ?_
      refine s_iload_n G dX2_copyFrom_101 rfl ?_
      refine ar_7 G (by assumption) rfl (by first | assumption | omega) dX2_copyFrom_102 ?_
      refine s_aload_n G dX2_copyFrom_103 rfl ?_
      refine gX2_19 G (by assumption) dX2_copyFrom_104 ?_
      refine s_iload_n G dX2_copyFrom_107 rfl ?_
      refine ar_7 G (by assumption) rfl (by first | assumption | omega) dX2_copyFrom_108 ?_
      refine iX2_65 G (by assumption) (by assumption) (c_copy3 hh9) (by decide) (Nat.le_of_ble_eq_true rfl) dX2_copyFrom_109 (fun r9 M9 hp9 => ?_)
      obtain ⟨rfl, k1, k3⟩ := hp9
      refine s_iinc G dX2_copyFrom_112 rfl (by decide) rfl (nI_1 h) ?_
      refine s_goto G 89 dX2_copyFrom_115 (by decide) ?_
      refine ih (h + 1) (by omega) _ ?_ (fun kd f a q => ?_) (fun b hb => ?_) (fun u hu => ?_)
      · rw [k3 _ (by simp)]; exact hn2
      · rw [k3 _ (by simp [q])]; exact ho2 kd f a q
      · refine ⟨fun k hk => ?_, fun k hk => ?_⟩
        · rw [k3 _ (by simp)]; exact (hb2 b hb).1 k hk
        · rw [k3 _ (by simp)]; exact (hb2 b hb).2 k hk
      · by_cases q : u = h
        · subst q
          intro k hk
          rw [k1 k hk, ho2 _ _ _ (by decide)]
        · intro k hk
          rw [k3 _ (by simp [q])]; exact hh2 u (by omega) k hk
  have pb : ∀ n b, b + n = g.nb → ∀ M2 : Mem, M2 (1, 1, 0) = M1 (1, 1, 0) → (∀ kd f a, f ≠ 1 → M2 (kd, f, a) = M (kd, f, a)) → (∀ u, u < b → sameF M M2 (2, 1, u) (2, 0, u) 8 ∧ sameF M M2 (9, 1, u) (9, 0, u) 16) → V κ idsC 3 M2 [some (.ref (κ.E.ad (1, 1, 0))), some (.ref (κ.E.ad (1, 0, 0))), some (.int (nI b))] [] 58 := by
    intro n
    induction n with
    | zero =>
      intro b hb M2 hn2 ho2 hb2
      have hb : b = g.nb := by omega
      subst hb
      refine s_iload_n G dX2_copyFrom_58 rfl ?_
      refine s_aload_n G dX2_copyFrom_59 rfl ?_
      refine gX2_46 G (by assumption) dX2_copyFrom_60 ?_
      rw [hn2, en1]
      refine s_icmp_ge G 87 dX2_copyFrom_63 (by decide) (fun h63 => ?_) (fun h63 => ?_)
      · refine s_iconst (v := 0) G dX2_copyFrom_87 (by decide) ?_
        refine s_istore_n G dX2_copyFrom_88 (by decide) rfl ?_
        exact ph g.nh 0 (by omega) M2 hn2 ho2 hb2 (fun u hu => by omega)
      · exact absurd (Int32.le_refl _) h63
    | succ n ih =>
      intro b hb M2 hn2 ho2 hb2
      have hbn : b < g.nb := by omega
      have hb9 : b < 8 := by omega
      refine s_iload_n G dX2_copyFrom_58 rfl ?_
      refine s_aload_n G dX2_copyFrom_59 rfl ?_
      refine gX2_46 G (by assumption) dX2_copyFrom_60 ?_
      rw [hn2, en1]
      refine s_icmp_ge G 87 dX2_copyFrom_63 (by decide) (fun h63 => ?_) (fun h63 => ?_)
      · exact absurd h63 (nI_ge hbn (by omega))
      refine s_aload_n G dX2_copyFrom_66 rfl ?_
      refine gX2_11 G (by assumption) dX2_copyFrom_67 ?_
      refine s_iload_n G dX2_copyFrom_70 rfl ?_
      refine ar_6 G (by assumption) rfl (by first | assumption | omega) dX2_copyFrom_71 ?_
      refine s_aload_n G dX2_copyFrom_72 rfl ?_
      refine gX2_11 G (by assumption) dX2_copyFrom_73 ?_
      refine s_iload_n G dX2_copyFrom_76 rfl ?_
      refine ar_6 G (by assumption) rfl (by first | assumption | omega) dX2_copyFrom_77 ?_
      refine iX2_61 G (by assumption) (by assumption) (c_copy0 hb9) (by decide) (Nat.le_of_ble_eq_true rfl) dX2_copyFrom_78 (fun r9 M9 hp9 => ?_)
      obtain ⟨rfl, k1, k2, k3⟩ := hp9
      refine s_iinc G dX2_copyFrom_81 rfl (by decide) rfl (nI_1 b) ?_
      refine s_goto G 58 dX2_copyFrom_84 (by decide) ?_
      refine ih (b + 1) (by omega) _ ?_ (fun kd f a q => ?_) (fun u hu => ?_)
      · rw [k3 _ (by simp) (by simp)]; exact hn2
      · rw [k3 _ (by simp [q]) (by simp [q])]; exact ho2 kd f a q
      · by_cases q : u = b
        · subst q
          refine ⟨fun k hk => ?_, fun k hk => ?_⟩
          · rw [k1 k hk, ho2 _ _ _ (by decide)]
          · rw [k2 k hk, ho2 _ _ _ (by decide)]
        · refine ⟨fun k hk => ?_, fun k hk => ?_⟩
          · rw [k3 _ (by simp [q]) (by simp)]; exact (hb2 u (by omega)).1 k hk
          · rw [k3 _ (by simp) (by simp [q])]; exact (hb2 u (by omega)).2 k hk
  refine s_iconst (v := 0) G dX2_copyFrom_56 (by decide) ?_
  refine s_istore_n G dX2_copyFrom_57 (by decide) rfl ?_
  exact pb g.nb 0 (by omega) M1 rfl ho (fun u hu => by omega)
end Copy
