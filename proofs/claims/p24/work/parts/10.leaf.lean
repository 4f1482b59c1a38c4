/-! ===== the small methods of the nested classes ===== -/
section Leaf
variable {E : EX} {M : Mem} {f b : Nat}
theorem c_isOpen (hf : f < 2) (hb : b < 8) : Ret E idsC yX0_isOpen cX0_isOpen 1 (some .boolean) 0 0 [.ref (E.ad (2, f, b))] M (fun r M' => r = some (.int (if M (2, f, b) 4 < M (2, f, b) 3 then 0 else 1)) ∧ M = M') := by
  refine Ret_of_V RX0 (by decide) rfl idsC_nd [some (.ref (E.ad (2, f, b)))] rfl (Nat.le_of_ble_eq_true rfl) (fun κ hE G E9 hr => ?_)
  subst hE
  refine s_aload_n G dX0_isOpen_0 rfl ?_
  refine gX0_28 G (by assumption) (by assumption) dX0_isOpen_1 ?_
  refine s_aload_n G dX0_isOpen_4 rfl ?_
  refine gX0_25 G (by assumption) (by assumption) dX0_isOpen_5 ?_
  refine s_icmp_lt G 15 dX0_isOpen_8 (by decide) (fun h8 => ?_) (fun h8 => ?_)
  · refine s_iconst (v := 0) G dX0_isOpen_15 (by decide) ?_
    exact s_zret G E9 hr (by first | exact Or.inl rfl | exact Or.inr rfl | assumption | (split <;> simp)) dX0_isOpen_16 (by simp [h8])
  · refine s_iconst (v := 1) G dX0_isOpen_11 (by decide) ?_
    refine s_goto G 16 dX0_isOpen_12 (by decide) ?_
    exact s_zret G E9 hr (by first | exact Or.inl rfl | exact Or.inr rfl | assumption | (split <;> simp)) dX0_isOpen_16 (by simp [h8])
theorem c_enqueue {q : Nat} (hf : f < 2) (hb : b < 8) (hq : q < 16) (hM : M (2, f, b) 7 = nI q) (v : Int32) : Ret E idsC yX0_enqueue cX0_enqueue 2 (some .boolean) 0 0 [.ref (E.ad (2, f, b)), .int v] M (fun r M' => r = some (.int 1) ∧ M' = up (up M (9, f, b) q v) (2, f, b) 7 (nI (q + 1))) := by
  refine Ret_of_V RX0 (by decide) rfl idsC_nd [some (.ref (E.ad (2, f, b))), some (.int v)] rfl (Nat.le_of_ble_eq_true rfl) (fun κ hE G E9 hr => ?_)
  subst hE
  refine s_aload_n G dX0_enqueue_0 rfl ?_
  refine gX0_37 G (by assumption) (by assumption) dX0_enqueue_1 ?_
  refine s_if_lt G 16 dX0_enqueue_4 (by decide) (fun h4 => ?_) (fun h4 => ?_)
  · rw [hM] at h4
    exact absurd h4 (nI_pos (by omega))
  refine s_aload_n G dX0_enqueue_7 rfl ?_
  refine gX0_37 G (by assumption) (by assumption) dX0_enqueue_8 ?_
  refine s_bipush (v := 16) G dX0_enqueue_11 (by decide) ?_
  refine s_icmp_lt G 18 dX0_enqueue_13 (by decide) (fun h13 => ?_) (fun h13 => ?_)
  · refine s_aload_n G dX0_enqueue_18 rfl ?_
    refine gX0_9 G (by assumption) (by assumption) dX0_enqueue_19 ?_
    refine s_aload_n G dX0_enqueue_22 rfl ?_
    refine gX0_37 G (by assumption) (by assumption) dX0_enqueue_23 ?_
    refine s_iload_n G dX0_enqueue_26 rfl ?_
    refine as_9 G (by assumption) (by assumption) hM hq dX0_enqueue_27 ?_
    refine s_aload_n G dX0_enqueue_28 rfl ?_
    refine s_dup G dX0_enqueue_29 rfl ?_
    refine gX0_37 G (by assumption) (by assumption) dX0_enqueue_30 ?_
    refine s_iconst (v := 1) G dX0_enqueue_33 (by decide) ?_
    refine s_iadd G dX0_enqueue_34 ?_
    refine pX0_37 G (by assumption) (by assumption) dX0_enqueue_35 ?_
    refine s_iconst (v := 1) G dX0_enqueue_38 (by decide) ?_
    refine s_zret G E9 hr (Or.inr rfl) dX0_enqueue_39 ⟨rfl, by simp [up_at, up_ne, hM, nI_1]⟩
  · rw [hM] at h13
    exact absurd (nI_lt (by omega : q < 16) (by decide)) h13
theorem c_rest (hf : f < 2) (hb : b < 12) : Ret E idsC yX3_rest cX3_rest 1 none 1 21 [.ref (E.ad (3, f, b))] M (fun r M' => r = none ∧ M' = up M (3, f, b) 0 (min9 (M (3, f, b) 0 + 2) 24)) := by
  refine Ret_of_V RX3 (by decide) rfl idsC_nd [some (.ref (E.ad (3, f, b)))] rfl (Nat.le_of_ble_eq_true rfl) (fun κ hE G E9 hr => ?_)
  subst hE
  refine s_aload_n G dX3_rest_0 rfl ?_
  refine s_aload_n G dX3_rest_1 rfl ?_
  refine gX3_9 G (by assumption) (by assumption) dX3_rest_2 ?_
  refine s_iconst (v := 2) G dX3_rest_5 (by decide) ?_
  refine s_iadd G dX3_rest_6 ?_
  refine s_bipush (v := 24) G dX3_rest_7 (by decide) ?_
  refine iX3_21 G dX3_rest_9 (by decide) (Nat.le_of_ble_eq_true rfl) ?_
  refine pX3_9 G (by assumption) (by assumption) dX3_rest_12 ?_
  exact s_vret G E9 hr dX3_rest_15 (by exact ⟨rfl, rfl⟩)
theorem c_begin3 (hf : f < 2) (hb : b < 12) : Ret E idsC yX3_begin cX3_begin 1 none 0 0 [.ref (E.ad (3, f, b))] M (fun r M' => r = none ∧ M' = up (up M (3, f, b) 0 24) (3, f, b) 1 (-1)) := by
  refine Ret_of_V RX3 (by decide) rfl idsC_nd [some (.ref (E.ad (3, f, b)))] rfl (Nat.le_of_ble_eq_true rfl) (fun κ hE G E9 hr => ?_)
  subst hE
  refine s_aload_n G dX3_begin_0 rfl ?_
  refine s_bipush (v := 24) G dX3_begin_1 (by decide) ?_
  refine pX3_9 G (by assumption) (by assumption) dX3_begin_3 ?_
  refine s_aload_n G dX3_begin_6 rfl ?_
  refine s_iconst (v := -1) G dX3_begin_7 (by decide) ?_
  refine pX3_15 G (by assumption) (by assumption) dX3_begin_8 ?_
  exact s_vret G E9 hr dX3_begin_11 (by exact ⟨rfl, rfl⟩)
theorem c_begin0 (hf : f < 2) (hb : b < 8) (a1 a2 a3 a4 : Int32) : Ret E idsC yX0_begin cX0_begin 5 none 0 0 [.ref (E.ad (2, f, b)), .int a1, .int a2, .int a3, .int a4] M (fun r M' => r = none ∧ M' = up (up (up (up M (2, f, b) 0 a1) (2, f, b) 1 a2) (2, f, b) 2 a3) (2, f, b) 3 a4) := by
  refine Ret_of_V RX0 (by decide) rfl idsC_nd [some (.ref (E.ad (2, f, b))), some (.int a1), some (.int a2), some (.int a3), some (.int a4)] rfl (Nat.le_of_ble_eq_true rfl) (fun κ hE G E9 hr => ?_)
  subst hE
  refine s_aload_n G dX0_begin_0 rfl ?_
  refine s_iload_n G dX0_begin_1 rfl ?_
  refine pX0_15 G (by assumption) (by assumption) dX0_begin_2 ?_
  refine s_aload_n G dX0_begin_5 rfl ?_
  refine s_iload_n G dX0_begin_6 rfl ?_
  refine pX0_19 G (by assumption) (by assumption) dX0_begin_7 ?_
  refine s_aload_n G dX0_begin_10 rfl ?_
  refine s_iload_n G dX0_begin_11 rfl ?_
  refine pX0_22 G (by assumption) (by assumption) dX0_begin_12 ?_
  refine s_aload_n G dX0_begin_15 rfl ?_
  refine s_iload G dX0_begin_16 rfl ?_
  refine pX0_25 G (by assumption) (by assumption) dX0_begin_18 ?_
  exact s_vret G E9 hr dX0_begin_21 (by exact ⟨rfl, rfl⟩)
theorem c_begin4 (hf : f < 2) (hb : b < 16) (a1 a2 : Int32) : Ret E idsC yX4_begin cX4_begin 3 none 0 0 [.ref (E.ad (4, f, b)), .int a1, .int a2] M (fun r M' => r = none ∧ M' = up (up (up M (4, f, b) 0 a1) (4, f, b) 1 a2) (4, f, b) 3 (-1)) := by
  refine Ret_of_V RX4 (by decide) rfl idsC_nd [some (.ref (E.ad (4, f, b))), some (.int a1), some (.int a2)] rfl (Nat.le_of_ble_eq_true rfl) (fun κ hE G E9 hr => ?_)
  subst hE
  refine s_aload_n G dX4_begin_0 rfl ?_
  refine s_iload_n G dX4_begin_1 rfl ?_
  refine pX4_15 G (by assumption) (by assumption) dX4_begin_2 ?_
  refine s_aload_n G dX4_begin_5 rfl ?_
  refine s_iload_n G dX4_begin_6 rfl ?_
  refine pX4_19 G (by assumption) (by assumption) dX4_begin_7 ?_
  refine s_aload_n G dX4_begin_10 rfl ?_
  refine s_iconst (v := -1) G dX4_begin_11 (by decide) ?_
  refine pX4_22 G (by assumption) (by assumption) dX4_begin_12 ?_
  exact s_vret G E9 hr dX4_begin_15 (by exact ⟨rfl, rfl⟩)
theorem c_fact3 {k : Nat} (hf : f < 2) (hb : b < 12) (hk : k < 3) : Ret E idsC yX3_fact cX3_fact 2 (some .int) 0 0 [.ref (E.ad (3, f, b)), .int (nI k)] M (fun r M' => r = some (.int (M (3, f, b) k)) ∧ M = M') := by
  refine Ret_of_V RX3 (by decide) rfl idsC_nd [some (.ref (E.ad (3, f, b))), some (.int (nI k))] rfl (Nat.le_of_ble_eq_true rfl) (fun κ hE G E9 hr => ?_)
  subst hE
  refine s_iload_n G dX3_fact_0 rfl ?_
  match k, hk with
  | 0, _ =>
    refine s_lookup (off := 27) G 28 dX3_fact_1 (by decide) (by decide) (by decide) ?_
    refine s_aload_n G dX3_fact_28 rfl ?_
    refine gX3_9 G (by assumption) (by assumption) dX3_fact_29 ?_
    exact s_iret G E9 hr dX3_fact_32 (by exact ⟨rfl, rfl⟩)
  | 1, _ =>
    refine s_lookup (off := 32) G 33 dX3_fact_1 (by decide) (by decide) (by decide) ?_
    refine s_aload_n G dX3_fact_33 rfl ?_
    refine gX3_15 G (by assumption) (by assumption) dX3_fact_34 ?_
    exact s_iret G E9 hr dX3_fact_37 (by exact ⟨rfl, rfl⟩)
  | 2, _ =>
    refine s_lookup (off := 37) G 38 dX3_fact_1 (by decide) (by decide) (by decide) ?_
    refine s_aload_n G dX3_fact_38 rfl ?_
    refine gX3_18 G (by assumption) (by assumption) dX3_fact_39 ?_
    exact s_iret G E9 hr dX3_fact_42 (by exact ⟨rfl, rfl⟩)
  | k + 3, h => omega
theorem c_strolls (hf : f < 2) (hb : b < 16) : Ret E idsC yX4_strolls cX4_strolls 1 (some .boolean) 0 0 [.ref (E.ad (4, f, b))] M (fun r M' => r = some (.int (if M (4, f, b) 2 = 0 ∧ M (4, f, b) 3 = -1 then 1 else 0)) ∧ M = M') := by
  refine Ret_of_V RX4 (by decide) rfl idsC_nd [some (.ref (E.ad (4, f, b)))] rfl (Nat.le_of_ble_eq_true rfl) (fun κ hE G E9 hr => ?_)
  subst hE
  refine s_aload_n G dX4_strolls_0 rfl ?_
  refine gX4_25 G (by assumption) (by assumption) dX4_strolls_1 ?_
  refine s_if_ne G 19 dX4_strolls_4 (by decide) (fun h4 => ?_) (fun h4 => ?_)
  · refine s_iconst (v := 0) G dX4_strolls_19 (by decide) ?_
    exact s_zret G E9 hr (by first | exact Or.inl rfl | exact Or.inr rfl | assumption | (split <;> simp)) dX4_strolls_20 (by first | exact ⟨by simp_all, rfl⟩ | exact ⟨by rw [if_pos (by first | exact ⟨h4, h12⟩ | exact ⟨by simpa using h4, by simpa using h12⟩)], rfl⟩)
  · refine s_aload_n G dX4_strolls_7 rfl ?_
    refine gX4_22 G (by assumption) (by assumption) dX4_strolls_8 ?_
    refine s_iconst (v := -1) G dX4_strolls_11 (by decide) ?_
    refine s_icmp_ne G 19 dX4_strolls_12 (by decide) (fun h12 => ?_) (fun h12 => ?_)
    · refine s_iconst (v := 0) G dX4_strolls_19 (by decide) ?_
      exact s_zret G E9 hr (by first | exact Or.inl rfl | exact Or.inr rfl | assumption | (split <;> simp)) dX4_strolls_20 (by first | exact ⟨by simp_all, rfl⟩ | exact ⟨by rw [if_pos (by first | exact ⟨h4, h12⟩ | exact ⟨by simpa using h4, by simpa using h12⟩)], rfl⟩)
    · refine s_iconst (v := 1) G dX4_strolls_15 (by decide) ?_
      refine s_goto G 20 dX4_strolls_16 (by decide) ?_
      exact s_zret G E9 hr (by first | exact Or.inl rfl | exact Or.inr rfl | assumption | (split <;> simp)) dX4_strolls_20 (by first | exact ⟨by simp_all, rfl⟩ | exact ⟨by rw [if_pos (by first | exact ⟨h4, h12⟩ | exact ⟨by simpa using h4, by simpa using h12⟩)], rfl⟩)
theorem c_state (hf : f < 2) (hb : b < 16) : Ret E idsC yX4_state cX4_state 1 (some .int) 0 0 [.ref (E.ad (4, f, b))] M (fun r M' => r = some (.int (if M (4, f, b) 2 = 0 then (if M (4, f, b) 3 = -1 then 0 else 1) else 2)) ∧ M = M') := by
  refine Ret_of_V RX4 (by decide) rfl idsC_nd [some (.ref (E.ad (4, f, b)))] rfl (Nat.le_of_ble_eq_true rfl) (fun κ hE G E9 hr => ?_)
  subst hE
  refine s_aload_n G dX4_state_0 rfl ?_
  refine gX4_25 G (by assumption) (by assumption) dX4_state_1 ?_
  refine s_if_eq G 9 dX4_state_4 (by decide) (fun h4 => ?_) (fun h4 => ?_)
  · refine s_aload_n G dX4_state_9 rfl ?_
    refine gX4_22 G (by assumption) (by assumption) dX4_state_10 ?_
    refine s_iconst (v := -1) G dX4_state_13 (by decide) ?_
    refine s_icmp_ne G 21 dX4_state_14 (by decide) (fun h14 => ?_) (fun h14 => ?_)
    · refine s_iconst (v := 1) G dX4_state_21 (by decide) ?_
      exact s_iret G E9 hr dX4_state_22 (by exact ⟨by simp_all, rfl⟩)
    · refine s_iconst (v := 0) G dX4_state_17 (by decide) ?_
      refine s_goto G 22 dX4_state_18 (by decide) ?_
      exact s_iret G E9 hr dX4_state_22 (by exact ⟨by simp_all, rfl⟩)
  · refine s_iconst (v := 2) G dX4_state_7 (by decide) ?_
    exact s_iret G E9 hr dX4_state_8 (by exact ⟨by simp_all, rfl⟩)
end Leaf
/-! ===== one leaves a queue ===== -/
theorem take_filter {L : List Nat} {i u : Nat} (p : Nat → Bool) (h : L[i]? = some u) : (L.take (i + 1)).filter p = (L.take i).filter p ++ (if p u = true then [u] else []) := by
  rw [List.take_succ, h, List.filter_append]
  by_cases hp : p u = true
  · simp [hp]
  · simp [hp]
theorem filter_take_le (L : List Nat) (i : Nat) (p : Nat → Bool) : ((L.take i).filter p).length ≤ i := Nat.le_trans (List.length_filter_le _ _) (by rw [List.length_take]; exact Nat.min_le_left _ _)
section Deq
variable {E : EX} {M : Mem} {f b : Nat}
theorem c_dequeue {L : List Nat} (hf : f < 2) (hb : b < 8) (hq : M (2, f, b) 7 = nI L.length) (hL : L.length ≤ 16) (hM : ∀ i u, L[i]? = some u → M (9, f, b) i = nI u) (hu : ∀ u, u ∈ L → u < 16) {v : Nat} (hv : v < 16) : Ret E idsC yX0_dequeue cX0_dequeue 4 none 0 0 [.ref (E.ad (2, f, b)), .int (nI v)] M (fun r M' => r = none ∧ ∃ A, M' = up (upr M (9, f, b) A) (2, f, b) 7 (nI (L.filter (fun u => u != v)).length) ∧ ∀ i u, (L.filter (fun u => u != v))[i]? = some u → A i = nI u) := by
  refine Ret_of_V RX0 (by decide) rfl idsC_nd [some (.ref (E.ad (2, f, b))), some (.int (nI v)), none, none] rfl (Nat.le_of_ble_eq_true rfl) (fun κ hE G E9 hr => ?_)
  subst hE
  have loop : ∀ n i, i + n = L.length → ∀ A : Nat → Int32, (∀ j u, ((L.take i).filter (fun u => u != v))[j]? = some u → A j = nI u) → (∀ j u, i ≤ j → L[j]? = some u → A j = nI u) → V κ idsC 4 (upr M (9, f, b) A) [some (.ref (κ.E.ad (2, f, b))), some (.int (nI v)), some (.int (nI ((L.take i).filter (fun u => u != v)).length)), some (.int (nI i))] [] 4 := by
    intro n
    induction n with
    | zero =>
      intro i hi A hA hB
      have hi : i = L.length := by omega
      subst hi
      refine s_iload_n G dX0_dequeue_4 rfl ?_
      refine s_aload_n G dX0_dequeue_5 rfl ?_
      refine gX0_37 G (by assumption) (by assumption) dX0_dequeue_6 ?_
      refine s_icmp_ge G 49 dX0_dequeue_9 (by decide) (fun h9 => ?_) (fun h9 => ?_)
      · refine s_aload_n G dX0_dequeue_49 rfl ?_
        refine s_iload_n G dX0_dequeue_50 rfl ?_
        refine pX0_37 G (by assumption) (by assumption) dX0_dequeue_51 ?_
        refine s_vret G E9 hr dX0_dequeue_54 ⟨rfl, A, by rw [List.take_length], fun i u h => hA i u (by rw [List.take_length]; exact h)⟩
      · rw [upr_ne (by simp), hq] at h9
        exact absurd (nI_le (Nat.le_refl _) (by omega)) h9
    | succ n ih =>
      intro i hi A hA hB
      have hil : i < L.length := by omega
      have hi16 : i < 16 := by omega
      have hui : L[i]? = some L[i] := List.getElem?_eq_getElem hil
      have hAi : A i = nI L[i] := hB i _ (Nat.le_refl _) hui
      have hu16 : L[i] < 16 := hu _ (List.getElem_mem hil)
      have hkept := filter_take_le L i (fun u => u != v)
      refine s_iload_n G dX0_dequeue_4 rfl ?_
      refine s_aload_n G dX0_dequeue_5 rfl ?_
      refine gX0_37 G (by assumption) (by assumption) dX0_dequeue_6 ?_
      refine s_icmp_ge G 49 dX0_dequeue_9 (by decide) (fun h9 => ?_) (fun h9 => ?_)
      · rw [upr_ne (by simp), hq] at h9
        exact absurd h9 (nI_ge hil (by omega))
      refine s_iload_n G dX0_dequeue_12 rfl ?_
      refine s_bipush (v := 16) G dX0_dequeue_13 (by decide) ?_
      refine s_icmp_ge G 49 dX0_dequeue_15 (by decide) (fun h15 => ?_) (fun h15 => ?_)
      · exact absurd h15 (nI_ge hi16 (by decide))
      refine s_aload_n G dX0_dequeue_18 rfl ?_
      refine gX0_9 G (by assumption) (by assumption) dX0_dequeue_19 ?_
      refine s_iload_n G dX0_dequeue_22 rfl ?_
      refine al_9 G (by assumption) (by assumption) rfl (by first | assumption | omega) dX0_dequeue_23 ?_
      refine s_iload_n G dX0_dequeue_24 rfl ?_
      refine s_icmp_eq G 43 dX0_dequeue_25 (by decide) (fun h25 => ?_) (fun h25 => ?_)
      · rw [upr_at, hAi] at h25
        have huv : L[i] = v := (nI_eq (by omega) (by omega)).mp h25
        refine s_iinc G dX0_dequeue_43 rfl (by decide) rfl (nI_1 i) ?_
        refine s_goto G 4 dX0_dequeue_46 (by decide) ?_
        have hk := take_filter (fun u => u != v) hui
        rw [if_neg (by simp [huv]), List.append_nil] at hk
        rw [← hk]
        exact ih (i + 1) (by omega) A (fun j u h => hA j u (by rw [hk] at h; exact h)) (fun j u h1 h2 => hB j u (by omega) h2)
      · rw [upr_at, hAi] at h25
        have huv : L[i] ≠ v := fun q => h25 (by rw [q])
        have hk := take_filter (fun u => u != v) hui
        rw [if_pos (by simp [huv])] at hk
        refine s_aload_n G dX0_dequeue_28 rfl ?_
        refine gX0_9 G (by assumption) (by assumption) dX0_dequeue_29 ?_
        refine s_iload_n G dX0_dequeue_32 rfl ?_
        refine s_aload_n G dX0_dequeue_33 rfl ?_
        refine gX0_9 G (by assumption) (by assumption) dX0_dequeue_34 ?_
        refine s_iload_n G dX0_dequeue_37 rfl ?_
        refine al_9 G (by assumption) (by assumption) rfl (by first | assumption | omega) dX0_dequeue_38 ?_
        refine as_9 G (by assumption) (by assumption) rfl (by omega) dX0_dequeue_39 ?_
        refine s_iinc G dX0_dequeue_40 rfl (by decide) rfl (nI_1 _) ?_
        refine s_iinc G dX0_dequeue_43 rfl (by decide) rfl (nI_1 i) ?_
        refine s_goto G 4 dX0_dequeue_46 (by decide) ?_
        rw [up_upr, upr_at]
        rw [show ((L.take i).filter (fun u => u != v)).length + 1 = ((L.take (i + 1)).filter (fun u => u != v)).length by rw [hk]; simp]
        refine ih (i + 1) (by omega) _ (fun j u h => ?_) (fun j u h1 h2 => ?_)
        · rw [hk] at h
          by_cases hj : j = ((L.take i).filter (fun u => u != v)).length
          · subst hj
            rw [List.getElem?_append_right (Nat.le_refl _), Nat.sub_self] at h
            cases h
            rw [pk_us]
            exact hAi
          · rw [pk_un hj]
            have hlt : j < ((L.take i).filter (fun u => u != v)).length := by
              have := (List.getElem?_eq_some_iff.mp h).1
              rw [List.length_append] at this
              simp only [List.length_cons, List.length_nil] at this
              omega
            rw [List.getElem?_append_left hlt] at h
            exact hA j u h
        · rw [pk_un (by omega)]
          exact hB j u (by omega) h2
  refine s_iconst (v := 0) G dX0_dequeue_0 (by decide) ?_
  refine s_istore_n G dX0_dequeue_1 (by decide) rfl ?_
  refine s_iconst (v := 0) G dX0_dequeue_2 (by decide) ?_
  refine s_istore_n G dX0_dequeue_3 (by decide) rfl ?_
  rw [← upr_self (M := M) (i := (9, f, b))]
  exact loop L.length 0 (by omega) (M (9, f, b)) (fun j u h => by simp at h) (fun j u _ h => hM j u h)
end Deq
