/-! ===== numbers: remainders, below, cell ===== -/
theorem nI_mul (a b : Nat) : nI a * nI b = nI (a * b) := (Int32.ofNat_mul a b).symm
theorem nI_sub {a b : Nat} (h : b ≤ a) : nI a - nI b = nI (a - b) := by
  have e : nI a = nI (a - b) + nI b := by rw [nI_add]; congr 1; omega
  rw [e, Int32.add_sub_cancel]
theorem nI_div {a b : Nat} (ha : a < 2 ^ 31) (hb0 : 0 < b) (hb : b < 2 ^ 31) : nI a / nI b = nI (a / b) := by
  refine Int32.toInt_inj.mp ?_
  have hd : a / b ≤ a := Nat.div_le_self a b
  rw [Int32.toInt_div_of_ne_right _ _ (nI_m1 hb), nI_toInt ha, nI_toInt hb, nI_toInt (by omega)]
  exact (Int.ofNat_tdiv a b).symm
theorem nI_rem {a b : Nat} (ha : a < 2 ^ 31) (hb0 : 0 < b) (hb : b < 2 ^ 31) : rm9 (nI a) (nI b) = nI (a % b) := by
  have h1 : a / b * b ≤ a := Nat.div_mul_le_self a b
  have h2 : a % b = a - a / b * b := by have := Nat.div_add_mod a b; rw [Nat.mul_comm] at this; omega
  show nI a - nI a / nI b * nI b = _
  rw [nI_div ha hb0 hb, nI_mul, nI_sub h1, h2]
theorem and_pos (v : Int32) : ∃ j : Nat, j < 2 ^ 31 ∧ v &&& 2147483647 = nI j := by
  refine nI_of (fun h => ?_)
  rw [Int32.lt_iff_toInt_lt] at h
  have e : (v &&& 2147483647).toInt = (v.toBitVec &&& 2147483647#32).toInt := rfl
  rw [e, BitVec.toInt_eq_msb_cond, BitVec.msb_and, show (2147483647#32).msb = false by decide, Bool.and_false] at h
  have z : ((0 : Int32).toInt) = 0 := by decide
  rw [z] at h
  simp at h
  omega
section BeCe
variable {E : EX} {σ : Sg}
theorem m_below (v : Int32) {m : Nat} (h0 : 0 < m) (hm : m < 2 ^ 31) : RetS E yL_below cL_below 2 (some .int) 0 0 0 0 [.int v, .int (nI m)] σ (fun r σ' => (∃ j, j < m ∧ r = some (.int (nI j))) ∧ σ = σ') := by
  obtain ⟨j, hj, e⟩ := and_pos v
  refine RetS_of RL (by decide) rfl [some (.int v), some (.int (nI m))] rfl (Nat.le_of_ble_eq_true rfl) (fun κ hE G E9 hr => ?_)
  subst hE
  have hc9 := E9.2.2.1
  have hd9 := E9.2.2.2
  refine h_iload_n G dL_below_0 rfl ?_
  refine h_ldc (v := 2147483647) G dL_below_1 (by decide +kernel) ?_
  refine h_iand G dL_below_3 ?_
  rw [e]
  refine h_iload_n G dL_below_4 rfl ?_
  refine h_irem G dL_below_5 (nI_ne0 h0 hm) ?_
  rw [show nI j - nI j / nI m * nI m = nI (j % m) from nI_rem hj h0 hm]
  refine h_iret G E9 (by omega) (by omega) hr dL_below_6 ⟨⟨_, Nat.mod_lt _ h0, rfl⟩, rfl⟩
theorem m_cell {k : Nat} (hk : k < 2 ^ 31) : RetS E yL_cell cL_cell 2 (some .int) 0 0 0 0 [.ref E.sc.1, .int (nI k)] σ (fun r σ' => (∃ c : Int32, r = some (.int c)) ∧ σ = σ') := by
  refine RetS_of RL (by decide) rfl [some (.ref E.sc.1), some (.int (nI k))] rfl (Nat.le_of_ble_eq_true rfl) (fun κ hE G E9 hr => ?_)
  subst hE
  have hc9 := E9.2.2.1
  have hd9 := E9.2.2.2
  have hL := G.hsc.2.2.2
  refine h_iload_n G dL_cell_0 rfl ?_
  refine h_aload_n G dL_cell_1 rfl ?_
  refine h_slen G dL_cell_2 ?_
  refine h_icmp_ge G 12 dL_cell_3 (by decide) (fun h3 => ?_) (fun h3 => ?_)
  · refine h_ldc (v := 790386105) G dL_cell_12 (by decide +kernel) ?_
    refine h_iload_n G dL_cell_14 rfl ?_
    refine h_iconst (v := 3) G dL_cell_15 (by decide) ?_
    refine h_iadd G dL_cell_16 ?_
    refine h_imul G dL_cell_17 ?_
    refine h_iret G E9 (by omega) (by omega) hr dL_cell_18 ⟨⟨_, rfl⟩, rfl⟩
  · have hlt : k < κ.E.sc.2.1 := by
      rcases Nat.lt_or_ge k κ.E.sc.2.1 with q | q
      · exact q
      · exact absurd (nI_le q hk) h3
    refine h_aload_n G dL_cell_6 rfl ?_
    refine h_iload_n G dL_cell_7 rfl ?_
    refine h_sld G rfl hlt dL_cell_8 ?_
    refine h_goto G 18 dL_cell_9 (by decide) ?_
    refine h_iret G E9 (by omega) (by omega) hr dL_cell_18 ⟨⟨_, rfl⟩, rfl⟩
end BeCe
