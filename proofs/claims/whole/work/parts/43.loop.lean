/-! ===== the law's loop ===== -/
section LOOP
variable {z : LX} {cA sA k : Nat} {Mc Mr : Mem} {f : Nat → Int64} {g : GS}
theorem law_gt (G : LG z) (hk9 : k ≤ 2600) (h : ¬ nI z.L - nI 5 < nI k) : k + 5 ≤ z.L := by
  have hL := G.hL
  have e : (nI z.L - nI 5).toInt = (z.L : Int) - (5 : Nat) := pk_sub_toInt (by omega) (by decide)
  have h := i_nlt.mp h
  rw [Int32.le_iff_toInt_le, e, nI_toInt (by omega)] at h
  omega
theorem mul_step {n a q B : Nat} (h : a + q * (n + 1) ≤ B) : a + q ≤ B ∧ (a + q) + q * n ≤ B := by
  rw [Nat.mul_succ, Nat.add_comm (q * n) q, ← Nat.add_assoc] at h
  exact ⟨Nat.le_trans (Nat.le_add_right _ _) h, h⟩
theorem law_loop (G : LG z) : ∀ (n k cA sA : Nat) (Mc Mr : Mem) (f : Nat → Int64) (g : GS), z.L < k + 5 * (n + 1) → k ≤ 2600 → cA + 21 * n ≤ 601024 → sA + 460 * n ≤ 7293034 → CI Mc g → SimR Mr g 0 → LWK z cA sA Mc Mr f (ll z k) [] 23 := by
  have hL := G.hL
  have head : ∀ (k cA sA : Nat) (Mc Mr : Mem) (f : Nat → Int64), k ≤ 2600 → cA ≤ 601024 → sA ≤ 7293034 → (k + 5 ≤ z.L → LWK z cA sA Mc Mr f (ll z k) [] 32) → LWK z cA sA Mc Mr f (ll z k) [] 23 := by
    intro k cA sA Mc Mr f hk hc hs hb
    refine ls_iload G dL_law_23 rfl ?_
    refine ls_aload_n G dL_law_25 rfl ?_
    refine ls_slen G dL_law_26 ?_
    refine ls_iconst (v := nI 5) G dL_law_27 (by decide) ?_
    refine ls_isub G dL_law_28 ?_
    refine ls_icmp_gt G 1441 dL_law_29 (by decide) (fun _ => ?_) (fun q => hb (law_gt G hk q))
    refine ls_iconst (v := 1) G dL_law_1441 (by decide) ?_
    exact ls_end G hc hs dL_law_1442
  intro n
  induction n with
  | zero =>
    intro k cA sA Mc Mr f g hn hk hc hs hC hR
    exact head k cA sA Mc Mr f hk (Nat.le_trans (Nat.le_add_right _ _) hc) (Nat.le_trans (Nat.le_add_right _ _) hs) (fun q => absurd q (by omega))
  | succ n ih =>
    intro k cA sA Mc Mr f g hn hk hc hs hC hR
    refine head k cA sA Mc Mr f hk (Nat.le_trans (Nat.le_add_right _ _) hc) (Nat.le_trans (Nat.le_add_right _ _) hs) (fun q => ?_)
    have hkn : KN z k cA sA := by
      intro Mc2 Mr2 f2 g2 hC2 hR2
      have hnext : LWK z (cA + 21) (sA + 460) Mc2 Mr2 f2 (ll z (k + 5)) [] 23 := ih (k + 5) (cA + 21) (sA + 460) Mc2 Mr2 f2 g2 (by omega) (by omega) (mul_step hc).2 (mul_step hs).2 hC2 hR2
      refine ls_iinc (v := nI (k + 5)) G dL_law_1435 rfl (by decide) rfl (nI_plus k 5) ?_
      exact ls_goto G 23 dL_law_1438 (by decide) hnext
    have a1 : k + 4 < z.L := by omega
    have a2 : cA + 21 ≤ 601024 := (mul_step hc).1
    have a3 : sA + 460 ≤ 7293034 := (mul_step hs).1
    exact law_case G hC hR a1 a2 a3 hkn
end LOOP
