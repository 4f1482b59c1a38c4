/-! ===== the law's green: helpers, the end of the hour, the whole round ===== -/
section HoP
variable {g : GS}
/-! what changes in each piece of a round -/
theorem dart_i {kd a k : Nat} (h : ¬ (kd = 1 ∧ a = 0 ∧ (k = 8 ∨ k = 9))) : (dart9 g).i kd a k = g.i kd a k := by
  show ((g.set 1 0 8 _).set 1 0 9 _).i kd a k = _
  rw [gi_set, if_neg (by omega), gi_set, if_neg (by omega)]
theorem rnd1_i {kd a k : Nat} (h : ¬ (kd = 1 ∧ a = 0 ∧ (k = 8 ∨ k = 9))) : (rnd1 g).i kd a k = g.i kd a k := by
  unfold rnd1
  split
  · exact dart_i h
  · rfl
theorem rnd1_2 : (rnd1 g).2 = g.2 := by
  unfold rnd1
  split
  · exact dart_n
  · rfl
theorem choose_i {v kd a k : Nat} (h : ¬ (kd = 4 ∧ a = v ∧ (k = 2 ∨ k = 3))) : (choose9 g v).i kd a k = g.i kd a k := by
  unfold choose9
  split
  · show (g.set 4 v 3 _).i kd a k = _
    rw [gi_set, if_neg (by omega)]
  · split
    · rw [gi_set, if_neg (by omega)]
    · rfl
theorem chooseN_i {kd a k : Nat} (h : ¬ (kd = 4 ∧ (k = 2 ∨ k = 3))) : ∀ n, (chooseN g n).i kd a k = g.i kd a k
  | 0 => rfl
  | n + 1 => by
    show (if strl (chooseN g n) n then choose9 (chooseN g n) n else chooseN g n).i kd a k = _
    split
    · rw [choose_i (by omega)]; exact chooseN_i h n
    · exact chooseN_i h n
theorem tire_i {h kd a k : Nat} (hk : ¬ (kd = 3 ∧ a = h)) : (tire9 g h).i kd a k = g.i kd a k := by
  unfold tire9 rest9
  split
  · rw [gi_set, if_neg (by omega)]
  · simp only []
    split
    · rw [gi_set, if_neg (by omega), gi_set, if_neg (by omega)]
    · rw [gi_set, if_neg (by omega), gi_set, if_neg (by omega), gi_set, if_neg (by omega), gi_set, if_neg (by omega)]
theorem tiresN_i {kd a k : Nat} (h : kd ≠ 3) : ∀ n, (tiresN g n).i kd a k = g.i kd a k
  | 0 => rfl
  | n + 1 => (tire_i (by omega)).trans (tiresN_i h n)
theorem mkN_i {kd a k : Nat} (h : ¬ (kd = 4 ∧ k = 5)) : ∀ (L : List Ln) (g : GS) (j : Nat), (mkN g j L).i kd a k = g.i kd a k
  | [], _, _ => rfl
  | x :: L, g, j => (mkN_i h L _ _).trans (by rw [gi_set, if_neg (by omega)])
theorem markN_i {kd a k : Nat} (h : ¬ (kd = 4 ∧ (k = 5 ∨ k = 0))) : ∀ (L : List Ln) (g : GS) (j : Nat), (markN g j L).i kd a k = g.i kd a k
  | [], _, _ => rfl
  | x :: L, g, j => (markN_i h L _ _).trans (by rw [gi_set, if_neg (by omega), gi_set, if_neg (by omega)])
theorem clear_i {kd a k : Nat} (h : ¬ (kd = 4 ∧ k = 3)) : (clear9 g).i kd a k = g.i kd a k := if_neg (fun z => h ⟨z.1, z.2.1⟩)
theorem endHour_i {kd a k : Nat} (h : ¬ (kd = 4 ∧ (k = 5 ∨ k = 0 ∨ k = 3))) : (endHour9 g).i kd a k = g.i kd a k := by
  show (clear9 ((markN g 0 g.bd).setbd [])).i kd a k = _
  rw [clear_i (by omega)]
  exact markN_i (by omega) g.bd g 0
theorem won_r2 : (rnd2 g).i 1 0 10 = g.i 1 0 10 := (chooseN_i (by omega) _).trans (rnd1_i (by omega))
theorem won_r4 : (rnd4 g).i 1 0 10 = (rnd3 g).i 1 0 10 := tiresN_i (by omega) _
theorem won_r5 : (rnd5 g).i 1 0 10 = (rnd3 g).i 1 0 10 := by
  unfold rnd5
  split
  · rw [endHour_i (by omega)]; exact won_r4
  · exact won_r4
theorem won_round : (round9 g).i 1 0 10 = (rnd3 g).i 1 0 10 := by
  rw [round_eq, gi_set, if_neg (by omega)]
  exact won_r5
end HoP
section Ho
variable {κ : KX} {σ σ0 : Sg} {ω0 : WS} {g : GS} {w W0 : Int32} {cN dN : Nat}
theorem p_tires (G : Gd κ cX6_pass 8 RX6 3 71) (hc9 : cN ≤ κ.R.cells) (hd9 : dN ≤ κ.R.slots) (hP : SPost κ.E σ0 ω0 g w σ) (hI : Inv g) {x1 : Int32} (K : ∀ σ', SPost κ.E σ0 ω0 (tiresN g g.nh) w σ' → HV κ 8 σ' cN dN [some (.ref (ω0.ad (21, 0, 0))), some (.int x1), none, none, none, none, none, none] [] 482) : HV κ 8 σ cN dN [some (.ref (ω0.ad (21, 0, 0))), some (.int x1), none, none, none, none, none, none] [] 396 := by
  have hh12 := hI.nh12
  have s34 : ∀ {ω : WS} (h : Stb ω0 ω) (k : Nat), ω.ad (34, k, 0) = ω0.ad (34, k, 0) := fun h k => h _ (by show (34 : Nat) ≠ 33; decide) (by show (34 : Nat) ≠ 26; decide)
  have loop : ∀ m n, n + m = g.nh → ∀ σ, SPost κ.E σ0 ω0 (tiresN g n) w σ → HV κ 8 σ cN dN [some (.ref (ω0.ad (21, 0, 0))), some (.int x1), some (.ref (ω0.ad (24, 0, 0))), some (.int (nI g.nh)), some (.int (nI n)), none, none, none] [] 407 := by
    intro m
    induction m with
    | zero =>
      intro n hn σ hP
      have hn : n = g.nh := by omega
      subst hn
      have K2 := K σ hP
      refine h_iload G dX6_pass_407 rfl ?_
      refine h_iload_n G dX6_pass_409 rfl ?_
      refine h_icmp_ge G 482 dX6_pass_410 (by decide) (fun h410 => ?_) (fun h410 => ?_)
      rotate_left
      · exact absurd (nI_le (Nat.le_refl _) (by omega)) h410
      exact HV.drop1 2 (HV.drop1 3 (HV.drop1 4 K2))
    | succ m ih =>
      intro n hn σ hP
      have hlt : n < g.nh := by omega
      have hIn := hI.tiresN n (by omega)
      have hnh : (tiresN g n).nh = g.nh := congrArg (fun z : (Nat → List Nat) × (Nat → Nat) × List Ln => z.2.1 1) (tiresN_n n)
      have hes : tiresN g (n + 1) = tire9 (tiresN g n) n := rfl
      obtain ⟨gk, hgk⟩ : ∃ gk, gk = tiresN g n := ⟨_, rfl⟩
      rw [← hgk] at hIn hnh hes hP
      have hlt2 : n < gk.nh := by omega
      replace ih := ih (n + 1) (by omega)
      rw [hes] at ih
      have next : ∀ σ', SPost κ.E σ0 ω0 (tire9 gk n) w σ' → HV κ 8 σ' cN dN [some (.ref (ω0.ad (21, 0, 0))), some (.int x1), some (.ref (ω0.ad (24, 0, 0))), some (.int (nI g.nh)), some (.int (nI n)), some (.ref (ω0.ad (34, n, 0))), none, none] [] 476 := fun σ' hP' => by
        refine h_iinc G dX6_pass_476 rfl (by decide) rfl (nI_1 n) ?_
        refine h_goto G 407 dX6_pass_479 (by decide) ?_
        exact HV.drop1 5 (ih σ' hP')
      have rest : ∀ (g' : GS) (σ : Sg), g'.nh = g.nh → SPost κ.E σ0 ω0 g' w σ → (0 ≤ g'.i 3 n 1 → tire9 gk n = g') → (¬ 0 ≤ g'.i 3 n 1 → tire9 gk n = rest9 g' n) → HV κ 8 σ cN dN [some (.ref (ω0.ad (21, 0, 0))), some (.int x1), some (.ref (ω0.ad (24, 0, 0))), some (.int (nI g.nh)), some (.int (nI n)), some (.ref (ω0.ad (34, n, 0))), none, none] [] 454 := by
        intro g' σ hn' hP h1 h2
        have hlt3 : n < g'.nh := by omega
        have hP0 := hP
        obtain ⟨ω, hL, hG, hst, hk⟩ := hP
        rw [← s34 hst n]
        refine h_aload G dX6_pass_454 rfl ?_
        refine h_iconst (v := 1) G dX6_pass_456 (by decide) ?_
        refine wal_34 G hL (by first | assumption | omega | (rw [hG.nb]; omega) | (rw [hG.nh]; omega) | (rw [hG.nv]; omega)) (show (1 : Int32) = nI 1 from rfl) (by decide) dX6_pass_457 ?_
        rw [hG.he hlt3 (by decide)]
        refine h_if_ge G 476 dX6_pass_458 (by decide) (fun h458 => ?_) (fun h458 => ?_)
        · rw [s34 hst n]
          exact next σ (by rw [h1 h458]; exact hP0)
        have h2 := h2 h458
        refine h_aload G dX6_pass_461 rfl ?_
        refine h_iconst (v := 0) G dX6_pass_463 (by decide) ?_
        refine h_bipush (v := 24) G dX6_pass_464 (by decide) ?_
        refine h_aload G dX6_pass_466 rfl ?_
        refine h_iconst (v := 0) G dX6_pass_468 (by decide) ?_
        refine wal_34 G hL (by first | assumption | omega | (rw [hG.nb]; omega) | (rw [hG.nh]; omega) | (rw [hG.nv]; omega)) (show (0 : Int32) = nI 0 from rfl) (by decide) dX6_pass_469 ?_
        rw [hG.he hlt3 (by decide)]
        refine h_iconst (v := 2) G dX6_pass_470 (by decide) ?_
        refine h_iadd G dX6_pass_471 ?_
        refine wiX6_88 G dX6_pass_472 (by decide) (Nat.le_of_ble_eq_true rfl) (by omega) (by omega) ?_
        rw [min_sw]
        refine was_34 G hL (by first | assumption | omega | (rw [hG.nb]; omega) | (rw [hG.nh]; omega) | (rw [hG.nv]; omega)) (show (0 : Int32) = nI 0 from rfl) (by decide) dX6_pass_475 (fun σ9 ω9 ha9 hs9 hL9 hk9 => ?_)
        try rw [← ha9]
        replace hk := KpS.tr hk hk9
        replace hst := hst.tr (Stb.of_ad ha9)
        clear hL hk9 ha9
        have hL := hL9
        clear hL9
        replace hG := hs9 (fun z => SimG z _ _) (hG.h34 (x := min9 (g'.i 3 n 0 + 2) 24))
        clear hs9
        rw [s34 hst n]
        exact next _ (by rw [h2]; exact ⟨_, hL, hG, hst, hk⟩)
      have hP0 := hP
      obtain ⟨ω, hL, hG, hst, hk⟩ := hP
      have e24 : ω0.ad (24, 0, 0) = ω.ad (24, 0, 0) := (hst (24, 0, 0) (by decide) (by decide)).symm
      have hs := hIn.hst hlt2
      have hat := hIn.hat hlt2
      have hb8 := hIn.nb8
      refine h_iload G dX6_pass_407 rfl ?_
      refine h_iload_n G dX6_pass_409 rfl ?_
      refine h_icmp_ge G 482 dX6_pass_410 (by decide) (fun h410 => ?_) (fun h410 => ?_)
      · exact absurd h410 (nI_ge hlt (by omega))
      rw [e24]
      refine h_aload_n G dX6_pass_413 rfl ?_
      refine h_iload G dX6_pass_414 rfl ?_
      refine war_24 G hL rfl (by first | assumption | omega | (rw [hG.nb]; omega) | (rw [hG.nh]; omega) | (rw [hG.nv]; omega)) dX6_pass_416 ?_
      refine h_astore G dX6_pass_417 (by decide) rfl ?_
      refine h_aload G dX6_pass_419 rfl ?_
      refine h_iconst (v := 1) G dX6_pass_421 (by decide) ?_
      refine wal_34 G hL (by first | assumption | omega | (rw [hG.nb]; omega) | (rw [hG.nh]; omega) | (rw [hG.nv]; omega)) (show (1 : Int32) = nI 1 from rfl) (by decide) dX6_pass_422 ?_
      rw [hG.he hlt2 (by decide), ← e24]
      refine h_if_lt G 454 dX6_pass_423 (by decide) (fun h423 => ?_) (fun h423 => ?_)
      · have hm1 : gk.i 3 n 1 = -1 := by
          rcases hat with q | ⟨b, hb, q⟩
          · exact q
          · rw [q] at h423; exact absurd h423 (nI_pos (by omega))
        rw [s34 hst n]
        refine rest gk σ hnh hP0 (fun q => absurd q (by rw [hm1]; decide)) (fun _ => ?_)
        unfold tire9
        rw [if_pos hm1]
      · have hm1 : gk.i 3 n 1 ≠ -1 := fun q => h423 (by rw [q]; decide)
        have hge : 0 ≤ gk.i 3 n 1 := i_nlt.mp h423
        have ht : tire9 gk n = if 0 < gk.i 3 n 0 - 1 then (gk.set 3 n 0 (gk.i 3 n 0 - 1)).set 3 n 2 (gk.i 3 n 2 + 1) else rest9 (((gk.set 3 n 0 (gk.i 3 n 0 - 1)).set 3 n 2 (gk.i 3 n 2 + 1)).set 3 n 1 (-1)) n := by
          unfold tire9
          rw [if_neg hm1]
          simp only []
          have e1 : ((gk.set 3 n 2 (gk.i 3 n 2 + 1)).set 3 n 0 (gk.i 3 n 0 - 1)).i 3 n 0 = gk.i 3 n 0 - 1 := by rw [gi_set, if_pos ⟨rfl, rfl, rfl⟩]
          rw [e1, set_comm (kd := 3) (k := 2) (kd2 := 3) (k2 := 0) (by omega)]
        refine h_aload G dX6_pass_426 rfl ?_
        refine h_iconst (v := 0) G dX6_pass_428 (by decide) ?_
        refine h_dup2 G dX6_pass_429 rfl rfl ?_
        refine wal_34 G hL (by first | assumption | omega | (rw [hG.nb]; omega) | (rw [hG.nh]; omega) | (rw [hG.nv]; omega)) (show (0 : Int32) = nI 0 from rfl) (by decide) dX6_pass_430 ?_
        rw [hG.he hlt2 (by decide)]
        refine h_iconst (v := 1) G dX6_pass_431 (by decide) ?_
        refine h_isub G dX6_pass_432 ?_
        refine was_34 G hL (by first | assumption | omega | (rw [hG.nb]; omega) | (rw [hG.nh]; omega) | (rw [hG.nv]; omega)) (show (0 : Int32) = nI 0 from rfl) (by decide) dX6_pass_433 (fun σ9 ω9 ha9 hs9 hL9 hk9 => ?_)
        try rw [← ha9]
        replace hk := KpS.tr hk hk9
        replace hst := hst.tr (Stb.of_ad ha9)
        clear hL hk9 ha9
        have hL := hL9
        clear hL9
        replace hG := hs9 (fun z => SimG z _ _) (hG.h34 (x := gk.i 3 n 0 - 1))
        clear hs9
        have hlt3 : n < (gk.set 3 n 0 (gk.i 3 n 0 - 1)).nh := hlt2
        refine h_aload G dX6_pass_434 rfl ?_
        refine h_iconst (v := 2) G dX6_pass_436 (by decide) ?_
        refine h_dup2 G dX6_pass_437 rfl rfl ?_
        refine wal_34 G hL (by first | assumption | omega | (rw [hG.nb]; omega) | (rw [hG.nh]; omega) | (rw [hG.nv]; omega)) (show (2 : Int32) = nI 2 from rfl) (by decide) dX6_pass_438 ?_
        rw [hG.he hlt3 (by decide), gi_set, if_neg (by omega)]
        refine h_iconst (v := 1) G dX6_pass_439 (by decide) ?_
        refine h_iadd G dX6_pass_440 ?_
        refine was_34 G hL (by first | assumption | omega | (rw [hG.nb]; omega) | (rw [hG.nh]; omega) | (rw [hG.nv]; omega)) (show (2 : Int32) = nI 2 from rfl) (by decide) dX6_pass_441 (fun σ9 ω9 ha9 hs9 hL9 hk9 => ?_)
        try rw [← ha9]
        replace hk := KpS.tr hk hk9
        replace hst := hst.tr (Stb.of_ad ha9)
        clear hL hk9 ha9
        have hL := hL9
        clear hL9
        replace hG := hs9 (fun z => SimG z _ _) (hG.h34 (x := gk.i 3 n 2 + 1))
        clear hs9
        have hlt4 : n < ((gk.set 3 n 0 (gk.i 3 n 0 - 1)).set 3 n 2 (gk.i 3 n 2 + 1)).nh := hlt2
        have i0 : ((gk.set 3 n 0 (gk.i 3 n 0 - 1)).set 3 n 2 (gk.i 3 n 2 + 1)).i 3 n 0 = gk.i 3 n 0 - 1 := by rw [gi_set, if_neg (by omega), gi_set, if_pos ⟨rfl, rfl, rfl⟩]
        have i1 : ((gk.set 3 n 0 (gk.i 3 n 0 - 1)).set 3 n 2 (gk.i 3 n 2 + 1)).i 3 n 1 = gk.i 3 n 1 := by rw [gi_set, if_neg (by omega), gi_set, if_neg (by omega)]
        have hdec := st_dec hs
        refine h_aload G dX6_pass_442 rfl ?_
        refine h_iconst (v := 0) G dX6_pass_444 (by decide) ?_
        refine wal_34 G hL (by first | assumption | omega | (rw [hG.nb]; omega) | (rw [hG.nh]; omega) | (rw [hG.nv]; omega)) (show (0 : Int32) = nI 0 from rfl) (by decide) dX6_pass_445 ?_
        rw [hG.he hlt4 (by decide), i0]
        refine h_if_ne G 454 dX6_pass_446 (by decide) (fun h446 => ?_) (fun h446 => ?_)
        · have hpos : 0 < gk.i 3 n 0 - 1 := by
            have h1 := hdec.1
            rw [Int32.le_iff_toInt_le] at h1
            rw [Int32.lt_iff_toInt_lt]
            have : (gk.i 3 n 0 - 1).toInt ≠ (0 : Int32).toInt := fun q => h446 (Int32.toInt_inj.mp q)
            omega
          rw [if_pos hpos] at ht
          rw [s34 hst n]
          exact rest _ _ (by exact hnh) ⟨_, hL, hG, hst, hk⟩ (fun _ => ht) (fun q => absurd hge (by rw [i1] at q; exact q))
        · have hz : ¬ 0 < gk.i 3 n 0 - 1 := by rw [h446]; decide
          rw [if_neg hz] at ht
          refine h_aload G dX6_pass_449 rfl ?_
          refine h_iconst (v := 1) G dX6_pass_451 (by decide) ?_
          refine h_iconst (v := -1) G dX6_pass_452 (by decide) ?_
          refine was_34 G hL (by first | assumption | omega | (rw [hG.nb]; omega) | (rw [hG.nh]; omega) | (rw [hG.nv]; omega)) (show (1 : Int32) = nI 1 from rfl) (by decide) dX6_pass_453 (fun σ9 ω9 ha9 hs9 hL9 hk9 => ?_)
          try rw [← ha9]
          replace hk := KpS.tr hk hk9
          replace hst := hst.tr (Stb.of_ad ha9)
          clear hL hk9 ha9
          have hL := hL9
          clear hL9
          replace hG := hs9 (fun z => SimG z _ _) (hG.h34 (x := -1))
          clear hs9
          rw [s34 hst n]
          have i2 : (((gk.set 3 n 0 (gk.i 3 n 0 - 1)).set 3 n 2 (gk.i 3 n 2 + 1)).set 3 n 1 (-1)).i 3 n 1 = -1 := by rw [gi_set, if_pos ⟨rfl, rfl, rfl⟩]
          exact rest _ _ (by exact hnh) ⟨_, hL, hG, hst, hk⟩ (fun q => absurd q (by rw [i2]; decide)) (fun _ => ht)
  have hP0 := hP
  obtain ⟨ω, hL, hG, hst, hk⟩ := hP
  have e21 : ω0.ad (21, 0, 0) = ω.ad (21, 0, 0) := (hst (21, 0, 0) (by decide) (by decide)).symm
  have e24 : ω0.ad (24, 0, 0) = ω.ad (24, 0, 0) := (hst (24, 0, 0) (by decide) (by decide)).symm
  rw [e21]
  refine h_aload_n G dX6_pass_396 rfl ?_
  refine wgX6_26 G hL dX6_pass_397 ?_
  refine h_astore_n G dX6_pass_400 (by decide) rfl ?_
  refine h_aload_n G dX6_pass_401 rfl ?_
  refine wle_24 G hL dX6_pass_402 ?_
  rw [hG.nh, ← e21, ← e24]
  refine h_istore_n G dX6_pass_403 (by decide) rfl ?_
  refine h_iconst (v := 0) G dX6_pass_404 (by decide) ?_
  refine h_istore G dX6_pass_405 (by decide) rfl ?_
  exact loop g.nh 0 (by omega) σ hP0
theorem p_hour (G : Gd κ cX6_pass 8 RX6 3 71) (hc9 : cN + 129 ≤ κ.R.cells) (hd9 : dN + 2048 ≤ κ.R.slots) (hP : SPost κ.E σ0 ω0 g w σ) (hI : Inv g) {x1 : Int32} (K : ∀ σ', SPost κ.E σ0 ω0 (if rm9 (g.i 1 0 7) 12 = 11 then endHour9 g else g) w σ' → HV κ 8 σ' (cN + 129) (dN + 2048) [some (.ref (ω0.ad (21, 0, 0))), some (.int x1), none, none, none, none, none, none] [] 623) : HV κ 8 σ cN dN [some (.ref (ω0.ad (21, 0, 0))), some (.int x1), none, none, none, none, none, none] [] 482 := by
  have hb8 := hI.nb8
  have hv16 := hI.nv16
  have hbd3 := hI.bd3
  have hP0 := hP
  obtain ⟨ω, hL, hG, hst, hk⟩ := hP
  have e21 : ω0.ad (21, 0, 0) = ω.ad (21, 0, 0) := (hst (21, 0, 0) (by decide) (by decide)).symm
  rw [e21]
  refine h_aload_n G dX6_pass_482 rfl ?_
  refine wgX6_39 G hL dX6_pass_483 ?_
  rw [hG.rd]
  refine h_bipush (v := 12) G dX6_pass_486 (by decide) ?_
  refine h_irem G dX6_pass_488 (by decide) ?_
  refine h_bipush (v := 11) G dX6_pass_489 (by decide) ?_
  rw [← e21]
  refine h_icmp_ne G 623 dX6_pass_491 (by decide) (fun h491 => ?_) (fun h491 => ?_)
  · rw [if_neg h491] at K
    exact HV.wid (by omega) (by omega) (K σ hP0)
  rw [if_pos h491] at K
  refine h_iconst (v := 0) G dX6_pass_494 (by decide) ?_
  refine h_istore_n G dX6_pass_495 (by decide) rfl ?_
  clear hL hG hst hk e21
  -- the queues of closed booths
  have clear : ∀ (gm : GS) (σ : Sg), SPost κ.E σ0 ω0 gm w σ → Inv gm → endHour9 g = clear9 gm → HV κ 8 σ (cN + 1) dN [some (.ref (ω0.ad (21, 0, 0))), some (.int x1), some (.int 0), none, none, none, none, none] [] 575 := by
    intro gm σ hP hIm hE
    have hb8 := hIm.nb8
    rw [hE] at K
    have outer : ∀ m n, n + m = gm.nb → ∀ (S : Nat → Bool) (σ : Sg), CLs gm n S → Inv (clS gm S) → SPost κ.E σ0 ω0 (clS gm S) w σ → HV κ 8 σ (cN + 1 + 16 * n) (dN + 256 * n) [some (.ref (ω0.ad (21, 0, 0))), some (.int x1), some (.int (nI n)), none, none, none, none, none] [] 575 := by
      intro m
      induction m with
      | zero =>
        intro n hn S σ hC hIS hP
        have hn : n = gm.nb := by omega
        subst hn
        obtain ⟨ω, hL, hG, hst, hk⟩ := hP
        have e21 : ω0.ad (21, 0, 0) = ω.ad (21, 0, 0) := (hst (21, 0, 0) (by decide) (by decide)).symm
        rw [e21]
        refine h_iload_n G dX6_pass_575 rfl ?_
        refine h_aload_n G dX6_pass_576 rfl ?_
        refine wgX6_18 G hL dX6_pass_577 ?_
        refine wle_22 G hL dX6_pass_580 ?_
        rw [hG.nb, show (clS gm S).nb = gm.nb from rfl, ← e21]
        refine h_icmp_ge G 623 dX6_pass_581 (by decide) (fun h581 => ?_) (fun h581 => ?_)
        rotate_left
        · exact absurd (nI_le (Nat.le_refl _) (by omega)) h581
        exact HV.wid (by omega) (by omega) (HV.drop1 2 (K σ ⟨ω, hL, hG.cleared hIm hC, hst, hk⟩))
      | succ m ih =>
        intro n hn S σ hC hIS hP
        have hlt : n < gm.nb := by omega
        have hP0 := hP
        obtain ⟨ω, hL, hG, hst, hk⟩ := hP
        have e21 : ω0.ad (21, 0, 0) = ω.ad (21, 0, 0) := (hst (21, 0, 0) (by decide) (by decide)).symm
        rw [e21]
        refine h_iload_n G dX6_pass_575 rfl ?_
        refine h_aload_n G dX6_pass_576 rfl ?_
        refine wgX6_18 G hL dX6_pass_577 ?_
        refine wle_22 G hL dX6_pass_580 ?_
        rw [hG.nb, show (clS gm S).nb = gm.nb from rfl, ← e21]
        refine h_icmp_ge G 623 dX6_pass_581 (by decide) (fun h581 => ?_) (fun h581 => ?_)
        · exact absurd h581 (nI_ge hlt (by omega))
        have next : ∀ (S : Nat → Bool) (σ : Sg), CLs gm (n + 1) S → Inv (clS gm S) → SPost κ.E σ0 ω0 (clS gm S) w σ → HV κ 8 σ (cN + 1 + 16 * (n + 1)) (dN + 256 * (n + 1)) [some (.ref (ω0.ad (21, 0, 0))), some (.int x1), some (.int (nI n)), none, none, none, none, none] [] 617 := fun S σ h1 h2 h3 => by
          refine h_iinc G dX6_pass_617 rfl (by decide) rfl (nI_1 n) ?_
          refine h_goto G 575 dX6_pass_620 (by decide) ?_
          exact ih (n + 1) (by omega) S σ h1 h2 h3
        clear ih
        have inner : ∀ j (S : Nat → Bool) (σ : Sg), ((clS gm S).q n).length = j → CLs gm n S → Inv (clS gm S) → SPost κ.E σ0 ω0 (clS gm S) w σ → HV κ 8 σ (cN + 1 + 16 * n + (16 - j)) (dN + 256 * n + 16 * (16 - j)) [some (.ref (ω0.ad (21, 0, 0))), some (.int x1), some (.int (nI n)), none, none, none, none, none] [] 584 := by
          intro j
          induction j with
          | zero =>
            intro S σ hj hC hIS hP
            have hP0 := hP
            obtain ⟨ω, hL, hG, hst, hk⟩ := hP
            have e21 : ω0.ad (21, 0, 0) = ω.ad (21, 0, 0) := (hst (21, 0, 0) (by decide) (by decide)).symm
            have hnb : n < (clS gm S).nb := hlt
            rw [e21]
            refine h_aload_n G dX6_pass_584 rfl ?_
            refine h_iload_n G dX6_pass_585 rfl ?_
            refine wiX6_70 G (hL.1 (21, 0, 0) trivial) (m_isOpen hL hG hIS hnb) (by decide) (Nat.le_of_ble_eq_true rfl) (by omega) (by omega) dX6_pass_586 (fun r9 σ9 hp9 => ?_)
            obtain ⟨hop, rfl, rfl⟩ | ⟨hop, rfl, rfl⟩ := hp9
            · refine h_if_ne G 617 dX6_pass_589 (by decide) (fun h589 => ?_) (fun h589 => ?_)
              rotate_left
              · exact absurd h589 (by decide)
              rw [← e21]
              refine HV.wid (by omega) (by omega) (next S _ ⟨hC.1, fun b hb hno u hu => ?_⟩ hIS hP0)
              rcases Nat.lt_or_ge b n with q | q
              · exact hC.2 b q hno u hu
              · have : b = n := by omega
                subst this
                exact absurd (clS_opn.mp hop) hno
            · refine h_if_ne G 617 dX6_pass_589 (by decide) (fun h589 => ?_) (fun h589 => ?_)
              · exact absurd rfl h589
              refine h_aload_n G dX6_pass_592 rfl ?_
              refine wgX6_23 G hL dX6_pass_593 ?_
              refine h_iload_n G dX6_pass_596 rfl ?_
              refine war_23 G hL rfl (by first | assumption | omega | (rw [hG.nb]; omega) | (rw [hG.nh]; omega) | (rw [hG.nv]; omega)) dX6_pass_597 ?_
              refine wle_33 G hL (by first | assumption | omega | (rw [hG.nb]; omega) | (rw [hG.nh]; omega) | (rw [hG.nv]; omega)) dX6_pass_598 ?_
              rw [hG.ql hIS.nb8 hnb, hj]
              refine h_if_le G 617 dX6_pass_599 (by decide) (fun h599 => ?_) (fun h599 => ?_)
              rotate_left
              · exact absurd (show nI 0 ≤ 0 by decide) h599
              rw [← e21]
              refine HV.wid (by omega) (by omega) (next S _ ⟨hC.1, fun b hb hno u hu => ?_⟩ hIS hP0)
              rcases Nat.lt_or_ge b n with q | q
              · exact hC.2 b q hno u hu
              · have : b = n := by omega
                subst this
                have hnil : (gm.q b).filter (fun u => !S u) = [] := List.length_eq_zero_iff.mp hj
                have := List.filter_eq_nil_iff.mp hnil u hu
                simpa using this
          | succ j ihj =>
            intro S σ hj hC hIS hP
            have hP0 := hP
            obtain ⟨ω, hL, hG, hst, hk⟩ := hP
            have e21 : ω0.ad (21, 0, 0) = ω.ad (21, 0, 0) := (hst (21, 0, 0) (by decide) (by decide)).symm
            have hnb : n < (clS gm S).nb := hlt
            have hj16 := hIS.ql16 hnb
            rw [e21]
            refine h_aload_n G dX6_pass_584 rfl ?_
            refine h_iload_n G dX6_pass_585 rfl ?_
            refine wiX6_70 G (hL.1 (21, 0, 0) trivial) (m_isOpen hL hG hIS hnb) (by decide) (Nat.le_of_ble_eq_true rfl) (by omega) (by omega) dX6_pass_586 (fun r9 σ9 hp9 => ?_)
            obtain ⟨hop, rfl, rfl⟩ | ⟨hop, rfl, rfl⟩ := hp9
            · refine h_if_ne G 617 dX6_pass_589 (by decide) (fun h589 => ?_) (fun h589 => ?_)
              rotate_left
              · exact absurd h589 (by decide)
              rw [← e21]
              refine HV.wid (by omega) (by omega) (next S _ ⟨hC.1, fun b hb hno u hu => ?_⟩ hIS hP0)
              rcases Nat.lt_or_ge b n with q | q
              · exact hC.2 b q hno u hu
              · have : b = n := by omega
                subst this
                exact absurd (clS_opn.mp hop) hno
            · refine h_if_ne G 617 dX6_pass_589 (by decide) (fun h589 => ?_) (fun h589 => ?_)
              · exact absurd rfl h589
              refine h_aload_n G dX6_pass_592 rfl ?_
              refine wgX6_23 G hL dX6_pass_593 ?_
              refine h_iload_n G dX6_pass_596 rfl ?_
              refine war_23 G hL rfl (by first | assumption | omega | (rw [hG.nb]; omega) | (rw [hG.nh]; omega) | (rw [hG.nv]; omega)) dX6_pass_597 ?_
              refine wle_33 G hL (by first | assumption | omega | (rw [hG.nb]; omega) | (rw [hG.nh]; omega) | (rw [hG.nv]; omega)) dX6_pass_598 ?_
              rw [hG.ql hIS.nb8 hnb, hj]
              refine h_if_le G 617 dX6_pass_599 (by decide) (fun h599 => ?_) (fun h599 => ?_)
              · exact absurd h599 (nI_nle (by omega) (by omega))
              obtain ⟨v, hv0⟩ : ∃ v, ((clS gm S).q n)[0]? = some v := ⟨_, List.getElem?_eq_getElem (by omega)⟩
              have hvq := List.mem_of_getElem? hv0
              obtain ⟨hv, hat⟩ := (hIS.qm hnb).mp hvq
              have hvg : v ∈ gm.q n := (List.mem_filter.mp hvq).1
              refine h_aload_n G dX6_pass_602 rfl ?_
              refine h_aload_n G dX6_pass_603 rfl ?_
              refine wgX6_23 G hL dX6_pass_604 ?_
              refine h_iload_n G dX6_pass_607 rfl ?_
              refine war_23 G hL rfl (by first | assumption | omega | (rw [hG.nb]; omega) | (rw [hG.nh]; omega) | (rw [hG.nv]; omega)) dX6_pass_608 ?_
              refine h_iconst (v := 0) G dX6_pass_609 (by decide) ?_
              refine wal_33 G hL (by omega) (show (0 : Int32) = nI 0 from rfl) (by rw [hG.ql hIS.nb8 hnb]; omega) dX6_pass_610 ?_
              rw [hG.qe hnb hv0]
              refine wiX6_99 G (hL.1 (21, 0, 0) trivial) (m_exit hL hG hIS hv hnb hat) (by decide) (Nat.le_of_ble_eq_true rfl) (by omega) (by omega) dX6_pass_611 (fun r9 σ9 hp9 => ?_)
              obtain ⟨rfl, ω1, hL1, hG1, hst1, hk1⟩ := hp9
              rw [← e21]
              refine h_goto G 584 dX6_pass_614 (by decide) ?_
              rw [clS_leave] at hG1
              have hl1 : ((clS gm (fun u => S u || u == v)).q n).length = j := by
                rw [← clS_leave]
                show (((clS gm S).q n).filter (fun u => u != v)).length = j
                rw [← (hIS.qnd hnb).erase_eq_filter v, List.length_erase_of_mem hvq, hj]
                rfl
              refine HV.wid (by omega) (by omega) (ihj _ _ hl1 ⟨fun u hu => ?_, fun b hb hno u hu => ?_⟩ (by rw [← clS_leave]; exact hIS.leave) ⟨ω1, hL1, hG1, hst.tr hst1, hk.tr hk1⟩)
              · rcases Bool.or_eq_true_iff.mp hu with q | q
                · exact hC.1 u q
                · have huv : u = v := by simpa using q
                  subst huv
                  exact ⟨n, hlt, hvg, fun q2 => hop (clS_opn.mpr q2)⟩
              · show (S u || u == v) = true
                rw [hC.2 b hb hno u hu]; rfl
        have hj16 := hIS.ql16 (b := n) hlt
        refine HV.wid (by omega) (by omega) (inner _ S σ rfl hC hIS hP0)
    have h0 := outer gm.nb 0 (by omega) (fun _ => false) σ ⟨fun u hu => (by cases hu), fun b hb => absurd hb (Nat.not_lt_zero b)⟩ (by rw [clS_0]; exact hIm) (by rw [clS_0]; exact hP)
    exact h0
  -- the board is rubbed out
  have rub : ∀ (σ : Sg), SPost κ.E σ0 ω0 (markN g 0 g.bd) w σ → HV κ 8 σ cN dN [some (.ref (ω0.ad (21, 0, 0))), some (.int x1), none, none, none, none, none, none] [] 565 := by
    intro σ hP
    obtain ⟨ω, hL, hG, hst, hk⟩ := hP
    have e21 : ω0.ad (21, 0, 0) = ω.ad (21, 0, 0) := (hst (21, 0, 0) (by decide) (by decide)).symm
    rw [e21]
    refine h_aload_n G dX6_pass_565 rfl ?_
    refine h_iconst (v := 0) G dX6_pass_566 (by decide) ?_
    refine h_newA G (53, 0, 0) (k := 0) rfl (by omega) (by decide +kernel) (by omega) (by omega) dX6_pass_567 (fun q2 hq2 => ?_)
    refine w_newB G (hL.new (i := (53, 0, 0)) (e := (.inl (κ.E.cy 5, pRefs 0 (fun _ => none)))) hq2) (tmp := (53, 0, 0)) (by omega) sup_at (by decide) dX6_pass_570 (fun σ3 hL3 hk3 hk4 => ?_)
    replace hk := hk3 σ0 (hk.new hq2) (hk.fresh hq2)
    have hG3 : SimG (ω.setB q2 0 []) ((markN g 0 g.bd).setbd []) w := hG.setB rfl
    rw [← e21]
    refine h_iconst (v := 0) G dX6_pass_573 (by decide) ?_
    refine h_istore_n G dX6_pass_574 (by decide) rfl ?_
    exact clear ((markN g 0 g.bd).setbd []) σ3 ⟨_, hL3, hG3, hst.setB, hk⟩ ((hI.markN g.bd 0).setbd (by simp) (fun x hx => by cases hx) List.Pairwise.nil) rfl
  clear clear
  -- the first one's tokens
  have tok : ∀ (σ : Sg), SPost κ.E σ0 ω0 (mkN g 0 g.bd) w σ → HV κ 8 σ cN dN [some (.ref (ω0.ad (21, 0, 0))), some (.int x1), none, none, none, none, none, none] [] 535 := by
    intro σ hP
    have hP0 := hP
    obtain ⟨ω, hL, hG, hst, hk⟩ := hP
    have e21 : ω0.ad (21, 0, 0) = ω.ad (21, 0, 0) := (hst (21, 0, 0) (by decide) (by decide)).symm
    have hbdk : (mkN g 0 g.bd).bd = g.bd := congrArg (fun z : (Nat → List Nat) × (Nat → Nat) × List Ln => z.2.2) (mkN_2 _ _ _)
    have hnvk : (mkN g 0 g.bd).nv = g.nv := congrArg (fun z : (Nat → List Nat) × (Nat → Nat) × List Ln => z.2.1 2) (mkN_2 _ _ _)
    rw [e21]
    refine h_aload_n G dX6_pass_535 rfl ?_
    refine wgX6_35 G hL dX6_pass_536 ?_
    refine wle_26 G hL dX6_pass_539 ?_
    rw [hG.nl, hbdk]
    cases hbd : g.bd with
    | nil =>
      refine h_if_le G 565 dX6_pass_540 (by decide) (fun h540 => ?_) (fun h540 => ?_)
      rotate_left
      · exact absurd (show nI 0 ≤ 0 by decide) h540
      rw [← e21]
      refine rub σ ?_
      rw [hbd] at hP0 ⊢
      exact hP0
    | cons x L =>
      have hx0 : g.bd[0]? = some x := by rw [hbd]; rfl
      have hxv : x.1 < g.nv := hI.bdv (List.mem_of_getElem? hx0)
      refine h_if_le G 565 dX6_pass_540 (by decide) (fun h540 => ?_) (fun h540 => ?_)
      · exact absurd h540 (nI_nle (by simp) (by rw [← hbd]; omega))
      refine h_aload_n G dX6_pass_543 rfl ?_
      refine wgX6_31 G hL dX6_pass_544 ?_
      refine h_aload_n G dX6_pass_547 rfl ?_
      refine wgX6_35 G hL dX6_pass_548 ?_
      refine h_iconst (v := 0) G dX6_pass_551 (by decide) ?_
      refine w_line G hL.2.2 (by have := hL.2.1.2.2.2.1; omega) (show (0 : Int32) = nI 0 from rfl) (x := x) (by rw [hG.bd, hbdk]; exact hx0) dX6_pass_552 (fun a9 hln9 => ?_)
      refine h_iconst (v := 0) G dX6_pass_553 (by decide) ?_
      refine w_lval G hln9 (show (0 : Int32) = nI 0 from rfl) (by decide) dX6_pass_554 ?_
      refine war_25 G hL (show lfc x 0 = nI x.1 from rfl) (by rw [hG.nv, hnvk]; exact hxv) dX6_pass_555 ?_
      refine h_dup G dX6_pass_556 rfl ?_
      refine wgX6_54 G hL (by rw [hG.nv, hnvk]; exact hxv) dX6_pass_557 ?_
      rw [hG.vi (by rw [hnvk]; exact hxv) (by decide), show vfc (mkN g 0 g.bd) x.1 0 = (mkN g 0 g.bd).i 4 x.1 0 from rfl, mkN_i0]
      refine h_iconst (v := 5) G dX6_pass_560 (by decide) ?_
      refine h_iadd G dX6_pass_561 ?_
      refine wpX6_54 G hL (by rw [hG.nv, hnvk]; exact hxv) dX6_pass_562 (fun σ9 ω9 ha9 hs9 hL9 hk9 => ?_)
      try rw [← ha9]
      replace hk := KpS.tr hk hk9
      replace hst := hst.tr (Stb.of_ad ha9)
      clear hL hk9 ha9
      have hL := hL9
      clear hL9
      replace hG := hs9 (fun z => SimG z _ _) (hG.v35 (x := g.i 4 x.1 0 + 5) (by decide) (by decide) (by decide))
      clear hs9
      rw [hst (21, 0, 0) (by decide) (by decide)]
      refine rub _ ⟨_, hL, ?_, hst, hk⟩
      rw [hbd, markN_first, ← hbd]
      exact hG
  clear rub
  have loop : ∀ m n, n + m = g.bd.length → ∀ σ, SPost κ.E σ0 ω0 (mkN g 0 (g.bd.take n)) w σ → HV κ 8 σ cN dN [some (.ref (ω0.ad (21, 0, 0))), some (.int x1), some (.int (nI n)), none, none, none, none, none] [] 496 := by
    intro m
    induction m with
    | zero =>
      intro n hn σ hP
      have hn : n = g.bd.length := by omega
      subst hn
      rw [List.take_length] at hP
      have hP0 := hP
      obtain ⟨ω, hL, hG, hst, hk⟩ := hP
      have e21 : ω0.ad (21, 0, 0) = ω.ad (21, 0, 0) := (hst (21, 0, 0) (by decide) (by decide)).symm
      have hbdk : (mkN g 0 g.bd).bd = g.bd := congrArg (fun z : (Nat → List Nat) × (Nat → Nat) × List Ln => z.2.2) (mkN_2 _ _ _)
      rw [e21]
      refine h_iload_n G dX6_pass_496 rfl ?_
      refine h_aload_n G dX6_pass_497 rfl ?_
      refine wgX6_35 G hL dX6_pass_498 ?_
      refine wle_26 G hL dX6_pass_501 ?_
      rw [hG.nl, hbdk, ← e21]
      refine h_icmp_ge G 535 dX6_pass_502 (by decide) (fun h502 => ?_) (fun h502 => ?_)
      rotate_left
      · exact absurd (nI_le (Nat.le_refl _) (by omega)) h502
      exact HV.drop1 2 (tok σ hP0)
    | succ m ih =>
      intro n hn σ hP
      have hlt : n < g.bd.length := by omega
      obtain ⟨x, hx⟩ : ∃ x, g.bd[n]? = some x := ⟨_, List.getElem?_eq_getElem hlt⟩
      have hxv : x.1 < g.nv := hI.bdv (List.mem_of_getElem? hx)
      obtain ⟨ω, hL, hG, hst, hk⟩ := hP
      have e21 : ω0.ad (21, 0, 0) = ω.ad (21, 0, 0) := (hst (21, 0, 0) (by decide) (by decide)).symm
      have hes : mkN g 0 (g.bd.take (n + 1)) = (mkN g 0 (g.bd.take n)).set 4 x.1 5 ((mkN g 0 (g.bd.take n)).i 4 x.1 5 + (3 - nI n)) := by
        have e1 : g.bd.take (n + 1) = g.bd.take n ++ [x] := by rw [List.take_add_one, hx]; rfl
        rw [e1, mkN_app, show 0 + (g.bd.take n).length = n by simp; omega]
      have hbdk : (mkN g 0 (g.bd.take n)).bd = g.bd := congrArg (fun z : (Nat → List Nat) × (Nat → Nat) × List Ln => z.2.2) (mkN_2 _ _ _)
      have hnvk : (mkN g 0 (g.bd.take n)).nv = g.nv := congrArg (fun z : (Nat → List Nat) × (Nat → Nat) × List Ln => z.2.1 2) (mkN_2 _ _ _)
      generalize hgk : mkN g 0 (g.bd.take n) = gk at hG hes hbdk hnvk
      rw [e21]
      refine h_iload_n G dX6_pass_496 rfl ?_
      refine h_aload_n G dX6_pass_497 rfl ?_
      refine wgX6_35 G hL dX6_pass_498 ?_
      refine wle_26 G hL dX6_pass_501 ?_
      rw [hG.nl, hbdk]
      refine h_icmp_ge G 535 dX6_pass_502 (by decide) (fun h502 => ?_) (fun h502 => ?_)
      · exact absurd h502 (nI_ge hlt (by omega))
      refine h_aload_n G dX6_pass_505 rfl ?_
      refine wgX6_31 G hL dX6_pass_506 ?_
      refine h_aload_n G dX6_pass_509 rfl ?_
      refine wgX6_35 G hL dX6_pass_510 ?_
      refine h_iload_n G dX6_pass_513 rfl ?_
      refine w_line G hL.2.2 (by have := hL.2.1.2.2.2.1; omega) rfl (x := x) (by rw [hG.bd, hbdk]; exact hx) dX6_pass_514 (fun a9 hln9 => ?_)
      refine h_iconst (v := 0) G dX6_pass_515 (by decide) ?_
      refine w_lval G hln9 (show (0 : Int32) = nI 0 from rfl) (by decide) dX6_pass_516 ?_
      refine war_25 G hL (show lfc x 0 = nI x.1 from rfl) (by rw [hG.nv, hnvk]; exact hxv) dX6_pass_517 ?_
      refine h_dup G dX6_pass_518 rfl ?_
      refine wgX6_118 G hL (by rw [hG.nv, hnvk]; exact hxv) dX6_pass_519 ?_
      rw [hG.vi (by rw [hnvk]; exact hxv) (by decide), show vfc gk x.1 5 = gk.i 4 x.1 5 from rfl]
      refine h_iconst (v := 3) G dX6_pass_522 (by decide) ?_
      refine h_iload_n G dX6_pass_523 rfl ?_
      refine h_isub G dX6_pass_524 ?_
      refine h_iadd G dX6_pass_525 ?_
      refine wpX6_118 G hL (by rw [hG.nv, hnvk]; exact hxv) dX6_pass_526 (fun σ9 ω9 ha9 hs9 hL9 hk9 => ?_)
      try rw [← ha9]
      replace hk := KpS.tr hk hk9
      replace hst := hst.tr (Stb.of_ad ha9)
      clear hL hk9 ha9
      have hL := hL9
      clear hL9
      replace hG := hs9 (fun z => SimG z _ _) (hG.v35 (x := gk.i 4 x.1 5 + (3 - nI n)) (by decide) (by decide) (by decide))
      clear hs9
      rw [← hes] at hG
      rw [hst (21, 0, 0) (by decide) (by decide)]
      refine h_iinc G dX6_pass_529 rfl (by decide) rfl (nI_1 n) ?_
      refine h_goto G 496 dX6_pass_532 (by decide) ?_
      exact ih (n + 1) (by omega) _ ⟨_, hL, hG, hst, hk⟩
  exact loop g.bd.length 0 (by omega) σ hP0
end Ho
section Pa
variable {E : EX} {σ : Sg} {ω : WS} {g : GS}
theorem m_pass (hL : LayS E σ ω) (hG : SimG ω g (g.i 1 0 10)) (hI : Inv g) : RetS E yX6_pass cX6_pass 8 (some .int) 3 71 1600 9000 [.ref (ω.ad (21, 0, 0))] σ (fun r σ' => r = some (.int ((round9 g).i 1 0 10 - g.i 1 0 10)) ∧ SPost E σ ω (round9 g) ((round9 g).i 1 0 10) σ') := by
  refine RetS_of RX6 (by decide) rfl [some (.ref (ω.ad (21, 0, 0))), none, none, none, none, none, none, none] rfl (Nat.le_of_ble_eq_true rfl) (fun κ hE G E9 hr => ?_)
  subst hE
  have hc9 := E9.2.2.1
  have hd9 := E9.2.2.2
  refine h_iconst (v := 0) G dX6_pass_0 (by decide) ?_
  refine h_istore_n G dX6_pass_1 (by decide) rfl ?_
  refine p_dart G ⟨ω, hL, hG, Stb.rf, KpS.rf⟩ hI (fun σ1 hP1 => ?_)
  refine p_choose G (by omega) (by omega) hP1 hI.r1 (fun σ2 hP2 => ?_)
  have e0 : (0 : Int32) = (rnd2 g).i 1 0 10 - g.i 1 0 10 := by rw [won_r2, Int32.sub_self]
  rw [e0]
  refine p_serves G (by omega) (by omega) hP2 hI.r2 (fun σ3 hP3 => ?_)
  refine p_tires G (by omega) (by omega) hP3 hI.r3 (fun σ4 hP4 => ?_)
  refine p_hour G (by omega) (by omega) hP4 hI.r4 (fun σ5 hP5 => ?_)
  obtain ⟨ω5, hL, hG, hst, hk⟩ : SPost κ.E σ ω (rnd5 g) (g.i 1 0 10) σ5 := hP5
  rw [← hst (21, 0, 0) (by decide) (by decide)]
  rw [show (servesN (rnd2 g) (rnd2 g).nb).i 1 0 10 = (round9 g).i 1 0 10 from won_round.symm]
  refine h_aload_n G dX6_pass_623 rfl ?_
  refine h_dup G dX6_pass_624 rfl ?_
  refine wgX6_39 G hL dX6_pass_625 ?_
  rw [hG.rd]
  refine h_iconst (v := 1) G dX6_pass_628 (by decide) ?_
  refine h_iadd G dX6_pass_629 ?_
  refine wpX6_39 G hL dX6_pass_630 (fun σ9 ω9 ha9 hs9 hL9 hk9 => ?_)
  try rw [← ha9]
  replace hk := KpS.tr hk hk9
  replace hst := hst.tr (Stb.of_ad ha9)
  clear hL hk9 ha9
  have hL := hL9
  clear hL9
  replace hG := hs9 (fun z => SimG z _ _) (hG.n21 (x := (rnd5 g).i 1 0 7 + 1) (j := 0) (by decide))
  clear hs9
  rw [show (rnd5 g).set 1 0 (0 + 7) ((rnd5 g).i 1 0 7 + 1) = round9 g from rfl] at hG
  refine h_aload_n G dX6_pass_633 rfl ?_
  refine h_dup G dX6_pass_634 rfl ?_
  refine wgX6_42 G hL dX6_pass_635 ?_
  rw [hG.wo]
  have ew : g.i 1 0 10 + ((round9 g).i 1 0 10 - g.i 1 0 10) = (round9 g).i 1 0 10 := by
    rw [Int32.sub_eq_add_neg, Int32.add_comm ((round9 g).i 1 0 10), ← Int32.add_assoc, Int32.add_right_neg, Int32.zero_add]
  refine h_iload_n G dX6_pass_638 rfl ?_
  refine h_iadd G dX6_pass_639 ?_
  rw [ew]
  refine wpX6_42 G hL dX6_pass_640 (fun σ9 ω9 ha9 hs9 hL9 hk9 => ?_)
  try rw [← ha9]
  replace hk := KpS.tr hk hk9
  replace hst := hst.tr (Stb.of_ad ha9)
  clear hL hk9 ha9
  have hL := hL9
  clear hL9
  replace hG := hs9 (fun z => SimG z _ _) (hG.w21 (x := (round9 g).i 1 0 10))
  clear hs9
  refine h_iload_n G dX6_pass_643 rfl ?_
  refine h_iret G E9 (by omega) (by omega) hr dX6_pass_644 ⟨rfl, _, hL, hG, hst, hk⟩
end Pa
