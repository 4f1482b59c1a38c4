/-! ===== the pass, and what was foreseen ===== -/
section Tu
variable {κ : KX} {σ : Sg} {g : GS} {M : Mem} {cN dN aS t q8 q9 q10 : Nat} {r8 r9 r10 : Nat → Nat} {x : Int32} {n : Nat → Nat} {ω : WS}
theorem p_turn (G : Gd κ cL_law 34 RL 7 164) (hc9 : cN + 1600 ≤ κ.R.cells) (hd9 : dN + 9000 ≤ κ.R.slots) (hL : LayS κ.E σ ω) (hG : SimG ω g (g.i 1 0 10)) (hC : ClsP κ.E σ M) (hI : CI M g) (hR : RFh t g n) (haS : ω.ad (21, 0, 0) = aS) (T8 : Tab κ.E σ (60, 0, 0) 61 q8 r8 g.nv 8 (fun _ _ => True) (fun v k => vfc g v k)) (T9 : Tab κ.E σ (62, 0, 0) 63 q9 r9 g.nb 10 (fun _ _ => True) (fun b k => bfc g b k)) (T10 : Tab κ.E σ (64, 0, 0) 65 q10 r10 g.nh 3 (fun _ _ => True) (fun v k => g.i 3 v k)) (K : ∀ σ' ω' M', LayS κ.E σ' ω' → SimG ω' (round9 g) ((round9 g).i 1 0 10) → ClsP κ.E σ' M' → CI M' (round9 g) → ω'.ad (21, 0, 0) = aS → Tab κ.E σ' (60, 0, 0) 61 q8 r8 g.nv 8 (fun _ _ => True) (fun v k => vfc g v k) → Tab κ.E σ' (62, 0, 0) 63 q9 r9 g.nb 10 (fun _ _ => True) (fun b k => bfc g b k) → Tab κ.E σ' (64, 0, 0) 65 q10 r10 g.nh 3 (fun _ _ => True) (fun v k => g.i 3 v k) → HV κ 34 σ' (cN + 1600) (dN + 9000) [some (.ref κ.E.sc.1), some (.ref (κ.E.ad (0, 0, 0))), some (.ref aS), some (.int (nI g.nb)), some (.int (nI g.nh)), some (.int (nI g.nv)), some (.int (nI t)), some (.int x), some (.ref q8), some (.ref q9), some (.ref q10), none, none, none, none, some (.int (nI g.bd.length)), none, some (.int ((round9 g).i 1 0 10 - g.i 1 0 10)), none, some (.int (if t % 12 = 11 then 1 else 0)), none, none, none, none, none, none, none, none, none, none, none, none, none, none] [] 444) : HV κ 34 σ cN dN [some (.ref κ.E.sc.1), some (.ref (κ.E.ad (0, 0, 0))), some (.ref aS), some (.int (nI g.nb)), some (.int (nI g.nh)), some (.int (nI g.nv)), some (.int (nI t)), some (.int x), some (.ref q8), some (.ref q9), some (.ref q10), none, none, none, none, none, none, none, none, none, none, none, none, none, none, none, none, none, none, none, none, none, none, none] [] 283 := by
  subst haS
  have hnv := hR.1.1.2.2
  have ht := hR.2.2.1
  refine h_iload G dL_law_283 rfl ?_
  refine h_iload G dL_law_285 rfl ?_
  refine wiL_18 G (m_below _ (m := g.nv) (by omega) (by omega)) (by decide) (Nat.le_of_ble_eq_true rfl) (by omega) (by omega) dL_law_287 (fun r9 σ9 hp9 => ?_)
  obtain ⟨⟨who, hwho, rfl⟩, rfl⟩ := hp9
  refine h_istore G dL_law_290 (by decide) rfl ?_
  refine h_aload_n G dL_law_292 rfl ?_
  refine h_iload G dL_law_293 rfl ?_
  refine h_iconst (v := 1) G dL_law_295 (by decide) ?_
  refine h_iconst (v := 0) G dL_law_296 (by decide) ?_
  refine wiL_107 G hC (f_foresee hI hwho (k := 0) (by decide)) (by decide) (Nat.le_of_ble_eq_true rfl) (by omega) (by omega) dL_law_297 (fun r9 M9 hp9 => ?_)
  obtain ⟨rfl, hI9⟩ := hp9
  replace hL := hL.kc (setC_keep hC (M' := M9))
  replace T8 := T8.kp (by decide) (by decide) (fun a i e hs h50 => setC_keep hC (M' := M9) a i e hs (by omega))
  replace T9 := T9.kp (by decide) (by decide) (fun a i e hs h50 => setC_keep hC (M' := M9) a i e hs (by omega))
  replace T10 := T10.kp (by decide) (by decide) (fun a i e hs h50 => setC_keep hC (M' := M9) a i e hs (by omega))
  replace hC := setC_cls (E := κ.E) (σ := σ) (M := M9) G.hinj
  generalize setC κ.E σ M9 = σ1 at hL T8 T9 T10 hC ⊢
  refine h_istore G dL_law_300 (by decide) rfl ?_
  refine h_aload_n G dL_law_302 rfl ?_
  refine h_iload G dL_law_303 rfl ?_
  refine h_iconst (v := 1) G dL_law_305 (by decide) ?_
  refine h_iconst (v := 1) G dL_law_306 (by decide) ?_
  refine wiL_107 G hC (f_foresee hI9 hwho (k := 1) (by decide)) (by decide) (Nat.le_of_ble_eq_true rfl) (by omega) (by omega) dL_law_307 (fun r9 M9 hp9 => ?_)
  obtain ⟨rfl, hI8⟩ := hp9
  replace hL := hL.kc (setC_keep hC (M' := M9))
  replace T8 := T8.kp (by decide) (by decide) (fun a i e hs h50 => setC_keep hC (M' := M9) a i e hs (by omega))
  replace T9 := T9.kp (by decide) (by decide) (fun a i e hs h50 => setC_keep hC (M' := M9) a i e hs (by omega))
  replace T10 := T10.kp (by decide) (by decide) (fun a i e hs h50 => setC_keep hC (M' := M9) a i e hs (by omega))
  replace hC := setC_cls (E := κ.E) (σ := σ1) (M := M9) G.hinj
  generalize setC κ.E σ1 M9 = σ2 at hL T8 T9 T10 hC ⊢
  refine h_istore G dL_law_310 (by decide) rfl ?_
  refine h_aload_n G dL_law_312 rfl ?_
  refine h_iload G dL_law_313 rfl ?_
  refine h_iconst (v := 1) G dL_law_315 (by decide) ?_
  refine h_iconst (v := 2) G dL_law_316 (by decide) ?_
  refine wiL_107 G hC (f_foresee hI8 hwho (k := 2) (by decide)) (by decide) (Nat.le_of_ble_eq_true rfl) (by omega) (by omega) dL_law_317 (fun r9 M9 hp9 => ?_)
  obtain ⟨rfl, hI7⟩ := hp9
  replace hL := hL.kc (setC_keep hC (M' := M9))
  replace T8 := T8.kp (by decide) (by decide) (fun a i e hs h50 => setC_keep hC (M' := M9) a i e hs (by omega))
  replace T9 := T9.kp (by decide) (by decide) (fun a i e hs h50 => setC_keep hC (M' := M9) a i e hs (by omega))
  replace T10 := T10.kp (by decide) (by decide) (fun a i e hs h50 => setC_keep hC (M' := M9) a i e hs (by omega))
  replace hC := setC_cls (E := κ.E) (σ := σ2) (M := M9) G.hinj
  generalize setC κ.E σ2 M9 = σ3 at hL T8 T9 T10 hC ⊢
  refine h_istore G dL_law_320 (by decide) rfl ?_
  refine h_aload_n G dL_law_322 rfl ?_
  refine h_bipush (v := 9) G dL_law_323 (by decide) ?_
  refine wiL_111 G hC (f_count hI7 (k := 9) (by decide)) (by decide) (Nat.le_of_ble_eq_true rfl) (by omega) (by omega) dL_law_325 (fun r9 M9 hp9 => ?_)
  obtain ⟨rfl, rfl⟩ := hp9
  rw [setC_self hC]
  refine h_istore G dL_law_328 (by decide) rfl ?_
  refine h_aload_n G dL_law_330 rfl ?_
  refine h_bipush (v := 7) G dL_law_331 (by decide) ?_
  refine wiL_111 G hC (f_count hI7 (k := 7) (by decide)) (by decide) (Nat.le_of_ble_eq_true rfl) (by omega) (by omega) dL_law_333 (fun r9 M9 hp9 => ?_)
  obtain ⟨rfl, rfl⟩ := hp9
  rw [setC_self hC]
  refine h_aload_n G dL_law_336 rfl ?_
  refine h_bipush (v := 8) G dL_law_337 (by decide) ?_
  refine wiL_111 G hC (f_count hI7 (k := 8) (by decide)) (by decide) (Nat.le_of_ble_eq_true rfl) (by omega) (by omega) dL_law_339 (fun r9 M9 hp9 => ?_)
  obtain ⟨rfl, rfl⟩ := hp9
  rw [setC_self hC]
  refine h_iadd G dL_law_342 ?_
  refine h_istore G dL_law_343 (by decide) rfl ?_
  refine h_aload_n G dL_law_345 rfl ?_
  refine h_iconst (v := 1) G dL_law_346 (by decide) ?_
  refine wiL_114 G hC (f_pass hI7) (by decide) (Nat.le_of_ble_eq_true rfl) (by omega) (by omega) dL_law_347 (fun r9 M9 hp9 => ?_)
  obtain ⟨rfl, hI6⟩ := hp9
  replace hL := hL.kc (setC_keep hC (M' := M9))
  replace T8 := T8.kp (by decide) (by decide) (fun a i e hs h50 => setC_keep hC (M' := M9) a i e hs (by omega))
  replace T9 := T9.kp (by decide) (by decide) (fun a i e hs h50 => setC_keep hC (M' := M9) a i e hs (by omega))
  replace T10 := T10.kp (by decide) (by decide) (fun a i e hs h50 => setC_keep hC (M' := M9) a i e hs (by omega))
  replace hC := setC_cls (E := κ.E) (σ := σ3) (M := M9) G.hinj
  generalize setC κ.E σ3 M9 = σ4 at hL T8 T9 T10 hC ⊢
  refine h_istore G dL_law_350 (by decide) rfl ?_
  refine h_aload_n G dL_law_352 rfl ?_
  refine wiL_117 G (hL.1 (21, 0, 0) trivial) (m_pass hL hG hI.2.1) (by decide) (Nat.le_of_ble_eq_true rfl) (by omega) (by omega) dL_law_353 (fun r9 σ9 hp9 => ?_)
  obtain ⟨rfl, ω9, hL9, hG9, hst, hk⟩ := hp9
  have hC9 : ClsP κ.E σ9 M9 := fun i hi => hk _ _ _ (hC i hi) (fun z => absurd (idsC_lt _ hi) (by omega))
  have U8 := T8.kp (by decide) (by decide) (fun a i e hs h50 => hk a i e hs (by omega))
  have U9 := T9.kp (by decide) (by decide) (fun a i e hs h50 => hk a i e hs (by omega))
  have U10 := T10.kp (by decide) (by decide) (fun a i e hs h50 => hk a i e hs (by omega))
  clear hL hC T8 T9 T10 hk
  have hC := hC9
  clear hC9
  have hwho' : who < (round9 g).nv := by rw [nv_of r_n]; exact hwho
  refine h_pop G dL_law_356 rfl ?_
  refine h_aload_n G dL_law_357 rfl ?_
  refine h_iconst (v := 0) G dL_law_358 (by decide) ?_
  refine wiL_111 G hC (f_count hI6 (k := 0) (by decide)) (by decide) (Nat.le_of_ble_eq_true rfl) (by omega) (by omega) dL_law_359 (fun r9 M9 hp9 => ?_)
  obtain ⟨rfl, rfl⟩ := hp9
  rw [setC_self hC, show tot (round9 g) 0 = nI (t + 1) from hR.r_7]
  refine h_istore G dL_law_362 (by decide) rfl ?_
  refine h_iload G dL_law_364 rfl ?_
  refine h_bipush (v := 12) G dL_law_366 (by decide) ?_
  refine h_irem G dL_law_368 (by decide) ?_
  rw [show nI (t + 1) - nI (t + 1) / 12 * 12 = nI ((t + 1) % 12) from nI_rem (by omega) (by decide) (by decide)]
  have K377 : ∀ y : Int32, y = (if t % 12 = 11 then 1 else 0) → HV κ 34 σ9 (cN + 1600) (dN + 9000) [some (.ref κ.E.sc.1), some (.ref (κ.E.ad (0, 0, 0))), some (.ref (ω.ad (21, 0, 0))), some (.int (nI g.nb)), some (.int (nI g.nh)), some (.int (nI g.nv)), some (.int (nI t)), some (.int x), some (.ref q8), some (.ref q9), some (.ref q10), some (.int (nI who)), some (.int (ffc (round9 g) who 0)), some (.int (ffc (round9 g) who 1)), some (.int (ffc (round9 g) who 2)), some (.int (nI g.bd.length)), some (.int (tot g 7 + tot g 8)), some (.int ((round9 g).i 1 0 10 - g.i 1 0 10)), some (.int (nI (t + 1))), none, none, none, none, none, none, none, none, none, none, none, none, none, none, none] [.int y] 377 := by
    rintro y rfl
    refine h_istore G dL_law_377 (by decide) rfl ?_
    refine h_iload G dL_law_379 rfl ?_
    refine h_iload G dL_law_381 rfl ?_
    refine h_iconst (v := 1) G dL_law_383 (by decide) ?_
    refine h_iadd G dL_law_384 ?_
    rw [nI_1]
    refine h_icmp_ne G 442 dL_law_385 (by decide) (fun h385 => ?_) (fun h385 => ?_)
    · exact absurd rfl h385
    refine h_aload_n G dL_law_388 rfl ?_
    refine h_iload G dL_law_389 rfl ?_
    refine h_iconst (v := 4) G dL_law_391 (by decide) ?_
    refine wiL_99 G hC (f_visitor hI6 hwho' (k := 4) (by decide)) (by decide) (Nat.le_of_ble_eq_true rfl) (by omega) (by omega) dL_law_392 (fun r9 M9 hp9 => ?_)
    obtain ⟨rfl, rfl⟩ := hp9
    rw [setC_self hC]
    refine h_iload G dL_law_395 rfl ?_
    refine h_icmp_ne G 442 dL_law_397 (by decide) (fun h397 => ?_) (fun h397 => ?_)
    · exact absurd rfl h397
    refine h_aload_n G dL_law_400 rfl ?_
    refine h_iload G dL_law_401 rfl ?_
    refine h_iconst (v := 0) G dL_law_403 (by decide) ?_
    refine wiL_99 G hC (f_visitor hI6 hwho' (k := 0) (by decide)) (by decide) (Nat.le_of_ble_eq_true rfl) (by omega) (by omega) dL_law_404 (fun r9 M9 hp9 => ?_)
    obtain ⟨rfl, rfl⟩ := hp9
    rw [setC_self hC]
    refine h_iload G dL_law_407 rfl ?_
    refine h_icmp_ne G 442 dL_law_409 (by decide) (fun h409 => ?_) (fun h409 => ?_)
    · exact absurd rfl h409
    refine h_aload_n G dL_law_412 rfl ?_
    refine h_iload G dL_law_413 rfl ?_
    refine h_iconst (v := 5) G dL_law_415 (by decide) ?_
    refine wiL_99 G hC (f_visitor hI6 hwho' (k := 5) (by decide)) (by decide) (Nat.le_of_ble_eq_true rfl) (by omega) (by omega) dL_law_416 (fun r9 M9 hp9 => ?_)
    obtain ⟨rfl, rfl⟩ := hp9
    rw [setC_self hC]
    refine h_iload G dL_law_419 rfl ?_
    refine h_icmp_ne G 442 dL_law_421 (by decide) (fun h421 => ?_) (fun h421 => ?_)
    · exact absurd rfl h421
    refine h_aload_n G dL_law_424 rfl ?_
    refine h_bipush (v := 7) G dL_law_425 (by decide) ?_
    refine wiL_111 G hC (f_count hI6 (k := 7) (by decide)) (by decide) (Nat.le_of_ble_eq_true rfl) (by omega) (by omega) dL_law_427 (fun r9 M9 hp9 => ?_)
    obtain ⟨rfl, rfl⟩ := hp9
    rw [setC_self hC]
    refine h_aload_n G dL_law_430 rfl ?_
    refine h_bipush (v := 8) G dL_law_431 (by decide) ?_
    refine wiL_111 G hC (f_count hI6 (k := 8) (by decide)) (by decide) (Nat.le_of_ble_eq_true rfl) (by omega) (by omega) dL_law_433 (fun r9 M9 hp9 => ?_)
    obtain ⟨rfl, rfl⟩ := hp9
    rw [setC_self hC]
    refine h_iadd G dL_law_436 ?_
    refine h_iload G dL_law_437 rfl ?_
    rw [show tot (round9 g) 7 + tot (round9 g) 8 = tot g 7 + tot g 8 from (by
      show prsN (round9 g) (round9 g).nb + _ = _
      rw [nb_of r_n]
      exact hR.r_S)]
    refine h_icmp_eq G 444 dL_law_439 (by decide) (fun h439 => ?_) (fun h439 => ?_)
    · exact HV.drop1 11 (HV.drop1 12 (HV.drop1 13 (HV.drop1 14 (HV.drop1 16 (HV.drop1 18 (K σ9 ω9 M9 hL9 hG9 hC hI6 (hst (21, 0, 0) (by decide) (by decide)) U8 U9 U10))))))
    · exact absurd rfl h439
  refine h_if_ne G 376 dL_law_369 (by decide) (fun h369 => ?_) (fun h369 => ?_)
  · refine h_iconst (v := 0) G dL_law_376 (by decide) ?_
    refine HV.wid (c2 := cN + 1600) (d2 := dN + 9000) (by omega) (by omega) ?_
    exact K377 _ (if_neg (fun z => h369 (by rw [show (t + 1) % 12 = 0 by omega]; rfl))).symm
  · refine h_iconst (v := 1) G dL_law_372 (by decide) ?_
    refine h_goto G 377 dL_law_373 (by decide) ?_
    refine HV.wid (c2 := cN + 1600) (d2 := dN + 9000) (by omega) (by omega) ?_
    exact K377 _ (if_pos (by
      have h9 := nI_inj (by omega) (by decide) (h369.trans (show (0 : Int32) = nI 0 from rfl))
      omega)).symm
end Tu
