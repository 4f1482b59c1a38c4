/-! ===== law's checks: the helpers and the board ===== -/
section Kl
variable {κ : KX} {s1 : Sg} {g h : GS} {M : Mem} {cN dN aS t q8 q9 q10 q20 : Nat} {r10 : Nat → Nat} {x w l r y17 y21 y22 y23 y24 : Int32} {n : Nat → Nat}
theorem p_h2 (G : Gd κ cL_law 34 RL 7 164) (hc9 : cN ≤ κ.R.cells) (hd9 : dN ≤ κ.R.slots) (hC : ClsP κ.E s1 M) (hI : CI M h) {k a10 : Nat} {f10 : Nat → Option Nat} {f1 : Nat → Int32} (hlt : k < g.nh) (hn : h.nh = g.nh) (h12 : g.nh ≤ 12) (hq10 : s1 q10 = some ((64, 0, 0), .inl (κ.E.cy 5, pRefs g.nh f10))) (hf10 : f10 k = some a10) (h1 : s1 a10 = some ((65, k, 0), .inl (κ.E.cy 0, pInts 3 f1))) (k1 : ∀ j, j < 3 → f1 j = g.i 3 k j) (f1' : h.i 3 k 1 = if r = 0 then g.i 3 k 1 else -1) (f0' : h.i 3 k 0 = if r = 0 then l else min9 (l + 2) 24) (f2' : h.i 3 k 2 = if w = 0 then g.i 3 k 2 else g.i 3 k 2 + 1) (K : HV κ 34 s1 cN dN [some (.ref κ.E.sc.1), some (.ref (κ.E.ad (0, 0, 0))), some (.ref aS), some (.int (nI g.nb)), some (.int (nI g.nh)), some (.int (nI g.nv)), some (.int (nI t)), some (.int x), some (.ref q8), some (.ref q9), some (.ref q10), none, none, none, none, some (.int (nI g.bd.length)), none, some (.int y17), none, some (.int (if t % 12 = 11 then 1 else 0)), some (.ref q20), some (.int y21), some (.int y22), some (.int y23), some (.int y24), none, none, none, none, none, some (.int (nI (k + 1))), none, none, none] [] 1235) : HV κ 34 s1 cN dN [some (.ref κ.E.sc.1), some (.ref (κ.E.ad (0, 0, 0))), some (.ref aS), some (.int (nI g.nb)), some (.int (nI g.nh)), some (.int (nI g.nv)), some (.int (nI t)), some (.int x), some (.ref q8), some (.ref q9), some (.ref q10), none, none, none, none, some (.int (nI g.bd.length)), none, some (.int y17), none, some (.int (if t % 12 = 11 then 1 else 0)), some (.ref q20), some (.int y21), some (.int y22), some (.int y23), some (.int y24), none, none, none, none, none, some (.int (nI k)), some (.int w), some (.int l), some (.int r)] [] 1302 := by
  have hlt' : k < h.nh := by omega
  have K1357 : HV κ 34 s1 cN dN [some (.ref κ.E.sc.1), some (.ref (κ.E.ad (0, 0, 0))), some (.ref aS), some (.int (nI g.nb)), some (.int (nI g.nh)), some (.int (nI g.nv)), some (.int (nI t)), some (.int x), some (.ref q8), some (.ref q9), some (.ref q10), none, none, none, none, some (.int (nI g.bd.length)), none, some (.int y17), none, some (.int (if t % 12 = 11 then 1 else 0)), some (.ref q20), some (.int y21), some (.int y22), some (.int y23), some (.int y24), none, none, none, none, none, some (.int (nI k)), some (.int w), some (.int l), some (.int r)] [] 1357 := by
    refine h_aload_n G dL_law_1357 rfl ?_
    refine h_iload G dL_law_1358 rfl ?_
    refine h_iconst (v := 2) G dL_law_1360 (by decide) ?_
    refine wiL_104 G hC (f_helper hI hlt' (k := 2) (by decide)) (by decide) (Nat.le_of_ble_eq_true rfl) (by omega) (by omega) dL_law_1361 (fun r9 M9 hp9 => ?_)
    obtain ⟨rfl, rfl⟩ := hp9
    rw [setC_self hC]
    refine h_aload G dL_law_1364 rfl ?_
    refine h_iload G dL_law_1366 rfl ?_
    refine h_aalA G hq10 rfl hlt (by omega) hf10 dL_law_1368 ?_
    refine h_iconst (v := 2) G dL_law_1369 (by decide) ?_
    refine h_iald G h1 (j := 2) rfl (by decide) (by decide) dL_law_1370 ?_
    rw [k1 2 (by decide)]
    refine h_iload G dL_law_1371 rfl ?_
    refine h_if_eq G 1380 dL_law_1373 (by decide) (fun h1373 => ?_) (fun h1373 => ?_)
    · rw [if_pos h1373] at f2'
      refine h_iconst (v := 0) G dL_law_1380 (by decide) ?_
      refine h_iadd G dL_law_1381 ?_
      rw [Int32.add_zero]
      refine h_icmp_eq G 1387 dL_law_1382 (by decide) (fun h1382 => ?_) (fun h1382 => ?_)
      rotate_left
      · exact absurd f2' h1382
      refine h_iinc G dL_law_1387 rfl (by decide) rfl (nI_1 k) ?_
      refine h_goto G 1235 dL_law_1390 (by decide) ?_
      exact HV.drop1 31 (HV.drop1 32 (HV.drop1 33 K))
    · rw [if_neg h1373] at f2'
      refine h_iconst (v := 1) G dL_law_1376 (by decide) ?_
      refine h_goto G 1381 dL_law_1377 (by decide) ?_
      refine h_iadd G dL_law_1381 ?_
      refine h_icmp_eq G 1387 dL_law_1382 (by decide) (fun h1382 => ?_) (fun h1382 => ?_)
      rotate_left
      · exact absurd f2' h1382
      refine h_iinc G dL_law_1387 rfl (by decide) rfl (nI_1 k) ?_
      refine h_goto G 1235 dL_law_1390 (by decide) ?_
      exact HV.drop1 31 (HV.drop1 32 (HV.drop1 33 K))
  refine h_aload_n G dL_law_1302 rfl ?_
  refine h_iload G dL_law_1303 rfl ?_
  refine h_iconst (v := 1) G dL_law_1305 (by decide) ?_
  refine wiL_104 G hC (f_helper hI hlt' (k := 1) (by decide)) (by decide) (Nat.le_of_ble_eq_true rfl) (by omega) (by omega) dL_law_1306 (fun r9 M9 hp9 => ?_)
  obtain ⟨rfl, rfl⟩ := hp9
  rw [setC_self hC]
  refine h_iload G dL_law_1309 rfl ?_
  refine h_if_eq G 1318 dL_law_1311 (by decide) (fun h1311 => ?_) (fun h1311 => ?_)
  · rw [if_pos h1311] at f1' f0'
    refine h_aload G dL_law_1318 rfl ?_
    refine h_iload G dL_law_1320 rfl ?_
    refine h_aalA G hq10 rfl hlt (by omega) hf10 dL_law_1322 ?_
    refine h_iconst (v := 1) G dL_law_1323 (by decide) ?_
    refine h_iald G h1 (j := 1) rfl (by decide) (by decide) dL_law_1324 ?_
    rw [k1 1 (by decide)]
    refine h_icmp_ne G 1385 dL_law_1325 (by decide) (fun h1325 => ?_) (fun h1325 => ?_)
    · exact absurd f1' h1325
    refine h_aload_n G dL_law_1328 rfl ?_
    refine h_iload G dL_law_1329 rfl ?_
    refine h_iconst (v := 0) G dL_law_1331 (by decide) ?_
    refine wiL_104 G hC (f_helper hI hlt' (k := 0) (by decide)) (by decide) (Nat.le_of_ble_eq_true rfl) (by omega) (by omega) dL_law_1332 (fun r9 M9 hp9 => ?_)
    obtain ⟨rfl, rfl⟩ := hp9
    rw [setC_self hC]
    refine h_iload G dL_law_1335 rfl ?_
    refine h_if_eq G 1352 dL_law_1337 (by decide) (fun h1337 => ?_) (fun h1337 => ?_)
    rotate_left
    · exact absurd h1311 h1337
    refine h_iload G dL_law_1352 rfl ?_
    refine h_icmp_ne G 1385 dL_law_1354 (by decide) (fun h1354 => ?_) (fun h1354 => ?_)
    · exact absurd f0' h1354
    exact K1357
  · rw [if_neg h1311] at f1' f0'
    refine h_iconst (v := -1) G dL_law_1314 (by decide) ?_
    refine h_goto G 1325 dL_law_1315 (by decide) ?_
    refine h_icmp_ne G 1385 dL_law_1325 (by decide) (fun h1325 => ?_) (fun h1325 => ?_)
    · exact absurd f1' h1325
    refine h_aload_n G dL_law_1328 rfl ?_
    refine h_iload G dL_law_1329 rfl ?_
    refine h_iconst (v := 0) G dL_law_1331 (by decide) ?_
    refine wiL_104 G hC (f_helper hI hlt' (k := 0) (by decide)) (by decide) (Nat.le_of_ble_eq_true rfl) (by omega) (by omega) dL_law_1332 (fun r9 M9 hp9 => ?_)
    obtain ⟨rfl, rfl⟩ := hp9
    rw [setC_self hC]
    refine h_iload G dL_law_1335 rfl ?_
    refine h_if_eq G 1352 dL_law_1337 (by decide) (fun h1337 => ?_) (fun h1337 => ?_)
    · exact absurd h1337 h1311
    refine h_bipush (v := 24) G dL_law_1340 (by decide) ?_
    refine h_iload G dL_law_1342 rfl ?_
    refine h_iconst (v := 2) G dL_law_1344 (by decide) ?_
    refine h_iadd G dL_law_1345 ?_
    refine wiL_122 G dL_law_1346 (by decide) (Nat.le_of_ble_eq_true rfl) (by omega) (by omega) ?_
    rw [min_sw]
    refine h_goto G 1354 dL_law_1349 (by decide) ?_
    refine h_icmp_ne G 1385 dL_law_1354 (by decide) (fun h1354 => ?_) (fun h1354 => ?_)
    · exact absurd f0' h1354
    exact K1357
theorem p_h1 (G : Gd κ cL_law 34 RL 7 164) (hc9 : cN ≤ κ.R.cells) (hd9 : dN ≤ κ.R.slots) (hC : ClsP κ.E s1 M) (hI : CI M h) {k a10 : Nat} {f10 : Nat → Option Nat} {f1 : Nat → Int32} (hlt : k < g.nh) (hn : h.nh = g.nh) (h12 : g.nh ≤ 12) (hq10 : s1 q10 = some ((64, 0, 0), .inl (κ.E.cy 5, pRefs g.nh f10))) (hf10 : f10 k = some a10) (h1 : s1 a10 = some ((65, k, 0), .inl (κ.E.cy 0, pInts 3 f1))) (k1 : ∀ j, j < 3 → f1 j = g.i 3 k j) (hI0 : Inv g) (hr : ∀ j, j < 3 → h.i 3 k j = trow (g.i 3 k 0) (g.i 3 k 1) (g.i 3 k 2) j) (K : HV κ 34 s1 cN dN [some (.ref κ.E.sc.1), some (.ref (κ.E.ad (0, 0, 0))), some (.ref aS), some (.int (nI g.nb)), some (.int (nI g.nh)), some (.int (nI g.nv)), some (.int (nI t)), some (.int x), some (.ref q8), some (.ref q9), some (.ref q10), none, none, none, none, some (.int (nI g.bd.length)), none, some (.int y17), none, some (.int (if t % 12 = 11 then 1 else 0)), some (.ref q20), some (.int y21), some (.int y22), some (.int y23), some (.int y24), none, none, none, none, none, some (.int (nI (k + 1))), none, none, none] [] 1235) : HV κ 34 s1 cN dN [some (.ref κ.E.sc.1), some (.ref (κ.E.ad (0, 0, 0))), some (.ref aS), some (.int (nI g.nb)), some (.int (nI g.nh)), some (.int (nI g.nv)), some (.int (nI t)), some (.int x), some (.ref q8), some (.ref q9), some (.ref q10), none, none, none, none, some (.int (nI g.bd.length)), none, some (.int y17), none, some (.int (if t % 12 = 11 then 1 else 0)), some (.ref q20), some (.int y21), some (.int y22), some (.int y23), some (.int y24), none, none, none, none, none, some (.int (nI k)), none, none, none] [] 1242 := by
  have r0 : h.i 3 k 0 = if g.i 3 k 1 = -1 then min9 (g.i 3 k 0 + 2) 24 else if 0 < g.i 3 k 0 - 1 then g.i 3 k 0 - 1 else min9 (g.i 3 k 0 - 1 + 2) 24 := hr 0 (by decide)
  have r1 : h.i 3 k 1 = if g.i 3 k 1 = -1 then g.i 3 k 1 else if 0 < g.i 3 k 0 - 1 then g.i 3 k 1 else -1 := hr 1 (by decide)
  have r2 : h.i 3 k 2 = if g.i 3 k 1 = -1 then g.i 3 k 2 else g.i 3 k 2 + 1 := hr 2 (by decide)
  have hb8 := hI0.nb8
  have hst := hI0.hst hlt
  refine h_aload G dL_law_1242 rfl ?_
  refine h_iload G dL_law_1244 rfl ?_
  refine h_aalA G hq10 rfl hlt (by omega) hf10 dL_law_1246 ?_
  refine h_iconst (v := 1) G dL_law_1247 (by decide) ?_
  refine h_iald G h1 (j := 1) rfl (by decide) (by decide) dL_law_1248 ?_
  rw [k1 1 (by decide)]
  rcases hI0.hat hlt with q | ⟨b, hb, q⟩
  · rw [if_pos q] at r0 r1 r2
    refine h_if_lt G 1256 dL_law_1249 (by decide) (fun h1249 => ?_) (fun h1249 => ?_)
    rotate_left
    · exact absurd (by rw [q]; decide) h1249
    refine h_iconst (v := 0) G dL_law_1256 (by decide) ?_
    refine h_istore G dL_law_1257 (by decide) rfl ?_
    refine h_iload G dL_law_1259 rfl ?_
    refine h_if_eq G 1276 dL_law_1261 (by decide) (fun h1261 => ?_) (fun h1261 => ?_)
    rotate_left
    · exact absurd rfl h1261
    refine h_aload G dL_law_1276 rfl ?_
    refine h_iload G dL_law_1278 rfl ?_
    refine h_aalA G hq10 rfl hlt (by omega) hf10 dL_law_1280 ?_
    refine h_iconst (v := 0) G dL_law_1281 (by decide) ?_
    refine h_iald G h1 (j := 0) rfl (by decide) (by decide) dL_law_1282 ?_
    rw [k1 0 (by decide)]
    refine h_istore G dL_law_1283 (by decide) rfl ?_
    refine h_iload G dL_law_1285 rfl ?_
    refine h_if_eq G 1295 dL_law_1287 (by decide) (fun h1287 => ?_) (fun h1287 => ?_)
    rotate_left
    · exact absurd rfl h1287
    refine h_iconst (v := 1) G dL_law_1295 (by decide) ?_
    refine h_goto G 1300 dL_law_1296 (by decide) ?_
    refine h_istore G dL_law_1300 (by decide) rfl ?_
    exact p_h2 G hc9 hd9 hC hI hlt hn h12 hq10 hf10 h1 k1 (by rw [if_neg (by decide), r1, q]) (by rw [if_neg (by decide), r0]) (by rw [if_pos rfl, r2]) K
  · have qn : g.i 3 k 1 ≠ -1 := by rw [q]; exact nI_m1 (by omega)
    rw [if_neg qn] at r0 r1 r2
    refine h_if_lt G 1256 dL_law_1249 (by decide) (fun h1249 => ?_) (fun h1249 => ?_)
    · rw [q] at h1249
      exact absurd h1249 (nI_pos (by omega))
    refine h_iconst (v := 1) G dL_law_1252 (by decide) ?_
    refine h_goto G 1257 dL_law_1253 (by decide) ?_
    refine h_istore G dL_law_1257 (by decide) rfl ?_
    refine h_iload G dL_law_1259 rfl ?_
    refine h_if_eq G 1276 dL_law_1261 (by decide) (fun h1261 => ?_) (fun h1261 => ?_)
    · exact absurd h1261 (by decide)
    refine h_aload G dL_law_1264 rfl ?_
    refine h_iload G dL_law_1266 rfl ?_
    refine h_aalA G hq10 rfl hlt (by omega) hf10 dL_law_1268 ?_
    refine h_iconst (v := 0) G dL_law_1269 (by decide) ?_
    refine h_iald G h1 (j := 0) rfl (by decide) (by decide) dL_law_1270 ?_
    rw [k1 0 (by decide)]
    refine h_iconst (v := 1) G dL_law_1271 (by decide) ?_
    refine h_isub G dL_law_1272 ?_
    refine h_goto G 1283 dL_law_1273 (by decide) ?_
    refine h_istore G dL_law_1283 (by decide) rfl ?_
    refine h_iload G dL_law_1285 rfl ?_
    refine h_if_eq G 1295 dL_law_1287 (by decide) (fun h1287 => ?_) (fun h1287 => ?_)
    · exact absurd h1287 (by decide)
    refine h_iload G dL_law_1290 rfl ?_
    obtain ⟨j, hj, ej⟩ := nI_of2 (n := 24) (by decide) (i_nlt.mpr (Int32.le_of_lt hst.1)) hst.2
    have hj1 : 1 ≤ j := by
      rcases j with _ | j
      · rw [ej] at hst; exact absurd hst.1 (by decide)
      · omega
    have ee : g.i 3 k 0 - 1 = nI (j - 1) := by rw [ej, show (1 : Int32) = nI 1 from rfl, nI_sub hj1]
    refine h_if_ne G 1299 dL_law_1292 (by decide) (fun h1292 => ?_) (fun h1292 => ?_)
    · have hp : 0 < g.i 3 k 0 - 1 := by
        rw [ee]
        rcases Nat.eq_zero_or_pos (j - 1) with z | z
        · rw [ee, z] at h1292; exact absurd rfl h1292
        · rw [Int32.lt_iff_toInt_lt, nI_toInt (by omega), show ((0 : Int32).toInt) = 0 by decide]; omega
      rw [if_pos hp] at r0 r1
      refine h_iconst (v := 0) G dL_law_1299 (by decide) ?_
      refine h_istore G dL_law_1300 (by decide) rfl ?_
      exact p_h2 G hc9 hd9 hC hI hlt hn h12 hq10 hf10 h1 k1 (by rw [if_pos rfl, r1]) (by rw [if_pos rfl, r0]) (by rw [if_neg (by decide), r2]) K
    · have hp : ¬ 0 < g.i 3 k 0 - 1 := by
        rw [h1292]; decide
      rw [if_neg hp] at r0 r1
      refine h_iconst (v := 1) G dL_law_1295 (by decide) ?_
      refine h_goto G 1300 dL_law_1296 (by decide) ?_
      refine h_istore G dL_law_1300 (by decide) rfl ?_
      exact p_h2 G hc9 hd9 hC hI hlt hn h12 hq10 hf10 h1 k1 (by rw [if_neg (by decide), r1]) (by rw [if_neg (by decide), r0]) (by rw [if_neg (by decide), r2]) K
theorem p_k4 (G : Gd κ cL_law 34 RL 7 164) (hc9 : cN ≤ κ.R.cells) (hd9 : dN ≤ κ.R.slots) (hC : ClsP κ.E s1 M) (hI : CI M h) (hn : h.nh = g.nh) (hI0 : Inv g) (T10 : Tab κ.E s1 (64, 0, 0) 65 q10 r10 g.nh 3 (fun _ _ => True) (fun v k => g.i 3 v k)) (hr : ∀ a, a < g.nh → ∀ j, j < 3 → h.i 3 a j = trow (g.i 3 a 0) (g.i 3 a 1) (g.i 3 a 2) j) (K : HV κ 34 s1 cN dN [some (.ref κ.E.sc.1), some (.ref (κ.E.ad (0, 0, 0))), some (.ref aS), some (.int (nI g.nb)), some (.int (nI g.nh)), some (.int (nI g.nv)), some (.int (nI t)), some (.int x), some (.ref q8), some (.ref q9), some (.ref q10), none, none, none, none, some (.int (nI g.bd.length)), none, some (.int y17), none, some (.int (if t % 12 = 11 then 1 else 0)), some (.ref q20), some (.int y21), some (.int y22), some (.int y23), some (.int y24), none, none, none, none, none, none, none, none, none] [] 1393) : HV κ 34 s1 cN dN [some (.ref κ.E.sc.1), some (.ref (κ.E.ad (0, 0, 0))), some (.ref aS), some (.int (nI g.nb)), some (.int (nI g.nh)), some (.int (nI g.nv)), some (.int (nI t)), some (.int x), some (.ref q8), some (.ref q9), some (.ref q10), none, none, none, none, some (.int (nI g.bd.length)), none, some (.int y17), none, some (.int (if t % 12 = 11 then 1 else 0)), some (.ref q20), some (.int y21), some (.int y22), some (.int y23), some (.int y24), none, none, none, none, none, none, none, none, none] [] 1232 := by
  have h12 := hI0.nh12
  obtain ⟨⟨f10, hq10, hf10⟩, hr10⟩ := T10
  refine h_iconst (v := 0) G dL_law_1232 (by decide) ?_
  refine h_istore G dL_law_1233 (by decide) rfl ?_
  have loop : ∀ m k, k + m = g.nh → HV κ 34 s1 cN dN [some (.ref κ.E.sc.1), some (.ref (κ.E.ad (0, 0, 0))), some (.ref aS), some (.int (nI g.nb)), some (.int (nI g.nh)), some (.int (nI g.nv)), some (.int (nI t)), some (.int x), some (.ref q8), some (.ref q9), some (.ref q10), none, none, none, none, some (.int (nI g.bd.length)), none, some (.int y17), none, some (.int (if t % 12 = 11 then 1 else 0)), some (.ref q20), some (.int y21), some (.int y22), some (.int y23), some (.int y24), none, none, none, none, none, some (.int (nI k)), none, none, none] [] 1235 := by
    intro m
    induction m with
    | zero =>
      intro k hk
      have hk : k = g.nh := by omega
      subst hk
      refine h_iload G dL_law_1235 rfl ?_
      refine h_iload G dL_law_1237 rfl ?_
      refine h_icmp_ge G 1393 dL_law_1239 (by decide) (fun h1239 => ?_) (fun h1239 => ?_)
      rotate_left
      · exact absurd (nI_le (Nat.le_refl _) (by omega)) h1239
      exact HV.drop1 30 K
    | succ m ih =>
      intro k hk
      have hlt : k < g.nh := by omega
      obtain ⟨f1, h1, k1⟩ := hr10 k hlt
      refine h_iload G dL_law_1235 rfl ?_
      refine h_iload G dL_law_1237 rfl ?_
      refine h_icmp_ge G 1393 dL_law_1239 (by decide) (fun h1239 => ?_) (fun h1239 => ?_)
      · exact absurd h1239 (nI_ge hlt (by omega))
      exact p_h1 G hc9 hd9 hC hI hlt hn h12 hq10 (hf10 k hlt) h1 (fun j hj => k1 j hj trivial) hI0 (hr k hlt) (ih (k + 1) (by omega))
  exact loop g.nh 0 (by omega)
theorem min3 {m : Nat} (hm : m < 2 ^ 31) : (if nI m < 3 then nI m else (3 : Int32)) = nI (min 3 m) := by
  by_cases q : nI m < 3
  · rw [if_pos q]
    rw [Int32.lt_iff_toInt_lt, nI_toInt hm, show ((3 : Int32).toInt) = 3 by decide] at q
    rw [show min 3 m = m by omega]
  · rw [if_neg q]
    rw [Int32.lt_iff_toInt_lt, nI_toInt hm, show ((3 : Int32).toInt) = 3 by decide] at q
    rw [show min 3 m = 3 by omega]
    rfl
theorem p_k5 (G : Gd κ cL_law 34 RL 7 164) (hc9 : cN ≤ κ.R.cells) (hd9 : dN ≤ κ.R.slots) (hC : ClsP κ.E s1 M) (hI : CI M h) {N : Nat} (hL3 : g.bd.length ≤ 3) (hN : N ≤ 77) (e23 : y23 = nI N) (hbd : h.bd.length = if t % 12 = 11 then 0 else min 3 (g.bd.length + N)) (K : HV κ 34 s1 cN dN [some (.ref κ.E.sc.1), some (.ref (κ.E.ad (0, 0, 0))), some (.ref aS), some (.int (nI g.nb)), some (.int (nI g.nh)), some (.int (nI g.nv)), some (.int (nI t)), some (.int x), some (.ref q8), some (.ref q9), some (.ref q10), none, none, none, none, some (.int (nI g.bd.length)), none, some (.int y17), none, some (.int (if t % 12 = 11 then 1 else 0)), some (.ref q20), some (.int y21), some (.int y22), some (.int y23), some (.int y24), none, none, none, none, none, none, none, none, none] [] 1471) : HV κ 34 s1 cN dN [some (.ref κ.E.sc.1), some (.ref (κ.E.ad (0, 0, 0))), some (.ref aS), some (.int (nI g.nb)), some (.int (nI g.nh)), some (.int (nI g.nv)), some (.int (nI t)), some (.int x), some (.ref q8), some (.ref q9), some (.ref q10), none, none, none, none, some (.int (nI g.bd.length)), none, some (.int y17), none, some (.int (if t % 12 = 11 then 1 else 0)), some (.ref q20), some (.int y21), some (.int y22), some (.int y23), some (.int y24), none, none, none, none, none, none, none, none, none] [] 1393 := by
  subst e23
  have hl3 : h.bd.length ≤ 3 := hI.2.1.2.2.2.2.1
  have K1430 : HV κ 34 s1 cN dN [some (.ref κ.E.sc.1), some (.ref (κ.E.ad (0, 0, 0))), some (.ref aS), some (.int (nI g.nb)), some (.int (nI g.nh)), some (.int (nI g.nv)), some (.int (nI t)), some (.int x), some (.ref q8), some (.ref q9), some (.ref q10), none, none, none, none, some (.int (nI g.bd.length)), none, some (.int y17), none, some (.int (if t % 12 = 11 then 1 else 0)), some (.ref q20), some (.int y21), some (.int y22), some (.int (nI N)), some (.int y24), none, none, none, none, none, none, none, none, none] [] 1430 := by
    refine h_iconst (v := 1) G dL_law_1430 (by decide) ?_
    refine h_istore G dL_law_1431 (by decide) rfl ?_
    have loop : ∀ m k, k ≤ 3 → k + 1 + m = h.bd.length ∨ (m = 0 ∧ h.bd.length ≤ k + 1) → HV κ 34 s1 cN dN [some (.ref κ.E.sc.1), some (.ref (κ.E.ad (0, 0, 0))), some (.ref aS), some (.int (nI g.nb)), some (.int (nI g.nh)), some (.int (nI g.nv)), some (.int (nI t)), some (.int x), some (.ref q8), some (.ref q9), some (.ref q10), none, none, none, none, some (.int (nI g.bd.length)), none, some (.int y17), none, some (.int (if t % 12 = 11 then 1 else 0)), some (.ref q20), some (.int y21), some (.int y22), some (.int (nI N)), some (.int y24), none, none, none, none, none, some (.int (nI (k + 1))), none, none, none] [] 1433 := by
      intro m
      induction m with
      | zero =>
        intro k hk3 hk
        refine h_iload G dL_law_1433 rfl ?_
        refine h_aload_n G dL_law_1435 rfl ?_
        refine h_bipush (v := 9) G dL_law_1436 (by decide) ?_
        refine wiL_111 G hC (f_count hI (k := 9) (by decide)) (by decide) (Nat.le_of_ble_eq_true rfl) (by omega) (by omega) dL_law_1438 (fun r9 M9 hp9 => ?_)
        obtain ⟨rfl, rfl⟩ := hp9
        rw [setC_self hC, show tot h 9 = nI h.bd.length from rfl]
        refine h_icmp_ge G 1471 dL_law_1441 (by decide) (fun h1441 => ?_) (fun h1441 => ?_)
        rotate_left
        · exact absurd h1441 (fun z => z (nI_lee (show h.bd.length ≤ k + 1 by omega) (by omega)))
        exact HV.drop1 30 K
      | succ m ih =>
        intro k hk3 hk
        have hlt : k + 1 < h.bd.length := by omega
        obtain ⟨x1, hx1⟩ : ∃ x, h.bd[k + 1]? = some x := ⟨_, List.getElem?_eq_getElem hlt⟩
        obtain ⟨x0, hx0⟩ : ∃ x, h.bd[k]? = some x := ⟨_, List.getElem?_eq_getElem (by omega)⟩
        have hs : x1.2.2 ≤ x0.2.2 := by
          have h9 := List.pairwise_iff_getElem.mp hI.2.1.2.2.2.2.2.2 k (k + 1) (by omega) hlt (by omega)
          rw [List.getElem?_eq_getElem hlt] at hx1
          rw [List.getElem?_eq_getElem (by omega)] at hx0
          rw [← Option.some.inj hx1, ← Option.some.inj hx0]
          exact h9
        refine h_iload G dL_law_1433 rfl ?_
        refine h_aload_n G dL_law_1435 rfl ?_
        refine h_bipush (v := 9) G dL_law_1436 (by decide) ?_
        refine wiL_111 G hC (f_count hI (k := 9) (by decide)) (by decide) (Nat.le_of_ble_eq_true rfl) (by omega) (by omega) dL_law_1438 (fun r9 M9 hp9 => ?_)
        obtain ⟨rfl, rfl⟩ := hp9
        rw [setC_self hC, show tot h 9 = nI h.bd.length from rfl]
        refine h_icmp_ge G 1471 dL_law_1441 (by decide) (fun h1441 => ?_) (fun h1441 => ?_)
        · exact absurd h1441 (nI_ge hlt (by omega))
        refine h_aload_n G dL_law_1444 rfl ?_
        refine h_iload G dL_law_1445 rfl ?_
        refine h_iconst (v := 2) G dL_law_1447 (by decide) ?_
        refine wiL_127 G hC (f_board hI hx1 (k := 2) (by decide)) (by decide) (Nat.le_of_ble_eq_true rfl) (by omega) (by omega) dL_law_1448 (fun r9 M9 hp9 => ?_)
        obtain ⟨rfl, rfl⟩ := hp9
        rw [setC_self hC]
        refine h_aload_n G dL_law_1451 rfl ?_
        refine h_iload G dL_law_1452 rfl ?_
        refine h_iconst (v := 1) G dL_law_1454 (by decide) ?_
        refine h_isub G dL_law_1455 ?_
        rw [show nI (k + 1) - 1 = nI k from nI_sub (b := 1) (by omega)]
        refine h_iconst (v := 2) G dL_law_1456 (by decide) ?_
        refine wiL_127 G hC (f_board hI hx0 (k := 2) (by decide)) (by decide) (Nat.le_of_ble_eq_true rfl) (by omega) (by omega) dL_law_1457 (fun r9 M9 hp9 => ?_)
        obtain ⟨rfl, rfl⟩ := hp9
        rw [setC_self hC]
        refine h_icmp_le G 1465 dL_law_1460 (by decide) (fun h1460 => ?_) (fun h1460 => ?_)
        rotate_left
        · exact absurd hs h1460
        refine h_iinc G dL_law_1465 rfl (by decide) rfl (nI_1 (k + 1)) ?_
        refine h_goto G 1433 dL_law_1468 (by decide) ?_
        exact ih (k + 1) (by omega) (by omega)
    exact loop (h.bd.length - 1) 0 (by omega) (by omega)
  refine h_iload G dL_law_1393 rfl ?_
  refine h_if_eq G 1410 dL_law_1395 (by decide) (fun h1395 => ?_) (fun h1395 => ?_)
  · have hl : ¬ t % 12 = 11 := fun z => absurd h1395 (by rw [if_pos z]; decide)
    rw [if_neg hl] at hbd
    refine h_aload_n G dL_law_1410 rfl ?_
    refine h_bipush (v := 9) G dL_law_1411 (by decide) ?_
    refine wiL_111 G hC (f_count hI (k := 9) (by decide)) (by decide) (Nat.le_of_ble_eq_true rfl) (by omega) (by omega) dL_law_1413 (fun r9 M9 hp9 => ?_)
    obtain ⟨rfl, rfl⟩ := hp9
    rw [setC_self hC, show tot h 9 = nI h.bd.length from rfl]
    refine h_iconst (v := 3) G dL_law_1416 (by decide) ?_
    refine h_iload G dL_law_1417 rfl ?_
    refine h_iload G dL_law_1419 rfl ?_
    refine h_iadd G dL_law_1421 ?_
    rw [nI_add]
    refine wiL_122 G dL_law_1422 (by decide) (Nat.le_of_ble_eq_true rfl) (by omega) (by omega) ?_
    rw [min3 (by omega), hbd]
    refine h_icmp_eq G 1430 dL_law_1425 (by decide) (fun h1425 => ?_) (fun h1425 => ?_)
    rotate_left
    · exact absurd rfl h1425
    exact K1430
  · have hl : t % 12 = 11 := Decidable.byContradiction (fun z => h1395 (if_neg z))
    rw [if_pos hl] at hbd
    refine h_aload_n G dL_law_1398 rfl ?_
    refine h_bipush (v := 9) G dL_law_1399 (by decide) ?_
    refine wiL_111 G hC (f_count hI (k := 9) (by decide)) (by decide) (Nat.le_of_ble_eq_true rfl) (by omega) (by omega) dL_law_1401 (fun r9 M9 hp9 => ?_)
    obtain ⟨rfl, rfl⟩ := hp9
    rw [setC_self hC, show tot h 9 = nI h.bd.length from rfl, hbd]
    refine h_if_eq G 1430 dL_law_1404 (by decide) (fun h1404 => ?_) (fun h1404 => ?_)
    rotate_left
    · exact absurd rfl h1404
    exact K1430
end Kl
