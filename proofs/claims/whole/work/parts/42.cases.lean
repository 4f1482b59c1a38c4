/-! ===== the law's cases, its loop ===== -/
abbrev ll (z : LX) (k : Nat) : LSt := [some (.ref z.b), some (.ref (z.E.ad (0, 0, 0))), some (.ref (z.E.ad (14, 0, 0))), some (.ref z.o), some (.int (nI k)), none, none, none, none]
/-- the walk goes on from a case's end -/
def KN (z : LX) (k cA sA : Nat) : Prop := ∀ (Mc2 Mr2 : Mem) (f2 : Nat → Int64) (g2 : GS), CI Mc2 g2 → SimR Mr2 g2 0 → LWK z (cA + 21) (sA + 460) Mc2 Mr2 f2 (ll z k) [] 1435
section CASES
variable {z : LX} {cA sA k : Nat} {Mc Mr : Mem} {f : Nat → Int64} {g : GS} {l : LSt} {st rest : List Value} {pc : Nat}
theorem LWK.back {cA2 sA2 : Nat} {a5 a6 a7 a8 : Option Value} (h1 : cA ≤ cA2) (h2 : sA ≤ sA2) (h : LWK z cA2 sA2 Mc Mr f (ll z k) [] pc) : LWK z cA sA Mc Mr f [some (.ref z.b), some (.ref (z.E.ad (0, 0, 0))), some (.ref (z.E.ad (14, 0, 0))), some (.ref z.o), some (.int (nI k)), a5, a6, a7, a8] [] pc := LWK.mono (l2 := ll z k) h1 h2 rfl (fun i v hi => by
  match i, hi with
  | 0, hi => exact hi
  | 1, hi => exact hi
  | 2, hi => exact hi
  | 3, hi => exact hi
  | 4, hi => exact hi
  | 5, hi => cases hi
  | 6, hi => cases hi
  | 7, hi => cases hi
  | 8, hi => cases hi
  | i + 9, hi => cases hi) h
theorem nI_z {n : Nat} (h : n < 4) (h0 : nI n = 0) : n = 0 := Nat.eq_zero_of_not_pos (fun q => nI_ne0 q (by omega) h0)
theorem ls_tableIn (G : LG z) {dflt lo9 hi9 : Int} {offs : Array Int} {len : Nat} {x : Int32} {off : Int} (tgt : Nat) (dg : decode cL_law pc = .ok (.tableswitch dflt lo9 hi9 offs, len)) (h1 : ¬ x.toInt < lo9) (h2 : ¬ hi9 < x.toInt) (ho : offs[(x.toInt - lo9).toNat]? = some off) (ht : (pc : Int) + off = (tgt : Int)) (h : LWK z cA sA Mc Mr f l st tgt) : LWK z cA sA Mc Mr f l (.int x :: st) pc := fun d0 H locs ls cells slots hd hP hS hl hc hs => lv_tableIn G.hx G.hb dg h1 h2 ho ht (h d0 H locs ls cells slots hd hP hS hl hc hs)
theorem ls_tableOut (G : LG z) {dflt lo9 hi9 : Int} {offs : Array Int} {len : Nat} {x : Int32} (tgt : Nat) (dg : decode cL_law pc = .ok (.tableswitch dflt lo9 hi9 offs, len)) (h1 : x.toInt < lo9 ∨ hi9 < x.toInt) (ht : (pc : Int) + dflt = (tgt : Int)) (h : LWK z cA sA Mc Mr f l st tgt) : LWK z cA sA Mc Mr f l (.int x :: st) pc := fun d0 H locs ls cells slots hd hP hS hl hc hs => lv_tableOut G.hx G.hb dg h1 ht (h d0 H locs ls cells slots hd hP hS hl hc hs)
theorem k_addBooth (G : LG z) (hC : CI Mc g) (hR : SimR Mr g 0) (hk : k + 4 < z.L) (hcA : cA + 21 ≤ 601024) (hsA : sA + 460 ≤ 7293034) (h : KN z k cA sA) : LWK z cA sA Mc Mr f (ll z k) [] 136 := by
  have hI : Inv g := hC.2.1
  refine ls_aload_n G dL_law_136 rfl ?_
  refine ls_cell G 1 dL_law_137 dL_law_138 dL_law_140 dL_law_141 dL_law_142 (by decide) rfl rfl (by omega) ?_
  refine ls_cell G 2 dL_law_143 dL_law_144 dL_law_146 dL_law_147 dL_law_148 (by decide) rfl rfl (by omega) ?_
  refine ls_cell G 3 dL_law_149 dL_law_150 dL_law_152 dL_law_153 dL_law_154 (by decide) rfl rfl (by omega) ?_
  refine ls_cell G 4 dL_law_155 dL_law_156 dL_law_158 dL_law_159 dL_law_160 (by decide) rfl rfl (by omega) ?_
  refine ls_aload_n G dL_law_161 rfl ?_
  refine ls_own (rest := []) (n := 6) G (w_addBooth (E := z.E) (o := z.o) (cL := z.cL) hC (z.xs (k + 1)) (z.xs (k + 2)) (z.xs (k + 3)) (z.xs (k + 4))) (by decide +kernel) (by decide +kernel) (by decide +kernel) (by decide +kernel) (by decide +kernel) (by decide) rfl (Nat.le_of_ble_eq_true rfl) (by omega) (by omega) dL_law_162 rfl (fun k9 f2 Mc2 hp => ?_)
  obtain ⟨rfl, h4, hx, hC2⟩ := hp
  refine ls_istore G dL_law_165 (by decide) rfl ?_
  refine ls_aload_n G dL_law_167 rfl ?_
  refine ls_cell G 1 dL_law_168 dL_law_169 dL_law_171 dL_law_172 dL_law_173 (by decide) rfl rfl (by omega) ?_
  refine ls_cell G 2 dL_law_174 dL_law_175 dL_law_177 dL_law_178 dL_law_179 (by decide) rfl rfl (by omega) ?_
  refine ls_cell G 3 dL_law_180 dL_law_181 dL_law_183 dL_law_184 dL_law_185 (by decide) rfl rfl (by omega) ?_
  refine ls_cell G 4 dL_law_186 dL_law_187 dL_law_189 dL_law_190 dL_law_191 (by decide) rfl rfl (by omega) ?_
  refine ls_ref (rest := []) (n := 4) G (e_addBooth (E := z.E) hR hI (z.xs (k + 1)) (z.xs (k + 2)) (z.xs (k + 3)) (z.xs (k + 4))) (by decide +kernel) (by decide +kernel) (by decide +kernel) (by decide +kernel) (by decide +kernel) (by decide +kernel) (by decide) rfl (Nat.le_of_ble_eq_true rfl) (by omega) (by omega) dL_law_192 rfl (fun r9 Mr2 hp => ?_)
  obtain ⟨x, rfl, hth, hv, hR2⟩ := hp
  refine ls_istore G dL_law_195 (by decide) rfl ?_
  refine ls_aload_n G dL_law_197 rfl ?_
  refine ls_ref (rest := []) (n := 0) G (RetK.of (r_thrown (E := z.E) (N := Mr2))) (by decide +kernel) (by decide +kernel) (by decide +kernel) (by decide +kernel) (by decide +kernel) (by decide +kernel) (by decide) rfl (Nat.le_of_ble_eq_true rfl) (by omega) (by omega) dL_law_198 rfl (fun r9 Mr3 hp => ?_)
  obtain ⟨rfl, rfl⟩ := hp
  refine ls_iload G dL_law_201 rfl ?_
  refine ls_icmp_eq G 208 dL_law_203 (by decide) hth ?_
  refine ls_iload G dL_law_208 rfl ?_
  refine ls_if_ne G 225 dL_law_210 (by decide) (fun _ => ?_) (fun h0 => ?_)
  · refine ls_goto G 1435 dL_law_225 (by decide) ?_
    exact LWK.back (by omega) (by omega) (h _ _ _ _ hC2 hR2)
  · have h00 := nI_z h4 h0
    refine ls_aload_n G dL_law_213 rfl ?_
    refine ls_iconst (v := nI 0) G dL_law_214 (by decide) ?_
    refine ls_lald G dL_law_215 ?_
    refine ls_iload G dL_law_216 rfl ?_
    refine ls_i2l G dL_law_218 ?_
    refine ls_lcmp G (by rw [hx h00, hv h00]) dL_law_219 ?_
    refine ls_if_eq G 225 dL_law_220 (by decide) (fun _ => ?_) (fun q => absurd rfl q)
    refine ls_goto G 1435 dL_law_225 (by decide) ?_
    exact LWK.back (by omega) (by omega) (h _ _ _ _ hC2 hR2)
theorem k_addHelper (G : LG z) (hC : CI Mc g) (hR : SimR Mr g 0) (hk : k + 4 < z.L) (hcA : cA + 21 ≤ 601024) (hsA : sA + 460 ≤ 7293034) (h : KN z k cA sA) : LWK z cA sA Mc Mr f (ll z k) [] 228 := by
  have hI : Inv g := hC.2.1
  refine ls_aload_n G dL_law_228 rfl ?_
  refine ls_aload_n G dL_law_229 rfl ?_
  refine ls_own (rest := []) (n := 2) G (w_addHelper (E := z.E) (o := z.o) (cL := z.cL) hC) (by decide +kernel) (by decide +kernel) (by decide +kernel) (by decide +kernel) (by decide +kernel) (by decide) rfl (Nat.le_of_ble_eq_true rfl) (by omega) (by omega) dL_law_230 rfl (fun k9 f2 Mc2 hp => ?_)
  obtain ⟨rfl, h4, hx, hC2⟩ := hp
  refine ls_istore G dL_law_233 (by decide) rfl ?_
  refine ls_aload_n G dL_law_235 rfl ?_
  refine ls_ref (rest := []) (n := 0) G (e_addHelper (E := z.E) hR hI) (by decide +kernel) (by decide +kernel) (by decide +kernel) (by decide +kernel) (by decide +kernel) (by decide +kernel) (by decide) rfl (Nat.le_of_ble_eq_true rfl) (by omega) (by omega) dL_law_236 rfl (fun r9 Mr2 hp => ?_)
  obtain ⟨x, rfl, hth, hv, hR2⟩ := hp
  refine ls_istore G dL_law_239 (by decide) rfl ?_
  refine ls_aload_n G dL_law_241 rfl ?_
  refine ls_ref (rest := []) (n := 0) G (RetK.of (r_thrown (E := z.E) (N := Mr2))) (by decide +kernel) (by decide +kernel) (by decide +kernel) (by decide +kernel) (by decide +kernel) (by decide +kernel) (by decide) rfl (Nat.le_of_ble_eq_true rfl) (by omega) (by omega) dL_law_242 rfl (fun r9 Mr3 hp => ?_)
  obtain ⟨rfl, rfl⟩ := hp
  refine ls_iload G dL_law_245 rfl ?_
  refine ls_icmp_eq G 252 dL_law_247 (by decide) hth ?_
  refine ls_iload G dL_law_252 rfl ?_
  refine ls_if_ne G 269 dL_law_254 (by decide) (fun _ => ?_) (fun h0 => ?_)
  · refine ls_goto G 1435 dL_law_269 (by decide) ?_
    exact LWK.back (by omega) (by omega) (h _ _ _ _ hC2 hR2)
  · have h00 := nI_z h4 h0
    refine ls_aload_n G dL_law_257 rfl ?_
    refine ls_iconst (v := nI 0) G dL_law_258 (by decide) ?_
    refine ls_lald G dL_law_259 ?_
    refine ls_iload G dL_law_260 rfl ?_
    refine ls_i2l G dL_law_262 ?_
    refine ls_lcmp G (by rw [hx h00, hv h00]) dL_law_263 ?_
    refine ls_if_eq G 269 dL_law_264 (by decide) (fun _ => ?_) (fun q => absurd rfl q)
    refine ls_goto G 1435 dL_law_269 (by decide) ?_
    exact LWK.back (by omega) (by omega) (h _ _ _ _ hC2 hR2)
theorem k_come (G : LG z) (hC : CI Mc g) (hR : SimR Mr g 0) (hk : k + 4 < z.L) (hcA : cA + 21 ≤ 601024) (hsA : sA + 460 ≤ 7293034) (h : KN z k cA sA) : LWK z cA sA Mc Mr f (ll z k) [] 272 := by
  have hI : Inv g := hC.2.1
  refine ls_aload_n G dL_law_272 rfl ?_
  refine ls_cell G 1 dL_law_273 dL_law_274 dL_law_276 dL_law_277 dL_law_278 (by decide) rfl rfl (by omega) ?_
  refine ls_cell G 2 dL_law_279 dL_law_280 dL_law_282 dL_law_283 dL_law_284 (by decide) rfl rfl (by omega) ?_
  refine ls_aload_n G dL_law_285 rfl ?_
  refine ls_own (rest := []) (n := 4) G (w_come (E := z.E) (o := z.o) (cL := z.cL) hC (z.xs (k + 1)) (z.xs (k + 2))) (by decide +kernel) (by decide +kernel) (by decide +kernel) (by decide +kernel) (by decide +kernel) (by decide) rfl (Nat.le_of_ble_eq_true rfl) (by omega) (by omega) dL_law_286 rfl (fun k9 f2 Mc2 hp => ?_)
  obtain ⟨rfl, h4, hx, hC2⟩ := hp
  refine ls_istore G dL_law_289 (by decide) rfl ?_
  refine ls_aload_n G dL_law_291 rfl ?_
  refine ls_cell G 1 dL_law_292 dL_law_293 dL_law_295 dL_law_296 dL_law_297 (by decide) rfl rfl (by omega) ?_
  refine ls_cell G 2 dL_law_298 dL_law_299 dL_law_301 dL_law_302 dL_law_303 (by decide) rfl rfl (by omega) ?_
  refine ls_ref (rest := []) (n := 2) G (e_come (E := z.E) hR hI (z.xs (k + 1)) (z.xs (k + 2))) (by decide +kernel) (by decide +kernel) (by decide +kernel) (by decide +kernel) (by decide +kernel) (by decide +kernel) (by decide) rfl (Nat.le_of_ble_eq_true rfl) (by omega) (by omega) dL_law_304 rfl (fun r9 Mr2 hp => ?_)
  obtain ⟨x, rfl, hth, hv, hR2⟩ := hp
  refine ls_istore G dL_law_307 (by decide) rfl ?_
  refine ls_aload_n G dL_law_309 rfl ?_
  refine ls_ref (rest := []) (n := 0) G (RetK.of (r_thrown (E := z.E) (N := Mr2))) (by decide +kernel) (by decide +kernel) (by decide +kernel) (by decide +kernel) (by decide +kernel) (by decide +kernel) (by decide) rfl (Nat.le_of_ble_eq_true rfl) (by omega) (by omega) dL_law_310 rfl (fun r9 Mr3 hp => ?_)
  obtain ⟨rfl, rfl⟩ := hp
  refine ls_iload G dL_law_313 rfl ?_
  refine ls_icmp_eq G 320 dL_law_315 (by decide) hth ?_
  refine ls_iload G dL_law_320 rfl ?_
  refine ls_if_ne G 337 dL_law_322 (by decide) (fun _ => ?_) (fun h0 => ?_)
  · refine ls_goto G 1435 dL_law_337 (by decide) ?_
    exact LWK.back (by omega) (by omega) (h _ _ _ _ hC2 hR2)
  · have h00 := nI_z h4 h0
    refine ls_aload_n G dL_law_325 rfl ?_
    refine ls_iconst (v := nI 0) G dL_law_326 (by decide) ?_
    refine ls_lald G dL_law_327 ?_
    refine ls_iload G dL_law_328 rfl ?_
    refine ls_i2l G dL_law_330 ?_
    refine ls_lcmp G (by rw [hx h00, hv h00]) dL_law_331 ?_
    refine ls_if_eq G 337 dL_law_332 (by decide) (fun _ => ?_) (fun q => absurd rfl q)
    refine ls_goto G 1435 dL_law_337 (by decide) ?_
    exact LWK.back (by omega) (by omega) (h _ _ _ _ hC2 hR2)
theorem k_setDart (G : LG z) (hC : CI Mc g) (hR : SimR Mr g 0) (hk : k + 4 < z.L) (hcA : cA + 21 ≤ 601024) (hsA : sA + 460 ≤ 7293034) (h : KN z k cA sA) : LWK z cA sA Mc Mr f (ll z k) [] 340 := by
  have hI : Inv g := hC.2.1
  refine ls_aload_n G dL_law_340 rfl ?_
  refine ls_cell G 1 dL_law_341 dL_law_342 dL_law_344 dL_law_345 dL_law_346 (by decide) rfl rfl (by omega) ?_
  refine ls_aload_n G dL_law_347 rfl ?_
  refine ls_own (rest := []) (n := 3) G (w_setDart (E := z.E) (o := z.o) (cL := z.cL) hC (z.xs (k + 1))) (by decide +kernel) (by decide +kernel) (by decide +kernel) (by decide +kernel) (by decide +kernel) (by decide) rfl (Nat.le_of_ble_eq_true rfl) (by omega) (by omega) dL_law_348 rfl (fun k9 f2 Mc2 hp => ?_)
  obtain ⟨rfl, h4, hx, hC2⟩ := hp
  refine ls_istore G dL_law_351 (by decide) rfl ?_
  refine ls_aload_n G dL_law_353 rfl ?_
  refine ls_cell G 1 dL_law_354 dL_law_355 dL_law_357 dL_law_358 dL_law_359 (by decide) rfl rfl (by omega) ?_
  refine ls_ref (rest := []) (n := 1) G (RetK.of (e_setDart (E := z.E) hR hI (z.xs (k + 1)))) (by decide +kernel) (by decide +kernel) (by decide +kernel) (by decide +kernel) (by decide +kernel) (by decide +kernel) (by decide) rfl (Nat.le_of_ble_eq_true rfl) (by omega) (by omega) dL_law_360 rfl (fun r9 Mr2 hp => ?_)
  obtain ⟨x, rfl, hth, hv, hR2⟩ := hp
  refine ls_istore G dL_law_363 (by decide) rfl ?_
  refine ls_aload_n G dL_law_365 rfl ?_
  refine ls_ref (rest := []) (n := 0) G (RetK.of (r_thrown (E := z.E) (N := Mr2))) (by decide +kernel) (by decide +kernel) (by decide +kernel) (by decide +kernel) (by decide +kernel) (by decide +kernel) (by decide) rfl (Nat.le_of_ble_eq_true rfl) (by omega) (by omega) dL_law_366 rfl (fun r9 Mr3 hp => ?_)
  obtain ⟨rfl, rfl⟩ := hp
  refine ls_iload G dL_law_369 rfl ?_
  refine ls_icmp_eq G 376 dL_law_371 (by decide) hth ?_
  refine ls_iload G dL_law_376 rfl ?_
  refine ls_if_ne G 393 dL_law_378 (by decide) (fun _ => ?_) (fun h0 => ?_)
  · refine ls_goto G 1435 dL_law_393 (by decide) ?_
    exact LWK.back (by omega) (by omega) (h _ _ _ _ hC2 hR2)
  · have h00 := nI_z h4 h0
    refine ls_aload_n G dL_law_381 rfl ?_
    refine ls_iconst (v := nI 0) G dL_law_382 (by decide) ?_
    refine ls_lald G dL_law_383 ?_
    refine ls_iload G dL_law_384 rfl ?_
    refine ls_i2l G dL_law_386 ?_
    refine ls_lcmp G (by rw [hx h00, hv h00]) dL_law_387 ?_
    refine ls_if_eq G 393 dL_law_388 (by decide) (fun _ => ?_) (fun q => absurd rfl q)
    refine ls_goto G 1435 dL_law_393 (by decide) ?_
    exact LWK.back (by omega) (by omega) (h _ _ _ _ hC2 hR2)
theorem k_work (G : LG z) (hC : CI Mc g) (hR : SimR Mr g 0) (hk : k + 4 < z.L) (hcA : cA + 21 ≤ 601024) (hsA : sA + 460 ≤ 7293034) (h : KN z k cA sA) : LWK z cA sA Mc Mr f (ll z k) [] 396 := by
  have hI : Inv g := hC.2.1
  refine ls_aload_n G dL_law_396 rfl ?_
  refine ls_cell G 1 dL_law_397 dL_law_398 dL_law_400 dL_law_401 dL_law_402 (by decide) rfl rfl (by omega) ?_
  refine ls_cell G 2 dL_law_403 dL_law_404 dL_law_406 dL_law_407 dL_law_408 (by decide) rfl rfl (by omega) ?_
  refine ls_aload_n G dL_law_409 rfl ?_
  refine ls_own (rest := []) (n := 4) G (w_work (E := z.E) (o := z.o) (cL := z.cL) hC (z.xs (k + 1)) (z.xs (k + 2))) (by decide +kernel) (by decide +kernel) (by decide +kernel) (by decide +kernel) (by decide +kernel) (by decide) rfl (Nat.le_of_ble_eq_true rfl) (by omega) (by omega) dL_law_410 rfl (fun k9 f2 Mc2 hp => ?_)
  obtain ⟨rfl, h4, hx, hC2⟩ := hp
  refine ls_istore G dL_law_413 (by decide) rfl ?_
  refine ls_aload_n G dL_law_415 rfl ?_
  refine ls_cell G 1 dL_law_416 dL_law_417 dL_law_419 dL_law_420 dL_law_421 (by decide) rfl rfl (by omega) ?_
  refine ls_cell G 2 dL_law_422 dL_law_423 dL_law_425 dL_law_426 dL_law_427 (by decide) rfl rfl (by omega) ?_
  refine ls_ref (rest := []) (n := 2) G (RetK.of (e_work (E := z.E) hR hI (z.xs (k + 1)) (z.xs (k + 2)))) (by decide +kernel) (by decide +kernel) (by decide +kernel) (by decide +kernel) (by decide +kernel) (by decide +kernel) (by decide) rfl (Nat.le_of_ble_eq_true rfl) (by omega) (by omega) dL_law_428 rfl (fun r9 Mr2 hp => ?_)
  obtain ⟨x, rfl, hth, hv, hR2⟩ := hp
  refine ls_istore G dL_law_431 (by decide) rfl ?_
  refine ls_aload_n G dL_law_433 rfl ?_
  refine ls_ref (rest := []) (n := 0) G (RetK.of (r_thrown (E := z.E) (N := Mr2))) (by decide +kernel) (by decide +kernel) (by decide +kernel) (by decide +kernel) (by decide +kernel) (by decide +kernel) (by decide) rfl (Nat.le_of_ble_eq_true rfl) (by omega) (by omega) dL_law_434 rfl (fun r9 Mr3 hp => ?_)
  obtain ⟨rfl, rfl⟩ := hp
  refine ls_iload G dL_law_437 rfl ?_
  refine ls_icmp_eq G 444 dL_law_439 (by decide) hth ?_
  refine ls_iload G dL_law_444 rfl ?_
  refine ls_if_ne G 461 dL_law_446 (by decide) (fun _ => ?_) (fun h0 => ?_)
  · refine ls_goto G 1435 dL_law_461 (by decide) ?_
    exact LWK.back (by omega) (by omega) (h _ _ _ _ hC2 hR2)
  · have h00 := nI_z h4 h0
    refine ls_aload_n G dL_law_449 rfl ?_
    refine ls_iconst (v := nI 0) G dL_law_450 (by decide) ?_
    refine ls_lald G dL_law_451 ?_
    refine ls_iload G dL_law_452 rfl ?_
    refine ls_i2l G dL_law_454 ?_
    refine ls_lcmp G (by rw [hx h00, hv h00]) dL_law_455 ?_
    refine ls_if_eq G 461 dL_law_456 (by decide) (fun _ => ?_) (fun q => absurd rfl q)
    refine ls_goto G 1435 dL_law_461 (by decide) ?_
    exact LWK.back (by omega) (by omega) (h _ _ _ _ hC2 hR2)
theorem k_bring (G : LG z) (hC : CI Mc g) (hR : SimR Mr g 0) (hk : k + 4 < z.L) (hcA : cA + 21 ≤ 601024) (hsA : sA + 460 ≤ 7293034) (h : KN z k cA sA) : LWK z cA sA Mc Mr f (ll z k) [] 464 := by
  have hI : Inv g := hC.2.1
  refine ls_aload_n G dL_law_464 rfl ?_
  refine ls_cell G 1 dL_law_465 dL_law_466 dL_law_468 dL_law_469 dL_law_470 (by decide) rfl rfl (by omega) ?_
  refine ls_cell G 2 dL_law_471 dL_law_472 dL_law_474 dL_law_475 dL_law_476 (by decide) rfl rfl (by omega) ?_
  refine ls_aload_n G dL_law_477 rfl ?_
  refine ls_own (rest := []) (n := 4) G (w_bring (E := z.E) (o := z.o) (cL := z.cL) hC (z.xs (k + 1)) (z.xs (k + 2))) (by decide +kernel) (by decide +kernel) (by decide +kernel) (by decide +kernel) (by decide +kernel) (by decide) rfl (Nat.le_of_ble_eq_true rfl) (by omega) (by omega) dL_law_478 rfl (fun k9 f2 Mc2 hp => ?_)
  obtain ⟨rfl, h4, hx, hC2⟩ := hp
  refine ls_istore G dL_law_481 (by decide) rfl ?_
  refine ls_aload_n G dL_law_483 rfl ?_
  refine ls_cell G 1 dL_law_484 dL_law_485 dL_law_487 dL_law_488 dL_law_489 (by decide) rfl rfl (by omega) ?_
  refine ls_cell G 2 dL_law_490 dL_law_491 dL_law_493 dL_law_494 dL_law_495 (by decide) rfl rfl (by omega) ?_
  refine ls_ref (rest := []) (n := 2) G (RetK.of (e_bring (E := z.E) hR hI (z.xs (k + 1)) (z.xs (k + 2)))) (by decide +kernel) (by decide +kernel) (by decide +kernel) (by decide +kernel) (by decide +kernel) (by decide +kernel) (by decide) rfl (Nat.le_of_ble_eq_true rfl) (by omega) (by omega) dL_law_496 rfl (fun r9 Mr2 hp => ?_)
  obtain ⟨x, rfl, hth, hv, hR2⟩ := hp
  refine ls_istore G dL_law_499 (by decide) rfl ?_
  refine ls_aload_n G dL_law_501 rfl ?_
  refine ls_ref (rest := []) (n := 0) G (RetK.of (r_thrown (E := z.E) (N := Mr2))) (by decide +kernel) (by decide +kernel) (by decide +kernel) (by decide +kernel) (by decide +kernel) (by decide +kernel) (by decide) rfl (Nat.le_of_ble_eq_true rfl) (by omega) (by omega) dL_law_502 rfl (fun r9 Mr3 hp => ?_)
  obtain ⟨rfl, rfl⟩ := hp
  refine ls_iload G dL_law_505 rfl ?_
  refine ls_icmp_eq G 512 dL_law_507 (by decide) hth ?_
  refine ls_iload G dL_law_512 rfl ?_
  refine ls_if_ne G 529 dL_law_514 (by decide) (fun _ => ?_) (fun h0 => ?_)
  · refine ls_goto G 1435 dL_law_529 (by decide) ?_
    exact LWK.back (by omega) (by omega) (h _ _ _ _ hC2 hR2)
  · have h00 := nI_z h4 h0
    refine ls_aload_n G dL_law_517 rfl ?_
    refine ls_iconst (v := nI 0) G dL_law_518 (by decide) ?_
    refine ls_lald G dL_law_519 ?_
    refine ls_iload G dL_law_520 rfl ?_
    refine ls_i2l G dL_law_522 ?_
    refine ls_lcmp G (by rw [hx h00, hv h00]) dL_law_523 ?_
    refine ls_if_eq G 529 dL_law_524 (by decide) (fun _ => ?_) (fun q => absurd rfl q)
    refine ls_goto G 1435 dL_law_529 (by decide) ?_
    exact LWK.back (by omega) (by omega) (h _ _ _ _ hC2 hR2)
theorem k_sell (G : LG z) (hC : CI Mc g) (hR : SimR Mr g 0) (hk : k + 4 < z.L) (hcA : cA + 21 ≤ 601024) (hsA : sA + 460 ≤ 7293034) (h : KN z k cA sA) : LWK z cA sA Mc Mr f (ll z k) [] 532 := by
  have hI : Inv g := hC.2.1
  refine ls_aload_n G dL_law_532 rfl ?_
  refine ls_cell G 1 dL_law_533 dL_law_534 dL_law_536 dL_law_537 dL_law_538 (by decide) rfl rfl (by omega) ?_
  refine ls_cell G 2 dL_law_539 dL_law_540 dL_law_542 dL_law_543 dL_law_544 (by decide) rfl rfl (by omega) ?_
  refine ls_aload_n G dL_law_545 rfl ?_
  refine ls_own (rest := []) (n := 4) G (w_sell (E := z.E) (o := z.o) (cL := z.cL) hC (z.xs (k + 1)) (z.xs (k + 2))) (by decide +kernel) (by decide +kernel) (by decide +kernel) (by decide +kernel) (by decide +kernel) (by decide) rfl (Nat.le_of_ble_eq_true rfl) (by omega) (by omega) dL_law_546 rfl (fun k9 f2 Mc2 hp => ?_)
  obtain ⟨rfl, h4, hx, hC2⟩ := hp
  refine ls_istore G dL_law_549 (by decide) rfl ?_
  refine ls_aload_n G dL_law_551 rfl ?_
  refine ls_cell G 1 dL_law_552 dL_law_553 dL_law_555 dL_law_556 dL_law_557 (by decide) rfl rfl (by omega) ?_
  refine ls_cell G 2 dL_law_558 dL_law_559 dL_law_561 dL_law_562 dL_law_563 (by decide) rfl rfl (by omega) ?_
  refine ls_ref (rest := []) (n := 2) G (RetK.of (e_sell (E := z.E) hR hI (z.xs (k + 1)) (z.xs (k + 2)))) (by decide +kernel) (by decide +kernel) (by decide +kernel) (by decide +kernel) (by decide +kernel) (by decide +kernel) (by decide) rfl (Nat.le_of_ble_eq_true rfl) (by omega) (by omega) dL_law_564 rfl (fun r9 Mr2 hp => ?_)
  obtain ⟨x, rfl, hth, hv, hR2⟩ := hp
  refine ls_istore G dL_law_567 (by decide) rfl ?_
  refine ls_aload_n G dL_law_569 rfl ?_
  refine ls_ref (rest := []) (n := 0) G (RetK.of (r_thrown (E := z.E) (N := Mr2))) (by decide +kernel) (by decide +kernel) (by decide +kernel) (by decide +kernel) (by decide +kernel) (by decide +kernel) (by decide) rfl (Nat.le_of_ble_eq_true rfl) (by omega) (by omega) dL_law_570 rfl (fun r9 Mr3 hp => ?_)
  obtain ⟨rfl, rfl⟩ := hp
  refine ls_iload G dL_law_573 rfl ?_
  refine ls_icmp_eq G 580 dL_law_575 (by decide) hth ?_
  refine ls_iload G dL_law_580 rfl ?_
  refine ls_if_ne G 597 dL_law_582 (by decide) (fun _ => ?_) (fun h0 => ?_)
  · refine ls_goto G 1435 dL_law_597 (by decide) ?_
    exact LWK.back (by omega) (by omega) (h _ _ _ _ hC2 hR2)
  · have h00 := nI_z h4 h0
    refine ls_aload_n G dL_law_585 rfl ?_
    refine ls_iconst (v := nI 0) G dL_law_586 (by decide) ?_
    refine ls_lald G dL_law_587 ?_
    refine ls_iload G dL_law_588 rfl ?_
    refine ls_i2l G dL_law_590 ?_
    refine ls_lcmp G (by rw [hx h00, hv h00]) dL_law_591 ?_
    refine ls_if_eq G 597 dL_law_592 (by decide) (fun _ => ?_) (fun q => absurd rfl q)
    refine ls_goto G 1435 dL_law_597 (by decide) ?_
    exact LWK.back (by omega) (by omega) (h _ _ _ _ hC2 hR2)
theorem k_leave (G : LG z) (hC : CI Mc g) (hR : SimR Mr g 0) (hk : k + 4 < z.L) (hcA : cA + 21 ≤ 601024) (hsA : sA + 460 ≤ 7293034) (h : KN z k cA sA) : LWK z cA sA Mc Mr f (ll z k) [] 600 := by
  have hI : Inv g := hC.2.1
  refine ls_aload_n G dL_law_600 rfl ?_
  refine ls_cell G 1 dL_law_601 dL_law_602 dL_law_604 dL_law_605 dL_law_606 (by decide) rfl rfl (by omega) ?_
  refine ls_aload_n G dL_law_607 rfl ?_
  refine ls_own (rest := []) (n := 3) G (w_leave (E := z.E) (o := z.o) (cL := z.cL) hC (z.xs (k + 1))) (by decide +kernel) (by decide +kernel) (by decide +kernel) (by decide +kernel) (by decide +kernel) (by decide) rfl (Nat.le_of_ble_eq_true rfl) (by omega) (by omega) dL_law_608 rfl (fun k9 f2 Mc2 hp => ?_)
  obtain ⟨rfl, h4, hx, hC2⟩ := hp
  refine ls_istore G dL_law_611 (by decide) rfl ?_
  refine ls_aload_n G dL_law_613 rfl ?_
  refine ls_cell G 1 dL_law_614 dL_law_615 dL_law_617 dL_law_618 dL_law_619 (by decide) rfl rfl (by omega) ?_
  refine ls_ref (rest := []) (n := 1) G (RetK.of (e_leave (E := z.E) hR hI (z.xs (k + 1)))) (by decide +kernel) (by decide +kernel) (by decide +kernel) (by decide +kernel) (by decide +kernel) (by decide +kernel) (by decide) rfl (Nat.le_of_ble_eq_true rfl) (by omega) (by omega) dL_law_620 rfl (fun r9 Mr2 hp => ?_)
  obtain ⟨x, rfl, hth, hv, hR2⟩ := hp
  refine ls_istore G dL_law_623 (by decide) rfl ?_
  refine ls_aload_n G dL_law_625 rfl ?_
  refine ls_ref (rest := []) (n := 0) G (RetK.of (r_thrown (E := z.E) (N := Mr2))) (by decide +kernel) (by decide +kernel) (by decide +kernel) (by decide +kernel) (by decide +kernel) (by decide +kernel) (by decide) rfl (Nat.le_of_ble_eq_true rfl) (by omega) (by omega) dL_law_626 rfl (fun r9 Mr3 hp => ?_)
  obtain ⟨rfl, rfl⟩ := hp
  refine ls_iload G dL_law_629 rfl ?_
  refine ls_icmp_eq G 636 dL_law_631 (by decide) hth ?_
  refine ls_iload G dL_law_636 rfl ?_
  refine ls_if_ne G 653 dL_law_638 (by decide) (fun _ => ?_) (fun h0 => ?_)
  · refine ls_goto G 1435 dL_law_653 (by decide) ?_
    exact LWK.back (by omega) (by omega) (h _ _ _ _ hC2 hR2)
  · have h00 := nI_z h4 h0
    refine ls_aload_n G dL_law_641 rfl ?_
    refine ls_iconst (v := nI 0) G dL_law_642 (by decide) ?_
    refine ls_lald G dL_law_643 ?_
    refine ls_iload G dL_law_644 rfl ?_
    refine ls_i2l G dL_law_646 ?_
    refine ls_lcmp G (by rw [hx h00, hv h00]) dL_law_647 ?_
    refine ls_if_eq G 653 dL_law_648 (by decide) (fun _ => ?_) (fun q => absurd rfl q)
    refine ls_goto G 1435 dL_law_653 (by decide) ?_
    exact LWK.back (by omega) (by omega) (h _ _ _ _ hC2 hR2)
theorem k_booth (G : LG z) (hC : CI Mc g) (hR : SimR Mr g 0) (hk : k + 4 < z.L) (hcA : cA + 21 ≤ 601024) (hsA : sA + 460 ≤ 7293034) (h : KN z k cA sA) : LWK z cA sA Mc Mr f (ll z k) [] 656 := by
  have hI : Inv g := hC.2.1
  refine ls_aload_n G dL_law_656 rfl ?_
  refine ls_cell G 1 dL_law_657 dL_law_658 dL_law_660 dL_law_661 dL_law_662 (by decide) rfl rfl (by omega) ?_
  refine ls_cell G 2 dL_law_663 dL_law_664 dL_law_666 dL_law_667 dL_law_668 (by decide) rfl rfl (by omega) ?_
  refine ls_aload_n G dL_law_669 rfl ?_
  refine ls_own (rest := []) (n := 4) G (w_booth (E := z.E) (o := z.o) (cL := z.cL) hC (z.xs (k + 1)) (z.xs (k + 2))) (by decide +kernel) (by decide +kernel) (by decide +kernel) (by decide +kernel) (by decide +kernel) (by decide) rfl (Nat.le_of_ble_eq_true rfl) (by omega) (by omega) dL_law_670 rfl (fun k9 f2 Mc2 hp => ?_)
  obtain ⟨rfl, h4, hx, hC2⟩ := hp
  refine ls_istore G dL_law_673 (by decide) rfl ?_
  refine ls_aload_n G dL_law_675 rfl ?_
  refine ls_cell G 1 dL_law_676 dL_law_677 dL_law_679 dL_law_680 dL_law_681 (by decide) rfl rfl (by omega) ?_
  refine ls_cell G 2 dL_law_682 dL_law_683 dL_law_685 dL_law_686 dL_law_687 (by decide) rfl rfl (by omega) ?_
  refine ls_ref (rest := []) (n := 2) G (RetK.of (e_booth (E := z.E) hR hI (z.xs (k + 1)) (z.xs (k + 2)))) (by decide +kernel) (by decide +kernel) (by decide +kernel) (by decide +kernel) (by decide +kernel) (by decide +kernel) (by decide) rfl (Nat.le_of_ble_eq_true rfl) (by omega) (by omega) dL_law_688 rfl (fun r9 Mr2 hp => ?_)
  obtain ⟨x, rfl, hth, hv, hR2⟩ := hp
  refine ls_istore G dL_law_691 (by decide) rfl ?_
  refine ls_aload_n G dL_law_693 rfl ?_
  refine ls_ref (rest := []) (n := 0) G (RetK.of (r_thrown (E := z.E) (N := Mr2))) (by decide +kernel) (by decide +kernel) (by decide +kernel) (by decide +kernel) (by decide +kernel) (by decide +kernel) (by decide) rfl (Nat.le_of_ble_eq_true rfl) (by omega) (by omega) dL_law_694 rfl (fun r9 Mr3 hp => ?_)
  obtain ⟨rfl, rfl⟩ := hp
  refine ls_iload G dL_law_697 rfl ?_
  refine ls_icmp_eq G 704 dL_law_699 (by decide) hth ?_
  refine ls_iload G dL_law_704 rfl ?_
  refine ls_if_ne G 721 dL_law_706 (by decide) (fun _ => ?_) (fun h0 => ?_)
  · refine ls_goto G 1435 dL_law_721 (by decide) ?_
    exact LWK.back (by omega) (by omega) (h _ _ _ _ hC2 hR2)
  · have h00 := nI_z h4 h0
    refine ls_aload_n G dL_law_709 rfl ?_
    refine ls_iconst (v := nI 0) G dL_law_710 (by decide) ?_
    refine ls_lald G dL_law_711 ?_
    refine ls_iload G dL_law_712 rfl ?_
    refine ls_i2l G dL_law_714 ?_
    refine ls_lcmp G (by rw [hx h00, hv h00]) dL_law_715 ?_
    refine ls_if_eq G 721 dL_law_716 (by decide) (fun _ => ?_) (fun q => absurd rfl q)
    refine ls_goto G 1435 dL_law_721 (by decide) ?_
    exact LWK.back (by omega) (by omega) (h _ _ _ _ hC2 hR2)
theorem k_queue (G : LG z) (hC : CI Mc g) (hR : SimR Mr g 0) (hk : k + 4 < z.L) (hcA : cA + 21 ≤ 601024) (hsA : sA + 460 ≤ 7293034) (h : KN z k cA sA) : LWK z cA sA Mc Mr f (ll z k) [] 724 := by
  have hI : Inv g := hC.2.1
  refine ls_aload_n G dL_law_724 rfl ?_
  refine ls_cell G 1 dL_law_725 dL_law_726 dL_law_728 dL_law_729 dL_law_730 (by decide) rfl rfl (by omega) ?_
  refine ls_cell G 2 dL_law_731 dL_law_732 dL_law_734 dL_law_735 dL_law_736 (by decide) rfl rfl (by omega) ?_
  refine ls_aload_n G dL_law_737 rfl ?_
  refine ls_own (rest := []) (n := 4) G (w_queue (E := z.E) (o := z.o) (cL := z.cL) hC (z.xs (k + 1)) (z.xs (k + 2))) (by decide +kernel) (by decide +kernel) (by decide +kernel) (by decide +kernel) (by decide +kernel) (by decide) rfl (Nat.le_of_ble_eq_true rfl) (by omega) (by omega) dL_law_738 rfl (fun k9 f2 Mc2 hp => ?_)
  obtain ⟨rfl, h4, hx, hC2⟩ := hp
  refine ls_istore G dL_law_741 (by decide) rfl ?_
  refine ls_aload_n G dL_law_743 rfl ?_
  refine ls_cell G 1 dL_law_744 dL_law_745 dL_law_747 dL_law_748 dL_law_749 (by decide) rfl rfl (by omega) ?_
  refine ls_cell G 2 dL_law_750 dL_law_751 dL_law_753 dL_law_754 dL_law_755 (by decide) rfl rfl (by omega) ?_
  refine ls_ref (rest := []) (n := 2) G (RetK.of (e_queue (E := z.E) hR hI (z.xs (k + 1)) (z.xs (k + 2)))) (by decide +kernel) (by decide +kernel) (by decide +kernel) (by decide +kernel) (by decide +kernel) (by decide +kernel) (by decide) rfl (Nat.le_of_ble_eq_true rfl) (by omega) (by omega) dL_law_756 rfl (fun r9 Mr2 hp => ?_)
  obtain ⟨x, rfl, hth, hv, hR2⟩ := hp
  refine ls_istore G dL_law_759 (by decide) rfl ?_
  refine ls_aload_n G dL_law_761 rfl ?_
  refine ls_ref (rest := []) (n := 0) G (RetK.of (r_thrown (E := z.E) (N := Mr2))) (by decide +kernel) (by decide +kernel) (by decide +kernel) (by decide +kernel) (by decide +kernel) (by decide +kernel) (by decide) rfl (Nat.le_of_ble_eq_true rfl) (by omega) (by omega) dL_law_762 rfl (fun r9 Mr3 hp => ?_)
  obtain ⟨rfl, rfl⟩ := hp
  refine ls_iload G dL_law_765 rfl ?_
  refine ls_icmp_eq G 772 dL_law_767 (by decide) hth ?_
  refine ls_iload G dL_law_772 rfl ?_
  refine ls_if_ne G 789 dL_law_774 (by decide) (fun _ => ?_) (fun h0 => ?_)
  · refine ls_goto G 1435 dL_law_789 (by decide) ?_
    exact LWK.back (by omega) (by omega) (h _ _ _ _ hC2 hR2)
  · have h00 := nI_z h4 h0
    refine ls_aload_n G dL_law_777 rfl ?_
    refine ls_iconst (v := nI 0) G dL_law_778 (by decide) ?_
    refine ls_lald G dL_law_779 ?_
    refine ls_iload G dL_law_780 rfl ?_
    refine ls_i2l G dL_law_782 ?_
    refine ls_lcmp G (by rw [hx h00, hv h00]) dL_law_783 ?_
    refine ls_if_eq G 789 dL_law_784 (by decide) (fun _ => ?_) (fun q => absurd rfl q)
    refine ls_goto G 1435 dL_law_789 (by decide) ?_
    exact LWK.back (by omega) (by omega) (h _ _ _ _ hC2 hR2)
theorem k_helper (G : LG z) (hC : CI Mc g) (hR : SimR Mr g 0) (hk : k + 4 < z.L) (hcA : cA + 21 ≤ 601024) (hsA : sA + 460 ≤ 7293034) (h : KN z k cA sA) : LWK z cA sA Mc Mr f (ll z k) [] 792 := by
  have hI : Inv g := hC.2.1
  refine ls_aload_n G dL_law_792 rfl ?_
  refine ls_cell G 1 dL_law_793 dL_law_794 dL_law_796 dL_law_797 dL_law_798 (by decide) rfl rfl (by omega) ?_
  refine ls_cell G 2 dL_law_799 dL_law_800 dL_law_802 dL_law_803 dL_law_804 (by decide) rfl rfl (by omega) ?_
  refine ls_aload_n G dL_law_805 rfl ?_
  refine ls_own (rest := []) (n := 4) G (w_helper (E := z.E) (o := z.o) (cL := z.cL) hC (z.xs (k + 1)) (z.xs (k + 2))) (by decide +kernel) (by decide +kernel) (by decide +kernel) (by decide +kernel) (by decide +kernel) (by decide) rfl (Nat.le_of_ble_eq_true rfl) (by omega) (by omega) dL_law_806 rfl (fun k9 f2 Mc2 hp => ?_)
  obtain ⟨rfl, h4, hx, hC2⟩ := hp
  refine ls_istore G dL_law_809 (by decide) rfl ?_
  refine ls_aload_n G dL_law_811 rfl ?_
  refine ls_cell G 1 dL_law_812 dL_law_813 dL_law_815 dL_law_816 dL_law_817 (by decide) rfl rfl (by omega) ?_
  refine ls_cell G 2 dL_law_818 dL_law_819 dL_law_821 dL_law_822 dL_law_823 (by decide) rfl rfl (by omega) ?_
  refine ls_ref (rest := []) (n := 2) G (RetK.of (e_helper (E := z.E) hR hI (z.xs (k + 1)) (z.xs (k + 2)))) (by decide +kernel) (by decide +kernel) (by decide +kernel) (by decide +kernel) (by decide +kernel) (by decide +kernel) (by decide) rfl (Nat.le_of_ble_eq_true rfl) (by omega) (by omega) dL_law_824 rfl (fun r9 Mr2 hp => ?_)
  obtain ⟨x, rfl, hth, hv, hR2⟩ := hp
  refine ls_istore G dL_law_827 (by decide) rfl ?_
  refine ls_aload_n G dL_law_829 rfl ?_
  refine ls_ref (rest := []) (n := 0) G (RetK.of (r_thrown (E := z.E) (N := Mr2))) (by decide +kernel) (by decide +kernel) (by decide +kernel) (by decide +kernel) (by decide +kernel) (by decide +kernel) (by decide) rfl (Nat.le_of_ble_eq_true rfl) (by omega) (by omega) dL_law_830 rfl (fun r9 Mr3 hp => ?_)
  obtain ⟨rfl, rfl⟩ := hp
  refine ls_iload G dL_law_833 rfl ?_
  refine ls_icmp_eq G 840 dL_law_835 (by decide) hth ?_
  refine ls_iload G dL_law_840 rfl ?_
  refine ls_if_ne G 857 dL_law_842 (by decide) (fun _ => ?_) (fun h0 => ?_)
  · refine ls_goto G 1435 dL_law_857 (by decide) ?_
    exact LWK.back (by omega) (by omega) (h _ _ _ _ hC2 hR2)
  · have h00 := nI_z h4 h0
    refine ls_aload_n G dL_law_845 rfl ?_
    refine ls_iconst (v := nI 0) G dL_law_846 (by decide) ?_
    refine ls_lald G dL_law_847 ?_
    refine ls_iload G dL_law_848 rfl ?_
    refine ls_i2l G dL_law_850 ?_
    refine ls_lcmp G (by rw [hx h00, hv h00]) dL_law_851 ?_
    refine ls_if_eq G 857 dL_law_852 (by decide) (fun _ => ?_) (fun q => absurd rfl q)
    refine ls_goto G 1435 dL_law_857 (by decide) ?_
    exact LWK.back (by omega) (by omega) (h _ _ _ _ hC2 hR2)
theorem k_visitor (G : LG z) (hC : CI Mc g) (hR : SimR Mr g 0) (hk : k + 4 < z.L) (hcA : cA + 21 ≤ 601024) (hsA : sA + 460 ≤ 7293034) (h : KN z k cA sA) : LWK z cA sA Mc Mr f (ll z k) [] 860 := by
  have hI : Inv g := hC.2.1
  refine ls_aload_n G dL_law_860 rfl ?_
  refine ls_cell G 1 dL_law_861 dL_law_862 dL_law_864 dL_law_865 dL_law_866 (by decide) rfl rfl (by omega) ?_
  refine ls_cell G 2 dL_law_867 dL_law_868 dL_law_870 dL_law_871 dL_law_872 (by decide) rfl rfl (by omega) ?_
  refine ls_aload_n G dL_law_873 rfl ?_
  refine ls_own (rest := []) (n := 4) G (w_visitor (E := z.E) (o := z.o) (cL := z.cL) hC (z.xs (k + 1)) (z.xs (k + 2))) (by decide +kernel) (by decide +kernel) (by decide +kernel) (by decide +kernel) (by decide +kernel) (by decide) rfl (Nat.le_of_ble_eq_true rfl) (by omega) (by omega) dL_law_874 rfl (fun k9 f2 Mc2 hp => ?_)
  obtain ⟨rfl, h4, hx, hC2⟩ := hp
  refine ls_istore G dL_law_877 (by decide) rfl ?_
  refine ls_aload_n G dL_law_879 rfl ?_
  refine ls_cell G 1 dL_law_880 dL_law_881 dL_law_883 dL_law_884 dL_law_885 (by decide) rfl rfl (by omega) ?_
  refine ls_cell G 2 dL_law_886 dL_law_887 dL_law_889 dL_law_890 dL_law_891 (by decide) rfl rfl (by omega) ?_
  refine ls_ref (rest := []) (n := 2) G (RetK.of (e_visitor (E := z.E) hR hI (z.xs (k + 1)) (z.xs (k + 2)))) (by decide +kernel) (by decide +kernel) (by decide +kernel) (by decide +kernel) (by decide +kernel) (by decide +kernel) (by decide) rfl (Nat.le_of_ble_eq_true rfl) (by omega) (by omega) dL_law_892 rfl (fun r9 Mr2 hp => ?_)
  obtain ⟨x, rfl, hth, hv, hR2⟩ := hp
  refine ls_istore G dL_law_895 (by decide) rfl ?_
  refine ls_aload_n G dL_law_897 rfl ?_
  refine ls_ref (rest := []) (n := 0) G (RetK.of (r_thrown (E := z.E) (N := Mr2))) (by decide +kernel) (by decide +kernel) (by decide +kernel) (by decide +kernel) (by decide +kernel) (by decide +kernel) (by decide) rfl (Nat.le_of_ble_eq_true rfl) (by omega) (by omega) dL_law_898 rfl (fun r9 Mr3 hp => ?_)
  obtain ⟨rfl, rfl⟩ := hp
  refine ls_iload G dL_law_901 rfl ?_
  refine ls_icmp_eq G 908 dL_law_903 (by decide) hth ?_
  refine ls_iload G dL_law_908 rfl ?_
  refine ls_if_ne G 925 dL_law_910 (by decide) (fun _ => ?_) (fun h0 => ?_)
  · refine ls_goto G 1435 dL_law_925 (by decide) ?_
    exact LWK.back (by omega) (by omega) (h _ _ _ _ hC2 hR2)
  · have h00 := nI_z h4 h0
    refine ls_aload_n G dL_law_913 rfl ?_
    refine ls_iconst (v := nI 0) G dL_law_914 (by decide) ?_
    refine ls_lald G dL_law_915 ?_
    refine ls_iload G dL_law_916 rfl ?_
    refine ls_i2l G dL_law_918 ?_
    refine ls_lcmp G (by rw [hx h00, hv h00]) dL_law_919 ?_
    refine ls_if_eq G 925 dL_law_920 (by decide) (fun _ => ?_) (fun q => absurd rfl q)
    refine ls_goto G 1435 dL_law_925 (by decide) ?_
    exact LWK.back (by omega) (by omega) (h _ _ _ _ hC2 hR2)
theorem k_practice (G : LG z) (hC : CI Mc g) (hR : SimR Mr g 0) (hk : k + 4 < z.L) (hcA : cA + 21 ≤ 601024) (hsA : sA + 460 ≤ 7293034) (h : KN z k cA sA) : LWK z cA sA Mc Mr f (ll z k) [] 928 := by
  have hI : Inv g := hC.2.1
  refine ls_aload_n G dL_law_928 rfl ?_
  refine ls_cell G 1 dL_law_929 dL_law_930 dL_law_932 dL_law_933 dL_law_934 (by decide) rfl rfl (by omega) ?_
  refine ls_cell G 2 dL_law_935 dL_law_936 dL_law_938 dL_law_939 dL_law_940 (by decide) rfl rfl (by omega) ?_
  refine ls_aload_n G dL_law_941 rfl ?_
  refine ls_own (rest := []) (n := 4) G (w_practice (E := z.E) (o := z.o) (cL := z.cL) hC (z.xs (k + 1)) (z.xs (k + 2))) (by decide +kernel) (by decide +kernel) (by decide +kernel) (by decide +kernel) (by decide +kernel) (by decide) rfl (Nat.le_of_ble_eq_true rfl) (by omega) (by omega) dL_law_942 rfl (fun k9 f2 Mc2 hp => ?_)
  obtain ⟨rfl, h4, hx, hC2⟩ := hp
  refine ls_istore G dL_law_945 (by decide) rfl ?_
  refine ls_aload_n G dL_law_947 rfl ?_
  refine ls_cell G 1 dL_law_948 dL_law_949 dL_law_951 dL_law_952 dL_law_953 (by decide) rfl rfl (by omega) ?_
  refine ls_cell G 2 dL_law_954 dL_law_955 dL_law_957 dL_law_958 dL_law_959 (by decide) rfl rfl (by omega) ?_
  refine ls_ref (rest := []) (n := 2) G (RetK.of (e_practice (E := z.E) hR hI (z.xs (k + 1)) (z.xs (k + 2)))) (by decide +kernel) (by decide +kernel) (by decide +kernel) (by decide +kernel) (by decide +kernel) (by decide +kernel) (by decide) rfl (Nat.le_of_ble_eq_true rfl) (by omega) (by omega) dL_law_960 rfl (fun r9 Mr2 hp => ?_)
  obtain ⟨x, rfl, hth, hv, hR2⟩ := hp
  refine ls_istore G dL_law_963 (by decide) rfl ?_
  refine ls_aload_n G dL_law_965 rfl ?_
  refine ls_ref (rest := []) (n := 0) G (RetK.of (r_thrown (E := z.E) (N := Mr2))) (by decide +kernel) (by decide +kernel) (by decide +kernel) (by decide +kernel) (by decide +kernel) (by decide +kernel) (by decide) rfl (Nat.le_of_ble_eq_true rfl) (by omega) (by omega) dL_law_966 rfl (fun r9 Mr3 hp => ?_)
  obtain ⟨rfl, rfl⟩ := hp
  refine ls_iload G dL_law_969 rfl ?_
  refine ls_icmp_eq G 976 dL_law_971 (by decide) hth ?_
  refine ls_iload G dL_law_976 rfl ?_
  refine ls_if_ne G 993 dL_law_978 (by decide) (fun _ => ?_) (fun h0 => ?_)
  · refine ls_goto G 1435 dL_law_993 (by decide) ?_
    exact LWK.back (by omega) (by omega) (h _ _ _ _ hC2 hR2)
  · have h00 := nI_z h4 h0
    refine ls_aload_n G dL_law_981 rfl ?_
    refine ls_iconst (v := nI 0) G dL_law_982 (by decide) ?_
    refine ls_lald G dL_law_983 ?_
    refine ls_iload G dL_law_984 rfl ?_
    refine ls_i2l G dL_law_986 ?_
    refine ls_lcmp G (by rw [hx h00, hv h00]) dL_law_987 ?_
    refine ls_if_eq G 993 dL_law_988 (by decide) (fun _ => ?_) (fun q => absurd rfl q)
    refine ls_goto G 1435 dL_law_993 (by decide) ?_
    exact LWK.back (by omega) (by omega) (h _ _ _ _ hC2 hR2)
theorem k_board (G : LG z) (hC : CI Mc g) (hR : SimR Mr g 0) (hk : k + 4 < z.L) (hcA : cA + 21 ≤ 601024) (hsA : sA + 460 ≤ 7293034) (h : KN z k cA sA) : LWK z cA sA Mc Mr f (ll z k) [] 996 := by
  have hI : Inv g := hC.2.1
  refine ls_aload_n G dL_law_996 rfl ?_
  refine ls_cell G 1 dL_law_997 dL_law_998 dL_law_1000 dL_law_1001 dL_law_1002 (by decide) rfl rfl (by omega) ?_
  refine ls_cell G 2 dL_law_1003 dL_law_1004 dL_law_1006 dL_law_1007 dL_law_1008 (by decide) rfl rfl (by omega) ?_
  refine ls_aload_n G dL_law_1009 rfl ?_
  refine ls_own (rest := []) (n := 4) G (w_board (E := z.E) (o := z.o) (cL := z.cL) hC (z.xs (k + 1)) (z.xs (k + 2))) (by decide +kernel) (by decide +kernel) (by decide +kernel) (by decide +kernel) (by decide +kernel) (by decide) rfl (Nat.le_of_ble_eq_true rfl) (by omega) (by omega) dL_law_1010 rfl (fun k9 f2 Mc2 hp => ?_)
  obtain ⟨rfl, h4, hx, hC2⟩ := hp
  refine ls_istore G dL_law_1013 (by decide) rfl ?_
  refine ls_aload_n G dL_law_1015 rfl ?_
  refine ls_cell G 1 dL_law_1016 dL_law_1017 dL_law_1019 dL_law_1020 dL_law_1021 (by decide) rfl rfl (by omega) ?_
  refine ls_cell G 2 dL_law_1022 dL_law_1023 dL_law_1025 dL_law_1026 dL_law_1027 (by decide) rfl rfl (by omega) ?_
  refine ls_ref (rest := []) (n := 2) G (RetK.of (e_board (E := z.E) hR hI (z.xs (k + 1)) (z.xs (k + 2)))) (by decide +kernel) (by decide +kernel) (by decide +kernel) (by decide +kernel) (by decide +kernel) (by decide +kernel) (by decide) rfl (Nat.le_of_ble_eq_true rfl) (by omega) (by omega) dL_law_1028 rfl (fun r9 Mr2 hp => ?_)
  obtain ⟨x, rfl, hth, hv, hR2⟩ := hp
  refine ls_istore G dL_law_1031 (by decide) rfl ?_
  refine ls_aload_n G dL_law_1033 rfl ?_
  refine ls_ref (rest := []) (n := 0) G (RetK.of (r_thrown (E := z.E) (N := Mr2))) (by decide +kernel) (by decide +kernel) (by decide +kernel) (by decide +kernel) (by decide +kernel) (by decide +kernel) (by decide) rfl (Nat.le_of_ble_eq_true rfl) (by omega) (by omega) dL_law_1034 rfl (fun r9 Mr3 hp => ?_)
  obtain ⟨rfl, rfl⟩ := hp
  refine ls_iload G dL_law_1037 rfl ?_
  refine ls_icmp_eq G 1044 dL_law_1039 (by decide) hth ?_
  refine ls_iload G dL_law_1044 rfl ?_
  refine ls_if_ne G 1061 dL_law_1046 (by decide) (fun _ => ?_) (fun h0 => ?_)
  · refine ls_goto G 1435 dL_law_1061 (by decide) ?_
    exact LWK.back (by omega) (by omega) (h _ _ _ _ hC2 hR2)
  · have h00 := nI_z h4 h0
    refine ls_aload_n G dL_law_1049 rfl ?_
    refine ls_iconst (v := nI 0) G dL_law_1050 (by decide) ?_
    refine ls_lald G dL_law_1051 ?_
    refine ls_iload G dL_law_1052 rfl ?_
    refine ls_i2l G dL_law_1054 ?_
    refine ls_lcmp G (by rw [hx h00, hv h00]) dL_law_1055 ?_
    refine ls_if_eq G 1061 dL_law_1056 (by decide) (fun _ => ?_) (fun q => absurd rfl q)
    refine ls_goto G 1435 dL_law_1061 (by decide) ?_
    exact LWK.back (by omega) (by omega) (h _ _ _ _ hC2 hR2)
theorem k_pass (G : LG z) (hC : CI Mc g) (hR : SimR Mr g 0) (hk : k + 4 < z.L) (hcA : cA + 21 ≤ 601024) (hsA : sA + 460 ≤ 7293034) (h : KN z k cA sA) : LWK z cA sA Mc Mr f (ll z k) [] 1064 := by
  have hI : Inv g := hC.2.1
  refine ls_aload_n G dL_law_1064 rfl ?_
  refine ls_cell G 1 dL_law_1065 dL_law_1066 dL_law_1068 dL_law_1069 dL_law_1070 (by decide) rfl rfl (by omega) ?_
  refine ls_aload_n G dL_law_1071 rfl ?_
  refine ls_own (rest := []) (n := 3) G (w_pass (E := z.E) (o := z.o) (cL := z.cL) hC (z.xs (k + 1))) (by decide +kernel) (by decide +kernel) (by decide +kernel) (by decide +kernel) (by decide +kernel) (by decide) rfl (Nat.le_of_ble_eq_true rfl) (by omega) (by omega) dL_law_1072 rfl (fun k9 f2 Mc2 hp => ?_)
  obtain ⟨rfl, h4, hx, hC2⟩ := hp
  refine ls_istore G dL_law_1075 (by decide) rfl ?_
  refine ls_aload_n G dL_law_1077 rfl ?_
  refine ls_cell G 1 dL_law_1078 dL_law_1079 dL_law_1081 dL_law_1082 dL_law_1083 (by decide) rfl rfl (by omega) ?_
  refine ls_ref (rest := []) (n := 1) G (RetK.of (e_pass (E := z.E) hR hI (z.xs (k + 1)))) (by decide +kernel) (by decide +kernel) (by decide +kernel) (by decide +kernel) (by decide +kernel) (by decide +kernel) (by decide) rfl (Nat.le_of_ble_eq_true rfl) (by omega) (by omega) dL_law_1084 rfl (fun r9 Mr2 hp => ?_)
  obtain ⟨x, rfl, hth, hv, hR2⟩ := hp
  refine ls_istore G dL_law_1087 (by decide) rfl ?_
  refine ls_aload_n G dL_law_1089 rfl ?_
  refine ls_ref (rest := []) (n := 0) G (RetK.of (r_thrown (E := z.E) (N := Mr2))) (by decide +kernel) (by decide +kernel) (by decide +kernel) (by decide +kernel) (by decide +kernel) (by decide +kernel) (by decide) rfl (Nat.le_of_ble_eq_true rfl) (by omega) (by omega) dL_law_1090 rfl (fun r9 Mr3 hp => ?_)
  obtain ⟨rfl, rfl⟩ := hp
  refine ls_iload G dL_law_1093 rfl ?_
  refine ls_icmp_eq G 1100 dL_law_1095 (by decide) hth ?_
  refine ls_iload G dL_law_1100 rfl ?_
  refine ls_if_ne G 1117 dL_law_1102 (by decide) (fun _ => ?_) (fun h0 => ?_)
  · refine ls_goto G 1435 dL_law_1117 (by decide) ?_
    exact LWK.back (by omega) (by omega) (h _ _ _ _ hC2 hR2)
  · have h00 := nI_z h4 h0
    refine ls_aload_n G dL_law_1105 rfl ?_
    refine ls_iconst (v := nI 0) G dL_law_1106 (by decide) ?_
    refine ls_lald G dL_law_1107 ?_
    refine ls_iload G dL_law_1108 rfl ?_
    refine ls_i2l G dL_law_1110 ?_
    refine ls_lcmp G (by rw [hx h00, hv h00]) dL_law_1111 ?_
    refine ls_if_eq G 1117 dL_law_1112 (by decide) (fun _ => ?_) (fun q => absurd rfl q)
    refine ls_goto G 1435 dL_law_1117 (by decide) ?_
    exact LWK.back (by omega) (by omega) (h _ _ _ _ hC2 hR2)
theorem k_count (G : LG z) (hC : CI Mc g) (hR : SimR Mr g 0) (hk : k + 4 < z.L) (hcA : cA + 21 ≤ 601024) (hsA : sA + 460 ≤ 7293034) (h : KN z k cA sA) : LWK z cA sA Mc Mr f (ll z k) [] 1120 := by
  have hI : Inv g := hC.2.1
  refine ls_aload_n G dL_law_1120 rfl ?_
  refine ls_cell G 1 dL_law_1121 dL_law_1122 dL_law_1124 dL_law_1125 dL_law_1126 (by decide) rfl rfl (by omega) ?_
  refine ls_aload_n G dL_law_1127 rfl ?_
  refine ls_own (rest := []) (n := 3) G (w_count (E := z.E) (o := z.o) (cL := z.cL) hC (z.xs (k + 1))) (by decide +kernel) (by decide +kernel) (by decide +kernel) (by decide +kernel) (by decide +kernel) (by decide) rfl (Nat.le_of_ble_eq_true rfl) (by omega) (by omega) dL_law_1128 rfl (fun k9 f2 Mc2 hp => ?_)
  obtain ⟨rfl, h4, hx, hC2⟩ := hp
  refine ls_istore G dL_law_1131 (by decide) rfl ?_
  refine ls_aload_n G dL_law_1133 rfl ?_
  refine ls_cell G 1 dL_law_1134 dL_law_1135 dL_law_1137 dL_law_1138 dL_law_1139 (by decide) rfl rfl (by omega) ?_
  refine ls_ref (rest := []) (n := 1) G (RetK.of (e_count (E := z.E) hR hI (z.xs (k + 1)))) (by decide +kernel) (by decide +kernel) (by decide +kernel) (by decide +kernel) (by decide +kernel) (by decide +kernel) (by decide) rfl (Nat.le_of_ble_eq_true rfl) (by omega) (by omega) dL_law_1140 rfl (fun r9 Mr2 hp => ?_)
  obtain ⟨x, rfl, hth, hv, hR2⟩ := hp
  refine ls_istore G dL_law_1143 (by decide) rfl ?_
  refine ls_aload_n G dL_law_1145 rfl ?_
  refine ls_ref (rest := []) (n := 0) G (RetK.of (r_thrown (E := z.E) (N := Mr2))) (by decide +kernel) (by decide +kernel) (by decide +kernel) (by decide +kernel) (by decide +kernel) (by decide +kernel) (by decide) rfl (Nat.le_of_ble_eq_true rfl) (by omega) (by omega) dL_law_1146 rfl (fun r9 Mr3 hp => ?_)
  obtain ⟨rfl, rfl⟩ := hp
  refine ls_iload G dL_law_1149 rfl ?_
  refine ls_icmp_eq G 1156 dL_law_1151 (by decide) hth ?_
  refine ls_iload G dL_law_1156 rfl ?_
  refine ls_if_ne G 1173 dL_law_1158 (by decide) (fun _ => ?_) (fun h0 => ?_)
  · refine ls_goto G 1435 dL_law_1173 (by decide) ?_
    exact LWK.back (by omega) (by omega) (h _ _ _ _ hC2 hR2)
  · have h00 := nI_z h4 h0
    refine ls_aload_n G dL_law_1161 rfl ?_
    refine ls_iconst (v := nI 0) G dL_law_1162 (by decide) ?_
    refine ls_lald G dL_law_1163 ?_
    refine ls_iload G dL_law_1164 rfl ?_
    refine ls_i2l G dL_law_1166 ?_
    refine ls_lcmp G (by rw [hx h00, hv h00]) dL_law_1167 ?_
    refine ls_if_eq G 1173 dL_law_1168 (by decide) (fun _ => ?_) (fun q => absurd rfl q)
    refine ls_goto G 1435 dL_law_1173 (by decide) ?_
    exact LWK.back (by omega) (by omega) (h _ _ _ _ hC2 hR2)
theorem k_foresee (G : LG z) (hC : CI Mc g) (hR : SimR Mr g 0) (hk : k + 4 < z.L) (hcA : cA + 21 ≤ 601024) (hsA : sA + 460 ≤ 7293034) (h : KN z k cA sA) : LWK z cA sA Mc Mr f (ll z k) [] 1176 := by
  have hI : Inv g := hC.2.1
  refine ls_aload_n G dL_law_1176 rfl ?_
  refine ls_cell G 1 dL_law_1177 dL_law_1178 dL_law_1180 dL_law_1181 dL_law_1182 (by decide) rfl rfl (by omega) ?_
  refine ls_cell G 2 dL_law_1183 dL_law_1184 dL_law_1186 dL_law_1187 dL_law_1188 (by decide) rfl rfl (by omega) ?_
  refine ls_cell G 3 dL_law_1189 dL_law_1190 dL_law_1192 dL_law_1193 dL_law_1194 (by decide) rfl rfl (by omega) ?_
  refine ls_aload_n G dL_law_1195 rfl ?_
  refine ls_own (rest := []) (n := 5) G (w_foresee (E := z.E) (o := z.o) (cL := z.cL) hC (z.xs (k + 1)) (z.xs (k + 2)) (z.xs (k + 3))) (by decide +kernel) (by decide +kernel) (by decide +kernel) (by decide +kernel) (by decide +kernel) (by decide) rfl (Nat.le_of_ble_eq_true rfl) (by omega) (by omega) dL_law_1196 rfl (fun k9 f2 Mc2 hp => ?_)
  obtain ⟨rfl, h4, hx, hC2⟩ := hp
  refine ls_istore G dL_law_1199 (by decide) rfl ?_
  refine ls_aload_n G dL_law_1201 rfl ?_
  refine ls_cell G 1 dL_law_1202 dL_law_1203 dL_law_1205 dL_law_1206 dL_law_1207 (by decide) rfl rfl (by omega) ?_
  refine ls_cell G 2 dL_law_1208 dL_law_1209 dL_law_1211 dL_law_1212 dL_law_1213 (by decide) rfl rfl (by omega) ?_
  refine ls_cell G 3 dL_law_1214 dL_law_1215 dL_law_1217 dL_law_1218 dL_law_1219 (by decide) rfl rfl (by omega) ?_
  refine ls_ref (rest := []) (n := 3) G (e_foresee (E := z.E) hR hI (z.xs (k + 1)) (z.xs (k + 2)) (z.xs (k + 3))) (by decide +kernel) (by decide +kernel) (by decide +kernel) (by decide +kernel) (by decide +kernel) (by decide +kernel) (by decide) rfl (Nat.le_of_ble_eq_true rfl) (by omega) (by omega) dL_law_1220 rfl (fun r9 Mr2 hp => ?_)
  obtain ⟨x, rfl, hth, hv, hR2⟩ := hp
  refine ls_istore G dL_law_1223 (by decide) rfl ?_
  refine ls_aload_n G dL_law_1225 rfl ?_
  refine ls_ref (rest := []) (n := 0) G (RetK.of (r_thrown (E := z.E) (N := Mr2))) (by decide +kernel) (by decide +kernel) (by decide +kernel) (by decide +kernel) (by decide +kernel) (by decide +kernel) (by decide) rfl (Nat.le_of_ble_eq_true rfl) (by omega) (by omega) dL_law_1226 rfl (fun r9 Mr3 hp => ?_)
  obtain ⟨rfl, rfl⟩ := hp
  refine ls_iload G dL_law_1229 rfl ?_
  refine ls_icmp_eq G 1236 dL_law_1231 (by decide) hth ?_
  refine ls_iload G dL_law_1236 rfl ?_
  refine ls_if_ne G 1253 dL_law_1238 (by decide) (fun _ => ?_) (fun h0 => ?_)
  · refine ls_goto G 1435 dL_law_1253 (by decide) ?_
    exact LWK.back (by omega) (by omega) (h _ _ _ _ hC2 hR2)
  · have h00 := nI_z h4 h0
    refine ls_aload_n G dL_law_1241 rfl ?_
    refine ls_iconst (v := nI 0) G dL_law_1242 (by decide) ?_
    refine ls_lald G dL_law_1243 ?_
    refine ls_iload G dL_law_1244 rfl ?_
    refine ls_i2l G dL_law_1246 ?_
    refine ls_lcmp G (by rw [hx h00, hv h00]) dL_law_1247 ?_
    refine ls_if_eq G 1253 dL_law_1248 (by decide) (fun _ => ?_) (fun q => absurd rfl q)
    refine ls_goto G 1435 dL_law_1253 (by decide) ?_
    exact LWK.back (by omega) (by omega) (h _ _ _ _ hC2 hR2)
theorem k_closes (G : LG z) (hC : CI Mc g) (hR : SimR Mr g 0) (hk : k + 4 < z.L) (hcA : cA + 21 ≤ 601024) (hsA : sA + 460 ≤ 7293034) (h : KN z k cA sA) : LWK z cA sA Mc Mr f (ll z k) [] 1256 := by
  have hI : Inv g := hC.2.1
  refine ls_aload_n G dL_law_1256 rfl ?_
  refine ls_cell G 1 dL_law_1257 dL_law_1258 dL_law_1260 dL_law_1261 dL_law_1262 (by decide) rfl rfl (by omega) ?_
  refine ls_aload_n G dL_law_1263 rfl ?_
  refine ls_own (rest := []) (n := 3) G (w_closes (E := z.E) (o := z.o) (cL := z.cL) hC (z.xs (k + 1))) (by decide +kernel) (by decide +kernel) (by decide +kernel) (by decide +kernel) (by decide +kernel) (by decide) rfl (Nat.le_of_ble_eq_true rfl) (by omega) (by omega) dL_law_1264 rfl (fun k9 f2 Mc2 hp => ?_)
  obtain ⟨rfl, h4, hx, hC2⟩ := hp
  refine ls_istore G dL_law_1267 (by decide) rfl ?_
  refine ls_aload_n G dL_law_1269 rfl ?_
  refine ls_cell G 1 dL_law_1270 dL_law_1271 dL_law_1273 dL_law_1274 dL_law_1275 (by decide) rfl rfl (by omega) ?_
  refine ls_ref (rest := []) (n := 1) G (e_closes (E := z.E) hR hI (z.xs (k + 1))) (by decide +kernel) (by decide +kernel) (by decide +kernel) (by decide +kernel) (by decide +kernel) (by decide +kernel) (by decide) rfl (Nat.le_of_ble_eq_true rfl) (by omega) (by omega) dL_law_1276 rfl (fun r9 Mr2 hp => ?_)
  obtain ⟨x, rfl, hth, hv, hR2⟩ := hp
  refine ls_istore G dL_law_1279 (by decide) rfl ?_
  refine ls_aload_n G dL_law_1281 rfl ?_
  refine ls_ref (rest := []) (n := 0) G (RetK.of (r_thrown (E := z.E) (N := Mr2))) (by decide +kernel) (by decide +kernel) (by decide +kernel) (by decide +kernel) (by decide +kernel) (by decide +kernel) (by decide) rfl (Nat.le_of_ble_eq_true rfl) (by omega) (by omega) dL_law_1282 rfl (fun r9 Mr3 hp => ?_)
  obtain ⟨rfl, rfl⟩ := hp
  refine ls_iload G dL_law_1285 rfl ?_
  refine ls_icmp_eq G 1292 dL_law_1287 (by decide) hth ?_
  refine ls_iload G dL_law_1292 rfl ?_
  refine ls_if_ne G 1309 dL_law_1294 (by decide) (fun _ => ?_) (fun h0 => ?_)
  · refine ls_goto G 1435 dL_law_1309 (by decide) ?_
    exact LWK.back (by omega) (by omega) (h _ _ _ _ hC2 hR2)
  · have h00 := nI_z h4 h0
    refine ls_aload_n G dL_law_1297 rfl ?_
    refine ls_iconst (v := nI 0) G dL_law_1298 (by decide) ?_
    refine ls_lald G dL_law_1299 ?_
    refine ls_iload G dL_law_1300 rfl ?_
    refine ls_i2l G dL_law_1302 ?_
    refine ls_lcmp G (by rw [hx h00, hv h00]) dL_law_1303 ?_
    refine ls_if_eq G 1309 dL_law_1304 (by decide) (fun _ => ?_) (fun q => absurd rfl q)
    refine ls_goto G 1435 dL_law_1309 (by decide) ?_
    exact LWK.back (by omega) (by omega) (h _ _ _ _ hC2 hR2)
theorem k_advise (G : LG z) (hC : CI Mc g) (hR : SimR Mr g 0) (hk : k + 4 < z.L) (hcA : cA + 21 ≤ 601024) (hsA : sA + 460 ≤ 7293034) (h : KN z k cA sA) : LWK z cA sA Mc Mr f (ll z k) [] 1312 := by
  have hI : Inv g := hC.2.1
  refine ls_aload_n G dL_law_1312 rfl ?_
  refine ls_cell G 1 dL_law_1313 dL_law_1314 dL_law_1316 dL_law_1317 dL_law_1318 (by decide) rfl rfl (by omega) ?_
  refine ls_cell G 2 dL_law_1319 dL_law_1320 dL_law_1322 dL_law_1323 dL_law_1324 (by decide) rfl rfl (by omega) ?_
  refine ls_aload_n G dL_law_1325 rfl ?_
  refine ls_own (rest := []) (n := 4) G (w_advise (E := z.E) (o := z.o) (cL := z.cL) hC (z.xs (k + 1)) (z.xs (k + 2))) (by decide +kernel) (by decide +kernel) (by decide +kernel) (by decide +kernel) (by decide +kernel) (by decide) rfl (Nat.le_of_ble_eq_true rfl) (by omega) (by omega) dL_law_1326 rfl (fun k9 f2 Mc2 hp => ?_)
  obtain ⟨rfl, h4, hx, hC2⟩ := hp
  refine ls_istore G dL_law_1329 (by decide) rfl ?_
  refine ls_aload_n G dL_law_1331 rfl ?_
  refine ls_cell G 1 dL_law_1332 dL_law_1333 dL_law_1335 dL_law_1336 dL_law_1337 (by decide) rfl rfl (by omega) ?_
  refine ls_cell G 2 dL_law_1338 dL_law_1339 dL_law_1341 dL_law_1342 dL_law_1343 (by decide) rfl rfl (by omega) ?_
  refine ls_ref (rest := []) (n := 2) G (e_advise (E := z.E) hR hI (z.xs (k + 1)) (z.xs (k + 2))) (by decide +kernel) (by decide +kernel) (by decide +kernel) (by decide +kernel) (by decide +kernel) (by decide +kernel) (by decide) rfl (Nat.le_of_ble_eq_true rfl) (by omega) (by omega) dL_law_1344 rfl (fun r9 Mr2 hp => ?_)
  obtain ⟨x, rfl, hth, hv, hR2⟩ := hp
  refine ls_istore G dL_law_1347 (by decide) rfl ?_
  refine ls_aload_n G dL_law_1349 rfl ?_
  refine ls_ref (rest := []) (n := 0) G (RetK.of (r_thrown (E := z.E) (N := Mr2))) (by decide +kernel) (by decide +kernel) (by decide +kernel) (by decide +kernel) (by decide +kernel) (by decide +kernel) (by decide) rfl (Nat.le_of_ble_eq_true rfl) (by omega) (by omega) dL_law_1350 rfl (fun r9 Mr3 hp => ?_)
  obtain ⟨rfl, rfl⟩ := hp
  refine ls_iload G dL_law_1353 rfl ?_
  refine ls_icmp_eq G 1360 dL_law_1355 (by decide) hth ?_
  refine ls_iload G dL_law_1360 rfl ?_
  refine ls_if_ne G 1377 dL_law_1362 (by decide) (fun _ => ?_) (fun h0 => ?_)
  · refine ls_goto G 1435 dL_law_1377 (by decide) ?_
    exact LWK.back (by omega) (by omega) (h _ _ _ _ hC2 hR2)
  · have h00 := nI_z h4 h0
    refine ls_aload_n G dL_law_1365 rfl ?_
    refine ls_iconst (v := nI 0) G dL_law_1366 (by decide) ?_
    refine ls_lald G dL_law_1367 ?_
    refine ls_iload G dL_law_1368 rfl ?_
    refine ls_i2l G dL_law_1370 ?_
    refine ls_lcmp G (by rw [hx h00, hv h00]) dL_law_1371 ?_
    refine ls_if_eq G 1377 dL_law_1372 (by decide) (fun _ => ?_) (fun q => absurd rfl q)
    refine ls_goto G 1435 dL_law_1377 (by decide) ?_
    exact LWK.back (by omega) (by omega) (h _ _ _ _ hC2 hR2)
theorem k_luck (G : LG z) (hC : CI Mc g) (hR : SimR Mr g 0) (hk : k + 4 < z.L) (hcA : cA + 21 ≤ 601024) (hsA : sA + 460 ≤ 7293034) (h : KN z k cA sA) : LWK z cA sA Mc Mr f (ll z k) [] 1380 := by
  have hI : Inv g := hC.2.1
  refine ls_aload_n G dL_law_1380 rfl ?_
  refine ls_luckC (rest := []) G (c_luck (E := z.E) hC.1 hI) (by decide +kernel) (by decide +kernel) (by decide +kernel) (by decide +kernel) (by decide +kernel) (by decide +kernel) (by decide) (Nat.le_of_ble_eq_true rfl) (by omega) (by omega) dL_law_1381 (fun r Mc2 hal hp => ?_)
  subst hp
  refine ls_dstore G dL_law_1384 (by decide) rfl ?_
  refine ls_aload_n G dL_law_1386 rfl ?_
  refine ls_luckR (rest := []) G (r_luck (E := z.E) hR hI) (by decide +kernel) (by decide +kernel) (by decide +kernel) (by decide +kernel) (by decide +kernel) (by decide +kernel) (by decide) (Nat.le_of_ble_eq_true rfl) (by omega) (by omega) dL_law_1387 (fun r2 Mr2 hal2 hp => ?_)
  obtain ⟨-, hR2⟩ := hp
  obtain ⟨e1, e2⟩ := alike_cmp hal hal2
  refine ls_dstore G dL_law_1390 (by decide) rfl ?_
  refine ls_dload G dL_law_1392 rfl ?_
  refine ls_dload G dL_law_1394 rfl ?_
  refine ls_dcmp G dL_law_1396 ?_
  rw [e1]
  have fin : LWK z cA sA Mc Mr2 f [some (.ref z.b), some (.ref (z.E.ad (0, 0, 0))), some (.ref (z.E.ad (14, 0, 0))), some (.ref z.o), some (.int (nI k)), some (.double r), none, some (.double r2), none] [] 1418 := by
    refine ls_goto G 1435 dL_law_1418 (by decide) ?_
    exact LWK.back (by omega) (by omega) (h _ _ _ _ hC hR2)
  refine ls_if_eq G 1418 dL_law_1397 (by decide) (fun _ => fin) (fun hne => ?_)
  refine ls_dload G dL_law_1400 rfl ?_
  refine ls_dload G dL_law_1402 rfl ?_
  refine ls_dcmp G dL_law_1404 ?_
  refine ls_if_eq G 1416 dL_law_1405 (by decide) (fun q => absurd q hne) (fun _ => ?_)
  refine ls_dload G dL_law_1408 rfl ?_
  refine ls_dload G dL_law_1410 rfl ?_
  refine ls_dcmp G dL_law_1412 ?_
  rw [e2]
  exact ls_if_ne G 1418 dL_law_1413 (by decide) (fun _ => fin) (fun q => absurd q hne)
theorem k_digest (G : LG z) (hC : CI Mc g) (hR : SimR Mr g 0) (hk : k + 4 < z.L) (hcA : cA + 21 ≤ 601024) (hsA : sA + 460 ≤ 7293034) (h : KN z k cA sA) : LWK z cA sA Mc Mr f (ll z k) [] 1421 := by
  have hI : Inv g := hC.2.1
  refine ls_aload_n G dL_law_1421 rfl ?_
  refine ls_cls (rest := []) (n := 0) G (c_digest (E := z.E) hC.1 hI) (by decide +kernel) (by decide +kernel) (by decide +kernel) (by decide +kernel) (by decide +kernel) (by decide +kernel) (by decide) rfl (Nat.le_of_ble_eq_true rfl) (by omega) (by omega) dL_law_1422 rfl (fun r9 Mc2 hp => ?_)
  obtain ⟨rfl, rfl⟩ := hp
  refine ls_aload_n G dL_law_1425 rfl ?_
  refine ls_ref (rest := [.long (dgs g)]) (n := 0) G (RetK.of (r_digest (E := z.E) hR hI)) (by decide +kernel) (by decide +kernel) (by decide +kernel) (by decide +kernel) (by decide +kernel) (by decide +kernel) (by decide) rfl (Nat.le_of_ble_eq_true rfl) (by omega) (by omega) dL_law_1426 rfl (fun r9 Mr2 hp => ?_)
  obtain ⟨rfl, -, hR2⟩ := hp
  refine ls_lcmp G rfl dL_law_1429 ?_
  refine ls_if_eq G 1435 dL_law_1430 (by decide) (fun _ => ?_) (fun q => absurd rfl q)
  exact LWK.back (by omega) (by omega) (h _ _ _ _ hC hR2)
theorem law_case (G : LG z) (hC : CI Mc g) (hR : SimR Mr g 0) (hk : k + 4 < z.L) (hcA : cA + 21 ≤ 601024) (hsA : sA + 460 ≤ 7293034) (h : KN z k cA sA) : LWK z cA sA Mc Mr f (ll z k) [] 32 := by
  refine ls_aload_n G dL_law_32 rfl ?_
  refine ls_iload G dL_law_33 rfl ?_
  refine ls_sld (k := k) G rfl (by omega) dL_law_35 ?_
  refine ls_bipush (v := 31) G dL_law_36 (by decide) ?_
  refine ls_iand G dL_law_38 ?_
  generalize z.xs k &&& 31 = x
  by_cases hr : x.toInt < 0 ∨ 20 < x.toInt
  · exact ls_tableOut G 1435 dL_law_39 hr (by decide) (LWK.back (by omega) (by omega) (h _ _ _ _ hC hR))
  have h1 : ¬ x.toInt < 0 := fun q => hr (Or.inl q)
  have h2 : ¬ 20 < x.toInt := fun q => hr (Or.inr q)
  have key : x.toInt = 0 ∨ x.toInt = 1 ∨ x.toInt = 2 ∨ x.toInt = 3 ∨ x.toInt = 4 ∨ x.toInt = 5 ∨ x.toInt = 6 ∨ x.toInt = 7 ∨ x.toInt = 8 ∨ x.toInt = 9 ∨ x.toInt = 10 ∨ x.toInt = 11 ∨ x.toInt = 12 ∨ x.toInt = 13 ∨ x.toInt = 14 ∨ x.toInt = 15 ∨ x.toInt = 16 ∨ x.toInt = 17 ∨ x.toInt = 18 ∨ x.toInt = 19 ∨ x.toInt = 20 := by omega
  rcases key with q | q | q | q | q | q | q | q | q | q | q | q | q | q | q | q | q | q | q | q | q
  · exact ls_tableIn (off := 97) G 136 dL_law_39 h1 h2 (by rw [q]; rfl) (by decide) (k_addBooth G hC hR hk hcA hsA h)
  · exact ls_tableIn (off := 189) G 228 dL_law_39 h1 h2 (by rw [q]; rfl) (by decide) (k_addHelper G hC hR hk hcA hsA h)
  · exact ls_tableIn (off := 233) G 272 dL_law_39 h1 h2 (by rw [q]; rfl) (by decide) (k_come G hC hR hk hcA hsA h)
  · exact ls_tableIn (off := 301) G 340 dL_law_39 h1 h2 (by rw [q]; rfl) (by decide) (k_setDart G hC hR hk hcA hsA h)
  · exact ls_tableIn (off := 357) G 396 dL_law_39 h1 h2 (by rw [q]; rfl) (by decide) (k_work G hC hR hk hcA hsA h)
  · exact ls_tableIn (off := 425) G 464 dL_law_39 h1 h2 (by rw [q]; rfl) (by decide) (k_bring G hC hR hk hcA hsA h)
  · exact ls_tableIn (off := 493) G 532 dL_law_39 h1 h2 (by rw [q]; rfl) (by decide) (k_sell G hC hR hk hcA hsA h)
  · exact ls_tableIn (off := 561) G 600 dL_law_39 h1 h2 (by rw [q]; rfl) (by decide) (k_leave G hC hR hk hcA hsA h)
  · exact ls_tableIn (off := 617) G 656 dL_law_39 h1 h2 (by rw [q]; rfl) (by decide) (k_booth G hC hR hk hcA hsA h)
  · exact ls_tableIn (off := 685) G 724 dL_law_39 h1 h2 (by rw [q]; rfl) (by decide) (k_queue G hC hR hk hcA hsA h)
  · exact ls_tableIn (off := 753) G 792 dL_law_39 h1 h2 (by rw [q]; rfl) (by decide) (k_helper G hC hR hk hcA hsA h)
  · exact ls_tableIn (off := 821) G 860 dL_law_39 h1 h2 (by rw [q]; rfl) (by decide) (k_visitor G hC hR hk hcA hsA h)
  · exact ls_tableIn (off := 889) G 928 dL_law_39 h1 h2 (by rw [q]; rfl) (by decide) (k_practice G hC hR hk hcA hsA h)
  · exact ls_tableIn (off := 957) G 996 dL_law_39 h1 h2 (by rw [q]; rfl) (by decide) (k_board G hC hR hk hcA hsA h)
  · exact ls_tableIn (off := 1025) G 1064 dL_law_39 h1 h2 (by rw [q]; rfl) (by decide) (k_pass G hC hR hk hcA hsA h)
  · exact ls_tableIn (off := 1081) G 1120 dL_law_39 h1 h2 (by rw [q]; rfl) (by decide) (k_count G hC hR hk hcA hsA h)
  · exact ls_tableIn (off := 1137) G 1176 dL_law_39 h1 h2 (by rw [q]; rfl) (by decide) (k_foresee G hC hR hk hcA hsA h)
  · exact ls_tableIn (off := 1217) G 1256 dL_law_39 h1 h2 (by rw [q]; rfl) (by decide) (k_closes G hC hR hk hcA hsA h)
  · exact ls_tableIn (off := 1273) G 1312 dL_law_39 h1 h2 (by rw [q]; rfl) (by decide) (k_advise G hC hR hk hcA hsA h)
  · exact ls_tableIn (off := 1341) G 1380 dL_law_39 h1 h2 (by rw [q]; rfl) (by decide) (k_luck G hC hR hk hcA hsA h)
  · exact ls_tableIn (off := 1382) G 1421 dL_law_39 h1 h2 (by rw [q]; rfl) (by decide) (k_digest G hC hR hk hcA hsA h)
end CASES
