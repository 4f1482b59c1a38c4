/-! ===== the reference looks ahead ===== -/
theorem KS.of {E : EX} {as : Nat → Nat} {K : Nat} {cA : ClassId} {N M : Mem} {H : Heap} {sz : Nat} (hP : va_P E.D vwCl (PW idsR E.ad (E.cel M) ++ KWd E as K cA N) H) (hD : va_D (Rg E idsR sz) (PW idsR E.ad (E.cel M) ++ KWd E as K cA N)) : KS E as K cA N H ∧ ∀ (j : Nat) (q : Nat × va_E), (KWd E as K cA N)[j]? = some q → sz ≤ q.1 := by
  have at7 : ∀ (i : Nat) (q : Nat × va_E), (KWd E as K cA N)[i]? = some q → (PW idsR E.ad (E.cel M) ++ KWd E as K cA N)[7 + i]? = some q := fun i q hq => by
    have hi7 : i < 7 := (List.getElem?_eq_some_iff.mp hq).1
    match i, hi7, hq with
    | 0, _, hq => exact hq
    | 1, _, hq => exact hq
    | 2, _, hq => exact hq
    | 3, _, hq => exact hq
    | 4, _, hq => exact hq
    | 5, _, hq => exact hq
    | 6, _, hq => exact hq
    | i + 7, h, _ => omega
  have hno : ∀ (j : Nat) (q : Nat × va_E), (KWd E as K cA N)[j]? = some q → ∀ i, i ∈ idsR → q.1 ≠ E.ad i := fun j q hq i hi e => by
    obtain ⟨k0, h1, -⟩ := PWt_get E.ad (E.cel M) (KWd E as K cA N) idsR_nd hi
    have hk0 : k0 < 7 := by
      obtain ⟨k1, h2, -⟩ := PW_get E.ad (E.cel M) idsR_nd hi
      have hl : k1 < 7 := (List.getElem?_eq_some_iff.mp h2).1
      have h3 : (PW idsR E.ad (E.cel M) ++ KWd E as K cA N)[k1]? = some (E.ad i, E.cel M i) := by rw [List.getElem?_append_left (List.getElem?_eq_some_iff.mp h2).1]; exact h2
      have := hD.1 k0 k1 _ _ h1 h3 rfl
      omega
    have := hD.1 k0 (7 + j) _ _ h1 (at7 j q hq) e.symm
    omega
  refine ⟨⟨fun i q hq => hP _ q (at7 i q hq), fun i j p q hp hq e => ?_, fun j q hq => ⟨(hP _ q (at7 j q hq)).lt, hno j q hq⟩⟩, fun j q hq => ?_⟩
  · have := hD.1 (7 + i) (7 + j) p q (at7 i p hp) (at7 j q hq) e
    omega
  · rcases hD.2 _ q (at7 j q hq) with ⟨i, hi, e⟩ | h
    · exact absurd e (hno j q hq i hi)
    · exact h
theorem SimR.back {N M' : Mem} {g : GS} (h : SimR N g 0) (hI : Inv g) (h14 : M' (14, 0, 0) = N (14, 0, 0)) (hb : backd N M') : SimR M' g 0 := by
  have hb8 := hI.nb8
  have hh12 := hI.nh12
  have hv16 := hI.nv16
  have hl3 := hI.bd3
  obtain ⟨b1, b2, b3, b4, b5, b6⟩ := hb
  refine h.of rfl (fun k _ => by rw [h14]) (fun b hb => ⟨fun k hk => ?_, ?_, ?_⟩) (fun a ha k hk => ?_) (fun v hv => ?_) (fun v hv b hb => ?_) (fun b hb i u hu => ?_) (fun l x hx => ?_) ?_
  · rw [b1 _ (by omega)]; exact h.bo hb hk
  · rw [b1 _ (by omega)]; exact h.b4 hb
  · rw [b1 _ (by omega)]; exact h.b5 hb
  · rw [b2 _ (by omega)]; exact h.he ha hk
  · rw [b3 _ (by omega), b3 _ (by omega), b3 _ (by omega), b3 _ (by omega), b3 _ (by omega), b3 _ (by omega), b3 _ (by omega), b3 _ (by omega)]
    exact h.2.2.2.1 v hv
  · rw [b4 _ (by omega)]; exact h.2.2.2.2.1 v hv b hb
  · have := ((hI.qm hb).mp (List.mem_of_getElem? hu)).1
    rw [b3 _ (by omega)]; exact h.pl hb hu
  · have := (List.getElem?_eq_some_iff.mp hx).1
    rw [b5 _ (by omega), b5 _ (by omega), b5 _ (by omega)]; exact h.bde hx
  · rw [b6 _ (by decide), b6 _ (by decide), b6 _ (by decide), b6 _ (by decide), b6 _ (by decide)]; exact h.2.2.2.2.2.2.2
section KB
variable {κ : KX} {cc : ByteArray} {nL fr lo : Nat} {M N : Mem} {l : LSt} {st rest : List Value} {pc c d mc ms k n z : Nat} {P : Option Value → Mem → Prop} {as : Nat → Nat} {K : Nat} {cA : ClassId}
theorem callB_K {ids : List Pid} {own : String} {index n fr2 lo2 mc2 ms2 maxL : Nat} {y : MethodName} {bytes : ByteArray} {rt : Option FieldType} (G : Good κ ids cc nL own fr lo) (hm : Cond.methodLink own index y ∈ ALL) (hm4 : Cond.initialized y.cls ∈ ALL) (hm5 : Cond.code y bytes maxL rt ∈ ALL) (hy : y.cls ≠ "java/lang/invoke/MethodHandle" ∧ y.cls ≠ "java/lang/invoke/VarHandle" ∧ (parseMethodDescriptor y.desc).map (fun d => d.parameters.length) = some n) (hr : fr2 + 1 ≤ fr ∧ 8 + (maxL + 11) + lo2 ≤ lo) :
    CallB κ.R κ.s κ.args own index y bytes maxL rt (Cond.code y bytes maxL rt :: ALL) { frames := fr2, cells := mc2, slots := ms2, locals := lo2 } mc2 ms2 n := by
  refine ⟨rfl, rfl, Nat.le_trans hr.1 G.hfr, Nat.le_trans hr.2 G.hlo, fun w hw a' U hW => ?_, List.mem_cons_self, G.hw _ hm5, G.hw _ hm4, ⟨hy.1, hy.2.1⟩, fun sig h => ?_, G.hw _ hm⟩
  · rcases List.mem_cons.mp hw with h | h
    · subst h
      exact ALL_warm G.hw _ hm5 a' U hW
    · exact ALL_warm G.hw _ h a' U hW
  · have h2 := hy.2.2
    rw [h] at h2
    exact (Option.some.inj h2).symm
theorem RQ.calling {U : State} {g : JFrame} {mk : MethodId} {a : Array Value} (h : RQ U) : RQ (U.calling g mk a) := RQ.same (s := U) rfl h
theorem s_kept (G : Good κ idsR cc nL RX6 fr lo) (E9 : EndsK κ idsR P z mc ms) (hr : 1 + 1 ≤ fr ∧ 8 + (1 + 11) + 17 ≤ lo) (hc : 7 + k ≤ mc) (hs : 376 + n ≤ ms) (hw : (rest.map fun v => v.category).sum ≤ 8) (dg : decode cc pc = .ok (.invokevirtual 154, 3)) (h : ∀ (κ2 : KX) (K : Nat) (as : Nat → Nat) (cA : ClassId), κ2.E = κ.E → κ2.meth = κ.meth → Good κ2 idsR cc nL RX6 fr lo → EndsK κ2 idsR P z k n → AA κ2.E cA κ2.s → KS κ2.E as K cA M κ2.s.heap → (∀ (j : Nat) (q : Nat × va_E), (KWd κ2.E as K cA M)[j]? = some q → z ≤ q.1) → V κ2 idsR nL M l (.ref K :: rest) (pc + 3)) : V κ idsR nL M l (.ref (κ.E.ad (14, 0, 0)) :: rest) pc := by
  intro H locs ls hP hS hl
  obtain ⟨hQ, hn0, hRc, hRs, hRQ, hz9⟩ := E9
  obtain ⟨q0, h1, -⟩ := PW_get κ.E.ad (κ.E.cel M) G.hnd mR14
  have hls : ls.size = nL := by obtain ⟨lv, h1, -⟩ := hl; exact h1.1
  have hrun := va_runV (e := κ.e) (below := κ.below) (meth := κ.meth) (C := RX6) (b := κ.E.ad (14, 0, 0)) (As := []) (rest := rest) (cells := κ.n.1) (slots := κ.n.2) (locs := locs) ⟨G.hx, G.hb, G.hml, G.hown, G.hw⟩ (r_kept κ.E M H.size) ⟨callB_K (n := 0) G (by decide +kernel) (by decide +kernel) (by decide +kernel) (by decide +kernel) hr, G.hw _ (by decide +kernel), G.hw _ (by decide +kernel)⟩ ⟨fun a U g mk q => by
      obtain ⟨q0, q1, ⟨qP, qK, qI⟩, qR⟩ := q
      exact ⟨q0, q1, ⟨qP, va_K.moved (u := U) (U := U.calling g mk a) (Vm.Alike.refl U.vm) qK, qI⟩, qR.calling⟩, va_recv G.hK hP (ci := 6) (q0 := q0) rfl (h1.trans rfl), fun U hU hW => ⟨rfl, by rw [hU], ⟨by rw [hU]; exact hP, va_K.moved hW.alike G.hK, G.hinj⟩, hRQ.warm hW⟩⟩ rfl rfl hls rfl (lv_room hw) dg (g := F0 κ.m pc ls (.ref (κ.E.ad (14, 0, 0)) :: rest)) ⟨by rw [hn0]; show 0 + 7 ≤ _; omega, by rw [hn0]; show 0 + 376 ≤ _; omega⟩
  intro T hT X
  obtain ⟨v, st₀, t, T', L, h0, X', hL, e1, e2, ⟨⟨K, as, cA, hv, hAA, hP2, hD2⟩, hF⟩, st9⟩ := hrun T hT X
  cases hv
  have hzH : z ≤ H.size := Nat.le_trans hz9 hS.1
  obtain ⟨k1, k2, k3⟩ := vx_keep (A0 := Rg κ.E idsR z) h0 e1 (hS.wide (G.wide hz9)) (fun q _ hq => Rg.mono hzH q hq) (fun q hq => Rg.mono hzH q hq) hL hF
  rw [← e1] at hP2
  have hks := KS.of hP2 hD2
  have hP3 : va_P κ.E.D vwCl (PW idsR κ.E.ad (κ.E.cel M)) T'.heap := fun i q hq => hP2 i q (by
    rw [List.getElem?_append_left (List.getElem?_eq_some_iff.mp hq).1]; exact hq)
  have hW := V.rebase (c := 7) (d := 376) (k := k) (n := n) (st := .ref K :: rest) (pc := pc + 3) G ⟨hQ, hn0, hRc, hRs, hRQ, hz9⟩ hc hs hP3 k3 hl (fun κ2 a1 a2 a3 a4 a5 a6 => h κ2 K as cA a1 a2 a3 a4 (by
    rw [a1]
    refine AA.moved (u := t) ?_ hAA
    rw [a6, ← e2]
    exact X'.warmed.alike.symm) (by rw [a1, a5]; exact hks.1) (fun j q hq => by rw [a1] at hq; exact Nat.le_trans hzH (hks.2 j q hq)))
  rw [hn0] at X'
  obtain ⟨t2, a1, b1⟩ := hW T' rfl X'
  exact ⟨t2, st9 t2 a1, b1⟩
theorem s_back (G : Good κ idsR cc nL RX6 fr lo) (E9 : EndsK κ idsR P z mc ms) (hAA : AA κ.E cA κ.s) (hKS : KS κ.E as K cA N κ.s.heap) (hz : ∀ (j : Nat) (q : Nat × va_E), (KWd κ.E as K cA N)[j]? = some q → z ≤ q.1) (hr : 1 + 1 ≤ fr ∧ 8 + (4 + 11) + 40 ≤ lo) (hc : 1 + k ≤ mc) (hs : 6 + n ≤ ms) (hw : (rest.map fun v => v.category).sum ≤ 8) (dg : decode cc pc = .ok (.invokevirtual 158, 3)) (h : ∀ (κ2 : KX) (M' : Mem), κ2.E = κ.E → κ2.meth = κ.meth → Good κ2 idsR cc nL RX6 fr lo → EndsK κ2 idsR P z k n → AA κ2.E cA κ2.s → KS κ2.E as K cA N κ2.s.heap → (∀ (j : Nat) (q : Nat × va_E), (KWd κ2.E as K cA N)[j]? = some q → z ≤ q.1) → M' (14, 0, 0) = M (14, 0, 0) → backd N M' → V κ2 idsR nL M' l rest (pc + 3)) : V κ idsR nL M l (.ref K :: .ref (κ.E.ad (14, 0, 0)) :: rest) pc := by
  intro H locs ls hP hS hl
  obtain ⟨hQ, hn0, hRc, hRs, hRQ, hz9⟩ := E9
  obtain ⟨q0, h1, -⟩ := PW_get κ.E.ad (κ.E.cel M) G.hnd mR14
  have hls : ls.size = nL := by obtain ⟨lv, h1, -⟩ := hl; exact h1.1
  have hKH : KS κ.E as K cA N H := hKS.kept hS.1 (fun q h1 h2 => hS.2.1 q h1 (by rw [G.hA]; exact h2))
  have hrun := va_runV (e := κ.e) (below := κ.below) (meth := κ.meth) (C := RX6) (b := κ.E.ad (14, 0, 0)) (As := [.ref K]) (rest := rest) (cells := κ.n.1) (slots := κ.n.2) (locs := locs) ⟨G.hx, G.hb, G.hml, G.hown, G.hw⟩ (r_back κ.E as K cA N M H.size) ⟨callB_K (n := 1) G (by decide +kernel) (by decide +kernel) (by decide +kernel) (by decide +kernel) hr, G.hw _ (by decide +kernel), G.hw _ (by decide +kernel)⟩ ⟨fun a U g mk q => by
      obtain ⟨q0, q1, ⟨qP, qK, qI⟩, qR, qS, qA⟩ := q
      exact ⟨q0, q1, ⟨qP, va_K.moved (u := U) (U := U.calling g mk a) (Vm.Alike.refl U.vm) qK, qI⟩, qR.calling, qS, qA.moved (U := U.calling g mk a) (Vm.Alike.refl U.vm)⟩, va_recv G.hK hP (ci := 6) (q0 := q0) rfl (h1.trans rfl), fun U hU hW => ⟨rfl, by rw [hU], ⟨by rw [hU]; exact hP, va_K.moved hW.alike G.hK, G.hinj⟩, hRQ.warm hW, by rw [hU]; exact hKH, hAA.moved hW.alike⟩⟩ rfl rfl hls rfl (lv_room hw) dg (g := F0 κ.m pc ls (.ref K :: .ref (κ.E.ad (14, 0, 0)) :: rest)) ⟨by rw [hn0]; show 0 + 1 ≤ _; omega, by rw [hn0]; show 0 + 6 ≤ _; omega⟩
  intro T hT X
  obtain ⟨v, st₀, t, T', L, h0, X', hL, e1, e2, ⟨⟨v2, M', hv, ⟨rfl, h14, hbk⟩, hWP, hWK, -⟩, hKS2, hF⟩, st9⟩ := hrun T hT X
  cases hv
  have hzH : z ≤ H.size := Nat.le_trans hz9 hS.1
  have hBA : ∀ q, BA κ.E as K cA N H.size q → Rg κ.E idsR z q := fun q hq => by
    rcases hq with hq | ⟨j, y, hq⟩
    · exact Rg.mono hzH q hq
    · exact Or.inr (hz j _ hq)
  obtain ⟨k1, k2, k3⟩ := vx_keep (A0 := Rg κ.E idsR z) h0 e1 (hS.wide (G.wide hz9)) (fun q _ hq => hBA q hq) (fun q hq => hBA q hq) hL hF
  rw [← e1] at hWP hKS2
  have hW := V.rebase (c := 1) (d := 6) (k := k) (n := n) (st := rest) (pc := pc + 3) (M := M') G ⟨hQ, hn0, hRc, hRs, hRQ, hz9⟩ hc hs hWP k3 hl (fun κ2 a1 a2 a3 a4 a5 a6 => h κ2 M' a1 a2 a3 a4 (by
    rw [a1]
    refine AA.moved (u := κ.s) ?_ hAA
    rw [a6]
    exact Vm.Alike.refl _) (by rw [a1, a5]; exact hKS2) (fun j q hq => by rw [a1] at hq; exact hz j q hq) h14 hbk)
  rw [hn0] at X'
  obtain ⟨t2, a1, b1⟩ := hW T' rfl X'
  exact ⟨t2, st9 t2 a1, b1⟩
end KB
theorem clsN_0 {g : GS} {b : Nat} : ∀ n k, k + n = 101 → (∀ j, j < k → opn (rounds9 g j) b) → clsN g b 0 101 = clsN g b k n := by
  intro n k
  induction k generalizing n with
  | zero => intro h _; rw [show n = 101 by omega]
  | succ k ih =>
    intro h ho
    rw [ih (n + 1) (by omega) (fun j hj => ho j (by omega)), clsN, if_pos (ho k (by omega))]
/-- the prizes that rounds win -/
theorem won_serve1 {g : GS} {b : Nat} : ∃ m : Nat, m ≤ 1 ∧ (serve1 g b).i 1 0 10 = g.i 1 0 10 + nI m := by
  unfold serve1
  split
  · exact ⟨0, by decide, by rw [show nI 0 = (0 : Int32) from rfl, Int32.add_zero]⟩
  · rename_i v Q _
    simp only
    have h0 : (leaveQ g v).i 1 0 10 = g.i 1 0 10 := lv_i (by omega)
    split
    · unfold play9
      simp only
      split
      · exact ⟨1, by decide, by rw [gi_set, if_pos ⟨rfl, rfl, rfl⟩, h0]; rfl⟩
      · exact ⟨0, by decide, by simp only [gi_set, gi_setbd]; simp [h0]; rfl⟩
    · exact ⟨0, by decide, by rw [h0, show nI 0 = (0 : Int32) from rfl, Int32.add_zero]⟩
theorem won_serveN {b : Nat} : ∀ (n : Nat) (g : GS), ∃ m : Nat, m ≤ n ∧ (serveN g b n).i 1 0 10 = g.i 1 0 10 + nI m
  | 0, g => ⟨0, Nat.le_refl 0, by rw [show nI 0 = (0 : Int32) from rfl, Int32.add_zero]; rfl⟩
  | n + 1, g => by
    obtain ⟨m1, h1, e1⟩ := won_serve1 (g := g) (b := b)
    obtain ⟨m2, h2, e2⟩ := won_serveN (b := b) n (serve1 g b)
    exact ⟨m1 + m2, by omega, by rw [serveN, e2, e1, Int32.add_assoc, nI_add]⟩
theorem won_servesN {g : GS} (hI : Inv g) : ∀ n, n ≤ g.nb → ∃ m : Nat, m ≤ 12 * n ∧ (servesN g n).i 1 0 10 = g.i 1 0 10 + nI m
  | 0, _ => ⟨0, Nat.le_refl 0, by rw [show nI 0 = (0 : Int32) from rfl, Int32.add_zero]; rfl⟩
  | n + 1, h => by
    obtain ⟨m1, h1, e1⟩ := won_servesN hI n (by omega)
    have hIs := hI.servesN n (by omega)
    have hw := wk_le hIs n
    rw [servesN, serve9]
    split
    · obtain ⟨m2, h2, e2⟩ := won_serveN (b := n) (wk (servesN g n) n) (servesN g n)
      exact ⟨m1 + m2, by omega, by rw [e2, e1, Int32.add_assoc, nI_add]⟩
    · exact ⟨m1, by omega, e1⟩
theorem won_round {g : GS} (hI : Inv g) : ∃ m : Nat, m ≤ 96 ∧ (round9 g).i 1 0 10 = g.i 1 0 10 + nI m := by
  obtain ⟨m, h, e⟩ := won_servesN hI.r2 (rnd2 g).nb (Nat.le_refl _)
  have := hI.r2.nb8
  exact ⟨m, by omega, by rw [round_eq, gi_set, if_neg (by omega), won_rnd5]; exact e.trans (by rw [won_rnd2])⟩
theorem won_rounds {g : GS} (hI : Inv g) : ∀ n, ∃ m : Nat, m ≤ 96 * n ∧ (rounds9 g n).i 1 0 10 = g.i 1 0 10 + nI m
  | 0 => ⟨0, Nat.le_refl 0, by rw [show nI 0 = (0 : Int32) from rfl, Int32.add_zero]; rfl⟩
  | n + 1 => by
    obtain ⟨m1, h1, e1⟩ := won_rounds hI n
    obtain ⟨m2, h2, e2⟩ := won_round (hI.rounds n)
    exact ⟨m1 + m2, by omega, by rw [rounds9, e2, e1, Int32.add_assoc, nI_add]⟩
section RL
variable {E : EX} {N : Mem} {g g' : GS} {w : Int32}
theorem e_foresee (hS : SimR N g 0) (hI : Inv g) (v n x : Int32) : RetK E idsR yX6_foresee cX6_foresee 6 (some .int) 6 136 8 382 [.ref (E.ad (14, 0, 0)), .int v, .int n, .int x] N (RPost (spForesee g v n x)) := by
  have hb8 := hI.nb8
  have hh12 := hI.nh12
  have hv16 := hI.nv16
  have hb31 : g.nb < 2 ^ 31 := by omega
  have hh31 : g.nh < 2 ^ 31 := by omega
  have hv31 : g.nv < 2 ^ 31 := by omega
  refine RetK_of_V RX6 (by decide) rfl idsR_nd [some (.ref (E.ad (14, 0, 0))), some (.int v), some (.int n), some (.int x), none, none] rfl (Nat.le_of_ble_eq_true rfl) (fun κ hE G E9 hr => ?_)
  subst hE
  refine s_aload_n G dX6_foresee_0 rfl ?_
  refine s_iconst (v := 0) G dX6_foresee_1 (by decide) ?_
  refine pX6_28 G dX6_foresee_2 ?_
  refine V.abs (fun M1 hM1 => ?_)
  have hS1 : SimR M1 g 0 := by rw [hM1]; exact hS.thr
  have hz : M1 (14, 0, 0) 0 = 0 := by rw [hM1, up_at, if_pos rfl]
  clear hM1
  refine s_aload_n G dX6_foresee_5 rfl ?_
  refine s_iload_n G dX6_foresee_6 rfl ?_
  refine iX6_77 G (r_isVisitor (n := g.nv) hS1.nv (by omega) v) (by decide) (Nat.le_of_ble_eq_true rfl) dX6_foresee_7 (fun r9 M9 hp9 => ?_)
  obtain ⟨rfl, ⟨v1, hv1, rfl, rfl⟩ | ⟨hno, rfl⟩⟩ := hp9
  rotate_left
  · refine s_if_eq G 22 dX6_foresee_10 (by decide) (fun h10 => ?_) (fun h10 => ?_)
    rotate_left
    · exact absurd rfl h10
    refine s_aload_n G dX6_foresee_22 rfl ?_
    refine s_iconst (v := 1) G dX6_foresee_23 (by decide) ?_
    refine iX6_45 G (r_fail 1) (by decide) (Nat.le_of_ble_eq_true rfl) dX6_foresee_24 (fun r9 M9 hp9 => ?_)
    obtain ⟨rfl, rfl⟩ := hp9
    refine sk_iret G E9 hr dX6_foresee_27 (rp_fail (k := 1) (by unfold spForesee; rw [ix_out hv31 hno]) (by decide) rfl hS1)
  have hv9 : v1 < 16 := by omega
  refine s_if_eq G 22 dX6_foresee_10 (by decide) (fun h10 => ?_) (fun h10 => ?_)
  · exact absurd h10 (by decide)
  refine s_iload_n G dX6_foresee_13 rfl ?_
  refine s_iconst (v := 0) G dX6_foresee_14 (by decide) ?_
  refine s_iconst (v := 2) G dX6_foresee_15 (by decide) ?_
  refine iX6_35 G (r_isIn x 0 2) (by decide) (Nat.le_of_ble_eq_true rfl) dX6_foresee_16 (fun r9 M9 hp9 => ?_)
  obtain ⟨rfl, ⟨hin, rfl⟩ | ⟨hin, rfl⟩⟩ := hp9
  rotate_left
  · refine s_if_ne G 28 dX6_foresee_19 (by decide) (fun h19 => ?_) (fun h19 => ?_)
    · exact absurd rfl h19
    refine s_aload_n G dX6_foresee_22 rfl ?_
    refine s_iconst (v := 1) G dX6_foresee_23 (by decide) ?_
    refine iX6_45 G (r_fail 1) (by decide) (Nat.le_of_ble_eq_true rfl) dX6_foresee_24 (fun r9 M9 hp9 => ?_)
    obtain ⟨rfl, rfl⟩ := hp9
    refine sk_iret G E9 hr dX6_foresee_27 (rp_fail (k := 1) (by unfold spForesee; rw [ix_in hv1 hv31, ix_out (n := 3) (by decide) ((inR_pred (n := 3) (by decide) x (by decide)).2 hin)]) (by decide) rfl hS1)
  obtain ⟨k, hk, rfl⟩ := (inR_pred (n := 3) (by decide) x (by decide)).1 hin
  have hs : spForesee g (nI v1) n (nI k) = if ¬ inR n 1 100 then (2, 0, g) else (0, ffc (rounds9 g n.toNatClampNeg) v1 k, g) := by
    unfold spForesee
    rw [ix_in hv1 hv31, ix_in hk (by decide)]
  refine s_if_ne G 28 dX6_foresee_19 (by decide) (fun h19 => ?_) (fun h19 => ?_)
  rotate_left
  · exact absurd h19 (by decide)
  refine s_iload_n G dX6_foresee_28 rfl ?_
  refine s_iconst (v := 1) G dX6_foresee_29 (by decide) ?_
  refine s_bipush (v := 100) G dX6_foresee_30 (by decide) ?_
  refine iX6_35 G (r_isIn n 1 100) (by decide) (Nat.le_of_ble_eq_true rfl) dX6_foresee_32 (fun r9 M9 hp9 => ?_)
  obtain ⟨rfl, ⟨r1, rfl⟩ | ⟨r1, rfl⟩⟩ := hp9
  rotate_left
  · refine s_if_ne G 44 dX6_foresee_35 (by decide) (fun h35 => ?_) (fun h35 => ?_)
    · exact absurd rfl h35
    refine s_aload_n G dX6_foresee_38 rfl ?_
    refine s_iconst (v := 2) G dX6_foresee_39 (by decide) ?_
    refine iX6_45 G (r_fail 2) (by decide) (Nat.le_of_ble_eq_true rfl) dX6_foresee_40 (fun r9 M9 hp9 => ?_)
    obtain ⟨rfl, rfl⟩ := hp9
    refine sk_iret G E9 hr dX6_foresee_43 (rp_fail (k := 2) (by rw [hs, if_pos r1]) (by decide) rfl hS1)
  refine s_if_ne G 44 dX6_foresee_35 (by decide) (fun h35 => ?_) (fun h35 => ?_)
  rotate_left
  · exact absurd h35 (by decide)
  rw [if_neg (fun q => q r1)] at hs
  obtain ⟨m, hm1, hm2, rfl, hm4⟩ := inR_nat (n := 100) (by decide) r1
  rw [hm4] at hs
  refine s_aload_n G dX6_foresee_44 rfl ?_
  refine s_kept (k := 1) (n := 6) G E9 (by decide) (by decide) (by decide) (Nat.le_of_ble_eq_true rfl) dX6_foresee_45 (fun κ2 K as cA hE2 hm2 G2 E92 hAA hKS hz9 => ?_)
  have hr2 : κ2.meth.sig.returnType = some .int := by rw [hm2]; exact hr
  generalize κ.s.heap.size = z9 at E92 hz9
  revert hr2
  rw [← hE2]
  clear hE2 hm2 G hr E9
  intro hr
  have G := G2
  have E9 := E92
  refine s_astore G dX6_foresee_48 (by decide) rfl ?_
  refine s_aload_n G dX6_foresee_50 rfl ?_
  refine s_iload_n G dX6_foresee_51 rfl ?_
  refine iX6_140 G (r_roundsOn (k := m) hS1 hI (by omega)) (by decide) (Nat.le_of_ble_eq_true rfl) dX6_foresee_52 (fun r9 M9 hp9 => ?_)
  obtain ⟨rfl, hS2, hF2⟩ := hp9
  rename Mem => M2
  have hI2 := hI.rounds m
  have hv2 : v1 < (rounds9 g m).nv := by rw [nv_of (rounds_n m)]; exact hv1
  refine s_pop G dX6_foresee_55 rfl ?_
  refine s_aload_n G dX6_foresee_56 rfl ?_
  refine s_iload_n G dX6_foresee_57 rfl ?_
  refine s_iload_n G dX6_foresee_58 rfl ?_
  have tail : ∀ x9 : Int32, x9 = ffc (rounds9 g m) v1 k → V κ2 idsR 6 M2 [some (.ref (κ2.E.ad (14, 0, 0))), some (.int (nI v1)), some (.int (nI m)), some (.int (nI k)), some (.ref K), none] [.int x9] 80 := by
    rintro x9 rfl
    refine s_istore G dX6_foresee_80 (by decide) rfl ?_
    refine s_aload_n G dX6_foresee_82 rfl ?_
    refine s_aload G dX6_foresee_83 rfl ?_
    refine s_back (k := 0) (n := 0) G E9 hAA hKS hz9 (by decide) (by decide) (by decide) (Nat.le_of_ble_eq_true rfl) dX6_foresee_85 (fun κ3 M' hE3 hm3 G3 E93 _ _ _ h14 hbk => ?_)
    have hr3 : κ3.meth.sig.returnType = some .int := by rw [hm3]; exact hr
    have h14' : M' (14, 0, 0) = M1 (14, 0, 0) := h14.trans hF2
    have hS3 := hS1.back hI h14' hbk
    clear hE3 hm3 G hr E9
    have hr := hr3
    have G := G3
    have E9 := E93
    refine s_iload G dX6_foresee_88 rfl ?_
    refine sk_iret G E9 hr dX6_foresee_90 (rp_ok hs (by rw [h14']; exact hz) hS3)
  match k, hk with
  | 0, _ =>
    refine s_if_ne G 66 dX6_foresee_59 (by decide) (fun h59 => ?_) (fun h59 => ?_)
    · exact absurd (show nI 0 = 0 from rfl) h59
    refine s_iconst (v := 5) G dX6_foresee_62 (by decide) ?_
    refine s_goto G 77 dX6_foresee_63 (by decide) ?_
    refine iX6_80 G (r_vi (k := 5) hv9 (by decide)) (by decide) (Nat.le_of_ble_eq_true rfl) dX6_foresee_77 (fun r9 M9 hp9 => ?_)
    obtain ⟨rfl, rfl⟩ := hp9
    rw [hS2.v5 hv2]
    exact tail _ rfl
  | 1, _ =>
    refine s_if_ne G 66 dX6_foresee_59 (by decide) (fun h59 => ?_) (fun h59 => ?_)
    rotate_left
    · exact absurd h59 (by decide)
    refine s_iload_n G dX6_foresee_66 rfl ?_
    refine s_iconst (v := 1) G dX6_foresee_67 (by decide) ?_
    refine s_icmp_ne G 75 dX6_foresee_68 (by decide) (fun h68 => ?_) (fun h68 => ?_)
    · exact absurd (show nI 1 = 1 from rfl) h68
    refine s_iconst (v := 0) G dX6_foresee_71 (by decide) ?_
    refine s_goto G 77 dX6_foresee_72 (by decide) ?_
    refine iX6_80 G (r_vi (k := 0) hv9 (by decide)) (by decide) (Nat.le_of_ble_eq_true rfl) dX6_foresee_77 (fun r9 M9 hp9 => ?_)
    obtain ⟨rfl, rfl⟩ := hp9
    rw [hS2.v0 hv2]
    exact tail _ rfl
  | 2, _ =>
    refine s_if_ne G 66 dX6_foresee_59 (by decide) (fun h59 => ?_) (fun h59 => ?_)
    rotate_left
    · exact absurd h59 (by decide)
    refine s_iload_n G dX6_foresee_66 rfl ?_
    refine s_iconst (v := 1) G dX6_foresee_67 (by decide) ?_
    refine s_icmp_ne G 75 dX6_foresee_68 (by decide) (fun h68 => ?_) (fun h68 => ?_)
    rotate_left
    · exact absurd h68 (by decide)
    refine s_bipush (v := 6) G dX6_foresee_75 (by decide) ?_
    refine iX6_80 G (r_vi (k := 6) hv9 (by decide)) (by decide) (Nat.le_of_ble_eq_true rfl) dX6_foresee_77 (fun r9 M9 hp9 => ?_)
    obtain ⟨rfl, rfl⟩ := hp9
    rw [hS2.v6 hv2]
    exact tail _ rfl
  | k + 3, h => omega
theorem e_closes (hS : SimR N g 0) (hI : Inv g) (b : Int32) : RetK E idsR yX6_closes cX6_closes 4 (some .int) 5 113 8 382 [.ref (E.ad (14, 0, 0)), .int b] N (RPost (spCloses g b)) := by
  have hb8 := hI.nb8
  have hh12 := hI.nh12
  have hv16 := hI.nv16
  have hb31 : g.nb < 2 ^ 31 := by omega
  have hh31 : g.nh < 2 ^ 31 := by omega
  have hv31 : g.nv < 2 ^ 31 := by omega
  refine RetK_of_V RX6 (by decide) rfl idsR_nd [some (.ref (E.ad (14, 0, 0))), some (.int b), none, none] rfl (Nat.le_of_ble_eq_true rfl) (fun κ hE G E9 hr => ?_)
  subst hE
  refine s_aload_n G dX6_closes_0 rfl ?_
  refine s_iconst (v := 0) G dX6_closes_1 (by decide) ?_
  refine pX6_28 G dX6_closes_2 ?_
  refine V.abs (fun M1 hM1 => ?_)
  have hS1 : SimR M1 g 0 := by rw [hM1]; exact hS.thr
  have hz : M1 (14, 0, 0) 0 = 0 := by rw [hM1, up_at, if_pos rfl]
  clear hM1
  refine s_aload_n G dX6_closes_5 rfl ?_
  refine s_iload_n G dX6_closes_6 rfl ?_
  refine iX6_60 G (r_isBooth (n := g.nb) hS1.nb (by omega) b) (by decide) (Nat.le_of_ble_eq_true rfl) dX6_closes_7 (fun r9 M9 hp9 => ?_)
  obtain ⟨rfl, ⟨b1, hb1, rfl, rfl⟩ | ⟨hno, rfl⟩⟩ := hp9
  rotate_left
  · refine s_if_ne G 19 dX6_closes_10 (by decide) (fun h10 => ?_) (fun h10 => ?_)
    · exact absurd rfl h10
    refine s_aload_n G dX6_closes_13 rfl ?_
    refine s_iconst (v := 1) G dX6_closes_14 (by decide) ?_
    refine iX6_45 G (r_fail 1) (by decide) (Nat.le_of_ble_eq_true rfl) dX6_closes_15 (fun r9 M9 hp9 => ?_)
    obtain ⟨rfl, rfl⟩ := hp9
    refine sk_iret G E9 hr dX6_closes_18 (rp_fail (k := 1) (by unfold spCloses; rw [ix_out hb31 hno]) (by decide) rfl hS1)
  refine s_if_ne G 19 dX6_closes_10 (by decide) (fun h10 => ?_) (fun h10 => ?_)
  rotate_left
  · exact absurd h10 (by decide)
  have hs : spCloses g (nI b1) = (0, clsN g b1 0 101, g) := by
    unfold spCloses
    rw [ix_in hb1 hb31]
  refine s_aload_n G dX6_closes_19 rfl ?_
  refine s_kept (k := 1) (n := 6) G E9 (by decide) (by decide) (by decide) (Nat.le_of_ble_eq_true rfl) dX6_closes_20 (fun κ2 K as cA hE2 hm2 G2 E92 hAA hKS hz9 => ?_)
  have hr2 : κ2.meth.sig.returnType = some .int := by rw [hm2]; exact hr
  generalize κ.s.heap.size = z9 at E92 hz9
  revert hr2
  rw [← hE2]
  clear hE2 hm2 G hr E9
  intro hr
  have G := G2
  have E9 := E92
  have tail : ∀ (M2 : Mem) (x9 : Int32), M2 (14, 0, 0) = M1 (14, 0, 0) → x9 = clsN g b1 0 101 → V κ2 idsR 4 M2 [some (.ref (κ2.E.ad (14, 0, 0))), some (.int (nI b1)), some (.ref K), some (.int x9)] [] 61 := by
    rintro M2 x9 hF2 rfl
    refine s_aload_n G dX6_closes_61 rfl ?_
    refine s_aload_n G dX6_closes_62 rfl ?_
    refine s_back (k := 0) (n := 0) G E9 hAA hKS hz9 (by decide) (by decide) (by decide) (Nat.le_of_ble_eq_true rfl) dX6_closes_63 (fun κ3 M' hE3 hm3 G3 E93 _ _ _ h14 hbk => ?_)
    have hr3 : κ3.meth.sig.returnType = some .int := by rw [hm3]; exact hr
    have h14' : M' (14, 0, 0) = M1 (14, 0, 0) := h14.trans hF2
    have hS3 := hS1.back hI h14' hbk
    clear hE3 hm3 G hr E9
    have hr := hr3
    have G := G3
    have E9 := E93
    refine s_iload_n G dX6_closes_66 rfl ?_
    refine sk_iret G E9 hr dX6_closes_67 (rp_ok hs (by rw [h14']; exact hz) hS3)
  have loop : ∀ n k, k + n = 100 → ∀ M2 : Mem, SimR M2 (rounds9 g k) 0 → M2 (14, 0, 0) = M1 (14, 0, 0) → (∀ j, j < k → opn (rounds9 g j) b1) → V κ2 idsR 4 M2 [some (.ref (κ2.E.ad (14, 0, 0))), some (.int (nI b1)), some (.ref K), some (.int (nI k))] [] 26 := by
    intro n
    induction n with
    | zero =>
      intro k hk M2 hS2 hF2 ho
      have hk : k = 100 := by omega
      subst hk
      have hI2 := hI.rounds 100
      have hb2 : b1 < (rounds9 g 100).nb := by rw [nb_of (rounds_n 100)]; exact hb1
      refine s_iload_n G dX6_closes_26 rfl ?_
      refine s_bipush (v := 100) G dX6_closes_27 (by decide) ?_
      refine s_icmp_ge G 51 dX6_closes_29 (by decide) (fun h29 => ?_) (fun h29 => ?_)
      rotate_left
      · exact absurd (by decide) h29
      refine s_aload_n G dX6_closes_51 rfl ?_
      refine s_iload_n G dX6_closes_52 rfl ?_
      refine iX6_96 G (r_isOpen hS2 hI2 hb2) (by decide) (Nat.le_of_ble_eq_true rfl) dX6_closes_53 (fun r9 M9 hp9 => ?_)
      obtain ⟨rfl, rfl⟩ := hp9
      refine s_if_eq G 61 dX6_closes_56 (by decide) (fun h56 => ?_) (fun h56 => ?_)
      · have hop : ¬ opn (rounds9 g 100) b1 := fun q => by rw [if_pos q] at h56; exact absurd h56 (by decide)
        exact tail _ _ hF2 (by rw [clsN_0 1 100 rfl ho, clsN, if_neg hop])
      · have hop : opn (rounds9 g 100) b1 := Decidable.byContradiction (fun q => h56 (by rw [if_neg q]))
        refine s_iconst (v := -1) G dX6_closes_59 (by decide) ?_
        refine s_istore_n G dX6_closes_60 (by decide) rfl ?_
        exact tail _ _ hF2 (by rw [clsN_0 1 100 rfl ho, clsN, if_pos hop, clsN])
    | succ n ih =>
      intro k hk M2 hS2 hF2 ho
      have hI2 := hI.rounds k
      have hb2 : b1 < (rounds9 g k).nb := by rw [nb_of (rounds_n k)]; exact hb1
      refine s_iload_n G dX6_closes_26 rfl ?_
      refine s_bipush (v := 100) G dX6_closes_27 (by decide) ?_
      refine s_icmp_ge G 51 dX6_closes_29 (by decide) (fun h29 => ?_) (fun h29 => ?_)
      · exact absurd h29 (nI_ge (a := k) (b := 100) (by omega) (by decide))
      refine s_aload_n G dX6_closes_32 rfl ?_
      refine s_iload_n G dX6_closes_33 rfl ?_
      refine iX6_96 G (r_isOpen hS2 hI2 hb2) (by decide) (Nat.le_of_ble_eq_true rfl) dX6_closes_34 (fun r9 M9 hp9 => ?_)
      obtain ⟨rfl, rfl⟩ := hp9
      refine s_if_eq G 51 dX6_closes_37 (by decide) (fun h37 => ?_) (fun h37 => ?_)
      · have hop : ¬ opn (rounds9 g k) b1 := fun q => by rw [if_pos q] at h37; exact absurd h37 (by decide)
        refine s_aload_n G dX6_closes_51 rfl ?_
        refine s_iload_n G dX6_closes_52 rfl ?_
        refine iX6_96 G (r_isOpen hS2 hI2 hb2) (by decide) (Nat.le_of_ble_eq_true rfl) dX6_closes_53 (fun r9 M9 hp9 => ?_)
        obtain ⟨rfl, rfl⟩ := hp9
        refine s_if_eq G 61 dX6_closes_56 (by decide) (fun h56 => ?_) (fun h56 => ?_)
        · exact tail _ _ hF2 (by rw [clsN_0 (n + 2) k (by omega) ho, clsN, if_neg hop])
        · exact absurd (by rw [if_neg hop]) h56
      · have hop : opn (rounds9 g k) b1 := Decidable.byContradiction (fun q => h37 (by rw [if_neg q]))
        refine s_aload_n G dX6_closes_40 rfl ?_
        refine iX6_136 G (r_roundOn hS2 hI2) (by decide) (Nat.le_of_ble_eq_true rfl) dX6_closes_41 (fun r9 M9 hp9 => ?_)
        obtain ⟨d9, rfl, -, hS3, hF3⟩ := hp9
        refine s_pop G dX6_closes_44 rfl ?_
        refine s_iinc G dX6_closes_45 rfl (by decide) rfl (nI_1 k) ?_
        refine s_goto G 26 dX6_closes_48 (by decide) ?_
        exact ih (k + 1) (by omega) _ hS3 (hF3.trans hF2) (fun j hj => by
          by_cases q : j = k
          · rw [q]; exact hop
          · exact ho j (by omega))
  refine s_astore_n G dX6_closes_23 (by decide) rfl ?_
  refine s_iconst (v := 0) G dX6_closes_24 (by decide) ?_
  refine s_istore_n G dX6_closes_25 (by decide) rfl ?_
  exact loop 100 0 (by decide) M1 hS1 rfl (fun j hj => by omega)
theorem e_advise (hS : SimR N g 0) (hI : Inv g) (h n : Int32) : RetK E idsR yX6_advise cX6_advise 8 (some .int) 6 136 16 430 [.ref (E.ad (14, 0, 0)), .int h, .int n] N (RPost (spAdvise g h n)) := by
  have hb8 := hI.nb8
  have hh12 := hI.nh12
  have hv16 := hI.nv16
  have hb31 : g.nb < 2 ^ 31 := by omega
  have hh31 : g.nh < 2 ^ 31 := by omega
  have hv31 : g.nv < 2 ^ 31 := by omega
  refine RetK_of_V RX6 (by decide) rfl idsR_nd [some (.ref (E.ad (14, 0, 0))), some (.int h), some (.int n), none, none, none, none, none] rfl (Nat.le_of_ble_eq_true rfl) (fun κ hE G E9 hr => ?_)
  subst hE
  refine s_aload_n G dX6_advise_0 rfl ?_
  refine s_iconst (v := 0) G dX6_advise_1 (by decide) ?_
  refine pX6_28 G dX6_advise_2 ?_
  refine V.abs (fun M1 hM1 => ?_)
  have hS1 : SimR M1 g 0 := by rw [hM1]; exact hS.thr
  have hz : M1 (14, 0, 0) 0 = 0 := by rw [hM1, up_at, if_pos rfl]
  clear hM1
  refine s_aload_n G dX6_advise_5 rfl ?_
  refine s_iload_n G dX6_advise_6 rfl ?_
  refine iX6_56 G (r_isHelper (n := g.nh) hS1.nh (by omega) h) (by decide) (Nat.le_of_ble_eq_true rfl) dX6_advise_7 (fun r9 M9 hp9 => ?_)
  obtain ⟨rfl, ⟨h1, hh1, rfl, rfl⟩ | ⟨hno, rfl⟩⟩ := hp9
  rotate_left
  · refine s_if_ne G 19 dX6_advise_10 (by decide) (fun h10 => ?_) (fun h10 => ?_)
    · exact absurd rfl h10
    refine s_aload_n G dX6_advise_13 rfl ?_
    refine s_iconst (v := 1) G dX6_advise_14 (by decide) ?_
    refine iX6_45 G (r_fail 1) (by decide) (Nat.le_of_ble_eq_true rfl) dX6_advise_15 (fun r9 M9 hp9 => ?_)
    obtain ⟨rfl, rfl⟩ := hp9
    refine sk_iret G E9 hr dX6_advise_18 (rp_fail (k := 1) (by unfold spAdvise; rw [ix_out hh31 hno]) (by decide) rfl hS1)
  have hh9 : h1 < 12 := by omega
  refine s_if_ne G 19 dX6_advise_10 (by decide) (fun h10 => ?_) (fun h10 => ?_)
  rotate_left
  · exact absurd h10 (by decide)
  refine s_iload_n G dX6_advise_19 rfl ?_
  refine s_iconst (v := 1) G dX6_advise_20 (by decide) ?_
  refine s_bipush (v := 60) G dX6_advise_21 (by decide) ?_
  refine iX6_35 G (r_isIn n 1 60) (by decide) (Nat.le_of_ble_eq_true rfl) dX6_advise_23 (fun r9 M9 hp9 => ?_)
  obtain ⟨rfl, ⟨r1, rfl⟩ | ⟨r1, rfl⟩⟩ := hp9
  rotate_left
  · refine s_if_ne G 35 dX6_advise_26 (by decide) (fun h26 => ?_) (fun h26 => ?_)
    · exact absurd rfl h26
    refine s_aload_n G dX6_advise_29 rfl ?_
    refine s_iconst (v := 2) G dX6_advise_30 (by decide) ?_
    refine iX6_45 G (r_fail 2) (by decide) (Nat.le_of_ble_eq_true rfl) dX6_advise_31 (fun r9 M9 hp9 => ?_)
    obtain ⟨rfl, rfl⟩ := hp9
    refine sk_iret G E9 hr dX6_advise_34 (rp_fail (k := 2) (by unfold spAdvise; rw [ix_in hh1 hh31]; simp only; rw [if_pos r1]) (by decide) rfl hS1)
  refine s_if_ne G 35 dX6_advise_26 (by decide) (fun h26 => ?_) (fun h26 => ?_)
  rotate_left
  · exact absurd h26 (by decide)
  obtain ⟨m, hm1, hm2, rfl, hm4⟩ := inR_nat (n := 60) (by decide) r1
  have hs : spAdvise g (nI h1) (nI m) = (0, (advN g h1 m g.nb).1, g) := by
    unfold spAdvise
    rw [ix_in hh1 hh31]
    simp only
    rw [if_neg (fun q => q r1), hm4]
  refine s_aload_n G dX6_advise_35 rfl ?_
  refine s_kept (k := g.nb + 1) (n := 6 * (g.nb + 1)) G E9 (by decide) (by omega) (by omega) (Nat.le_of_ble_eq_true rfl) dX6_advise_36 (fun κ2 K as cA hE2 hm2 G2 E92 hAA hKS hz9 => ?_)
  have hr2 : κ2.meth.sig.returnType = some .int := by rw [hm2]; exact hr
  generalize κ.s.heap.size = z9 at E92 hz9
  revert hr2
  rw [← hE2]
  clear hE2 hm2 G hr E9
  intro hr
  have G := G2
  have E9 := E92
  have hlim : ∀ x : Int32, (x = -1 ∨ ∃ b, b < g.nb ∧ x = nI b) → Inv (g.set 3 h1 1 x) := fun x hx => hI.send hx
  obtain ⟨E0, hE0⟩ : ∃ E0, E0 = κ2.E := ⟨_, rfl⟩
  have fin : ∀ (κ : KX), κ.E = E0 → Good κ idsR cX6_advise 8 RX6 6 136 → EndsK κ idsR (RPost (spAdvise g (nI h1) (nI m))) z9 0 0 → κ.meth.sig.returnType = some .int → ∀ M2 : Mem, SimR M2 g 0 → M2 (14, 0, 0) = M1 (14, 0, 0) → ∀ (x7 : Option Value) (mo : Int32), V κ idsR 8 M2 [some (.ref (E0.ad (14, 0, 0))), some (.int (nI h1)), some (.int (nI m)), some (.ref K), some (.int (advN g h1 m g.nb).1), some (.int mo), some (.int (nI g.nb)), x7] [] 49 := by
    intro κ hE G E9 hr M2 hS2 hF2 x7 mo
    subst hE
    refine s_iload G dX6_advise_49 rfl ?_
    refine s_aload_n G dX6_advise_51 rfl ?_
    refine gX6_32 G dX6_advise_52 ?_
    rw [hS2.nb]
    refine s_icmp_ge G 102 dX6_advise_55 (by decide) (fun h55 => ?_) (fun h55 => ?_)
    rotate_left
    · exact absurd (Int32.le_refl _) h55
    refine s_iload G dX6_advise_102 rfl ?_
    refine sk_iret G E9 hr dX6_advise_104 (rp_ok hs (by rw [hF2]; exact hz) hS2)
  -- a turn: h1 at x, the prizes that are won so; back
  have turn : ∀ (k : Nat) (x : Int32) (_ : x = -1 ∨ ∃ b, b < g.nb ∧ x = nI b) (κ : KX), κ.E = E0 → Good κ idsR cX6_advise 8 RX6 6 136 → EndsK κ idsR (RPost (spAdvise g (nI h1) (nI m))) z9 (k + 1) (6 * (k + 1)) → κ.meth.sig.returnType = some .int → AA κ.E cA κ.s → KS κ.E as K cA M1 κ.s.heap → (∀ (j : Nat) (q : Nat × va_E), (KWd κ.E as K cA M1)[j]? = some q → z9 ≤ q.1) → ∀ M2 : Mem, SimR M2 g 0 → M2 (14, 0, 0) = M1 (14, 0, 0) → ∀ be mo : Int32, (∀ (κ3 : KX) (M3 : Mem), κ3.E = E0 → Good κ3 idsR cX6_advise 8 RX6 6 136 → EndsK κ3 idsR (RPost (spAdvise g (nI h1) (nI m))) z9 k (6 * k) → κ3.meth.sig.returnType = some .int → AA κ3.E cA κ3.s → KS κ3.E as K cA M1 κ3.s.heap → (∀ (j : Nat) (q : Nat × va_E), (KWd κ3.E as K cA M1)[j]? = some q → z9 ≤ q.1) → SimR M3 g 0 → M3 (14, 0, 0) = M1 (14, 0, 0) → V κ3 idsR 8 M3 [some (.ref (E0.ad (14, 0, 0))), some (.int (nI h1)), some (.int (nI m)), some (.ref K), some (.int (if mo < wonW g h1 x m then x else be)), some (.int (if mo < wonW g h1 x m then wonW g h1 x m else mo)), some (.int x), none] [] 96) → V κ idsR 8 M2 [some (.ref (E0.ad (14, 0, 0))), some (.int (nI h1)), some (.int (nI m)), some (.ref K), some (.int be), some (.int mo), some (.int x), none] [] 58 := by
    intro k x hx κ hE G E9 hr hAA hKS hz9 M2 hS2 hF2 be mo next
    subst hE
    have hIx := hlim x hx
    refine s_aload_n G dX6_advise_58 rfl ?_
    refine s_iload_n G dX6_advise_59 rfl ?_
    refine s_iconst (v := 1) G dX6_advise_60 (by decide) ?_
    refine s_iload G dX6_advise_61 rfl ?_
    refine iX6_67 G (r_setHe (k := 1) hh9 (by decide) x) (by decide) (Nat.le_of_ble_eq_true rfl) dX6_advise_63 (fun r9 M9 hp9 => ?_)
    obtain ⟨rfl, rfl⟩ := hp9
    refine V.abs (fun M3 hM3 => ?_)
    have hS3 : SimR M3 (g.set 3 h1 1 x) 0 := by rw [hM3]; exact hS2.sh (by decide)
    have hF3 : M3 (14, 0, 0) = M1 (14, 0, 0) := by rw [hM3, up_ne (by simp)]; exact hF2
    clear hM3
    refine s_aload_n G dX6_advise_66 rfl ?_
    refine s_iload_n G dX6_advise_67 rfl ?_
    refine iX6_140 G (r_roundsOn (k := m) hS3 hIx (by omega)) (by decide) (Nat.le_of_ble_eq_true rfl) dX6_advise_68 (fun r9 M9 hp9 => ?_)
    obtain ⟨rfl, hS4, hF4⟩ := hp9
    rename Mem => M4
    rw [show (rounds9 (g.set 3 h1 1 x) m).i 1 0 10 - (g.set 3 h1 1 x).i 1 0 10 = wonW g h1 x m from rfl]
    refine s_istore G dX6_advise_71 (by decide) rfl ?_
    refine s_aload_n G dX6_advise_73 rfl ?_
    refine s_aload_n G dX6_advise_74 rfl ?_
    refine s_back (k := k) (n := 6 * k) G E9 hAA hKS hz9 (by decide) (by omega) (by omega) (Nat.le_of_ble_eq_true rfl) dX6_advise_75 (fun κ3 M' hE3 hm3 G3 E93 hAA3 hKS3 hz93 h14 hbk => ?_)
    have hr3 : κ3.meth.sig.returnType = some .int := by rw [hm3]; exact hr
    have h14' : M' (14, 0, 0) = M1 (14, 0, 0) := h14.trans (hF4.trans hF3)
    have hS5 := hS1.back hI h14' hbk
    have nx := next κ3 M' hE3 G3 E93 hr3 hAA3 hKS3 hz93 hS5 h14'
    rw [← hE3] at nx ⊢
    clear hE3 hm3 G hr E9 next
    have hr := hr3
    have G := G3
    have E9 := E93
    refine s_iload G dX6_advise_78 rfl ?_
    refine s_iload G dX6_advise_80 rfl ?_
    refine s_icmp_gt G 88 dX6_advise_82 (by decide) (fun h82 => ?_) (fun h82 => ?_)
    · rw [if_pos h82, if_pos h82] at nx
      refine s_iload G dX6_advise_88 rfl ?_
      refine s_istore G dX6_advise_90 (by decide) rfl ?_
      refine s_iload G dX6_advise_92 rfl ?_
      refine s_istore G dX6_advise_94 (by decide) rfl ?_
      refine V.drop1 7 ?_
      exact nx
    · rw [if_neg h82, if_neg h82] at nx
      refine s_goto G 96 dX6_advise_85 (by decide) ?_
      refine V.drop1 7 ?_
      exact nx
  have loop : ∀ k b, b + k = g.nb → ∀ (κ : KX), κ.E = E0 → Good κ idsR cX6_advise 8 RX6 6 136 → EndsK κ idsR (RPost (spAdvise g (nI h1) (nI m))) z9 k (6 * k) → κ.meth.sig.returnType = some .int → AA κ.E cA κ.s → KS κ.E as K cA M1 κ.s.heap → (∀ (j : Nat) (q : Nat × va_E), (KWd κ.E as K cA M1)[j]? = some q → z9 ≤ q.1) → ∀ M2 : Mem, SimR M2 g 0 → M2 (14, 0, 0) = M1 (14, 0, 0) → V κ idsR 8 M2 [some (.ref (E0.ad (14, 0, 0))), some (.int (nI h1)), some (.int (nI m)), some (.ref K), some (.int (advN g h1 m b).1), some (.int (advN g h1 m b).2), some (.int (nI b)), none] [] 49 := by
    intro k
    induction k with
    | zero =>
      intro b hb κ hE G E9 hr _ _ _ M2 hS2 hF2
      have hb : b = g.nb := by omega
      subst hb
      exact fin κ hE G E9 hr M2 hS2 hF2 none _
    | succ k ih =>
      intro b hb κ hE G E9 hr hAA hKS hz9 M2 hS2 hF2
      have hbn : b < g.nb := by omega
      have hE' := hE
      subst hE
      refine s_iload G dX6_advise_49 rfl ?_
      refine s_aload_n G dX6_advise_51 rfl ?_
      refine gX6_32 G dX6_advise_52 ?_
      rw [hS2.nb]
      refine s_icmp_ge G 102 dX6_advise_55 (by decide) (fun h55 => ?_) (fun h55 => ?_)
      · exact absurd h55 (nI_ge hbn hb31)
      refine turn k (nI b) (Or.inr ⟨b, hbn, rfl⟩) κ hE' G E9 hr hAA hKS hz9 M2 hS2 hF2 _ _ (fun κ3 M3 hE3 G3 E93 hr3 hAA3 hKS3 hz93 hS3 hF3 => ?_)
      have nx := ih (b + 1) (by omega) κ3 hE3 G3 E93 hr3 hAA3 hKS3 hz93 M3 hS3 hF3
      have e1 : (if (advN g h1 m b).2 < wonW g h1 (nI b) m then nI b else (advN g h1 m b).1) = (advN g h1 m (b + 1)).1 := by
        rw [advN]; split <;> rfl
      have e2 : (if (advN g h1 m b).2 < wonW g h1 (nI b) m then wonW g h1 (nI b) m else (advN g h1 m b).2) = (advN g h1 m (b + 1)).2 := by
        rw [advN]; split <;> rfl
      rw [e1, e2]
      clear G E9 hr
      have G := G3
      refine s_iinc G dX6_advise_96 rfl (by decide) rfl (nI_1 b) ?_
      refine s_goto G 49 dX6_advise_99 (by decide) ?_
      exact nx
  have hpos : (-1 : Int32) < wonW g h1 (-1) m := by
    obtain ⟨q, hq, e⟩ := won_rounds (hlim (-1) (Or.inl rfl)) m
    have e2 : wonW g h1 (-1) m = nI q := by
      show (rounds9 (g.set 3 h1 1 (-1)) m).i 1 0 10 - (g.set 3 h1 1 (-1)).i 1 0 10 = nI q
      rw [e, Int32.add_comm, Int32.add_sub_cancel]
    rw [e2, Int32.lt_iff_toInt_lt, nI_toInt (by omega)]
    have : ((-1 : Int32).toInt) = -1 := by decide
    omega
  refine s_astore_n G dX6_advise_39 (by decide) rfl ?_
  refine s_iconst (v := -1) G dX6_advise_40 (by decide) ?_
  refine s_istore G dX6_advise_41 (by decide) rfl ?_
  refine s_iconst (v := -1) G dX6_advise_43 (by decide) ?_
  refine s_istore G dX6_advise_44 (by decide) rfl ?_
  refine s_iconst (v := -1) G dX6_advise_46 (by decide) ?_
  refine s_istore G dX6_advise_47 (by decide) rfl ?_
  refine s_iload G dX6_advise_49 rfl ?_
  refine s_aload_n G dX6_advise_51 rfl ?_
  refine gX6_32 G dX6_advise_52 ?_
  rw [hS1.nb]
  refine s_icmp_ge G 102 dX6_advise_55 (by decide) (fun h55 => ?_) (fun h55 => ?_)
  · exact absurd h55 (i_nle.mpr (by
      rw [Int32.lt_iff_toInt_lt, nI_toInt (by omega)]
      have : ((-1 : Int32).toInt) = -1 := by decide
      omega))
  rw [← hE0]
  refine turn g.nb (-1) (Or.inl rfl) κ2 hE0.symm G E9 hr hAA hKS hz9 M1 hS1 rfl (-1) (-1) (fun κ3 M3 hE3 G3 E93 hr3 hAA3 hKS3 hz93 hS3 hF3 => ?_)
  have nx := loop g.nb 0 (by omega) κ3 hE3 G3 E93 hr3 hAA3 hKS3 hz93 M3 hS3 hF3
  rw [if_pos hpos, if_pos hpos]
  clear G E9 hr
  have G := G3
  refine s_iinc G dX6_advise_96 rfl (by decide) rfl (show (-1 : Int32) + Int32.ofInt 1 = nI 0 by decide) ?_
  refine s_goto G 49 dX6_advise_99 (by decide) ?_
  exact nx
end RL
