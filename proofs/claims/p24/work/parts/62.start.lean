/-! ===== the law's start ===== -/
theorem va_D_app {A : Nat → Prop} {w1 w2 : va_W} (h : va_D A (w1 ++ w2)) : va_D A w1 ∧ va_D A w2 ∧ ∀ x, x ∈ w1 → ∀ y, y ∈ w2 → x.1 ≠ y.1 := by
  have hl : ∀ (i : Nat) (q : Nat × va_E), w1[i]? = some q → (w1 ++ w2)[i]? = some q := fun i q hq => by rw [List.getElem?_append_left (List.getElem?_eq_some_iff.mp hq).1]; exact hq
  have hr : ∀ (i : Nat) (q : Nat × va_E), w2[i]? = some q → (w1 ++ w2)[w1.length + i]? = some q := fun i q hq => by rw [List.getElem?_append_right (by omega), Nat.add_sub_cancel_left]; exact hq
  refine ⟨⟨fun i j p q hp hq e => h.1 i j p q (hl i p hp) (hl j q hq) e, fun k q hq => h.2 k q (hl k q hq)⟩, ⟨fun i j p q hp hq e => by
    have := h.1 _ _ p q (hr i p hp) (hr j q hq) e
    omega, fun k q hq => h.2 _ q (hr k q hq)⟩, fun x hx y hy e => ?_⟩
  obtain ⟨i, hi⟩ := List.getElem?_of_mem hx
  obtain ⟨j, hj⟩ := List.getElem?_of_mem hy
  have h1 := h.1 _ _ x y (hl i x hi) (hr j y hj) e
  have h2 := (List.getElem?_eq_some_iff.mp hi).1
  omega
def adC (q5 : Nat) (ad1 ad2 : Pid → Nat) : Pid → Nat
  | (0, _, _) => q5
  | (k, 0, x) => ad1 (k, 0, x)
  | (k, _, x) => ad2 (k, 0, x)
set_option maxRecDepth 100000 in
theorem twA_eq (cy : Nat → ClassId) (q5 : Nat) (ad1 ad2 : Pid → Nat) : PW (idsF 0) ad1 (celF ad1 cy M0) = PW (idsF 0) (adC q5 ad1 ad2) (celF (adC q5 ad1 ad2) cy M0) := rfl
set_option maxRecDepth 100000 in
theorem twB_eq (cy : Nat → ClassId) (q5 : Nat) (ad1 ad2 : Pid → Nat) : PW (idsF 0) ad2 (celF ad2 cy M0) = PW (idsF 1) (adC q5 ad1 ad2) (celF (adC q5 ad1 ad2) cy M0) := rfl
theorem tw5_eq (cy : Nat → ClassId) (q5 : Nat) (ad1 ad2 : Pid → Nat) : ((q5, .inr (5, [.ref (ad1 (1, 0, 0)), .ref (ad2 (1, 0, 0))])) :: (PW (idsF 0) ad1 (celF ad1 cy M0) ++ PW (idsF 0) ad2 (celF ad2 cy M0)) : va_W) = PW idsC (adC q5 ad1 ad2) (celF (adC q5 ad1 ad2) cy M0) := by
  rw [twA_eq cy q5 ad1 ad2, twB_eq cy q5 ad1 ad2]
  unfold PW idsC
  rw [List.map_cons, List.map_append]
  rfl
theorem CI_0 : CI M0 g0 := by
  refine ⟨⟨⟨rfl, rfl, rfl, fun k _ _ => rfl⟩, fun b hb => absurd hb (Nat.not_lt_zero b), fun h hh => absurd hh (Nat.not_lt_zero h), fun v hv => absurd hv (Nat.not_lt_zero v), rfl, fun i x hx => by cases hx⟩, ⟨⟨Nat.zero_le _, Nat.zero_le _, Nat.zero_le _⟩, fun h hh => absurd hh (Nat.not_lt_zero h), fun v hv => absurd hv (Nat.not_lt_zero v), fun b hb => absurd hb (Nat.not_lt_zero b), Nat.zero_le _, fun x hx => absurd hx List.not_mem_nil, List.Pairwise.nil⟩, ⟨fun b _ _ => ⟨rfl, rfl, rfl, rfl⟩, fun h _ _ => rfl, fun v _ _ => ⟨⟨rfl, rfl, rfl, rfl, rfl⟩, fun b => rfl⟩⟩⟩
/-- what the tables say of classes and rows, as numbers -/
theorem start_K {s : State} {a : Array Value} (hts : ∀ w ∈ ALL, w.before a s = true) (hts0 : ∀ w ∈ lw_tbl, w.before a s = true) : (∃ (D : va_G) (cy : Nat → ClassId), va_K D vwCl (tysF cy) s) ∧ RN s ∧ SXw s := by
  obtain ⟨c0, i0, k0⟩ := u_known (C := RX0) (T := TX0) (N := 9) (n := 9) hts uX0 (hts (.instantiable RX0 9) (by decide +kernel))
  obtain ⟨c1, i1, k1⟩ := u_known (C := RX1) (T := TX1) (N := 4) (n := 4) hts uX1 (hts (.instantiable RX1 4) (by decide +kernel))
  obtain ⟨c2, i2, k2⟩ := u_known (C := RX2) (T := TX2) (N := 11) (n := 11) hts uX2 (hts (.instantiable RX2 11) (by decide +kernel))
  obtain ⟨c3, i3, k3⟩ := u_known (C := RX3) (T := TX3) (N := 3) (n := 3) hts uX3 (hts (.instantiable RX3 3) (by decide +kernel))
  obtain ⟨c4, i4, k4⟩ := u_known (C := RX4) (T := TX4) (N := 9) (n := 9) hts uX4 (hts (.instantiable RX4 9) (by decide +kernel))
  obtain ⟨c5, i5, k5⟩ := u_known (C := RX5) (T := TX5) (N := 2) (n := 2) hts uX5 (hts (.instantiable RX5 2) (by decide +kernel))
  obtain ⟨c6, i6, k6⟩ := u_known (C := RX6) (T := TX6) (N := 9) (n := 9) hts uX6 (hts (.instantiable RX6 9) (by decide +kernel))
  obtain ⟨c7, i7, k7⟩ := u_known (C := RX7) (T := TX7) (N := 9) (n := 9) hts uX7 (hts (.instantiable RX7 9) (by decide +kernel))
  have ha : ∃ cA, ArrOfT s cA .int ∧ va_RA s cA .int := by
    obtain ⟨cA, kA, comp, h1, h2, h3⟩ := Cond.arrayClass_spec (hts (Cond.arrayClass .int) (by decide +kernel))
    exact ⟨cA, fun N z => ⟨(fun k h => by cases h), kA, h2, comp, h3⟩, h1⟩
  have hq : ∀ C : String, va_AO C s → ∃ cA, ArrOfT s cA (.object C) ∧ va_RA s cA (.object C) := fun C hC => by
    obtain ⟨comp, cA, k, h1, h2, h3, h4, h5⟩ := Cond.arrayOver_spec hC
    exact ⟨cA, fun N z => ⟨(fun k h => by cases h), k, h3, comp, h4⟩, k, comp, h3, h4, h1, h5⟩
  have o0 : va_AO RX0 s := va_AO.of (hts0 (.arrayOver (.object RX0)) (by decide +kernel))
  have o3 : va_AO RX3 s := va_AO.of (hts0 (.arrayOver (.object RX3)) (by decide +kernel))
  have o4 : va_AO RX4 s := va_AO.of (hts0 (.arrayOver (.object RX4)) (by decide +kernel))
  have o7 : va_AO RX7 s := va_AO.of (hts0 (.arrayOver (.object RX7)) (by decide +kernel))
  have oa : va_Nw (.arrayOver (.array .int)) s := hts0 (.arrayOver (.array .int)) (by decide +kernel)
  obtain ⟨a0, b0⟩ := ha
  obtain ⟨a1, b1⟩ := hq RX0 o0
  obtain ⟨a2, b2⟩ := hq RX3 o3
  obtain ⟨a3, b3⟩ := hq RX4 o4
  obtain ⟨a4, b4⟩ := hq RX7 o7
  obtain ⟨a5, b5⟩ : ∃ cA, ArrOfT s cA (.array .int) ∧ va_RA s cA (.array .int) := by
    obtain ⟨comp, c, k, h1, h2, h3, h4, h5⟩ := arrayOverA_spec oa
    exact ⟨c, fun N z => ⟨(fun k h => by cases h), k, h3, comp, h4⟩, h5⟩
  refine ⟨⟨(fun c => match c with | 0 => c0 | 1 => c1 | 2 => c2 | 3 => c3 | 4 => c4 | 5 => c5 | 6 => c6 | _ => c7, fun c => match c with | 0 => i0 | 1 => i1 | 2 => i2 | 3 => i3 | 4 => i4 | 5 => i5 | 6 => i6 | _ => i7), fun k => match k with | 0 => a0 | 1 => a1 | 2 => a2 | 3 => a3 | 4 => a4 | _ => a5, fun c q hq => ?_, fun k q hq => ?_⟩, ⟨o0, o3, o4, fun q hq => va_Nw.of rfl (hts0 _ ((show ∀ q, q ∈ nests → Cond.methodLinkNest RX2 q.1 q.2 RX5 ∈ lw_tbl by decide +kernel) q hq))⟩, o7, oa, fun q hq => va_Nw.of rfl (hts0 _ ((show ∀ q, q ∈ snest → Cond.methodLinkNest q.1 q.2.1 q.2.2 RL ∈ lw_tbl by decide +kernel) q hq))⟩
  · match c, hq with
    | 0, hq => cases hq; exact k0
    | 1, hq => cases hq; exact k1
    | 2, hq => cases hq; exact k2
    | 3, hq => cases hq; exact k3
    | 4, hq => cases hq; exact k4
    | 5, hq => cases hq; exact k5
    | 6, hq => cases hq; exact k6
    | 7, hq => cases hq; exact k7
    | c + 8, hq => cases hq
  · match k, hq with
    | 0, hq => cases hq; exact b0
    | 1, hq => cases hq; exact b1
    | 2, hq => cases hq; exact b2
    | 3, hq => cases hq; exact b3
    | 4, hq => cases hq; exact b4
    | 5, hq => cases hq; exact b5
    | k + 6, hq => cases hq
theorem setC_0 {E : EX} {M : Mem} {a : Nat} {i : Pid} {e : va_E} (h : setC E (fun _ => none) M a = some (i, e)) : i ∈ idsC ∧ E.ad i = a ∧ e = E.cel M i := by
  unfold setC at h
  cases hf : idsC.find? (fun i => decide (E.ad i = a)) with
  | none => rw [hf] at h; cases h
  | some j =>
    rw [hf] at h
    cases h
    exact ⟨List.mem_of_find?_eq_some hf, (by have h0 := List.find?_some hf; simpa using h0), rfl⟩
theorem whole_start {p : Program} {e : Env} {s : State} {m : MethodId} {below : List Frame} {meth : Method} {c : Code} (l : Launch) (hflags : l.flags = flags0) {b L : Nat} {xs : Nat → Int32} (hL : L ≤ 260) (C0 : lw_At p s m meth c b L xs) : W p l e room_1 s m #[Value.ref b] below meth c s.heap [] 0 0 (lw_Z below #[Value.ref b] s) (entryFrame m ([Value.ref b] : List Value).toArray 34) := by
  obtain ⟨hx, hb, hr, hml, hown, hts0, hX, hbl, hlk, hgv⟩ := id C0
  have hts : ∀ w ∈ ALL, w.before #[Value.ref b] s = true := fun w hw => hts0 w (List.mem_filter.mp hw).1
  obtain ⟨⟨D, cy, hK⟩, hRN, hSw⟩ := start_K hts hts0
  refine W.base ?_
  have hl := lv_entry ([.ref b]) (n := 34) (Nat.le_of_ble_eq_true rfl)
  rw [lg_entry_eq]
  generalize (lg_sl ([.ref b]) ++ List.replicate (34 - (lg_sl ([.ref b])).length) Slot.unset).toArray = ls at hl ⊢
  have hLV : LV ls 34 (some (.ref b) :: List.replicate 33 none) := by
    refine ⟨_, hl, rfl, fun i v hi => ?_⟩
    rcases i with _ | i
    · cases hi; exact List.mem_cons_self
    · rw [List.getElem?_cons_succ] at hi
      have h9 := List.mem_of_getElem? hi
      exact absurd (List.eq_of_mem_replicate h9) (by simp)
  obtain ⟨κ, hκ⟩ : ∃ κ : KX, κ = ((p, ((l, D, (fun _ => 0), cy, (b, L, xs)) : EX), e, room_1, s.setDrawn s.drawn), (m, #[Value.ref b], below, meth, c), lw_Z below #[Value.ref b] s, Rg ((l, D, (fun _ => 0), cy, (b, L, xs)) : EX) [] s.heap.size, (0, 0)) := ⟨_, rfl⟩
  have G : Good κ [] cL_law 34 RL 7 164 := by
    subst hκ
    exact ⟨hx, hb, hml, hown, fun w hw => dr_words hts s.drawn w hw, va_K.moved (U := s.setDrawn s.drawn) (Vm.Alike.refl s.vm) hK, fun i hi => absurd hi List.not_mem_nil, List.nodup_nil, rfl, hlk, by show 7 ≤ 11; decide, by show 164 ≤ 402; decide, Nat.zero_le _, Nat.zero_le _⟩
  have hA9 : ∀ q, κ.s.heap.size ≤ q → (fun q : Nat => s.heap.size ≤ q) q := by
    subst hκ
    exact fun q hq => hq
  have hRN2 : RN κ.s := by
    subst hκ
    exact RN.warm (s := s) (U := s.setDrawn s.drawn) (State.WarmedH.refl s) hRN
  have hRc : κ.R.cells = 600104 := by rw [hκ]; rfl
  have hRs : κ.R.slots = 7301314 := by rw [hκ]; rfl
  have walk : VT κ [] (fun q : Nat => s.heap.size ≤ q) [] 0 0 34 M00 (some (.ref b) :: List.replicate 33 none) [] 0 := by
    refine tn_new (T := TX5) (fs := [.null, .null]) (ci := 5) G hA9 uX5 tyX5 tyX5_ok (by decide +kernel) (by decide +kernel) (by decide +kernel) rfl (by decide) (by rw [hRc]; decide) (by rw [hRs]; decide) dL_law_0 (fun q5 => ?_)
    refine tt_dup G dL_law_3 rfl ?_
    refine tn_init G hA9 hRN2 (n5 κ.E q5) (by decide +kernel) (by decide +kernel) (by decide +kernel) (by decide +kernel) (by decide +kernel) rfl (by decide) (by rw [hRc]; decide) (by rw [hRs]; decide) (Nat.le_of_ble_eq_true rfl) dL_law_4 (fun tw2 htw => ?_)
    obtain ⟨ad1, ad2, rfl⟩ := htw
    refine tt_astore_n G dL_law_7 (by decide) rfl ?_
    intro H locs ls hP hD hS hl
    subst hκ
    obtain ⟨E1, hE1⟩ : ∃ E1 : EX, E1 = (l, D, adC q5 ad1 ad2, cy, (b, L, xs)) := ⟨_, rfl⟩
    have hP2 : va_P D vwCl (PW idsC E1.ad (E1.cel M0)) H := by
      rw [hE1]
      show va_P D vwCl (PW idsC (adC q5 ad1 ad2) (celF (adC q5 ad1 ad2) cy M0)) H
      rw [← tw5_eq cy q5 ad1 ad2]
      exact hP
    have hD2 : va_D (fun q : Nat => s.heap.size ≤ q) (PW idsC E1.ad (E1.cel M0)) := by
      rw [hE1]
      show va_D (fun q : Nat => s.heap.size ≤ q) (PW idsC (adC q5 ad1 ad2) (celF (adC q5 ad1 ad2) cy M0))
      rw [← tw5_eq cy q5 ad1 ad2]
      exact hD
    obtain ⟨m1, m2⟩ := PW_in hD2
    obtain ⟨κ1, hκ1⟩ : ∃ κ1 : KX, κ1 = ((p, E1, e, room_1, s.setDrawn s.drawn), (m, #[Value.ref b], below, meth, c), lw_Z below #[Value.ref b] s, (fun q : Nat => s.heap.size ≤ q), (0, 0)) := ⟨_, rfl⟩
    have hHd : Hd κ1.E.D κ1.A (setC κ1.E (fun _ => none) M0) H := by
      subst hκ1
      intro a i e9 h9
      obtain ⟨h1, h2, h3⟩ := setC_0 h9
      have hm : ((E1.ad i, E1.cel M0 i) : Nat × va_E) ∈ PW idsC E1.ad (E1.cel M0) := List.mem_map.mpr ⟨i, h1, rfl⟩
      obtain ⟨k, hk⟩ := List.getElem?_of_mem hm
      rw [h3, ← h2]
      refine ⟨m1 i h1, ?_⟩
      have h8 := hP2 k _ hk
      subst hE1
      exact h8
    have G1 : Gd κ1 cL_law 34 RL 7 164 := by
      subst hκ1
      refine ⟨hx, hb, hml, hown, fun w hw => dr_words hts s.drawn w hw, ?_, hlk, by show 7 ≤ 11; decide, by show 164 ≤ 402; decide, fun q hq => hq, ?_⟩
      · subst hE1
        exact va_K.moved (U := s.setDrawn s.drawn) (Vm.Alike.refl s.vm) hK
      · refine SX.moved (A := (fun q : Nat => s.heap.size ≤ q)) (s := s) (U := s.setDrawn s.drawn) (H := s.heap) (locs := []) ⟨hSw, ?_, m2⟩ va_S.rf rfl (State.WarmedH.refl s) (fun q h => h)
        subst hE1
        exact ⟨hX, hbl, Nat.not_le.mpr hbl, hL⟩
    have hRc1 : κ1.R.cells = 600104 := by rw [hκ1]; rfl
    have hRs1 : κ1.R.slots = 7301314 := by rw [hκ1]; rfl
    have m3 : Inj κ1.E idsC := by rw [hκ1]; exact m2
    have hgo := p_law (κ := κ1) (σ := setC κ1.E (fun _ => none) M0) (M := M0) (cN := 200) (dN := 1300) G1 (by rw [hRc1]; decide) (by rw [hRs1]; decide) (setC_cls m3) CI_0 (fun σ l9 => HV.wid (c2 := 600104) (d2 := 7301314) (by decide) (by decide) (by
      subst hκ1
      exact fun H locs ls hP hS hl => by
        subst hE1
        exact va_forget (s := s.setDrawn s.drawn) (fun q hq => hS.2.2 q hq) (lw_ret (Drawn.sameBut.refl s.drawn lw_cs) hx hb hr hlk dL_law_1482)))
    subst hκ1 hE1
    exact (HV.wid (c2 := 200) (d2 := 1300) (by decide) (by decide) hgo) H locs ls hHd hS hl
  have fin := walk s.heap [] ls (fun k q hq => (by cases hq)) ⟨fun i j p q hp _ _ => (by cases hp), fun k q hq => (by cases hq)⟩ (by subst hκ; exact va_S.rf) hLV
  subst hκ
  exact fin
