/-! ===== calls, and how a walk gives a contract ===== -/
theorem ALL_good : ∀ w ∈ ALL, w ∈ ALL ∧ ((w.onTables && w.keeps) = true ∨ ∃ ty, w = .arrayClass ty) := fun w h => ⟨h, good_of_word (List.mem_filter.mp h).2⟩
theorem ALL_warm {args : Array Value} {s : State} (h : ∀ w ∈ ALL, w.before args s = true) : ∀ w ∈ ALL, ∀ (a' : Array Value) (U : State), s.WarmedH U.vm → w.before a' U = true := pay_in h ALL_good
theorem Rg.mono {E : EX} {ids : List Pid} {a b : Nat} (h : a ≤ b) : ∀ q, Rg E ids b q → Rg E ids a q := fun q hq => hq.elim Or.inl (fun h2 => Or.inr (Nat.le_trans h h2))
theorem PC_blind {E : EX} {ids : List Pid} {M : Mem} {sz : Nat} {av : List Value} : FrameBlind (va_Pc av (fun U => U.heap.size = sz ∧ Wd E ids M U)) := fun a U g mk q => by
  obtain ⟨q0, q1, qP, qK, qI⟩ := q
  exact ⟨q0, q1, qP, va_K.moved (u := U) (U := U.calling g mk a) (Vm.Alike.refl U.vm) qK, qI⟩
section Calls9
variable {κ : KX} {ids : List Pid} {cc : ByteArray} {nL fr lo : Nat} {own : String} {M : Mem} {l : LSt} {rest : List Value} {pc : Nat}
variable {y : MethodName} {bytes : ByteArray} {maxL fr2 lo2 n index : Nat} {rt : Option FieldType} {As stk : List Value} {P : Option Value → Mem → Prop}
theorem callB_all (G : Good κ ids cc nL own fr lo) (hm : Cond.methodLink own index y ∈ ALL) (hm4 : Cond.initialized y.cls ∈ ALL) (hm5 : Cond.code y bytes maxL rt ∈ ALL) (hy : y.cls ≠ "java/lang/invoke/MethodHandle" ∧ y.cls ≠ "java/lang/invoke/VarHandle" ∧ (parseMethodDescriptor y.desc).map (fun d => d.parameters.length) = some n) (hr : fr2 + 1 ≤ fr ∧ 8 + (maxL + 11) + lo2 ≤ lo) :
    CallB κ.R κ.s κ.args own index y bytes maxL rt (Cond.code y bytes maxL rt :: ALL) { frames := fr2, cells := 0, slots := 0, locals := lo2 } 0 0 n := by
  refine ⟨rfl, rfl, Nat.le_trans hr.1 G.hfr, Nat.le_trans hr.2 G.hlo, fun w hw a' U hW => ?_, List.mem_cons_self, G.hw _ hm5, G.hw _ hm4, ⟨hy.1, hy.2.1⟩, fun sig h => ?_, G.hw _ hm⟩
  · rcases List.mem_cons.mp hw with h | h
    · subst h
      exact ALL_warm G.hw _ hm5 a' U hW
    · exact ALL_warm G.hw _ h a' U hW
  · have h2 := hy.2.2
    rw [h] at h2
    exact (Option.some.inj h2).symm
theorem s_fin (G : Good κ ids cc nL own fr lo) {H : Heap} {locs : List Loc} {ls : Array Slot} {a : Array Value} (hP : va_P κ.E.D vwCl (PW ids κ.E.ad (κ.E.cel M)) H) (hS : va_S κ.A κ.s.heap H locs) (hl : LV ls nL l)
    (hr : va_Run κ.p κ.E.l κ.e κ.R κ.s κ.m κ.args κ.below κ.meth κ.c H locs κ.n.1 κ.n.2 0 0 (F0 κ.m pc ls stk) rest ((fun _ st oc t => (∃ (v : Option Value) (M' : Mem), oc = .returned v ∧ P v M' ∧ Wd κ.E ids M' t) ∧ va_F (Rg κ.E ids H.size) st t : Array Value → State → Outcome → State → Prop) a) (Rg κ.E ids H.size))
    (h : ∀ r M', P r M' → V κ ids nL M' l (r.toList ++ rest) (pc + 3)) : κ.Wk H locs (F0 κ.m pc ls stk) := by
  intro T hT X
  obtain ⟨v, st₀, t, T', L, h0, X', hL, e1, e2, ⟨⟨v2, M', hv, hp, hWP, hWK, -⟩, hF⟩, st9⟩ := hr T hT X
  cases hv
  have hA9 : ∀ q, Rg κ.E ids H.size q → κ.A q := fun q hq => by rw [G.hA]; exact Rg.mono hS.1 q hq
  obtain ⟨k1, k2, k3⟩ := vx_keep (A0 := κ.A) h0 e1 hS (fun q _ hq => hA9 q hq) (fun q hq => hA9 q hq) hL hF
  obtain ⟨t2, a1, b1⟩ := h v M' hp T'.heap (locs ++ L) ls (by rw [e1]; exact hWP) k3 hl T' rfl X'
  exact ⟨t2, st9 t2 a1, b1⟩
/-- a call by the receiver's class -/
theorem s_callV (G : Good κ ids cc nL own fr lo) {i : Pid} {ci N : Nat} {C : String} {T : u_T} {fs : List Value} (c : Ret κ.E ids y bytes maxL rt fr2 lo2 (.ref (κ.E.ad i) :: As) M P) (hi : i ∈ ids) (he : κ.E.cel M i = .inr (ci, fs)) (hc : vwCl[ci]? = some (C, T, N)) (hm : Cond.methodLink own index y ∈ ALL) (hm2 : Cond.instanceMethod y ∈ ALL) (hm3 : Cond.selects C y y ∈ ALL) (hm4 : Cond.initialized y.cls ∈ ALL) (hm5 : Cond.code y bytes maxL rt ∈ ALL) (hy : y.cls ≠ "java/lang/invoke/MethodHandle" ∧ y.cls ≠ "java/lang/invoke/VarHandle" ∧ (parseMethodDescriptor y.desc).map (fun d => d.parameters.length) = some n) (hr : fr2 + 1 ≤ fr ∧ 8 + (maxL + 11) + lo2 ≤ lo) (hn : As.length = n) (hw : (rest.map fun v => v.category).sum ≤ 8) (d : decode cc pc = .ok (.invokevirtual index, 3)) (hstk : stk = As.reverse ++ .ref (κ.E.ad i) :: rest) (h : ∀ r M', P r M' → V κ ids nL M' l (r.toList ++ rest) (pc + 3)) : V κ ids nL M l stk pc := by
  intro H locs ls hP hS hl
  obtain ⟨q0, h1, -⟩ := PW_get κ.E.ad (κ.E.cel M) G.hnd hi
  have hls : ls.size = nL := by obtain ⟨lv, h1, -⟩ := hl; exact h1.1
  exact s_fin (a := (Value.ref (κ.E.ad i) :: As).toArray) G hP hS hl (va_runV (C := C) (b := κ.E.ad i) (As := As) (rest := rest) ⟨G.hx, G.hb, G.hml, G.hown, G.hw⟩ (c H.size) ⟨callB_all G hm hm4 hm5 hy hr, G.hw _ hm2, G.hw _ hm3⟩ ⟨PC_blind, va_recv G.hK hP (ci := ci) (q0 := q0) hc (h1.trans (by rw [he])), fun U hU hW => ⟨rfl, by rw [hU], by rw [hU]; exact hP, va_K.moved hW.alike G.hK, G.hinj⟩⟩ rfl hn hls hstk (lv_room hw) d ⟨G.hcs, G.hss⟩) h
/-- a static call -/
theorem s_callS (G : Good κ ids cc nL own fr lo) (c : Ret κ.E ids y bytes maxL rt fr2 lo2 As M P) (hm : Cond.methodLink own index y ∈ ALL) (hm2 : Cond.static y ∈ ALL) (hm4 : Cond.initialized y.cls ∈ ALL) (hm5 : Cond.code y bytes maxL rt ∈ ALL) (hy : y.cls ≠ "java/lang/invoke/MethodHandle" ∧ y.cls ≠ "java/lang/invoke/VarHandle" ∧ (parseMethodDescriptor y.desc).map (fun d => d.parameters.length) = some n) (hr : fr2 + 1 ≤ fr ∧ 8 + (maxL + 11) + lo2 ≤ lo) (hn : As.length = n) (hw : (rest.map fun v => v.category).sum ≤ 8) (d : decode cc pc = .ok (.invokestatic index, 3)) (hstk : stk = As.reverse ++ rest) (h : ∀ r M', P r M' → V κ ids nL M' l (r.toList ++ rest) (pc + 3)) : V κ ids nL M l stk pc := by
  intro H locs ls hP hS hl
  have hls : ls.size = nL := by obtain ⟨lv, h1, -⟩ := hl; exact h1.1
  exact s_fin (a := As.toArray) G hP hS hl (va_runS (As := As) (rest := rest) ⟨G.hx, G.hb, G.hml, G.hown, G.hw⟩ (c H.size) ⟨callB_all G hm hm4 hm5 hy hr, G.hw _ hm2⟩ ⟨PC_blind, fun U hU hW => ⟨rfl, by rw [hU], by rw [hU]; exact hP, va_K.moved hW.alike G.hK, G.hinj⟩⟩ rfl hn hls hstk (lv_room hw) d ⟨G.hcs, G.hss⟩) h
end Calls9
def entA : List Value → LSt
  | [] => []
  | v :: vs => if v.category = 2 then some v :: none :: entA vs else some v :: entA vs
def entL (vs : List Value) (nL : Nat) : LSt := entA vs ++ List.replicate (nL - (entA vs).length) none
theorem entA_mem : ∀ (vs : List Value) (k i : Nat) (v : Value), (entA vs)[i]? = some (some v) → (k + i, v) ∈ lv_args k vs
  | [], k, i, v, h => by simp [entA] at h
  | w :: vs, k, i, v, h => by
    unfold entA at h
    unfold lv_args
    by_cases hc : w.category = 2
    · rw [if_pos hc] at h ⊢
      match i, h with
      | 0, h => simp at h; subst h; exact List.mem_cons_self
      | 1, h => simp at h
      | i + 2, h =>
        have := entA_mem vs (k + 2) i v (by simpa using h)
        refine List.mem_cons_of_mem _ ?_
        rw [show k + (i + 2) = k + 2 + i by omega]
        exact this
    · rw [if_neg hc] at h ⊢
      match i, h with
      | 0, h => simp at h; subst h; exact List.mem_cons_self
      | i + 1, h =>
        have := entA_mem vs (k + 1) i v (by simpa using h)
        refine List.mem_cons_of_mem _ ?_
        rw [show k + (i + 1) = k + 1 + i by omega]
        exact this
theorem entA_len : ∀ vs : List Value, (entA vs).length = (lg_sl vs).length
  | [] => rfl
  | v :: vs => by
    have ih := entA_len vs
    unfold entA
    rw [show lg_sl (v :: vs) = lg_sl [v] ++ lg_sl vs by simp [lg_sl]]
    cases v <;> simp [Value.category, lg_sl] at ih ⊢ <;> omega
theorem Ret_of_V {E : EX} {ids : List Pid} {y : MethodName} {cc : ByteArray} {nL : Nat} {rt : Option FieldType} {fr lo : Nat} {args : List Value} {M : Mem} {P : Option Value → Mem → Prop} (own : String) (hy : plainName y.cls = true) (ho : y.cls = own) (hnd : ids.Nodup) (l0 : LSt) (hl0 : entL args nL = l0) (hlen : (entA args).length ≤ nL)
    (body : ∀ κ : KX, κ.E = E → Good κ ids cc nL own fr lo → Ends κ ids P → κ.meth.sig.returnType = rt → V κ ids nL M l0 [] 0) : Ret E ids y cc nL rt fr lo args M P := by
  intro sz
  refine Met.ofW (cc := cc) (maxL := nL) (ret := rt) hy rfl ?_
  intro p e s m args9 below meth c s₁ B hml hv
  obtain ⟨rfl, hsz, hP, hK, hI⟩ := hv
  have hts := atoms_spec (ws := Cond.code y cc nL rt :: ALL) B.pre
  have hown : s.vm.findClass own = some m.cls := by rw [← ho]; exact findClass_of_methodNamed B.named
  subst hsz
  subst hl0
  have hlg : (lg_sl args).length ≤ nL := by rw [← entA_len]; exact hlen
  have hl := lv_entry args hlg
  rw [lg_entry_eq]
  generalize hls9 : (lg_sl args ++ List.replicate (nL - (lg_sl args).length) Slot.unset).toArray = ls at hl ⊢
  have hLV : LV ls nL (entL args nL) := by
    refine ⟨_, hl, ?_, fun i v hi => ?_⟩
    · simp only [entL, List.length_append, List.length_replicate]
      omega
    · simp only [entL] at hi
      by_cases hi9 : i < (entA args).length
      · rw [List.getElem?_append_left hi9] at hi
        have := entA_mem args 0 i v hi
        simpa using this
      · rw [List.getElem?_append_right (by omega)] at hi
        have := List.eq_of_mem_replicate (List.mem_of_getElem? hi)
        cases this
  have hb := body ((p, E, e, (headSpec (Cond.code y cc nL rt :: ALL) { frames := fr, cells := 0, slots := 0, locals := lo }).room, s), (m, args.toArray, below, meth, c), MQ below (fun _ st oc t => (∃ (v : Option Value) (M' : Mem), oc = .returned v ∧ P v M' ∧ Wd E ids M' t) ∧ va_F (Rg E ids s.heap.size) st t) args.toArray s 0 0 (Rg E ids s.heap.size), Rg E ids s.heap.size, (0, 0)) rfl
    ⟨B.exec, B.bytes, hml, hown, fun w hw => hts w (List.mem_cons_of_mem _ hw), hK, hI, hnd, rfl, B.notSynchronized, Nat.le_refl _, Nat.le_refl _, Nat.zero_le _, Nat.zero_le _⟩ ⟨rfl, rfl⟩ B.returns
  exact hb s.heap [] ls hP va_S.rf hLV
/-- a contract's end may say less -/
theorem Ret.weak {E : EX} {ids : List Pid} {y : MethodName} {cc : ByteArray} {nL : Nat} {rt : Option FieldType} {fr lo : Nat} {args : List Value} {M : Mem} {P P2 : Option Value → Mem → Prop} (h : Ret E ids y cc nL rt fr lo args M P) (hp : ∀ v M', P v M' → P2 v M') : Ret E ids y cc nL rt fr lo args M P2 := by
  intro sz p e ha hc hk s m args below hf h1 h2 h3
  obtain ⟨k, o, a1, a2, a3, ⟨⟨⟨v, M', b1, b2, b3⟩, b4⟩, b5⟩⟩ := h sz p e ha hc hk s m args below hf h1 h2 h3
  exact ⟨k, o, a1, a2, a3, ⟨⟨⟨v, M', b1, hp v M' b2, b3⟩, b4⟩, b5⟩⟩
