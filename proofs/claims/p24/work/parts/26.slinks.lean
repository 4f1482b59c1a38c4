/-! ===== the green of the law (Sim) in the map: its shape, its addresses, its ints (written by wip/p24/gen26.py) ===== -/
abbrev Ln : Type := Nat × Nat × Int32
abbrev WS : Type := (Pid → Nat) × (Nat → Nat) × (Nat → Nat) × List Ln × Mem
def WS.ad (ω : WS) : Pid → Nat := ω.1
def WS.nb (ω : WS) : Nat := ω.2.1 0
def WS.nh (ω : WS) : Nat := ω.2.1 1
def WS.nv (ω : WS) : Nat := ω.2.1 2
def WS.nl (ω : WS) : Nat := ω.2.1 3
def WS.ql (ω : WS) (b : Nat) : Nat := ω.2.2.1 b
def WS.bd (ω : WS) : List Ln := ω.2.2.2.1
def WS.M (ω : WS) : Mem := ω.2.2.2.2
def WS.wr (ω : WS) (i : Pid) (k : Nat) (v : Int32) : WS := (ω.1, ω.2.1, ω.2.2.1, ω.2.2.2.1, up ω.2.2.2.2 i k v)
/-- 21 the green, 22 to 25 its rows of booths, queues, helpers, visitors; 32 to 35 what stands in them, 45 the practice; 26 the board, 36 any line -/
def celS (E : EX) (ω : WS) : Pid → va_E
  | (21, f, x) => .inr (6, [.int (ω.M (21, f, x) 0), .int (ω.M (21, f, x) 1), .int (ω.M (21, f, x) 2), .int (ω.M (21, f, x) 3), .ref (ω.ad (22, 0, 0)), .ref (ω.ad (23, 0, 0)), .ref (ω.ad (24, 0, 0)), .ref (ω.ad (25, 0, 0)), .ref (ω.ad (26, 0, 0))])
  | (22, _, _) => .inl (E.cy 5, pRefs ω.nb (fun j => some (ω.ad (32, j, 0))))
  | (23, _, _) => .inl (E.cy 5, pRefs 8 (fun j => some (ω.ad (33, j, 0))))
  | (24, _, _) => .inl (E.cy 5, pRefs ω.nh (fun j => some (ω.ad (34, j, 0))))
  | (25, _, _) => .inl (E.cy 4, pRefs ω.nv (fun j => some (ω.ad (35, j, 0))))
  | (32, b, x) => .inl (E.cy 0, pInts 6 (ω.M (32, b, x)))
  | (33, b, x) => .inl (E.cy 0, pInts (ω.ql b) (ω.M (33, b, x)))
  | (34, h, x) => .inl (E.cy 0, pInts 3 (ω.M (34, h, x)))
  | (35, v, x) => .inr (7, [.int (ω.M (35, v, x) 0), .int (ω.M (35, v, x) 1), .int (ω.M (35, v, x) 2), .int (ω.M (35, v, x) 3), .int (ω.M (35, v, x) 4), .int (ω.M (35, v, x) 5), .int (ω.M (35, v, x) 6), .int (ω.M (35, v, x) 7), .ref (ω.ad (45, v, 0))])
  | (45, v, x) => .inl (E.cy 0, pInts 8 (ω.M (45, v, x)))
  | _ => .inl (E.cy 0, pInts 0 (fun _ => 0))
def lvS (ω : WS) : Pid → Prop
  | (21, 0, 0) => True
  | (22, 0, 0) => True
  | (23, 0, 0) => True
  | (24, 0, 0) => True
  | (25, 0, 0) => True
  | (32, b, 0) => b < ω.nb
  | (33, b, 0) => b < 8
  | (34, h, 0) => h < ω.nh
  | (35, v, 0) => v < ω.nv
  | (45, v, 0) => v < ω.nv
  | _ => False
theorem lvS_lab {ω : WS} {i : Pid} (h : lvS ω i) : 20 ≤ i.1 ∧ i.1 < 50 := by
  unfold lvS at h
  split at h <;> first | exact h.elim | exact ⟨Nat.le_of_ble_eq_true rfl, Nat.le_of_ble_eq_true rfl⟩
theorem lvS_nb {ω : WS} {i : Pid} (h : lvS ω i) : i.1 ≠ 26 ∧ i.1 ≠ 36 := by
  unfold lvS at h
  split at h <;> first | exact h.elim | exact ⟨by simp, by simp⟩
/-- a line of the board; lines are never written again -/
def LineAt (E : EX) (σ : Sg) (a : Nat) (x : Ln) : Prop := ∃ F : Nat → Int32, σ a = some ((36, 0, 0), .inl (E.cy 0, pInts 3 F)) ∧ F 0 = nI x.1 ∧ F 1 = nI x.2.1 ∧ F 2 = x.2.2
/-- a row of n places with the lines L in its first ones -/
def RowsAt (E : EX) (σ : Sg) (lab : Pid) (t n : Nat) (L : List Ln) : Prop := ∃ f : Nat → Option Nat, σ t = some (lab, .inl (E.cy 5, pRefs n f)) ∧ L.length ≤ n ∧ ∀ (j : Nat) (x : Ln), L[j]? = some x → ∃ a, f j = some a ∧ LineAt E σ a x
theorem LineAt.kp {E : EX} {σ σ' : Sg} {a : Nat} {x : Ln} (h : LineAt E σ a x) (hk : ∀ e, σ a = some ((36, 0, 0), e) → σ' a = some ((36, 0, 0), e)) : LineAt E σ' a x := by
  obtain ⟨F, h1, h2⟩ := h
  exact ⟨F, hk _ h1, h2⟩
theorem RowsAt.kp {E : EX} {σ σ' : Sg} {lab : Pid} {t n : Nat} {L : List Ln} (h : RowsAt E σ lab t n L) (ht : ∀ e, σ t = some (lab, e) → σ' t = some (lab, e)) (hk : ∀ a e, σ a = some ((36, 0, 0), e) → σ' a = some ((36, 0, 0), e)) : RowsAt E σ' lab t n L := by
  obtain ⟨f, h1, h0, h2⟩ := h
  refine ⟨f, ht _ h1, h0, fun j x hx => ?_⟩
  obtain ⟨a, e1, e2⟩ := h2 j x hx
  exact ⟨a, e1, e2.kp (hk a)⟩
def LayS (E : EX) (σ : Sg) (ω : WS) : Prop := (∀ i, lvS ω i → σ (ω.ad i) = some (i, celS E ω i)) ∧ (ω.nb ≤ 8 ∧ ω.nh ≤ 12 ∧ ω.nv ≤ 16 ∧ ω.nl ≤ 4 ∧ ∀ b, ω.ql b ≤ 16) ∧ RowsAt E σ (26, 0, 0) (ω.ad (26, 0, 0)) ω.nl ω.bd
/-- what is not the green's stays -/
def KpS (σ σ' : Sg) : Prop := ∀ (a : Nat) (i : Pid) (e : va_E), σ a = some (i, e) → ¬ (20 ≤ i.1 ∧ i.1 < 50) → σ' a = some (i, e)
theorem KpS.rf {σ : Sg} : KpS σ σ := fun _ _ _ h _ => h
theorem KpS.tr {σ σ1 σ2 : Sg} (h : KpS σ σ1) (h2 : KpS σ1 σ2) : KpS σ σ2 := fun a i e hs hn => h2 a i e (h a i e hs hn) hn
/-- what is in the map, but the green's, stays: what was made since is new -/
theorem KpS.new {σ σ1 : Sg} {q : Nat} {i : Pid} {e : va_E} (h : KpS σ σ1) (hq : σ1 q = none) : KpS σ (sup σ1 q i e) := fun a j e2 hs hn => by
  have h1 := h a j e2 hs hn
  rw [sup_ne (fun z => by rw [z, hq] at h1; cases h1)]
  exact h1
theorem celS_congr {E : EX} {ω : WS} {i j : Pid} {k : Nat} {v : Int32} (h : j ≠ i) : celS E (ω.wr i k v) j = celS E ω j := by
  have e : (ω.wr i k v).M j = ω.M j := up_ne h
  unfold celS
  split <;> first | rfl | (simp only [e]; rfl) | simp only [e]
/-- a cell with the label i is another: what has other labels stays -/
theorem sup_lab {σ : Sg} {q a : Nat} {i j : Pid} {e e2 e3 : va_E} {i2 : Pid} (hq : σ q = some (i, e2)) (hj : j ≠ i) (h : σ a = some (j, e)) : sup σ q i2 e3 a = some (j, e) := by
  rw [sup_ne (fun z => by
    rw [z, hq] at h
    cases h
    exact hj rfl)]
  exact h
theorem sup_new {σ : Sg} {q a : Nat} {j : Pid} {e e3 : va_E} {i2 : Pid} (hq : σ q = none) (h : σ a = some (j, e)) : sup σ q i2 e3 a = some (j, e) := by
  rw [sup_ne (fun z => by
    rw [z, hq] at h
    cases h)]
  exact h
theorem LayS.wr {E : EX} {σ : Sg} {ω : WS} {i : Pid} {k : Nat} {v : Int32} {e : va_E} (hL : LayS E σ ω) (hi : lvS ω i) (he : celS E (ω.wr i k v) i = e) : LayS E (sup σ (ω.ad i) i e) (ω.wr i k v) ∧ KpS σ (sup σ (ω.ad i) i e) := by
  have h2 := hL.1 i hi
  have hb := lvS_nb hi
  refine ⟨⟨fun j hj => ?_, hL.2.1, hL.2.2.kp (fun e hs => sup_lab h2 (fun z => hb.1 (by rw [← z])) hs) (fun a e hs => sup_lab h2 (fun z => hb.2 (by rw [← z])) hs)⟩, fun a j e2 hs hn => sup_lab h2 (fun z => hn (by rw [z]; exact lvS_lab hi)) hs⟩
  have hj2 : lvS ω j := hj
  show sup σ (ω.ad i) i e (ω.ad j) = _
  by_cases hji : j = i
  · subst hji
    rw [sup_at, he]
  · rw [celS_congr hji]
    exact sup_lab h2 hji (hL.1 j hj2)
/-- what keeps the green's cells keeps the green -/
theorem LayS.kp {E : EX} {σ σ' : Sg} {ω : WS} (hL : LayS E σ ω) (h : ∀ (a : Nat) (i : Pid) (e : va_E), σ a = some (i, e) → 20 ≤ i.1 ∧ i.1 < 50 → σ' a = some (i, e)) : LayS E σ' ω := ⟨fun j hj => h _ _ _ (hL.1 j hj) (lvS_lab hj), hL.2.1, hL.2.2.kp (fun e hs => h _ _ _ hs (by decide)) (fun a e hs => h _ _ _ hs (by decide))⟩
/-- something new beside -/
theorem LayS.new {E : EX} {σ : Sg} {ω : WS} {q : Nat} {i : Pid} {e : va_E} (hL : LayS E σ ω) (hq : σ q = none) : LayS E (sup σ q i e) ω := hL.kp (fun a j e2 hs _ => sup_new hq hs)
/-- something beside is another -/
theorem LayS.bes {E : EX} {σ : Sg} {ω : WS} {q : Nat} {i j : Pid} {e e2 : va_E} (hL : LayS E σ ω) (hq : σ q = some (i, e2)) (hi : ¬ (20 ≤ i.1 ∧ i.1 < 50)) : LayS E (sup σ q j e) ω := hL.kp (fun a k e3 hs hk => sup_lab hq (fun z => hi (by rw [← z]; exact hk)) hs)
theorem LayS.kc {E : EX} {σ σ' : Sg} {ω : WS} (hL : LayS E σ ω) (h : KpC σ σ') : LayS E σ' ω := hL.kp (fun a i e hs hi => h a i e hs hi.1)
/-- beside the green, what is not its own and was there stays, if what lies at q is new since σ -/
theorem KpS.bes {σ σ1 : Sg} {q : Nat} {i : Pid} {e : va_E} (h : KpS σ σ1) (hq : σ q = none) : KpS σ (sup σ1 q i e) := fun a j e2 hs hn => by
  have h1 := h a j e2 hs hn
  rw [sup_ne (fun z => by rw [z, hq] at hs; cases hs)]
  exact h1
/-- .. or has a label of its own -/
theorem KpS.sim {σ σ1 : Sg} {q : Nat} {i j : Pid} {e e2 : va_E} (h : KpS σ σ1) (hq : σ1 q = some (i, e2)) (hi : 20 ≤ i.1 ∧ i.1 < 50) : KpS σ (sup σ1 q j e) := fun a k e3 hs hn => sup_lab hq (fun z => hn (by rw [z]; exact hi)) (h a k e3 hs hn)
theorem ClsP.ks {E : EX} {σ σ' : Sg} {M : Mem} (hC : ClsP E σ M) (h : KpS σ σ') : ClsP E σ' M := fun i hi => h _ _ _ (hC i hi) (fun z => by have := idsC_lt i hi; omega)
theorem celS35 {E : EX} {ω : WS} {v k : Nat} {x : Int32} : celS E (ω.wr (35, v, 0) k x) (35, v, 0) = .inr (7, [.int (if 0 = k then x else ω.M (35, v, 0) 0), .int (if 1 = k then x else ω.M (35, v, 0) 1), .int (if 2 = k then x else ω.M (35, v, 0) 2), .int (if 3 = k then x else ω.M (35, v, 0) 3), .int (if 4 = k then x else ω.M (35, v, 0) 4), .int (if 5 = k then x else ω.M (35, v, 0) 5), .int (if 6 = k then x else ω.M (35, v, 0) 6), .int (if 7 = k then x else ω.M (35, v, 0) 7), .ref (ω.ad (45, v, 0))]) := by
  show Sum.inr (7, [Value.int (up ω.M (35, v, 0) k x (35, v, 0) 0), Value.int (up ω.M (35, v, 0) k x (35, v, 0) 1), Value.int (up ω.M (35, v, 0) k x (35, v, 0) 2), Value.int (up ω.M (35, v, 0) k x (35, v, 0) 3), Value.int (up ω.M (35, v, 0) k x (35, v, 0) 4), Value.int (up ω.M (35, v, 0) k x (35, v, 0) 5), Value.int (up ω.M (35, v, 0) k x (35, v, 0) 6), Value.int (up ω.M (35, v, 0) k x (35, v, 0) 7), Value.ref (ω.ad (45, v, 0))]) = _
  simp only [up_at]
section SLinks
variable {κ : KX} {cc : ByteArray} {nL fr lo : Nat} {own : String} {σ : Sg} {ω : WS} {cN dN : Nat} {l : LSt} {st rest : List Value} {pc : Nat}
theorem wgL_28 (G : Gd κ cc nL RL fr lo) (hL : LayS κ.E σ ω) (d : decode cc pc = .ok (.getfield 28, 3)) (h : HV κ nL σ cN dN l (.ref (ω.ad (22, 0, 0)) :: st) (pc + 3)) : HV κ nL σ cN dN l (.ref (ω.ad (21, 0, 0)) :: st) pc := h_get (T := TX6) (N := 9) (k := 4) G (hL.1 (21, 0, 0) trivial) uX6 rfl (by decide) (by decide +kernel) rfl d h
theorem wgL_43 (G : Gd κ cc nL RL fr lo) (hL : LayS κ.E σ ω) (d : decode cc pc = .ok (.getfield 43, 3)) (h : HV κ nL σ cN dN l (.ref (ω.ad (24, 0, 0)) :: st) (pc + 3)) : HV κ nL σ cN dN l (.ref (ω.ad (21, 0, 0)) :: st) pc := h_get (T := TX6) (N := 9) (k := 6) G (hL.1 (21, 0, 0) trivial) uX6 rfl (by decide) (by decide +kernel) rfl d h
theorem wgL_53 (G : Gd κ cc nL RL fr lo) (hL : LayS κ.E σ ω) (d : decode cc pc = .ok (.getfield 53, 3)) (h : HV κ nL σ cN dN l (.int (ω.M (21, 0, 0) 1) :: st) (pc + 3)) : HV κ nL σ cN dN l (.ref (ω.ad (21, 0, 0)) :: st) pc := h_get (T := TX6) (N := 9) (k := 1) G (hL.1 (21, 0, 0) trivial) uX6 rfl (by decide) (by decide +kernel) rfl d h
theorem wgL_61 (G : Gd κ cc nL RL fr lo) (hL : LayS κ.E σ ω) (d : decode cc pc = .ok (.getfield 61, 3)) (h : HV κ nL σ cN dN l (.ref (ω.ad (25, 0, 0)) :: st) (pc + 3)) : HV κ nL σ cN dN l (.ref (ω.ad (21, 0, 0)) :: st) pc := h_get (T := TX6) (N := 9) (k := 7) G (hL.1 (21, 0, 0) trivial) uX6 rfl (by decide) (by decide +kernel) rfl d h
theorem wgL_65 (G : Gd κ cc nL RL fr lo) (hL : LayS κ.E σ ω) {v9 : Nat} (hv9 : v9 < ω.nv) (d : decode cc pc = .ok (.getfield 65, 3)) (h : HV κ nL σ cN dN l (.int (ω.M (35, v9, 0) 0) :: st) (pc + 3)) : HV κ nL σ cN dN l (.ref (ω.ad (35, v9, 0)) :: st) pc := h_get (T := TX7) (N := 9) (k := 0) G (hL.1 (35, v9, 0) hv9) uX7 rfl (by decide) (by decide +kernel) rfl d h
theorem wgL_70 (G : Gd κ cc nL RL fr lo) (hL : LayS κ.E σ ω) {v9 : Nat} (hv9 : v9 < ω.nv) (d : decode cc pc = .ok (.getfield 70, 3)) (h : HV κ nL σ cN dN l (.int (ω.M (35, v9, 0) 2) :: st) (pc + 3)) : HV κ nL σ cN dN l (.ref (ω.ad (35, v9, 0)) :: st) pc := h_get (T := TX7) (N := 9) (k := 2) G (hL.1 (35, v9, 0) hv9) uX7 rfl (by decide) (by decide +kernel) rfl d h
theorem wgL_76 (G : Gd κ cc nL RL fr lo) (hL : LayS κ.E σ ω) {v9 : Nat} (hv9 : v9 < ω.nv) (d : decode cc pc = .ok (.getfield 76, 3)) (h : HV κ nL σ cN dN l (.int (ω.M (35, v9, 0) 3) :: st) (pc + 3)) : HV κ nL σ cN dN l (.ref (ω.ad (35, v9, 0)) :: st) pc := h_get (T := TX7) (N := 9) (k := 3) G (hL.1 (35, v9, 0) hv9) uX7 rfl (by decide) (by decide +kernel) rfl d h
theorem wgX6_7 (G : Gd κ cc nL RX6 fr lo) (hL : LayS κ.E σ ω) (d : decode cc pc = .ok (.getfield 7, 3)) (h : HV κ nL σ cN dN l (.int (ω.M (21, 0, 0) 1) :: st) (pc + 3)) : HV κ nL σ cN dN l (.ref (ω.ad (21, 0, 0)) :: st) pc := h_get (T := TX6) (N := 9) (k := 1) G (hL.1 (21, 0, 0) trivial) uX6 rfl (by decide) (by decide +kernel) rfl d h
theorem wgX6_13 (G : Gd κ cc nL RX6 fr lo) (hL : LayS κ.E σ ω) (d : decode cc pc = .ok (.getfield 13, 3)) (h : HV κ nL σ cN dN l (.int (ω.M (21, 0, 0) 2) :: st) (pc + 3)) : HV κ nL σ cN dN l (.ref (ω.ad (21, 0, 0)) :: st) pc := h_get (T := TX6) (N := 9) (k := 2) G (hL.1 (21, 0, 0) trivial) uX6 rfl (by decide) (by decide +kernel) rfl d h
theorem wgX6_18 (G : Gd κ cc nL RX6 fr lo) (hL : LayS κ.E σ ω) (d : decode cc pc = .ok (.getfield 18, 3)) (h : HV κ nL σ cN dN l (.ref (ω.ad (22, 0, 0)) :: st) (pc + 3)) : HV κ nL σ cN dN l (.ref (ω.ad (21, 0, 0)) :: st) pc := h_get (T := TX6) (N := 9) (k := 4) G (hL.1 (21, 0, 0) trivial) uX6 rfl (by decide) (by decide +kernel) rfl d h
theorem wgX6_23 (G : Gd κ cc nL RX6 fr lo) (hL : LayS κ.E σ ω) (d : decode cc pc = .ok (.getfield 23, 3)) (h : HV κ nL σ cN dN l (.ref (ω.ad (23, 0, 0)) :: st) (pc + 3)) : HV κ nL σ cN dN l (.ref (ω.ad (21, 0, 0)) :: st) pc := h_get (T := TX6) (N := 9) (k := 5) G (hL.1 (21, 0, 0) trivial) uX6 rfl (by decide) (by decide +kernel) rfl d h
theorem wgX6_26 (G : Gd κ cc nL RX6 fr lo) (hL : LayS κ.E σ ω) (d : decode cc pc = .ok (.getfield 26, 3)) (h : HV κ nL σ cN dN l (.ref (ω.ad (24, 0, 0)) :: st) (pc + 3)) : HV κ nL σ cN dN l (.ref (ω.ad (21, 0, 0)) :: st) pc := h_get (T := TX6) (N := 9) (k := 6) G (hL.1 (21, 0, 0) trivial) uX6 rfl (by decide) (by decide +kernel) rfl d h
theorem wgX6_31 (G : Gd κ cc nL RX6 fr lo) (hL : LayS κ.E σ ω) (d : decode cc pc = .ok (.getfield 31, 3)) (h : HV κ nL σ cN dN l (.ref (ω.ad (25, 0, 0)) :: st) (pc + 3)) : HV κ nL σ cN dN l (.ref (ω.ad (21, 0, 0)) :: st) pc := h_get (T := TX6) (N := 9) (k := 7) G (hL.1 (21, 0, 0) trivial) uX6 rfl (by decide) (by decide +kernel) rfl d h
theorem wgX6_35 (G : Gd κ cc nL RX6 fr lo) (hL : LayS κ.E σ ω) (d : decode cc pc = .ok (.getfield 35, 3)) (h : HV κ nL σ cN dN l (.ref (ω.ad (26, 0, 0)) :: st) (pc + 3)) : HV κ nL σ cN dN l (.ref (ω.ad (21, 0, 0)) :: st) pc := h_get (T := TX6) (N := 9) (k := 8) G (hL.1 (21, 0, 0) trivial) uX6 rfl (by decide) (by decide +kernel) rfl d h
theorem wgX6_39 (G : Gd κ cc nL RX6 fr lo) (hL : LayS κ.E σ ω) (d : decode cc pc = .ok (.getfield 39, 3)) (h : HV κ nL σ cN dN l (.int (ω.M (21, 0, 0) 0) :: st) (pc + 3)) : HV κ nL σ cN dN l (.ref (ω.ad (21, 0, 0)) :: st) pc := h_get (T := TX6) (N := 9) (k := 0) G (hL.1 (21, 0, 0) trivial) uX6 rfl (by decide) (by decide +kernel) rfl d h
theorem wgX6_42 (G : Gd κ cc nL RX6 fr lo) (hL : LayS κ.E σ ω) (d : decode cc pc = .ok (.getfield 42, 3)) (h : HV κ nL σ cN dN l (.int (ω.M (21, 0, 0) 3) :: st) (pc + 3)) : HV κ nL σ cN dN l (.ref (ω.ad (21, 0, 0)) :: st) pc := h_get (T := TX6) (N := 9) (k := 3) G (hL.1 (21, 0, 0) trivial) uX6 rfl (by decide) (by decide +kernel) rfl d h
theorem wgX6_54 (G : Gd κ cc nL RX6 fr lo) (hL : LayS κ.E σ ω) {v9 : Nat} (hv9 : v9 < ω.nv) (d : decode cc pc = .ok (.getfield 54, 3)) (h : HV κ nL σ cN dN l (.int (ω.M (35, v9, 0) 0) :: st) (pc + 3)) : HV κ nL σ cN dN l (.ref (ω.ad (35, v9, 0)) :: st) pc := h_get (T := TX7) (N := 9) (k := 0) G (hL.1 (35, v9, 0) hv9) uX7 rfl (by decide) (by decide +kernel) rfl d h
theorem wgX6_57 (G : Gd κ cc nL RX6 fr lo) (hL : LayS κ.E σ ω) {v9 : Nat} (hv9 : v9 < ω.nv) (d : decode cc pc = .ok (.getfield 57, 3)) (h : HV κ nL σ cN dN l (.int (ω.M (35, v9, 0) 1) :: st) (pc + 3)) : HV κ nL σ cN dN l (.ref (ω.ad (35, v9, 0)) :: st) pc := h_get (T := TX7) (N := 9) (k := 1) G (hL.1 (35, v9, 0) hv9) uX7 rfl (by decide) (by decide +kernel) rfl d h
theorem wgX6_64 (G : Gd κ cc nL RX6 fr lo) (hL : LayS κ.E σ ω) {v9 : Nat} (hv9 : v9 < ω.nv) (d : decode cc pc = .ok (.getfield 64, 3)) (h : HV κ nL σ cN dN l (.int (ω.M (35, v9, 0) 2) :: st) (pc + 3)) : HV κ nL σ cN dN l (.ref (ω.ad (35, v9, 0)) :: st) pc := h_get (T := TX7) (N := 9) (k := 2) G (hL.1 (35, v9, 0) hv9) uX7 rfl (by decide) (by decide +kernel) rfl d h
theorem wgX6_67 (G : Gd κ cc nL RX6 fr lo) (hL : LayS κ.E σ ω) {v9 : Nat} (hv9 : v9 < ω.nv) (d : decode cc pc = .ok (.getfield 67, 3)) (h : HV κ nL σ cN dN l (.int (ω.M (35, v9, 0) 3) :: st) (pc + 3)) : HV κ nL σ cN dN l (.ref (ω.ad (35, v9, 0)) :: st) pc := h_get (T := TX7) (N := 9) (k := 3) G (hL.1 (35, v9, 0) hv9) uX7 rfl (by decide) (by decide +kernel) rfl d h
theorem wgX6_77 (G : Gd κ cc nL RX6 fr lo) (hL : LayS κ.E σ ω) {v9 : Nat} (hv9 : v9 < ω.nv) (d : decode cc pc = .ok (.getfield 77, 3)) (h : HV κ nL σ cN dN l (.ref (ω.ad (45, v9, 0)) :: st) (pc + 3)) : HV κ nL σ cN dN l (.ref (ω.ad (35, v9, 0)) :: st) pc := h_get (T := TX7) (N := 9) (k := 8) G (hL.1 (35, v9, 0) hv9) uX7 rfl (by decide) (by decide +kernel) rfl d h
theorem wgX6_106 (G : Gd κ cc nL RX6 fr lo) (hL : LayS κ.E σ ω) {v9 : Nat} (hv9 : v9 < ω.nv) (d : decode cc pc = .ok (.getfield 106, 3)) (h : HV κ nL σ cN dN l (.int (ω.M (35, v9, 0) 6) :: st) (pc + 3)) : HV κ nL σ cN dN l (.ref (ω.ad (35, v9, 0)) :: st) pc := h_get (T := TX7) (N := 9) (k := 6) G (hL.1 (35, v9, 0) hv9) uX7 rfl (by decide) (by decide +kernel) rfl d h
theorem wgX6_109 (G : Gd κ cc nL RX6 fr lo) (hL : LayS κ.E σ ω) {v9 : Nat} (hv9 : v9 < ω.nv) (d : decode cc pc = .ok (.getfield 109, 3)) (h : HV κ nL σ cN dN l (.int (ω.M (35, v9, 0) 7) :: st) (pc + 3)) : HV κ nL σ cN dN l (.ref (ω.ad (35, v9, 0)) :: st) pc := h_get (T := TX7) (N := 9) (k := 7) G (hL.1 (35, v9, 0) hv9) uX7 rfl (by decide) (by decide +kernel) rfl d h
theorem wgX6_115 (G : Gd κ cc nL RX6 fr lo) (hL : LayS κ.E σ ω) {v9 : Nat} (hv9 : v9 < ω.nv) (d : decode cc pc = .ok (.getfield 115, 3)) (h : HV κ nL σ cN dN l (.int (ω.M (35, v9, 0) 4) :: st) (pc + 3)) : HV κ nL σ cN dN l (.ref (ω.ad (35, v9, 0)) :: st) pc := h_get (T := TX7) (N := 9) (k := 4) G (hL.1 (35, v9, 0) hv9) uX7 rfl (by decide) (by decide +kernel) rfl d h
theorem wgX6_118 (G : Gd κ cc nL RX6 fr lo) (hL : LayS κ.E σ ω) {v9 : Nat} (hv9 : v9 < ω.nv) (d : decode cc pc = .ok (.getfield 118, 3)) (h : HV κ nL σ cN dN l (.int (ω.M (35, v9, 0) 5) :: st) (pc + 3)) : HV κ nL σ cN dN l (.ref (ω.ad (35, v9, 0)) :: st) pc := h_get (T := TX7) (N := 9) (k := 5) G (hL.1 (35, v9, 0) hv9) uX7 rfl (by decide) (by decide +kernel) rfl d h
theorem wpL_53 (G : Gd κ cc nL RL fr lo) (hL : LayS κ.E σ ω) {x : Int32} (d : decode cc pc = .ok (.putfield 53, 3)) (h : ∀ (σ' : Sg) (ω' : WS), ω'.ad = ω.ad → (∀ P : WS → Prop, P (ω.wr (21, 0, 0) 1 x) → P ω') → LayS κ.E σ' ω' → KpS σ σ' → HV κ nL σ' cN dN l st (pc + 3)) : HV κ nL σ cN dN l (.int x :: .ref (ω.ad (21, 0, 0)) :: st) pc := h_put (T := TX6) (N := 9) (k := 1) (ty := .int) G (hL.1 (21, 0, 0) trivial) uX6 tyX6 tyX6_ok nmX6 rfl (by decide) (by decide +kernel) rfl rfl rfl rfl (Nat.le_of_ble_eq_true rfl) d (h _ (ω.wr (21, 0, 0) 1 x) rfl (fun _ h => h) (hL.wr (i := (21, 0, 0)) (k := 1) (v := x) trivial rfl).1 (hL.wr (i := (21, 0, 0)) (k := 1) (v := x) trivial rfl).2)
theorem wpL_65 (G : Gd κ cc nL RL fr lo) (hL : LayS κ.E σ ω) {v9 : Nat} (hv9 : v9 < ω.nv) {x : Int32} (d : decode cc pc = .ok (.putfield 65, 3)) (h : ∀ (σ' : Sg) (ω' : WS), ω'.ad = ω.ad → (∀ P : WS → Prop, P (ω.wr (35, v9, 0) 0 x) → P ω') → LayS κ.E σ' ω' → KpS σ σ' → HV κ nL σ' cN dN l st (pc + 3)) : HV κ nL σ cN dN l (.int x :: .ref (ω.ad (35, v9, 0)) :: st) pc := h_put (T := TX7) (N := 9) (k := 0) (ty := .int) G (hL.1 (35, v9, 0) hv9) uX7 tyX7 tyX7_ok nmX7 rfl (by decide) (by decide +kernel) rfl rfl rfl rfl (Nat.le_of_ble_eq_true rfl) d (h _ (ω.wr (35, v9, 0) 0 x) rfl (fun _ h => h) (hL.wr (i := (35, v9, 0)) (k := 0) (v := x) hv9 (celS35.trans rfl)).1 (hL.wr (i := (35, v9, 0)) (k := 0) (v := x) hv9 (celS35.trans rfl)).2)
theorem wpL_70 (G : Gd κ cc nL RL fr lo) (hL : LayS κ.E σ ω) {v9 : Nat} (hv9 : v9 < ω.nv) {x : Int32} (d : decode cc pc = .ok (.putfield 70, 3)) (h : ∀ (σ' : Sg) (ω' : WS), ω'.ad = ω.ad → (∀ P : WS → Prop, P (ω.wr (35, v9, 0) 2 x) → P ω') → LayS κ.E σ' ω' → KpS σ σ' → HV κ nL σ' cN dN l st (pc + 3)) : HV κ nL σ cN dN l (.int x :: .ref (ω.ad (35, v9, 0)) :: st) pc := h_put (T := TX7) (N := 9) (k := 2) (ty := .int) G (hL.1 (35, v9, 0) hv9) uX7 tyX7 tyX7_ok nmX7 rfl (by decide) (by decide +kernel) rfl rfl rfl rfl (Nat.le_of_ble_eq_true rfl) d (h _ (ω.wr (35, v9, 0) 2 x) rfl (fun _ h => h) (hL.wr (i := (35, v9, 0)) (k := 2) (v := x) hv9 (celS35.trans rfl)).1 (hL.wr (i := (35, v9, 0)) (k := 2) (v := x) hv9 (celS35.trans rfl)).2)
theorem wpX6_7 (G : Gd κ cc nL RX6 fr lo) (hL : LayS κ.E σ ω) {x : Int32} (d : decode cc pc = .ok (.putfield 7, 3)) (h : ∀ (σ' : Sg) (ω' : WS), ω'.ad = ω.ad → (∀ P : WS → Prop, P (ω.wr (21, 0, 0) 1 x) → P ω') → LayS κ.E σ' ω' → KpS σ σ' → HV κ nL σ' cN dN l st (pc + 3)) : HV κ nL σ cN dN l (.int x :: .ref (ω.ad (21, 0, 0)) :: st) pc := h_put (T := TX6) (N := 9) (k := 1) (ty := .int) G (hL.1 (21, 0, 0) trivial) uX6 tyX6 tyX6_ok nmX6 rfl (by decide) (by decide +kernel) rfl rfl rfl rfl (Nat.le_of_ble_eq_true rfl) d (h _ (ω.wr (21, 0, 0) 1 x) rfl (fun _ h => h) (hL.wr (i := (21, 0, 0)) (k := 1) (v := x) trivial rfl).1 (hL.wr (i := (21, 0, 0)) (k := 1) (v := x) trivial rfl).2)
theorem wpX6_13 (G : Gd κ cc nL RX6 fr lo) (hL : LayS κ.E σ ω) {x : Int32} (d : decode cc pc = .ok (.putfield 13, 3)) (h : ∀ (σ' : Sg) (ω' : WS), ω'.ad = ω.ad → (∀ P : WS → Prop, P (ω.wr (21, 0, 0) 2 x) → P ω') → LayS κ.E σ' ω' → KpS σ σ' → HV κ nL σ' cN dN l st (pc + 3)) : HV κ nL σ cN dN l (.int x :: .ref (ω.ad (21, 0, 0)) :: st) pc := h_put (T := TX6) (N := 9) (k := 2) (ty := .int) G (hL.1 (21, 0, 0) trivial) uX6 tyX6 tyX6_ok nmX6 rfl (by decide) (by decide +kernel) rfl rfl rfl rfl (Nat.le_of_ble_eq_true rfl) d (h _ (ω.wr (21, 0, 0) 2 x) rfl (fun _ h => h) (hL.wr (i := (21, 0, 0)) (k := 2) (v := x) trivial rfl).1 (hL.wr (i := (21, 0, 0)) (k := 2) (v := x) trivial rfl).2)
theorem wpX6_39 (G : Gd κ cc nL RX6 fr lo) (hL : LayS κ.E σ ω) {x : Int32} (d : decode cc pc = .ok (.putfield 39, 3)) (h : ∀ (σ' : Sg) (ω' : WS), ω'.ad = ω.ad → (∀ P : WS → Prop, P (ω.wr (21, 0, 0) 0 x) → P ω') → LayS κ.E σ' ω' → KpS σ σ' → HV κ nL σ' cN dN l st (pc + 3)) : HV κ nL σ cN dN l (.int x :: .ref (ω.ad (21, 0, 0)) :: st) pc := h_put (T := TX6) (N := 9) (k := 0) (ty := .int) G (hL.1 (21, 0, 0) trivial) uX6 tyX6 tyX6_ok nmX6 rfl (by decide) (by decide +kernel) rfl rfl rfl rfl (Nat.le_of_ble_eq_true rfl) d (h _ (ω.wr (21, 0, 0) 0 x) rfl (fun _ h => h) (hL.wr (i := (21, 0, 0)) (k := 0) (v := x) trivial rfl).1 (hL.wr (i := (21, 0, 0)) (k := 0) (v := x) trivial rfl).2)
theorem wpX6_42 (G : Gd κ cc nL RX6 fr lo) (hL : LayS κ.E σ ω) {x : Int32} (d : decode cc pc = .ok (.putfield 42, 3)) (h : ∀ (σ' : Sg) (ω' : WS), ω'.ad = ω.ad → (∀ P : WS → Prop, P (ω.wr (21, 0, 0) 3 x) → P ω') → LayS κ.E σ' ω' → KpS σ σ' → HV κ nL σ' cN dN l st (pc + 3)) : HV κ nL σ cN dN l (.int x :: .ref (ω.ad (21, 0, 0)) :: st) pc := h_put (T := TX6) (N := 9) (k := 3) (ty := .int) G (hL.1 (21, 0, 0) trivial) uX6 tyX6 tyX6_ok nmX6 rfl (by decide) (by decide +kernel) rfl rfl rfl rfl (Nat.le_of_ble_eq_true rfl) d (h _ (ω.wr (21, 0, 0) 3 x) rfl (fun _ h => h) (hL.wr (i := (21, 0, 0)) (k := 3) (v := x) trivial rfl).1 (hL.wr (i := (21, 0, 0)) (k := 3) (v := x) trivial rfl).2)
theorem wpX6_54 (G : Gd κ cc nL RX6 fr lo) (hL : LayS κ.E σ ω) {v9 : Nat} (hv9 : v9 < ω.nv) {x : Int32} (d : decode cc pc = .ok (.putfield 54, 3)) (h : ∀ (σ' : Sg) (ω' : WS), ω'.ad = ω.ad → (∀ P : WS → Prop, P (ω.wr (35, v9, 0) 0 x) → P ω') → LayS κ.E σ' ω' → KpS σ σ' → HV κ nL σ' cN dN l st (pc + 3)) : HV κ nL σ cN dN l (.int x :: .ref (ω.ad (35, v9, 0)) :: st) pc := h_put (T := TX7) (N := 9) (k := 0) (ty := .int) G (hL.1 (35, v9, 0) hv9) uX7 tyX7 tyX7_ok nmX7 rfl (by decide) (by decide +kernel) rfl rfl rfl rfl (Nat.le_of_ble_eq_true rfl) d (h _ (ω.wr (35, v9, 0) 0 x) rfl (fun _ h => h) (hL.wr (i := (35, v9, 0)) (k := 0) (v := x) hv9 (celS35.trans rfl)).1 (hL.wr (i := (35, v9, 0)) (k := 0) (v := x) hv9 (celS35.trans rfl)).2)
theorem wpX6_57 (G : Gd κ cc nL RX6 fr lo) (hL : LayS κ.E σ ω) {v9 : Nat} (hv9 : v9 < ω.nv) {x : Int32} (d : decode cc pc = .ok (.putfield 57, 3)) (h : ∀ (σ' : Sg) (ω' : WS), ω'.ad = ω.ad → (∀ P : WS → Prop, P (ω.wr (35, v9, 0) 1 x) → P ω') → LayS κ.E σ' ω' → KpS σ σ' → HV κ nL σ' cN dN l st (pc + 3)) : HV κ nL σ cN dN l (.int x :: .ref (ω.ad (35, v9, 0)) :: st) pc := h_put (T := TX7) (N := 9) (k := 1) (ty := .int) G (hL.1 (35, v9, 0) hv9) uX7 tyX7 tyX7_ok nmX7 rfl (by decide) (by decide +kernel) rfl rfl rfl rfl (Nat.le_of_ble_eq_true rfl) d (h _ (ω.wr (35, v9, 0) 1 x) rfl (fun _ h => h) (hL.wr (i := (35, v9, 0)) (k := 1) (v := x) hv9 (celS35.trans rfl)).1 (hL.wr (i := (35, v9, 0)) (k := 1) (v := x) hv9 (celS35.trans rfl)).2)
theorem wpX6_64 (G : Gd κ cc nL RX6 fr lo) (hL : LayS κ.E σ ω) {v9 : Nat} (hv9 : v9 < ω.nv) {x : Int32} (d : decode cc pc = .ok (.putfield 64, 3)) (h : ∀ (σ' : Sg) (ω' : WS), ω'.ad = ω.ad → (∀ P : WS → Prop, P (ω.wr (35, v9, 0) 2 x) → P ω') → LayS κ.E σ' ω' → KpS σ σ' → HV κ nL σ' cN dN l st (pc + 3)) : HV κ nL σ cN dN l (.int x :: .ref (ω.ad (35, v9, 0)) :: st) pc := h_put (T := TX7) (N := 9) (k := 2) (ty := .int) G (hL.1 (35, v9, 0) hv9) uX7 tyX7 tyX7_ok nmX7 rfl (by decide) (by decide +kernel) rfl rfl rfl rfl (Nat.le_of_ble_eq_true rfl) d (h _ (ω.wr (35, v9, 0) 2 x) rfl (fun _ h => h) (hL.wr (i := (35, v9, 0)) (k := 2) (v := x) hv9 (celS35.trans rfl)).1 (hL.wr (i := (35, v9, 0)) (k := 2) (v := x) hv9 (celS35.trans rfl)).2)
theorem wpX6_67 (G : Gd κ cc nL RX6 fr lo) (hL : LayS κ.E σ ω) {v9 : Nat} (hv9 : v9 < ω.nv) {x : Int32} (d : decode cc pc = .ok (.putfield 67, 3)) (h : ∀ (σ' : Sg) (ω' : WS), ω'.ad = ω.ad → (∀ P : WS → Prop, P (ω.wr (35, v9, 0) 3 x) → P ω') → LayS κ.E σ' ω' → KpS σ σ' → HV κ nL σ' cN dN l st (pc + 3)) : HV κ nL σ cN dN l (.int x :: .ref (ω.ad (35, v9, 0)) :: st) pc := h_put (T := TX7) (N := 9) (k := 3) (ty := .int) G (hL.1 (35, v9, 0) hv9) uX7 tyX7 tyX7_ok nmX7 rfl (by decide) (by decide +kernel) rfl rfl rfl rfl (Nat.le_of_ble_eq_true rfl) d (h _ (ω.wr (35, v9, 0) 3 x) rfl (fun _ h => h) (hL.wr (i := (35, v9, 0)) (k := 3) (v := x) hv9 (celS35.trans rfl)).1 (hL.wr (i := (35, v9, 0)) (k := 3) (v := x) hv9 (celS35.trans rfl)).2)
theorem wpX6_106 (G : Gd κ cc nL RX6 fr lo) (hL : LayS κ.E σ ω) {v9 : Nat} (hv9 : v9 < ω.nv) {x : Int32} (d : decode cc pc = .ok (.putfield 106, 3)) (h : ∀ (σ' : Sg) (ω' : WS), ω'.ad = ω.ad → (∀ P : WS → Prop, P (ω.wr (35, v9, 0) 6 x) → P ω') → LayS κ.E σ' ω' → KpS σ σ' → HV κ nL σ' cN dN l st (pc + 3)) : HV κ nL σ cN dN l (.int x :: .ref (ω.ad (35, v9, 0)) :: st) pc := h_put (T := TX7) (N := 9) (k := 6) (ty := .int) G (hL.1 (35, v9, 0) hv9) uX7 tyX7 tyX7_ok nmX7 rfl (by decide) (by decide +kernel) rfl rfl rfl rfl (Nat.le_of_ble_eq_true rfl) d (h _ (ω.wr (35, v9, 0) 6 x) rfl (fun _ h => h) (hL.wr (i := (35, v9, 0)) (k := 6) (v := x) hv9 (celS35.trans rfl)).1 (hL.wr (i := (35, v9, 0)) (k := 6) (v := x) hv9 (celS35.trans rfl)).2)
theorem wpX6_109 (G : Gd κ cc nL RX6 fr lo) (hL : LayS κ.E σ ω) {v9 : Nat} (hv9 : v9 < ω.nv) {x : Int32} (d : decode cc pc = .ok (.putfield 109, 3)) (h : ∀ (σ' : Sg) (ω' : WS), ω'.ad = ω.ad → (∀ P : WS → Prop, P (ω.wr (35, v9, 0) 7 x) → P ω') → LayS κ.E σ' ω' → KpS σ σ' → HV κ nL σ' cN dN l st (pc + 3)) : HV κ nL σ cN dN l (.int x :: .ref (ω.ad (35, v9, 0)) :: st) pc := h_put (T := TX7) (N := 9) (k := 7) (ty := .int) G (hL.1 (35, v9, 0) hv9) uX7 tyX7 tyX7_ok nmX7 rfl (by decide) (by decide +kernel) rfl rfl rfl rfl (Nat.le_of_ble_eq_true rfl) d (h _ (ω.wr (35, v9, 0) 7 x) rfl (fun _ h => h) (hL.wr (i := (35, v9, 0)) (k := 7) (v := x) hv9 (celS35.trans rfl)).1 (hL.wr (i := (35, v9, 0)) (k := 7) (v := x) hv9 (celS35.trans rfl)).2)
theorem wpX6_115 (G : Gd κ cc nL RX6 fr lo) (hL : LayS κ.E σ ω) {v9 : Nat} (hv9 : v9 < ω.nv) {x : Int32} (d : decode cc pc = .ok (.putfield 115, 3)) (h : ∀ (σ' : Sg) (ω' : WS), ω'.ad = ω.ad → (∀ P : WS → Prop, P (ω.wr (35, v9, 0) 4 x) → P ω') → LayS κ.E σ' ω' → KpS σ σ' → HV κ nL σ' cN dN l st (pc + 3)) : HV κ nL σ cN dN l (.int x :: .ref (ω.ad (35, v9, 0)) :: st) pc := h_put (T := TX7) (N := 9) (k := 4) (ty := .int) G (hL.1 (35, v9, 0) hv9) uX7 tyX7 tyX7_ok nmX7 rfl (by decide) (by decide +kernel) rfl rfl rfl rfl (Nat.le_of_ble_eq_true rfl) d (h _ (ω.wr (35, v9, 0) 4 x) rfl (fun _ h => h) (hL.wr (i := (35, v9, 0)) (k := 4) (v := x) hv9 (celS35.trans rfl)).1 (hL.wr (i := (35, v9, 0)) (k := 4) (v := x) hv9 (celS35.trans rfl)).2)
theorem wpX6_118 (G : Gd κ cc nL RX6 fr lo) (hL : LayS κ.E σ ω) {v9 : Nat} (hv9 : v9 < ω.nv) {x : Int32} (d : decode cc pc = .ok (.putfield 118, 3)) (h : ∀ (σ' : Sg) (ω' : WS), ω'.ad = ω.ad → (∀ P : WS → Prop, P (ω.wr (35, v9, 0) 5 x) → P ω') → LayS κ.E σ' ω' → KpS σ σ' → HV κ nL σ' cN dN l st (pc + 3)) : HV κ nL σ cN dN l (.int x :: .ref (ω.ad (35, v9, 0)) :: st) pc := h_put (T := TX7) (N := 9) (k := 5) (ty := .int) G (hL.1 (35, v9, 0) hv9) uX7 tyX7 tyX7_ok nmX7 rfl (by decide) (by decide +kernel) rfl rfl rfl rfl (Nat.le_of_ble_eq_true rfl) d (h _ (ω.wr (35, v9, 0) 5 x) rfl (fun _ h => h) (hL.wr (i := (35, v9, 0)) (k := 5) (v := x) hv9 (celS35.trans rfl)).1 (hL.wr (i := (35, v9, 0)) (k := 5) (v := x) hv9 (celS35.trans rfl)).2)
theorem wal_32 (G : Gd κ cc nL own fr lo) (hL : LayS κ.E σ ω) {b9 : Nat} (hb9 : b9 < ω.nb) {j : Nat} {x : Int32} (hx : x = nI j) (hj : j < 6) (d : decode cc pc = .ok (.iaload, 1)) (h : HV κ nL σ cN dN l (.int (ω.M (32, b9, 0) j) :: st) (pc + 1)) : HV κ nL σ cN dN l (.int x :: .ref (ω.ad (32, b9, 0)) :: st) pc := h_iald G (hL.1 (32, b9, 0) hb9) hx hj (by decide) d h
theorem was_32 (G : Gd κ cc nL own fr lo) (hL : LayS κ.E σ ω) {b9 : Nat} (hb9 : b9 < ω.nb) {j : Nat} {x v : Int32} (hx : x = nI j) (hj : j < 6) (d : decode cc pc = .ok (.iastore, 1)) (h : ∀ (σ' : Sg) (ω' : WS), ω'.ad = ω.ad → (∀ P : WS → Prop, P (ω.wr (32, b9, 0) j v) → P ω') → LayS κ.E σ' ω' → KpS σ σ' → HV κ nL σ' cN dN l st (pc + 1)) : HV κ nL σ cN dN l (.int v :: .int x :: .ref (ω.ad (32, b9, 0)) :: st) pc := h_iast G (hL.1 (32, b9, 0) hb9) hx hj (by decide) d (h _ (ω.wr (32, b9, 0) j v) rfl (fun _ h => h) (hL.wr (i := (32, b9, 0)) (k := j) (v := v) hb9 (by show _ = _; exact congrArg (fun f => (Sum.inl (κ.E.cy 0, pInts 6 f) : va_E)) up_row)).1 (hL.wr (i := (32, b9, 0)) (k := j) (v := v) hb9 (by show _ = _; exact congrArg (fun f => (Sum.inl (κ.E.cy 0, pInts 6 f) : va_E)) up_row)).2)
theorem wle_32 (G : Gd κ cc nL own fr lo) (hL : LayS κ.E σ ω) {b9 : Nat} (hb9 : b9 < ω.nb) (d : decode cc pc = .ok (.arraylength, 1)) (h : HV κ nL σ cN dN l (.int (nI (6)) :: st) (pc + 1)) : HV κ nL σ cN dN l (.ref (ω.ad (32, b9, 0)) :: st) pc := h_alen (ty := .int) G 0 (hL.1 (32, b9, 0) hb9) rfl d h
theorem wal_33 (G : Gd κ cc nL own fr lo) (hL : LayS κ.E σ ω) {b9 : Nat} (hb9 : b9 < 8) {j : Nat} {x : Int32} (hx : x = nI j) (hj : j < ω.ql b9) (d : decode cc pc = .ok (.iaload, 1)) (h : HV κ nL σ cN dN l (.int (ω.M (33, b9, 0) j) :: st) (pc + 1)) : HV κ nL σ cN dN l (.int x :: .ref (ω.ad (33, b9, 0)) :: st) pc := h_iald G (hL.1 (33, b9, 0) hb9) hx hj (by have := hL.2.1.2.2.2.2 b9; omega) d h
theorem wle_33 (G : Gd κ cc nL own fr lo) (hL : LayS κ.E σ ω) {b9 : Nat} (hb9 : b9 < 8) (d : decode cc pc = .ok (.arraylength, 1)) (h : HV κ nL σ cN dN l (.int (nI (ω.ql b9)) :: st) (pc + 1)) : HV κ nL σ cN dN l (.ref (ω.ad (33, b9, 0)) :: st) pc := h_alen (ty := .int) G 0 (hL.1 (33, b9, 0) hb9) rfl d h
theorem wal_34 (G : Gd κ cc nL own fr lo) (hL : LayS κ.E σ ω) {b9 : Nat} (hb9 : b9 < ω.nh) {j : Nat} {x : Int32} (hx : x = nI j) (hj : j < 3) (d : decode cc pc = .ok (.iaload, 1)) (h : HV κ nL σ cN dN l (.int (ω.M (34, b9, 0) j) :: st) (pc + 1)) : HV κ nL σ cN dN l (.int x :: .ref (ω.ad (34, b9, 0)) :: st) pc := h_iald G (hL.1 (34, b9, 0) hb9) hx hj (by decide) d h
theorem was_34 (G : Gd κ cc nL own fr lo) (hL : LayS κ.E σ ω) {b9 : Nat} (hb9 : b9 < ω.nh) {j : Nat} {x v : Int32} (hx : x = nI j) (hj : j < 3) (d : decode cc pc = .ok (.iastore, 1)) (h : ∀ (σ' : Sg) (ω' : WS), ω'.ad = ω.ad → (∀ P : WS → Prop, P (ω.wr (34, b9, 0) j v) → P ω') → LayS κ.E σ' ω' → KpS σ σ' → HV κ nL σ' cN dN l st (pc + 1)) : HV κ nL σ cN dN l (.int v :: .int x :: .ref (ω.ad (34, b9, 0)) :: st) pc := h_iast G (hL.1 (34, b9, 0) hb9) hx hj (by decide) d (h _ (ω.wr (34, b9, 0) j v) rfl (fun _ h => h) (hL.wr (i := (34, b9, 0)) (k := j) (v := v) hb9 (by show _ = _; exact congrArg (fun f => (Sum.inl (κ.E.cy 0, pInts 3 f) : va_E)) up_row)).1 (hL.wr (i := (34, b9, 0)) (k := j) (v := v) hb9 (by show _ = _; exact congrArg (fun f => (Sum.inl (κ.E.cy 0, pInts 3 f) : va_E)) up_row)).2)
theorem wle_34 (G : Gd κ cc nL own fr lo) (hL : LayS κ.E σ ω) {b9 : Nat} (hb9 : b9 < ω.nh) (d : decode cc pc = .ok (.arraylength, 1)) (h : HV κ nL σ cN dN l (.int (nI (3)) :: st) (pc + 1)) : HV κ nL σ cN dN l (.ref (ω.ad (34, b9, 0)) :: st) pc := h_alen (ty := .int) G 0 (hL.1 (34, b9, 0) hb9) rfl d h
theorem wal_45 (G : Gd κ cc nL own fr lo) (hL : LayS κ.E σ ω) {b9 : Nat} (hb9 : b9 < ω.nv) {j : Nat} {x : Int32} (hx : x = nI j) (hj : j < 8) (d : decode cc pc = .ok (.iaload, 1)) (h : HV κ nL σ cN dN l (.int (ω.M (45, b9, 0) j) :: st) (pc + 1)) : HV κ nL σ cN dN l (.int x :: .ref (ω.ad (45, b9, 0)) :: st) pc := h_iald G (hL.1 (45, b9, 0) hb9) hx hj (by decide) d h
theorem was_45 (G : Gd κ cc nL own fr lo) (hL : LayS κ.E σ ω) {b9 : Nat} (hb9 : b9 < ω.nv) {j : Nat} {x v : Int32} (hx : x = nI j) (hj : j < 8) (d : decode cc pc = .ok (.iastore, 1)) (h : ∀ (σ' : Sg) (ω' : WS), ω'.ad = ω.ad → (∀ P : WS → Prop, P (ω.wr (45, b9, 0) j v) → P ω') → LayS κ.E σ' ω' → KpS σ σ' → HV κ nL σ' cN dN l st (pc + 1)) : HV κ nL σ cN dN l (.int v :: .int x :: .ref (ω.ad (45, b9, 0)) :: st) pc := h_iast G (hL.1 (45, b9, 0) hb9) hx hj (by decide) d (h _ (ω.wr (45, b9, 0) j v) rfl (fun _ h => h) (hL.wr (i := (45, b9, 0)) (k := j) (v := v) hb9 (by show _ = _; exact congrArg (fun f => (Sum.inl (κ.E.cy 0, pInts 8 f) : va_E)) up_row)).1 (hL.wr (i := (45, b9, 0)) (k := j) (v := v) hb9 (by show _ = _; exact congrArg (fun f => (Sum.inl (κ.E.cy 0, pInts 8 f) : va_E)) up_row)).2)
theorem wle_45 (G : Gd κ cc nL own fr lo) (hL : LayS κ.E σ ω) {b9 : Nat} (hb9 : b9 < ω.nv) (d : decode cc pc = .ok (.arraylength, 1)) (h : HV κ nL σ cN dN l (.int (nI (8)) :: st) (pc + 1)) : HV κ nL σ cN dN l (.ref (ω.ad (45, b9, 0)) :: st) pc := h_alen (ty := .int) G 0 (hL.1 (45, b9, 0) hb9) rfl d h
theorem war_22 (G : Gd κ cc nL own fr lo) (hL : LayS κ.E σ ω) {j : Nat} {x : Int32} (hx : x = nI j) (hj : j < ω.nb) (d : decode cc pc = .ok (.aaload, 1)) (h : HV κ nL σ cN dN l (.ref (ω.ad (32, j, 0)) :: st) (pc + 1)) : HV κ nL σ cN dN l (.int x :: .ref (ω.ad (22, 0, 0)) :: st) pc := h_aalA G (hL.1 (22, 0, 0) trivial) hx hj (by have := hL.2.1.1; omega) rfl d h
theorem wle_22 (G : Gd κ cc nL own fr lo) (hL : LayS κ.E σ ω) (d : decode cc pc = .ok (.arraylength, 1)) (h : HV κ nL σ cN dN l (.int (nI (ω.nb)) :: st) (pc + 1)) : HV κ nL σ cN dN l (.ref (ω.ad (22, 0, 0)) :: st) pc := h_alen (ty := .array .int) G 5 (hL.1 (22, 0, 0) trivial) rfl d h
theorem war_23 (G : Gd κ cc nL own fr lo) (hL : LayS κ.E σ ω) {j : Nat} {x : Int32} (hx : x = nI j) (hj : j < 8) (d : decode cc pc = .ok (.aaload, 1)) (h : HV κ nL σ cN dN l (.ref (ω.ad (33, j, 0)) :: st) (pc + 1)) : HV κ nL σ cN dN l (.int x :: .ref (ω.ad (23, 0, 0)) :: st) pc := h_aalA G (hL.1 (23, 0, 0) trivial) hx hj (by have := (Nat.le_refl 8); omega) rfl d h
theorem wle_23 (G : Gd κ cc nL own fr lo) (hL : LayS κ.E σ ω) (d : decode cc pc = .ok (.arraylength, 1)) (h : HV κ nL σ cN dN l (.int (nI (8)) :: st) (pc + 1)) : HV κ nL σ cN dN l (.ref (ω.ad (23, 0, 0)) :: st) pc := h_alen (ty := .array .int) G 5 (hL.1 (23, 0, 0) trivial) rfl d h
theorem war_24 (G : Gd κ cc nL own fr lo) (hL : LayS κ.E σ ω) {j : Nat} {x : Int32} (hx : x = nI j) (hj : j < ω.nh) (d : decode cc pc = .ok (.aaload, 1)) (h : HV κ nL σ cN dN l (.ref (ω.ad (34, j, 0)) :: st) (pc + 1)) : HV κ nL σ cN dN l (.int x :: .ref (ω.ad (24, 0, 0)) :: st) pc := h_aalA G (hL.1 (24, 0, 0) trivial) hx hj (by have := hL.2.1.2.1; omega) rfl d h
theorem wle_24 (G : Gd κ cc nL own fr lo) (hL : LayS κ.E σ ω) (d : decode cc pc = .ok (.arraylength, 1)) (h : HV κ nL σ cN dN l (.int (nI (ω.nh)) :: st) (pc + 1)) : HV κ nL σ cN dN l (.ref (ω.ad (24, 0, 0)) :: st) pc := h_alen (ty := .array .int) G 5 (hL.1 (24, 0, 0) trivial) rfl d h
theorem war_25 (G : Gd κ cc nL own fr lo) (hL : LayS κ.E σ ω) {j : Nat} {x : Int32} (hx : x = nI j) (hj : j < ω.nv) (d : decode cc pc = .ok (.aaload, 1)) (h : HV κ nL σ cN dN l (.ref (ω.ad (35, j, 0)) :: st) (pc + 1)) : HV κ nL σ cN dN l (.int x :: .ref (ω.ad (25, 0, 0)) :: st) pc := h_aalO (t0 := 4) G (hL.1 (25, 0, 0) trivial) rfl hx hj (by have := hL.2.1.2.2.1; omega) rfl d h
theorem wle_25 (G : Gd κ cc nL own fr lo) (hL : LayS κ.E σ ω) (d : decode cc pc = .ok (.arraylength, 1)) (h : HV κ nL σ cN dN l (.int (nI (ω.nv)) :: st) (pc + 1)) : HV κ nL σ cN dN l (.ref (ω.ad (25, 0, 0)) :: st) pc := h_alen (ty := .object RX7) G 4 (hL.1 (25, 0, 0) trivial) rfl d h
theorem wle_26 (G : Gd κ cc nL own fr lo) (hL : LayS κ.E σ ω) (d : decode cc pc = .ok (.arraylength, 1)) (h : HV κ nL σ cN dN l (.int (nI ω.nl) :: st) (pc + 1)) : HV κ nL σ cN dN l (.ref (ω.ad (26, 0, 0)) :: st) pc := by
  obtain ⟨f, h1, -⟩ := hL.2.2
  exact h_alen (ty := .array .int) G 5 h1 rfl d h
/-- a line of a row of lines -/
theorem w_line (G : Gd κ cc nL own fr lo) {lab : Pid} {t n j : Nat} {L : List Ln} {x : Ln} {y : Int32} (hR : RowsAt κ.E σ lab t n L) (hn : n < 2 ^ 31) (hy : y = nI j) (hx : L[j]? = some x) (d : decode cc pc = .ok (.aaload, 1)) (h : ∀ a, LineAt κ.E σ a x → HV κ nL σ cN dN l (.ref a :: st) (pc + 1)) : HV κ nL σ cN dN l (.int y :: .ref t :: st) pc := by
  obtain ⟨f, h1, h0, h2⟩ := hR
  obtain ⟨a, e1, e2⟩ := h2 j x hx
  have hj := (List.getElem?_eq_some_iff.mp hx).1
  exact h_aalA G h1 hy (by omega) hn e1 d (h a e2)
theorem w_rlen (G : Gd κ cc nL own fr lo) {lab : Pid} {t n : Nat} {L : List Ln} (hR : RowsAt κ.E σ lab t n L) (d : decode cc pc = .ok (.arraylength, 1)) (h : HV κ nL σ cN dN l (.int (nI n) :: st) (pc + 1)) : HV κ nL σ cN dN l (.ref t :: st) pc := by
  obtain ⟨f, h1, -⟩ := hR
  exact h_alen (ty := .array .int) G 5 h1 rfl d h
theorem w_lval (G : Gd κ cc nL own fr lo) {a k : Nat} {x : Ln} {y : Int32} (hx : LineAt κ.E σ a x) (hy : y = nI k) (hk : k < 3) (d : decode cc pc = .ok (.iaload, 1)) (h : HV κ nL σ cN dN l (.int (lfc x k) :: st) (pc + 1)) : HV κ nL σ cN dN l (.int y :: .ref a :: st) pc := by
  obtain ⟨F, h1, f0, f1, f2⟩ := hx
  refine h_iald G h1 hy hk (by decide) d ?_
  have e : F k = lfc x k := by
    match k, hk with
    | 0, _ => exact f0
    | 1, _ => exact f1
    | 2, _ => exact f2
  rw [e]
  exact h
theorem inT {w : Cond} (i : Nat) (h : tables_1[i]? = some w) (hg : goodWord w = true) : w ∈ ALL := List.mem_filter.mpr ⟨List.mem_append_right _ (List.mem_of_getElem? h), hg⟩
end SLinks
