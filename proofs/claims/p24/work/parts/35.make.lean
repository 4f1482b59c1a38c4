/-! ===== the law's green is made ===== -/
def g0 : GS := (fun kd _ k => if kd = 1 then (if k = 8 then 1 else if k = 9 then -1 else 0) else 0, fun _ => [], fun _ => 0, [])
def adS (a q1 q2 q3 q4 q5 : Nat) (r : Nat → Nat) : Pid → Nat
  | (21, _, _) => a
  | (22, _, _) => q1
  | (23, _, _) => q2
  | (24, _, _) => q3
  | (25, _, _) => q4
  | (26, _, _) => q5
  | (33, b, _) => r b
  | _ => 0
def M0S : Mem
  | (21, _, _) => fun k => if k = 1 then 1 else if k = 2 then -1 else 0
  | _ => fun _ => 0
def omS (a q1 q2 q3 q4 q5 : Nat) (r : Nat → Nat) : WS := (adS a q1 q2 q3 q4 q5 r, fun _ => 0, fun _ => 0, [], M0S)
theorem SimG_0 (a q1 q2 q3 q4 q5 : Nat) (r : Nat → Nat) : SimG (omS a q1 q2 q3 q4 q5 r) g0 0 := by
  refine ⟨⟨rfl, rfl, rfl⟩, fun b hb => absurd hb (Nat.not_lt_zero b), fun b hb => (if_neg (Nat.not_lt_zero b)).symm, fun b hb => absurd hb (Nat.not_lt_zero b), fun b hb => absurd hb (Nat.not_lt_zero b), fun b hb => absurd hb (Nat.not_lt_zero b), fun b hb => absurd hb (Nat.not_lt_zero b), ⟨rfl, rfl, rfl, rfl⟩, rfl, rfl⟩
theorem HV.abs {κ : KX} {nL : Nat} {σ : Sg} {cN dN a pc : Nat} {l : LSt} {st : List Value} {i : Pid} {e : va_E} (h : ∀ σ' : Sg, σ' a = some (i, e) → (∀ b, b ≠ a → σ' b = σ b) → HV κ nL σ' cN dN l st pc) : HV κ nL (sup σ a i e) cN dN l st pc := h _ sup_at (fun _ hb => sup_ne hb)
theorem at_refs {D : va_G} {cl : List vw_C} {q n : Nat} {cA : ClassId} {f g : Nat → Option Nat} {H : Heap} (h : ∀ j, j < n → f j = g j) (hP : va_at D cl (q, .inl (cA, pRefs n f)) H) : va_at D cl (q, .inl (cA, pRefs n g)) H := by
  have e : vp_cell cA (pRefs n f) = vp_cell cA (pRefs n g) := (vp_cell_q cA n f).trans ((arrV_eq (f := fun j => va_rf (f j)) (g := fun j => va_rf (g j)) (fun j hj => congrArg va_rf (h j hj).symm)).trans (vp_cell_q cA n g).symm)
  have hP : H[q]? = some (vp_cell cA (pRefs n f)) := hP
  show H[q]? = some (vp_cell cA (pRefs n g))
  rw [hP, e]
theorem fresh_ne {σ : Sg} {a q : Nat} {x : Pid × va_E} (h : σ a = some x) (hq : σ q = none) : a ≠ q := fun z => by rw [z, hq] at h; cases h
section Mk
variable {E : EX} {σ : Sg} {ω : WS} {g : GS} {w : Int32}
theorem m_init7 {a : Nat} {lab : Pid} (ha : σ a = some (lab, .inr (7, [.int 0, .int 0, .int 0, .int 0, .int 0, .int 0, .int 0, .int 0, .null]))) (hlab : lab ≠ (50, 0, 0)) : RetS E yX7_init cX7_init 1 none 1 12 1 8 [.ref a] σ (fun r σ' => r = none ∧ ∃ q, σ q = none ∧ σ' = sup (sup σ q (50, 0, 0) (.inl (E.cy 0, pInts 8 (fun _ => 0)))) a lab (.inr (7, [.int 0, .int 0, .int 0, .int (-1), .int 0, .int 0, .int 0, .int 0, .ref q]))) := by
  refine RetS_of RX7 (by decide) rfl [some (.ref a)] rfl (Nat.le_of_ble_eq_true rfl) (fun κ hE G E9 hr => ?_)
  subst hE
  have hc9 := E9.2.2.1
  have hd9 := E9.2.2.2
  refine h_aload_n G dX7_init_0 rfl ?_
  refine h_obj G (index := 1) (by decide +kernel) (by decide) dX7_init_1 ?_
  refine h_aload_n G dX7_init_4 rfl ?_
  refine h_iconst (v := -1) G dX7_init_5 (by decide) ?_
  refine h_put (T := TX7) (N := 9) (k := 3) (ty := .int) G ha uX7 tyX7 tyX7_ok nmX7 rfl (by decide) (by decide +kernel) rfl rfl rfl rfl (Nat.le_of_ble_eq_true rfl) dX7_init_6 ?_
  refine h_aload_n G dX7_init_9 rfl ?_
  refine h_bipush (v := 8) G dX7_init_10 (by decide) ?_
  refine h_newi G (50, 0, 0) (k := 8) rfl (by decide) (by decide +kernel) (by omega) (by omega) dX7_init_12 (fun q hq => ?_)
  have hqa : q ≠ a := fun z => by rw [z, sup_at] at hq; cases hq
  refine h_put (T := TX7) (N := 9) (k := 8) (ty := .array .int) G (sup_new hq sup_at) uX7 tyX7 tyX7_ok nmX7 rfl (by decide) (by decide +kernel) rfl rfl rfl rfl (Nat.le_of_ble_eq_true rfl) dX7_init_14 ?_
  refine h_vret G E9 (by omega) (by omega) hr dX7_init_17 ⟨rfl, q, ?_, ?_⟩
  · rw [sup_ne hqa] at hq
    exact hq
  · funext b
    unfold sup
    by_cases h1 : b = a
    · simp only [if_pos h1]; rfl
    · simp only [if_neg h1]
theorem m_init6 {a : Nat} (fa : σ a = some ((54, 0, 0), .inr (6, [.int 0, .int 0, .int 0, .int 0, .null, .null, .null, .null, .null]))) : RetS E yX6_init cX6_init 1 none 1 12 13 8 [.ref a] σ (fun r σ' => r = none ∧ ∃ ω', LayS E σ' ω' ∧ SimG ω' g0 0 ∧ ω'.ad (21, 0, 0) = a ∧ ∀ b i e, b ≠ a → σ b = some (i, e) → σ' b = some (i, e)) := by
  refine RetS_of RX6 (by decide) rfl [some (.ref a)] rfl (Nat.le_of_ble_eq_true rfl) (fun κ hE G E9 hr => ?_)
  subst hE
  have hc9 := E9.2.2.1
  have hd9 := E9.2.2.2
  have keep : ∀ b i e, b ≠ a → σ b = some (i, e) → σ b = some (i, e) := fun _ _ _ _ h => h
  refine h_aload_n G dX6_init_0 rfl ?_
  refine h_obj G (index := 1) (by decide +kernel) (by decide) dX6_init_1 ?_
  refine h_aload_n G dX6_init_4 rfl ?_
  refine h_iconst (v := 1) G dX6_init_5 (by decide) ?_
  refine h_put (T := TX6) (N := 9) (k := 1) (ty := .int) G fa uX6 tyX6 tyX6_ok nmX6 rfl (by decide) (by decide +kernel) rfl rfl rfl rfl (Nat.le_of_ble_eq_true rfl) dX6_init_6 ?_
  refine HV.abs (fun σ1 fa1 o1 => ?_)
  replace keep := fun b i e hb hs => (o1 b hb).trans (keep b i e hb hs)
  replace fa : σ1 a = some ((54, 0, 0), .inr (6, [.int 0, .int 1, .int 0, .int 0, .null, .null, .null, .null, .null])) := fa1
  clear fa1 o1
  refine h_aload_n G dX6_init_9 rfl ?_
  refine h_iconst (v := -1) G dX6_init_10 (by decide) ?_
  refine h_put (T := TX6) (N := 9) (k := 2) (ty := .int) G fa uX6 tyX6 tyX6_ok nmX6 rfl (by decide) (by decide +kernel) rfl rfl rfl rfl (Nat.le_of_ble_eq_true rfl) dX6_init_11 ?_
  refine HV.abs (fun σ1 fa1 o1 => ?_)
  replace keep := fun b i e hb hs => (o1 b hb).trans (keep b i e hb hs)
  replace fa : σ1 a = some ((54, 0, 0), .inr (6, [.int 0, .int 1, .int (-1), .int 0, .null, .null, .null, .null, .null])) := fa1
  clear fa1 o1
  refine h_aload_n G dX6_init_14 rfl ?_
  refine h_iconst (v := 0) G dX6_init_15 (by decide) ?_
  refine h_newA G (22, 0, 0) (k := 0) rfl (by decide) (by decide +kernel) (by omega) (by omega) dX6_init_16 (fun q1 hq1 => ?_)
  have nq1 : q1 ≠ a := (fresh_ne fa hq1).symm
  have kq1 := fun b i e hb hs => fresh_ne (keep b i e hb hs) hq1
  refine HV.abs (fun σ1 f22 o1 => ?_)
  replace keep := fun b i e hb hs => (o1 b (fresh_ne (keep b i e hb hs) hq1)).trans (keep b i e hb hs)
  replace fa := (o1 a (fresh_ne fa hq1)).trans fa
  clear o1
  refine h_put (T := TX6) (N := 9) (k := 4) (ty := .array (.array .int)) G fa uX6 tyX6 tyX6_ok nmX6 rfl (by decide) (by decide +kernel) rfl rfl rfl rfl (Nat.le_of_ble_eq_true rfl) dX6_init_19 ?_
  refine HV.abs (fun σ1 fa1 o1 => ?_)
  replace keep := fun b i e hb hs => (o1 b hb).trans (keep b i e hb hs)
  replace f22 := (o1 q1 nq1).trans f22
  replace fa : σ1 a = some ((54, 0, 0), .inr (6, [.int 0, .int 1, .int (-1), .int 0, .ref q1, .null, .null, .null, .null])) := fa1
  clear fa1 o1
  refine h_aload_n G dX6_init_22 rfl ?_
  refine h_bipush (v := 8) G dX6_init_23 (by decide) ?_
  refine h_iconst (v := 0) G dX6_init_25 (by decide) ?_
  refine h_mna G (23, 0, 0) (fun i => (33, i, 0)) (n := 8) (k := 0) rfl rfl (by decide) (by decide) (by decide +kernel) (by decide +kernel) (by omega) (by omega) dX6_init_26 (fun q2 r σ2 hri hq2 f23 fr kp2 _ => ?_)
  have nq2 : q2 ≠ a := (fresh_ne fa hq2).symm
  have kq2 := fun b i e hb hs => fresh_ne (keep b i e hb hs) hq2
  replace keep := fun b i e hb hs => kp2 b _ (keep b i e hb hs)
  replace f22 := kp2 _ _ f22
  replace fa := kp2 _ _ fa
  clear kp2
  have nr : ∀ i, i < 8 → r i ≠ a := fun i hi z => by
    have h1 := fr i hi
    rw [z, fa] at h1
    cases h1
  refine h_put (T := TX6) (N := 9) (k := 5) (ty := .array (.array .int)) G fa uX6 tyX6 tyX6_ok nmX6 rfl (by decide) (by decide +kernel) rfl rfl rfl rfl (Nat.le_of_ble_eq_true rfl) dX6_init_30 ?_
  refine HV.abs (fun σ1 fa1 o1 => ?_)
  replace keep := fun b i e hb hs => (o1 b hb).trans (keep b i e hb hs)
  replace f22 := (o1 q1 nq1).trans f22
  replace f23 := (o1 q2 nq2).trans f23
  replace fr := fun i (hi : i < 8) => (o1 (r i) (nr i hi)).trans (fr i hi)
  replace fa : σ1 a = some ((54, 0, 0), .inr (6, [.int 0, .int 1, .int (-1), .int 0, .ref q1, .ref q2, .null, .null, .null])) := fa1
  clear fa1 o1
  refine h_aload_n G dX6_init_33 rfl ?_
  refine h_iconst (v := 0) G dX6_init_34 (by decide) ?_
  refine h_newA G (24, 0, 0) (k := 0) rfl (by decide) (by decide +kernel) (by omega) (by omega) dX6_init_35 (fun q3 hq3 => ?_)
  have nq3 : q3 ≠ a := (fresh_ne fa hq3).symm
  have kq3 := fun b i e hb hs => fresh_ne (keep b i e hb hs) hq3
  refine HV.abs (fun σ1 f24 o1 => ?_)
  replace keep := fun b i e hb hs => (o1 b (fresh_ne (keep b i e hb hs) hq3)).trans (keep b i e hb hs)
  replace f22 := (o1 q1 (fresh_ne f22 hq3)).trans f22
  replace f23 := (o1 q2 (fresh_ne f23 hq3)).trans f23
  replace fr := fun i (hi : i < 8) => (o1 (r i) (fresh_ne (fr i hi) hq3)).trans (fr i hi)
  replace fa := (o1 a (fresh_ne fa hq3)).trans fa
  clear o1
  refine h_put (T := TX6) (N := 9) (k := 6) (ty := .array (.array .int)) G fa uX6 tyX6 tyX6_ok nmX6 rfl (by decide) (by decide +kernel) rfl rfl rfl rfl (Nat.le_of_ble_eq_true rfl) dX6_init_38 ?_
  refine HV.abs (fun σ1 fa1 o1 => ?_)
  replace keep := fun b i e hb hs => (o1 b hb).trans (keep b i e hb hs)
  replace f22 := (o1 q1 nq1).trans f22
  replace f23 := (o1 q2 nq2).trans f23
  replace fr := fun i (hi : i < 8) => (o1 (r i) (nr i hi)).trans (fr i hi)
  replace f24 := (o1 q3 nq3).trans f24
  replace fa : σ1 a = some ((54, 0, 0), .inr (6, [.int 0, .int 1, .int (-1), .int 0, .ref q1, .ref q2, .ref q3, .null, .null])) := fa1
  clear fa1 o1
  refine h_aload_n G dX6_init_41 rfl ?_
  refine h_iconst (v := 0) G dX6_init_42 (by decide) ?_
  refine h_newq G (25, 0, 0) (n := 0) (t0 := 4) rfl (by decide) rfl (by decide +kernel) G.hSw.1 (by omega) (by omega) dX6_init_43 (fun q4 hq4 => ?_)
  have nq4 : q4 ≠ a := (fresh_ne fa hq4).symm
  have kq4 := fun b i e hb hs => fresh_ne (keep b i e hb hs) hq4
  refine HV.abs (fun σ1 f25 o1 => ?_)
  replace keep := fun b i e hb hs => (o1 b (fresh_ne (keep b i e hb hs) hq4)).trans (keep b i e hb hs)
  replace f22 := (o1 q1 (fresh_ne f22 hq4)).trans f22
  replace f23 := (o1 q2 (fresh_ne f23 hq4)).trans f23
  replace fr := fun i (hi : i < 8) => (o1 (r i) (fresh_ne (fr i hi) hq4)).trans (fr i hi)
  replace f24 := (o1 q3 (fresh_ne f24 hq4)).trans f24
  replace fa := (o1 a (fresh_ne fa hq4)).trans fa
  clear o1
  refine h_put (T := TX6) (N := 9) (k := 7) (ty := .array (.object RX7)) G fa uX6 tyX6 tyX6_ok nmX6 rfl (by decide) (by decide +kernel) rfl rfl rfl rfl (Nat.le_of_ble_eq_true rfl) dX6_init_46 ?_
  refine HV.abs (fun σ1 fa1 o1 => ?_)
  replace keep := fun b i e hb hs => (o1 b hb).trans (keep b i e hb hs)
  replace f22 := (o1 q1 nq1).trans f22
  replace f23 := (o1 q2 nq2).trans f23
  replace fr := fun i (hi : i < 8) => (o1 (r i) (nr i hi)).trans (fr i hi)
  replace f24 := (o1 q3 nq3).trans f24
  replace f25 := (o1 q4 nq4).trans f25
  replace fa : σ1 a = some ((54, 0, 0), .inr (6, [.int 0, .int 1, .int (-1), .int 0, .ref q1, .ref q2, .ref q3, .ref q4, .null])) := fa1
  clear fa1 o1
  refine h_aload_n G dX6_init_49 rfl ?_
  refine h_iconst (v := 0) G dX6_init_50 (by decide) ?_
  refine h_newA G (26, 0, 0) (k := 0) rfl (by decide) (by decide +kernel) (by omega) (by omega) dX6_init_51 (fun q5 hq5 => ?_)
  have nq5 : q5 ≠ a := (fresh_ne fa hq5).symm
  have kq5 := fun b i e hb hs => fresh_ne (keep b i e hb hs) hq5
  refine HV.abs (fun σ1 f26 o1 => ?_)
  replace keep := fun b i e hb hs => (o1 b (fresh_ne (keep b i e hb hs) hq5)).trans (keep b i e hb hs)
  replace f22 := (o1 q1 (fresh_ne f22 hq5)).trans f22
  replace f23 := (o1 q2 (fresh_ne f23 hq5)).trans f23
  replace fr := fun i (hi : i < 8) => (o1 (r i) (fresh_ne (fr i hi) hq5)).trans (fr i hi)
  replace f24 := (o1 q3 (fresh_ne f24 hq5)).trans f24
  replace f25 := (o1 q4 (fresh_ne f25 hq5)).trans f25
  replace fa := (o1 a (fresh_ne fa hq5)).trans fa
  clear o1
  refine h_put (T := TX6) (N := 9) (k := 8) (ty := .array (.array .int)) G fa uX6 tyX6 tyX6_ok nmX6 rfl (by decide) (by decide +kernel) rfl rfl rfl rfl (Nat.le_of_ble_eq_true rfl) dX6_init_54 ?_
  refine HV.abs (fun σ1 fa1 o1 => ?_)
  replace keep := fun b i e hb hs => (o1 b hb).trans (keep b i e hb hs)
  replace f22 := (o1 q1 nq1).trans f22
  replace f23 := (o1 q2 nq2).trans f23
  replace fr := fun i (hi : i < 8) => (o1 (r i) (nr i hi)).trans (fr i hi)
  replace f24 := (o1 q3 nq3).trans f24
  replace f25 := (o1 q4 nq4).trans f25
  replace f26 := (o1 q5 nq5).trans f26
  replace fa : σ1 a = some ((54, 0, 0), .inr (6, [.int 0, .int 1, .int (-1), .int 0, .ref q1, .ref q2, .ref q3, .ref q4, .ref q5])) := fa1
  clear fa1 o1
  refine HV.lab (j := (21, 0, 0)) fa (HV.abs (fun σ1 fa1 o1 => ?_))
  replace keep := fun b i e hb hs => (o1 b hb).trans (keep b i e hb hs)
  replace f22 := (o1 q1 nq1).trans f22
  replace f23 := (o1 q2 nq2).trans f23
  replace fr := fun i (hi : i < 8) => (o1 (r i) (nr i hi)).trans (fr i hi)
  replace f24 := (o1 q3 nq3).trans f24
  replace f25 := (o1 q4 nq4).trans f25
  replace f26 := (o1 q5 nq5).trans f26
  clear o1 fa
  have see : ∀ (H : Heap), Hd κ.E.D κ.A σ1 H → Hd κ.E.D κ.A (fun b => if b = q1 then some ((22, 0, 0), .inl (κ.E.cy 5, pRefs 0 (fun j => some ((omS a q1 q2 q3 q4 q5 r).ad (32, j, 0))))) else if b = q2 then some ((23, 0, 0), .inl (κ.E.cy 5, pRefs 8 (fun j => some (r j)))) else if b = q3 then some ((24, 0, 0), .inl (κ.E.cy 5, pRefs 0 (fun j => some ((omS a q1 q2 q3 q4 q5 r).ad (34, j, 0))))) else if b = q4 then some ((25, 0, 0), .inl (κ.E.cy 4, pRefs 0 (fun j => some ((omS a q1 q2 q3 q4 q5 r).ad (35, j, 0))))) else σ1 b) H := by
    intro H hP b i e hb
    simp only [] at hb
    by_cases h1 : b = q1
    · rw [if_pos h1] at hb
      cases hb
      subst h1
      exact ⟨(hP _ _ _ f22).1, at_refs (fun k hk => absurd hk (Nat.not_lt_zero k)) (hP _ _ _ f22).2⟩
    rw [if_neg h1] at hb
    by_cases h2 : b = q2
    · rw [if_pos h2] at hb
      cases hb
      subst h2
      exact ⟨(hP _ _ _ f23).1, at_refs (fun k hk => if_pos hk) (hP _ _ _ f23).2⟩
    rw [if_neg h2] at hb
    by_cases h3 : b = q3
    · rw [if_pos h3] at hb
      cases hb
      subst h3
      exact ⟨(hP _ _ _ f24).1, at_refs (fun k hk => absurd hk (Nat.not_lt_zero k)) (hP _ _ _ f24).2⟩
    rw [if_neg h3] at hb
    by_cases h4 : b = q4
    · rw [if_pos h4] at hb
      cases hb
      subst h4
      exact ⟨(hP _ _ _ f25).1, at_refs (fun k hk => absurd hk (Nat.not_lt_zero k)) (hP _ _ _ f25).2⟩
    rw [if_neg h4] at hb
    exact hP b i e hb
  refine HV.see see ?_
  have dd : ∀ {x y : Nat} {i j : Pid} {e e2 : va_E}, i ≠ j → σ1 x = some (i, e) → σ1 y = some (j, e2) → x ≠ y := fun hij hx hy z => by
    rw [z, hy] at hx
    cases hx
    exact hij rfl
  refine h_vret G E9 (by omega) (by omega) hr dX6_init_57 ⟨rfl, omS a q1 q2 q3 q4 q5 r, ⟨fun i hi => ?_, ⟨Nat.zero_le _, Nat.zero_le _, Nat.zero_le _, Nat.zero_le _, fun b => Nat.zero_le _⟩, ?_⟩, SimG_0 a q1 q2 q3 q4 q5 r, rfl, fun b i e hb hs => ?_⟩
  · rcases lvS_cases hi with rfl | rfl | rfl | rfl | rfl | ⟨b, hb, rfl⟩ | ⟨b, hb, rfl⟩ | ⟨b, hb, rfl⟩ | ⟨b, hb, rfl⟩ | ⟨b, hb, rfl⟩
    · show (if a = q1 then _ else if a = q2 then _ else if a = q3 then _ else if a = q4 then _ else σ1 a) = _
      rw [if_neg nq1.symm, if_neg nq2.symm, if_neg nq3.symm, if_neg nq4.symm]
      exact fa1
    · show (if q1 = q1 then _ else _) = _
      rw [if_pos rfl]
      rfl
    · show (if q2 = q1 then _ else if q2 = q2 then _ else _) = _
      rw [if_neg (dd (by decide) f23 f22), if_pos rfl]
      rfl
    · show (if q3 = q1 then _ else if q3 = q2 then _ else if q3 = q3 then _ else _) = _
      rw [if_neg (dd (by decide) f24 f22), if_neg (dd (by decide) f24 f23), if_pos rfl]
      rfl
    · show (if q4 = q1 then _ else if q4 = q2 then _ else if q4 = q3 then _ else if q4 = q4 then _ else _) = _
      rw [if_neg (dd (by decide) f25 f22), if_neg (dd (by decide) f25 f23), if_neg (dd (by decide) f25 f24), if_pos rfl]
      rfl
    · exact absurd hb (Nat.not_lt_zero b)
    · show (if r b = q1 then _ else if r b = q2 then _ else if r b = q3 then _ else if r b = q4 then _ else σ1 (r b)) = _
      rw [if_neg (dd (by simp) (fr b hb) f22), if_neg (dd (by simp) (fr b hb) f23), if_neg (dd (by simp) (fr b hb) f24), if_neg (dd (by simp) (fr b hb) f25)]
      exact fr b hb
    · exact absurd hb (Nat.not_lt_zero b)
    · exact absurd hb (Nat.not_lt_zero b)
    · exact absurd hb (Nat.not_lt_zero b)
  · refine ⟨fun _ => none, ?_, Nat.le_refl _, fun j x hx => by cases hx⟩
    show (if q5 = q1 then _ else if q5 = q2 then _ else if q5 = q3 then _ else if q5 = q4 then _ else σ1 q5) = _
    rw [if_neg (dd (by decide) f26 f22), if_neg (dd (by decide) f26 f23), if_neg (dd (by decide) f26 f24), if_neg (dd (by decide) f26 f25)]
    exact f26
  · show (if b = q1 then _ else if b = q2 then _ else if b = q3 then _ else if b = q4 then _ else σ1 b) = _
    rw [if_neg (kq1 b i e hb hs), if_neg (kq2 b i e hb hs), if_neg (kq3 b i e hb hs), if_neg (kq4 b i e hb hs)]
    exact keep b i e hb hs
end Mk
