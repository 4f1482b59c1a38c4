/-! ===== a visitor comes to the law's green; below and cell ===== -/
theorem LayS.abs {E : EX} {σ σ' : Sg} {ω : WS} {q : Nat} {lab : Pid} {e : va_E} (hL : LayS E σ ω) (hq : σ q = some (lab, e)) (hl : ¬ (20 ≤ lab.1 ∧ lab.1 < 50)) (o : ∀ b, b ≠ q → σ' b = σ b) : LayS E σ' ω := hL.kp (fun a i e2 hs hi => (o a (fun z => by
  rw [z, hq] at hs
  cases hs
  exact hl hi)).trans hs)
theorem KpS.abs {σ0 σ σ' : Sg} {q : Nat} (hk : KpS σ0 σ) (nf : ∀ i e, σ0 q = some (i, e) → 20 ≤ i.1 ∧ i.1 < 50) (o : ∀ b, b ≠ q → σ' b = σ b) : KpS σ0 σ' := fun a i e hs hn => (o a (fun z => hn (nf i e (by rw [← z]; exact hs)))).trans (hk a i e hs hn)
section AddV
variable {E : EX} {σ : Sg} {ω : WS} {g : GS} {w : Int32}
def WS.addV (ω : WS) (q1 q2 q3 : Nat) (t s : Int32) : WS := (fun i => if i = (25, 0, 0) then q1 else if i = (35, ω.nv, 0) then q2 else if i = (45, ω.nv, 0) then q3 else ω.ad i, fun k => if k = 2 then ω.nv + 1 else ω.2.1 k, ω.2.2.1, ω.2.2.2.1, upr (upr ω.M (35, ω.nv, 0) (fun k => if k = 0 then t else if k = 1 then s else if k = 3 then -1 else 0)) (45, ω.nv, 0) (fun _ => 0))
theorem addV_M {q1 q2 q3 : Nat} {t s : Int32} : (ω.addV q1 q2 q3 t s).M = upr (upr ω.M (35, ω.nv, 0) (fun k => if k = 0 then t else if k = 1 then s else if k = 3 then -1 else 0)) (45, ω.nv, 0) (fun _ => 0) := rfl
theorem addV_ad {q1 q2 q3 : Nat} {t s : Int32} {i : Pid} : (ω.addV q1 q2 q3 t s).ad i = if i = (25, 0, 0) then q1 else if i = (35, ω.nv, 0) then q2 else if i = (45, ω.nv, 0) then q3 else ω.ad i := rfl
theorem SimG.aV (h : SimG ω g w) {q1 q2 q3 : Nat} {t s : Int32} : SimG (ω.addV q1 q2 q3 t s) (Jvm.Pilot.CFeteBoardLaw_law_r1289_786a2d.addV g t s) w := by
  obtain ⟨⟨h1a, h1b, h1c⟩, h2, h3, h4, h5, h6, h7, ⟨h8, h9, h10, h11⟩, h12, h13⟩ := h
  obtain ⟨g1, hg1⟩ : ∃ g1, g1 = Jvm.Pilot.CFeteBoardLaw_law_r1289_786a2d.addV g t s := ⟨_, rfl⟩
  have gi : ∀ kd a k, ¬ ((kd = 4 ∨ kd = 10) ∧ a = g.nv) → g1.i kd a k = g.i kd a k := fun kd a k hno => by
    rw [hg1, addV_i, if_neg (fun q => hno ⟨Or.inl q.1, q.2⟩), if_neg (fun q => hno ⟨Or.inr q.1, q.2⟩)]
  have gn : ∀ k, g1.i 4 g.nv k = (if k = 0 then t else if k = 1 then s else if k = 3 then -1 else 0) := fun k => by
    rw [hg1, addV_i, if_pos ⟨rfl, rfl⟩]
  have gp : ∀ k, g1.i 10 g.nv k = 0 := fun k => by
    rw [hg1, addV_i, if_neg (fun q => absurd q.1 (by decide)), if_pos ⟨rfl, rfl⟩]
  have e0 : g1.nb = g.nb := by rw [hg1]; rfl
  have e1 : g1.nh = g.nh := by rw [hg1]; rfl
  have e2 : g1.nv = g.nv + 1 := by rw [hg1]; rfl
  have e3 : g1.bd = g.bd := by rw [hg1]; rfl
  have e4 : g1.q = g.q := by rw [hg1]; rfl
  have mo : ∀ i : Pid, i ≠ (35, ω.nv, 0) → i ≠ (45, ω.nv, 0) → (ω.addV q1 q2 q3 t s).M i = ω.M i := fun i a b => by
    rw [addV_M, upr_ne b, upr_ne a]
  have m35 : (ω.addV q1 q2 q3 t s).M (35, ω.nv, 0) = fun k => if k = 0 then t else if k = 1 then s else if k = 3 then -1 else 0 := by
    rw [addV_M, upr_ne (by simp), upr_at]
  have m45 : (ω.addV q1 q2 q3 t s).M (45, ω.nv, 0) = fun _ => 0 := by
    rw [addV_M, upr_at]
  rw [← hg1]
  unfold SimG
  rw [e0, e1, e2, e3, e4]
  refine ⟨⟨h1a, h1b, by show ω.nv + 1 = _; rw [h1c]⟩, fun b hb => ?_, h3, fun b hb i u hu => ?_, fun a ha k hk => ?_, fun v hv k hk => ?_, fun v hv b hb => ?_, ⟨?_, ?_, ?_, ?_⟩, h12, h13⟩
  · rw [mo _ (by simp) (by simp)]
    refine ⟨fun k hk => ?_, ?_, ?_⟩
    · rw [gi _ _ _ (by omega)]; exact (h2 b hb).1 k hk
    · rw [gi _ _ _ (by omega)]; exact (h2 b hb).2.1
    · rw [gi _ _ _ (by omega)]; exact (h2 b hb).2.2
  · rw [mo _ (by simp) (by simp)]; exact h4 b hb i u hu
  · rw [mo _ (by simp) (by simp), gi _ _ _ (by omega)]; exact h5 a ha k hk
  · by_cases q : v = g.nv
    · subst q
      rw [← h1c, m35]
      have hs : stt g1 g.nv = 0 := by unfold stt; rw [gn, gn]; rfl
      rw [vfc_eq, h1c, hs, gn, gn]
      by_cases k2 : k = 2
      · subst k2; rfl
      · rw [if_neg k2]
        by_cases k7 : k < 7
        · rw [if_pos k7]
        · have : k = 7 := by omega
          subst this; rfl
    · have hst : stt g1 v = stt g v := by unfold stt; rw [gi _ _ _ (by omega), gi _ _ _ (by omega)]
      rw [mo _ (by simp; omega) (by simp), h6 v (by omega) k hk, vfc_eq, vfc_eq, hst, gi _ _ _ (by omega), gi _ _ _ (by omega)]
  · by_cases q : v = g.nv
    · subst q
      rw [gp, ← h1c, m45]
    · rw [mo _ (by simp) (by simp; omega), gi _ _ _ (by omega)]; exact h7 v (by omega) b hb
  · rw [mo _ (by simp) (by simp), gi _ _ _ (by omega)]; exact h8
  · rw [mo _ (by simp) (by simp), gi _ _ _ (by omega)]; exact h9
  · rw [mo _ (by simp) (by simp), gi _ _ _ (by omega)]; exact h10
  · rw [mo _ (by simp) (by simp)]; exact h11
theorem LayS.aV {c21 : va_E} {q1 q2 q3 : Nat} {t s : Int32} {l1 l2 l3 : Pid} {e1 e2 e3 : va_E} (hL : LayS E σ ω) (h16 : ω.nv < 16) (h1 : σ q1 = some (l1, e1)) (h2 : σ q2 = some (l2, e2)) (h3 : σ q3 = some (l3, e3)) (n1 : ¬ (20 ≤ l1.1 ∧ l1.1 < 50)) (n2 : ¬ (20 ≤ l2.1 ∧ l2.1 < 50)) (n3 : ¬ (20 ≤ l3.1 ∧ l3.1 < 50)) (d12 : l1 ≠ l2) (d13 : l1 ≠ l3) (d23 : l2 ≠ l3) (hc : c21 = celS E (ω.addV q1 q2 q3 t s) (21, 0, 0)) :
    LayS E (sup (sup (sup (sup σ (ω.ad (21, 0, 0)) (21, 0, 0) c21) q1 (25, 0, 0) (celS E (ω.addV q1 q2 q3 t s) (25, 0, 0))) q2 (35, ω.nv, 0) (celS E (ω.addV q1 q2 q3 t s) (35, ω.nv, 0))) q3 (45, ω.nv, 0) (celS E (ω.addV q1 q2 q3 t s) (45, ω.nv, 0))) (ω.addV q1 q2 q3 t s) := by
  have ne : ∀ {x y : Nat} {i j : Pid} {e e2 : va_E}, i ≠ j → σ x = some (i, e) → σ y = some (j, e2) → x ≠ y := fun hij hx hy z => by
    rw [z, hy] at hx
    cases hx
    exact hij rfl
  have sim : ∀ {i : Pid} {l : Pid}, 20 ≤ i.1 ∧ i.1 < 50 → ¬ (20 ≤ l.1 ∧ l.1 < 50) → i ≠ l := fun a b z => b (by rw [← z]; exact a)
  have h21 := hL.1 (21, 0, 0) trivial
  have q12 := ne d12 h1 h2
  have q13 := ne d13 h1 h3
  have q23 := ne d23 h2 h3
  have out : ∀ (b : Nat) (i : Pid) (e : va_E), σ b = some (i, e) → (20 ≤ i.1 ∧ i.1 < 50) → i ≠ (21, 0, 0) → sup (sup (sup (sup σ (ω.ad (21, 0, 0)) (21, 0, 0) c21) q1 (25, 0, 0) (celS E (ω.addV q1 q2 q3 t s) (25, 0, 0))) q2 (35, ω.nv, 0) (celS E (ω.addV q1 q2 q3 t s) (35, ω.nv, 0))) q3 (45, ω.nv, 0) (celS E (ω.addV q1 q2 q3 t s) (45, ω.nv, 0)) b = some (i, e) := fun b i e hs hi h => by
    rw [sup_ne (ne (sim hi n3) hs h3), sup_ne (ne (sim hi n2) hs h2), sup_ne (ne (sim hi n1) hs h1), sup_ne (ne h hs h21)]
    exact hs
  have a0 : ∀ i : Pid, i ≠ (25, 0, 0) → i ≠ (35, ω.nv, 0) → i ≠ (45, ω.nv, 0) → (ω.addV q1 q2 q3 t s).ad i = ω.ad i := fun i a b c => by
    rw [addV_ad, if_neg a, if_neg b, if_neg c]
  have mo : ∀ i : Pid, i ≠ (35, ω.nv, 0) → i ≠ (45, ω.nv, 0) → (ω.addV q1 q2 q3 t s).M i = ω.M i := fun i a b => by
    rw [addV_M, upr_ne b, upr_ne a]
  have a25 : (ω.addV q1 q2 q3 t s).ad (25, 0, 0) = q1 := by
    rw [addV_ad, if_pos rfl]
  have a35 : (ω.addV q1 q2 q3 t s).ad (35, ω.nv, 0) = q2 := by
    rw [addV_ad, if_neg (by simp), if_pos rfl]
  have a45 : (ω.addV q1 q2 q3 t s).ad (45, ω.nv, 0) = q3 := by
    rw [addV_ad, if_neg (by simp), if_neg (by simp), if_pos rfl]
  have f21 : sup (sup (sup (sup σ (ω.ad (21, 0, 0)) (21, 0, 0) c21) q1 (25, 0, 0) (celS E (ω.addV q1 q2 q3 t s) (25, 0, 0))) q2 (35, ω.nv, 0) (celS E (ω.addV q1 q2 q3 t s) (35, ω.nv, 0))) q3 (45, ω.nv, 0) (celS E (ω.addV q1 q2 q3 t s) (45, ω.nv, 0)) (ω.ad (21, 0, 0)) = some ((21, 0, 0), c21) := by
    rw [sup_ne (ne (sim (by decide) n3) h21 h3), sup_ne (ne (sim (by decide) n2) h21 h2), sup_ne (ne (sim (by decide) n1) h21 h1), sup_at]
  refine ⟨fun i hi => ?_, ⟨hL.2.1.1, hL.2.1.2.1, by show ω.nv + 1 ≤ 16; omega, hL.2.1.2.2.2.1, hL.2.1.2.2.2.2⟩, ?_⟩
  · rcases lvS_cases hi with rfl | rfl | rfl | rfl | rfl | ⟨b, hb, rfl⟩ | ⟨b, hb, rfl⟩ | ⟨b, hb, rfl⟩ | ⟨b, hb, rfl⟩ | ⟨b, hb, rfl⟩
    · rw [a0 _ (by decide) (by simp) (by simp), f21, hc]
    · rw [a0 _ (by decide) (by simp) (by simp), out _ _ _ (hL.1 (22, 0, 0) trivial) (by decide) (by decide)]
      simp only [celS]
      rw [show (fun j => some ((ω.addV q1 q2 q3 t s).ad (32, j, 0))) = fun j => some (ω.ad (32, j, 0)) from funext (fun j => by rw [a0 _ (by simp) (by simp) (by simp)])]
      rfl
    · rw [a0 _ (by decide) (by simp) (by simp), out _ _ _ (hL.1 (23, 0, 0) trivial) (by decide) (by decide)]
      simp only [celS]
      rw [show (fun j => some ((ω.addV q1 q2 q3 t s).ad (33, j, 0))) = fun j => some (ω.ad (33, j, 0)) from funext (fun j => by rw [a0 _ (by simp) (by simp) (by simp)])]
    · rw [a0 _ (by decide) (by simp) (by simp), out _ _ _ (hL.1 (24, 0, 0) trivial) (by decide) (by decide)]
      simp only [celS]
      rw [show (fun j => some ((ω.addV q1 q2 q3 t s).ad (34, j, 0))) = fun j => some (ω.ad (34, j, 0)) from funext (fun j => by rw [a0 _ (by simp) (by simp) (by simp)])]
      rfl
    · rw [a25, sup_ne q13, sup_ne q12, sup_at]
    · rw [a0 _ (by simp) (by simp) (by simp), out _ _ _ (hL.1 (32, b, 0) hb) (lvS_lab (ω := ω) (i := (32, b, 0)) hb) (by simp)]
      simp only [celS, mo (32, b, 0) (by simp) (by simp)]
    · rw [a0 _ (by simp) (by simp) (by simp), out _ _ _ (hL.1 (33, b, 0) hb) (lvS_lab (ω := ω) (i := (33, b, 0)) hb) (by simp)]
      simp only [celS, mo (33, b, 0) (by simp) (by simp)]
      rfl
    · rw [a0 _ (by simp) (by simp) (by simp), out _ _ _ (hL.1 (34, b, 0) hb) (lvS_lab (ω := ω) (i := (34, b, 0)) hb) (by simp)]
      simp only [celS, mo (34, b, 0) (by simp) (by simp)]
    · have hb : b < ω.nv + 1 := hb
      by_cases q : b = ω.nv
      · subst q
        rw [a35, sup_ne q23, sup_at]
      · rw [a0 _ (by simp) (by simp; omega) (by simp), out _ _ _ (hL.1 (35, b, 0) (by show b < ω.nv; omega)) (lvS_lab (ω := ω) (i := (35, b, 0)) (by show b < ω.nv; omega)) (by simp)]
        simp only [celS, mo (35, b, 0) (by simp; omega) (by simp), a0 (45, b, 0) (by simp) (by simp) (by simp; omega)]
    · have hb : b < ω.nv + 1 := hb
      by_cases q : b = ω.nv
      · subst q
        rw [a45, sup_at]
      · rw [a0 _ (by simp) (by simp) (by simp; omega), out _ _ _ (hL.1 (45, b, 0) (by show b < ω.nv; omega)) (lvS_lab (ω := ω) (i := (45, b, 0)) (by show b < ω.nv; omega)) (by simp)]
        simp only [celS, mo (45, b, 0) (by simp) (by simp; omega)]
  · exact hL.2.2.kp (fun e hs => by
      exact out _ _ _ hs (by decide) (by decide)) (fun a e hs => out _ _ _ hs (by decide) (by decide))
theorem mA_n53 : (RX6, 53, yX7_init) ∈ snest := List.mem_cons_self
theorem mA_n11 : (RL, 11, yX6_init) ∈ snest := List.mem_cons_of_mem _ List.mem_cons_self
theorem m_come (hL : LayS E σ ω) (hG : SimG ω g w) (h16 : g.nv < 16) {t s : Int32} : RetS E yX6_come cX6_come 5 none 2 32 3 40 [.ref (ω.ad (21, 0, 0)), .int t, .int s] σ (fun r σ' => r = none ∧ ∃ ω', LayS E σ' ω' ∧ SimG ω' (Jvm.Pilot.CFeteBoardLaw_law_r1289_786a2d.addV g t s) w ∧ ω'.ad (21, 0, 0) = ω.ad (21, 0, 0) ∧ KpS σ σ') := by
  have hnv := hG.nv
  refine RetS_of RX6 (by decide) rfl [some (.ref (ω.ad (21, 0, 0))), some (.int t), some (.int s), none, none] rfl (Nat.le_of_ble_eq_true rfl) (fun κ hE G E9 hr => ?_)
  subst hE
  have hc9 := E9.2.2.1
  have hd9 := E9.2.2.2
  refine h_aload_n G dX6_come_0 rfl ?_
  refine wgX6_31 G hL dX6_come_1 ?_
  refine wle_25 G hL dX6_come_4 ?_
  rw [hnv]
  refine h_iconst (v := 1) G dX6_come_5 (by decide) ?_
  refine h_iadd G dX6_come_6 ?_
  rw [nI_1]
  refine h_newq G (55, 0, 0) (n := g.nv + 1) (t0 := 4) rfl (by omega) rfl (by decide +kernel) G.hSw.1 (by omega) (by omega) dX6_come_7 (fun q1 hq1 => ?_)
  refine HV.wid (c2 := 1) (d2 := 17) (by omega) (by omega) ?_
  refine h_astore_n G dX6_come_10 (by decide) rfl ?_
  refine h_iconst (v := 0) G dX6_come_11 (by decide) ?_
  refine h_istore G dX6_come_12 (by decide) rfl ?_
  have loop : ∀ m k, k + m = g.nv → HV κ 5 (sup σ q1 (55, 0, 0) (.inl (κ.E.cy 4, pRefs (g.nv + 1) (fun j => if j < k then some (ω.ad (35, j, 0)) else none)))) 1 17 [some (.ref (ω.ad (21, 0, 0))), some (.int t), some (.int s), some (.ref q1), some (.int (nI k))] [] 14 := by
    intro m
    induction m with
    | zero =>
      intro k hk0
      have hk0 : k = g.nv := by omega
      subst hk0
      have hL0 := hL
      replace hL := hL.new (i := (55, 0, 0)) (e := (.inl (κ.E.cy 4, pRefs (g.nv + 1) (fun j => if j < g.nv then some (ω.ad (35, j, 0)) else none)))) hq1
      have hk : KpS σ (sup σ q1 (55, 0, 0) (.inl (κ.E.cy 4, pRefs (g.nv + 1) (fun j => if j < g.nv then some (ω.ad (35, j, 0)) else none)))) := KpS.rf.new hq1
      have f1 : sup σ q1 (55, 0, 0) (.inl (κ.E.cy 4, pRefs (g.nv + 1) (fun j => if j < g.nv then some (ω.ad (35, j, 0)) else none))) q1 = _ := sup_at
      generalize sup σ q1 (55, 0, 0) (.inl (κ.E.cy 4, pRefs (g.nv + 1) (fun j => if j < g.nv then some (ω.ad (35, j, 0)) else none))) = σ1 at hL hk f1 ⊢
      refine h_iload G dX6_come_14 rfl ?_
      refine h_aload_n G dX6_come_16 rfl ?_
      refine wgX6_31 G hL dX6_come_17 ?_
      refine wle_25 G hL dX6_come_20 ?_
      rw [hnv]
      refine h_icmp_ge G 41 dX6_come_21 (by decide) (fun h21 => ?_) (fun h21 => ?_)
      rotate_left
      · exact absurd (nI_le (Nat.le_refl _) (by omega)) h21
      refine h_new (T := TX7) (N := 9) (ci := 7) (fs := [.int 0, .int 0, .int 0, .int 0, .int 0, .int 0, .int 0, .int 0, .null]) G (56, 0, 0) uX7 tyX7 tyX7_ok (by decide +kernel) (by decide +kernel) (by decide +kernel) rfl (by decide) (by omega) (by omega) dX6_come_41 (fun q2 hq2 => ?_)
      replace hL := hL.new (i := (56, 0, 0)) (e := (.inr (7, [.int 0, .int 0, .int 0, .int 0, .int 0, .int 0, .int 0, .int 0, .null]))) hq2
      have nf2 := hk.fresh hq2
      replace hk := hk.new (i := (56, 0, 0)) (e := (.inr (7, [.int 0, .int 0, .int 0, .int 0, .int 0, .int 0, .int 0, .int 0, .null]))) hq2
      replace f1 := sup_new (i2 := (56, 0, 0)) (e3 := (.inr (7, [.int 0, .int 0, .int 0, .int 0, .int 0, .int 0, .int 0, .int 0, .null]))) hq2 f1
      have f2 : sup σ1 q2 (56, 0, 0) (.inr (7, [.int 0, .int 0, .int 0, .int 0, .int 0, .int 0, .int 0, .int 0, .null])) q2 = _ := sup_at
      generalize sup σ1 q2 (56, 0, 0) (.inr (7, [.int 0, .int 0, .int 0, .int 0, .int 0, .int 0, .int 0, .int 0, .null])) = σ2 at hL hk f1 f2 ⊢
      refine h_dup G dX6_come_44 rfl ?_
      refine h_callN G (m_init7 f2 (by decide)) (G.hSw.2.2 _ mA_n53) (by decide +kernel) (by decide +kernel) (by decide +kernel) (by decide +kernel) rfl (by decide) (Nat.le_of_ble_eq_true rfl) (by omega) (by omega) dX6_come_45 (fun r9 σ9 hp9 => ?_)
      obtain ⟨rfl, q3, hq3, rfl⟩ := hp9
      refine HV.drop1 4 ?_
      refine HV.abs (fun σ3 f2' o3 => ?_)
      have n32 : q3 ≠ q2 := (fresh_ne f2 hq3).symm
      replace f1 := (o3 q1 (fun z => by rw [z, f2] at f1; cases f1)).trans (sup_new hq3 f1)
      have f3 := (o3 q3 n32).trans sup_at
      have kk : ∀ b i e, σ2 b = some (i, e) → i ≠ (56, 0, 0) → σ3 b = some (i, e) := fun b i e hs hi => (o3 b (fun z => by rw [z, f2] at hs; cases hs; exact hi rfl)).trans (sup_new hq3 hs)
      replace hL := hL.kp (σ' := σ3) (fun a i e hs hi => kk a i e hs (fun z => by rw [z] at hi; exact absurd hi (by decide)))
      have nf3 : ∀ i e, σ q3 = some (i, e) → 20 ≤ i.1 ∧ i.1 < 50 := hk.fresh hq3
      have hk2 : KpS σ σ3 := fun a i e hs hn => by
        have h1 := hk a i e hs hn
        by_cases hb : a = q2
        · rw [hb] at hs
          exact absurd (nf2 i e hs) hn
        · exact (o3 a hb).trans (sup_new hq3 h1)
      clear hk kk o3 f2
      have hk := hk2
      have f2 := f2'
      clear hk2 f2'
      have n12 : q1 ≠ q2 := fun z => by rw [z, f2] at f1; cases f1
      refine h_astore G dX6_come_48 (by decide) rfl ?_
      refine h_aload G dX6_come_50 rfl ?_
      refine h_iload_n G dX6_come_52 rfl ?_
      refine h_put (T := TX7) (N := 9) (k := 0) (ty := .int) G f2 uX7 tyX7 tyX7_ok nmX7 rfl (by decide) (by decide +kernel) rfl rfl rfl rfl (Nat.le_of_ble_eq_true rfl) dX6_come_53 ?_
      refine HV.abs (fun σ4 f2' o4 => ?_)
      replace hL := hL.abs f2 (by decide) o4
      replace hk := hk.abs nf2 o4
      replace f1 := (o4 q1 n12).trans f1
      replace f3 := (o4 q3 n32).trans f3
      clear f2 o4
      have f2 := f2'
      clear f2'
      refine h_aload G dX6_come_56 rfl ?_
      refine h_iload_n G dX6_come_58 rfl ?_
      refine h_put (T := TX7) (N := 9) (k := 1) (ty := .int) G f2 uX7 tyX7 tyX7_ok nmX7 rfl (by decide) (by decide +kernel) rfl rfl rfl rfl (Nat.le_of_ble_eq_true rfl) dX6_come_59 ?_
      refine HV.abs (fun σ5 f2' o4 => ?_)
      replace hL := hL.abs f2 (by decide) o4
      replace hk := hk.abs nf2 o4
      replace f1 := (o4 q1 n12).trans f1
      replace f3 := (o4 q3 n32).trans f3
      clear f2 o4
      have f2 : σ5 q2 = some ((56, 0, 0), .inr (7, [.int t, .int s, .int 0, .int (-1), .int 0, .int 0, .int 0, .int 0, .ref q3])) := f2'
      clear f2'
      refine h_aload_n G dX6_come_62 rfl ?_
      refine h_aload_n G dX6_come_63 rfl ?_
      refine wgX6_31 G hL dX6_come_64 ?_
      refine wle_25 G hL dX6_come_67 ?_
      rw [hnv]
      refine h_aload G dX6_come_68 rfl ?_
      refine h_aasO (t0 := 4) (ci := 7) (r := (RX7, TX7, 9)) G f1 rfl f2 rfl rfl (by omega) (by omega) dX6_come_70 ?_
      refine HV.abs (fun σ6 f1' o4 => ?_)
      replace hL := hL.abs f1 (by decide) o4
      replace hk := hk.abs (fun i e h => by rw [hq1] at h; cases h) o4
      replace f2 := (o4 q2 n12.symm).trans f2
      have n31 : q3 ≠ q1 := fun z => by rw [z, f1] at f3; cases f3
      replace f3 := (o4 q3 n31).trans f3
      clear f1 o4
      have f1 := f1'
      clear f1'
      refine h_aload_n G dX6_come_71 rfl ?_
      refine h_aload_n G dX6_come_72 rfl ?_
      have h21 := hL.1 (21, 0, 0) trivial
      refine h_put (T := TX6) (N := 9) (k := 7) (ty := .array (.object RX7)) G h21 uX6 tyX6 tyX6_ok nmX6 rfl (by decide) (by decide +kernel) rfl rfl rfl rfl (Nat.le_of_ble_eq_true rfl) dX6_come_73 ?_
      have sim : ∀ {b q : Nat} {i l : Pid} {e e2 : va_E}, σ6 b = some (i, e) → σ6 q = some (l, e2) → i ≠ l → b ≠ q := fun ha hb hn z => by
        rw [z, hb] at ha
        cases ha
        exact hn rfl
      refine HV.refs (f2 := fun j => some ((ω.addV q1 q2 q3 t s).ad (35, j, 0))) (sup_lab h21 (by decide) f1) (fun k hk => ?_) ?_
      · rw [addV_ad, if_neg (by simp)]
        by_cases hkn : k = g.nv
        · rw [if_pos (by rw [hnv, hkn])]
          simp [va_up, hkn]
        · rw [if_neg (by rw [hnv]; simp [hkn]), if_neg (by simp)]
          simp [va_up, hkn, show k < g.nv by omega]
      refine HV.lab (j := (25, 0, 0)) sup_at ?_
      rw [sup_sup]
      refine HV.lab (j := (35, ω.nv, 0)) ((sup_ne n12.symm).trans (sup_lab h21 (by decide) f2)) ?_
      refine HV.lab (j := (45, ω.nv, 0)) ((sup_ne n32).trans ((sup_ne n31).trans (sup_lab h21 (by decide) f3))) ?_
      have hLf := hL.aV (t := t) (s := s) (by omega) f1 f2 f3 (by decide) (by decide) (by decide) (by decide) (by decide) (by decide) (rfl : _ = celS κ.E (ω.addV q1 q2 q3 t s) (21, 0, 0))
      have hkf : KpS σ (sup (sup (sup (sup σ6 (ω.ad (21, 0, 0)) (21, 0, 0) (celS κ.E (ω.addV q1 q2 q3 t s) (21, 0, 0))) q1 (25, 0, 0) (celS κ.E (ω.addV q1 q2 q3 t s) (25, 0, 0))) q2 (35, ω.nv, 0) (celS κ.E (ω.addV q1 q2 q3 t s) (35, ω.nv, 0))) q3 (45, ω.nv, 0) (celS κ.E (ω.addV q1 q2 q3 t s) (45, ω.nv, 0))) := fun a i e hs hn => by
        rw [sup_ne (fun z => hn (nf3 i e (by rw [← z]; exact hs))), sup_ne (fun z => hn (nf2 i e (by rw [← z]; exact hs))), sup_ne (fun z => by rw [z, hq1] at hs; cases hs)]
        exact sup_lab h21 (fun z => hn (by rw [z]; decide)) (hk a i e hs hn)
      have e35 : celS κ.E (ω.addV q1 q2 q3 t s) (35, ω.nv, 0) = .inr (7, [.int t, .int s, .int 0, .int (-1), .int 0, .int 0, .int 0, .int 0, .ref q3]) := by
        have e1 : (ω.addV q1 q2 q3 t s).M (35, ω.nv, 0) = fun k => if k = 0 then t else if k = 1 then s else if k = 3 then -1 else 0 := by rw [addV_M, upr_ne (by simp), upr_at]
        have e2 : (ω.addV q1 q2 q3 t s).ad (45, ω.nv, 0) = q3 := by rw [addV_ad, if_neg (by simp), if_neg (by simp), if_pos rfl]
        simp only [celS, e1, e2]
        rfl
      have e45 : celS κ.E (ω.addV q1 q2 q3 t s) (45, ω.nv, 0) = .inl (κ.E.cy 0, pInts 8 (fun _ => 0)) := by
        have e1 : (ω.addV q1 q2 q3 t s).M (45, ω.nv, 0) = fun _ => 0 := by rw [addV_M, upr_at]
        simp only [celS, e1]
      have e25 : celS κ.E (ω.addV q1 q2 q3 t s) (25, 0, 0) = .inl (κ.E.cy 4, pRefs (g.nv + 1) (fun j => some ((ω.addV q1 q2 q3 t s).ad (35, j, 0)))) := by rw [← hnv]; rfl
      have e21 : celS κ.E (ω.addV q1 q2 q3 t s) (21, 0, 0) = .inr (6, [.int (ω.M (21, 0, 0) 0), .int (ω.M (21, 0, 0) 1), .int (ω.M (21, 0, 0) 2), .int (ω.M (21, 0, 0) 3), .ref (ω.ad (22, 0, 0)), .ref (ω.ad (23, 0, 0)), .ref (ω.ad (24, 0, 0)), .ref q1, .ref (ω.ad (26, 0, 0))]) := by
        have e1 : (ω.addV q1 q2 q3 t s).M (21, 0, 0) = ω.M (21, 0, 0) := by rw [addV_M, upr_ne (by simp), upr_ne (by simp)]
        simp only [celS, e1]
        rfl
      rw [e21, e25, e35, e45] at hLf hkf
      exact h_vret G E9 (by omega) (by omega) hr dX6_come_76 ⟨rfl, _, hLf, hG.aV, rfl, hkf⟩
    | succ m ih =>
      intro k hk0
      have hlt : k < g.nv := by omega
      have hL0 := hL
      replace hL := hL.new (i := (55, 0, 0)) (e := (.inl (κ.E.cy 4, pRefs (g.nv + 1) (fun j => if j < k then some (ω.ad (35, j, 0)) else none)))) hq1
      have f35 := hL.1 (35, k, 0) (by show k < ω.nv; omega)
      refine h_iload G dX6_come_14 rfl ?_
      refine h_aload_n G dX6_come_16 rfl ?_
      refine wgX6_31 G hL dX6_come_17 ?_
      refine wle_25 G hL dX6_come_20 ?_
      rw [hnv]
      refine h_icmp_ge G 41 dX6_come_21 (by decide) (fun h21 => ?_) (fun h21 => ?_)
      · exact absurd h21 (nI_ge hlt (by omega))
      refine h_aload_n G dX6_come_24 rfl ?_
      refine h_iload G dX6_come_25 rfl ?_
      refine h_aload_n G dX6_come_27 rfl ?_
      refine wgX6_31 G hL dX6_come_28 ?_
      refine h_iload G dX6_come_31 rfl ?_
      refine war_25 G hL rfl (by first | assumption | omega | (rw [hG.nb]; omega) | (rw [hG.nh]; omega) | (rw [hG.nv]; omega)) dX6_come_33 ?_
      refine h_aasO (t0 := 4) (ci := 7) (r := (RX7, TX7, 9)) G sup_at rfl f35 rfl rfl (by omega) (by omega) dX6_come_34 ?_
      rw [sup_sup]
      have e : va_up (fun j => if j < k then some (ω.ad (35, j, 0)) else none) k (some (ω.ad (35, k, 0))) = fun j => if j < k + 1 then some (ω.ad (35, j, 0)) else none := by
        funext j
        by_cases hj : j = k
        · subst hj; simp [va_up]
        · by_cases hlt : j < k
          · simp [va_up, hj, hlt, Nat.lt_succ_of_lt hlt]
          · simp [va_up, hj, hlt, show ¬ j < k + 1 by omega]
      rw [e]
      refine h_iinc G dX6_come_35 rfl (by decide) rfl (nI_1 k) ?_
      refine h_goto G 14 dX6_come_38 (by decide) ?_
      exact ih (k + 1) (by omega)
  have h0 := loop g.nv 0 (by omega)
  simp only [Nat.not_lt_zero, if_false] at h0
  exact h0
end AddV
