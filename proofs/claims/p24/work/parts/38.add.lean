/-! ===== a booth or a helper more on the law's green ===== -/
section GrBH
variable {E : EX} {σ : Sg} {ω : WS} {g : GS} {w : Int32}
def WS.grB (ω : WS) (q1 q2 : Nat) (F : Nat → Int32) : WS := (fun i => if i = (22, 0, 0) then q1 else if i = (32, ω.nb, 0) then q2 else ω.ad i, fun k => if k = 0 then ω.nb + 1 else ω.2.1 k, ω.2.2.1, ω.2.2.2.1, upr ω.M (32, ω.nb, 0) F)
theorem grB_M {q1 q2 : Nat} {F : Nat → Int32} : (ω.grB q1 q2 F).M = upr ω.M (32, ω.nb, 0) F := rfl
theorem grB_ad {q1 q2 : Nat} {F : Nat → Int32} {i : Pid} : (ω.grB q1 q2 F).ad i = if i = (22, 0, 0) then q1 else if i = (32, ω.nb, 0) then q2 else ω.ad i := rfl
theorem SimG.aB (h : SimG ω g w) (h8 : g.nb ≤ 8) {q1 q2 : Nat} {F : Nat → Int32} {c go p n : Int32} (f0 : F 0 = c) (f1 : F 1 = go) (f2 : F 2 = p) (f3 : F 3 = n) (f4 : F 4 = 0) (f5 : F 5 = 0) : SimG (ω.grB q1 q2 F) (addB g c go p n) w := by
  obtain ⟨⟨h1a, h1b, h1c⟩, h2, h3, h4, h5, h6, h7, ⟨h8', h9, h10, h11⟩, h12, h13⟩ := h
  obtain ⟨g1, hg1⟩ : ∃ g1, g1 = addB g c go p n := ⟨_, rfl⟩
  have gi : ∀ kd a k, ¬ (kd = 2 ∧ a = g.nb) → g1.i kd a k = g.i kd a k := fun kd a k hno => by
    rw [hg1, addB_i, if_neg hno]
  have gn : ∀ k, g1.i 2 g.nb k = (if k = 0 then c else if k = 1 then go else if k = 2 then p else if k = 3 then n else 0) := fun k => by
    rw [hg1, addB_i, if_pos ⟨rfl, rfl⟩]
  have gq : ∀ b, g1.q b = if b = g.nb then [] else g.q b := fun b => by rw [hg1]; rfl
  have e0 : g1.nb = g.nb + 1 := by rw [hg1]; rfl
  have e1 : g1.nh = g.nh := by rw [hg1]; rfl
  have e2 : g1.nv = g.nv := by rw [hg1]; rfl
  have e3 : g1.bd = g.bd := by rw [hg1]; rfl
  have mo : ∀ i : Pid, i ≠ (32, ω.nb, 0) → (ω.grB q1 q2 F).M i = ω.M i := fun i a => by
    rw [grB_M, upr_ne a]
  have m0 : (ω.grB q1 q2 F).M (32, ω.nb, 0) = F := by rw [grB_M, upr_at]
  rw [← hg1]
  unfold SimG
  rw [e0, e1, e2, e3]
  refine ⟨⟨by show ω.nb + 1 = _; rw [h1a], h1b, h1c⟩, fun b hb => ?_, fun b hb => ?_, fun b hb i u hu => ?_, fun a ha k hk => ?_, fun v hv k hk => ?_, fun v hv b hb => ?_, ⟨?_, ?_, ?_, ?_⟩, h12, h13⟩
  · by_cases q : b = g.nb
    · subst q
      rw [← h1a, m0, h1a]
      refine ⟨fun k hk => ?_, ?_, ?_⟩
      · rw [gn]
        match k, hk with
        | 0, _ => rw [f0]; rfl
        | 1, _ => rw [f1]; rfl
        | 2, _ => rw [f2]; rfl
        | 3, _ => rw [f3]; rfl
      · rw [gn, f4]; rfl
      · rw [gn, f5]; rfl
    · rw [mo _ (by simp; omega)]
      refine ⟨fun k hk => ?_, ?_, ?_⟩
      · rw [gi _ _ _ (by omega)]; exact (h2 b (by omega)).1 k hk
      · rw [gi _ _ _ (by omega)]; exact (h2 b (by omega)).2.1
      · rw [gi _ _ _ (by omega)]; exact (h2 b (by omega)).2.2
  · have h3b : ω.ql b = _ := h3 b hb
    show ω.ql b = _
    rw [h3b, gq]
    by_cases q : b = g.nb
    · rw [if_neg (by omega), if_pos (by omega), if_pos q]; rfl
    · rw [if_neg q]
      by_cases q2 : b < g.nb
      · rw [if_pos q2, if_pos (by omega)]
      · rw [if_neg q2, if_neg (by omega)]
  · rw [gq] at hu
    by_cases q : b = g.nb
    · rw [if_pos q] at hu; cases hu
    · rw [if_neg q] at hu; rw [mo _ (by simp)]; exact h4 b (by omega) i u hu
  · rw [mo _ (by simp), gi _ _ _ (by omega)]; exact h5 a ha k hk
  · have hst : stt g1 v = stt g v := by unfold stt; rw [gi _ _ _ (by omega), gi _ _ _ (by omega)]
    rw [mo _ (by simp), h6 v hv k hk, vfc_eq, vfc_eq, hst, gi _ _ _ (by omega), gi _ _ _ (by omega)]
  · rw [mo _ (by simp), gi _ _ _ (by omega)]; exact h7 v hv b hb
  · rw [mo _ (by simp), gi _ _ _ (by omega)]; exact h8'
  · rw [mo _ (by simp), gi _ _ _ (by omega)]; exact h9
  · rw [mo _ (by simp), gi _ _ _ (by omega)]; exact h10
  · rw [mo _ (by simp)]; exact h11
theorem LayS.aB {c21 : va_E} {q1 q2 : Nat} {F : Nat → Int32} {l1 l2 : Pid} {e1 e2 : va_E} (hL : LayS E σ ω) (h16 : ω.nb < 8) (h1 : σ q1 = some (l1, e1)) (h2 : σ q2 = some (l2, e2)) (n1 : ¬ (20 ≤ l1.1 ∧ l1.1 < 50)) (n2 : ¬ (20 ≤ l2.1 ∧ l2.1 < 50)) (d12 : l1 ≠ l2) (hc : c21 = celS E (ω.grB q1 q2 F) (21, 0, 0)) :
    LayS E (sup (sup (sup σ (ω.ad (21, 0, 0)) (21, 0, 0) c21) q1 (22, 0, 0) (celS E (ω.grB q1 q2 F) (22, 0, 0))) q2 (32, ω.nb, 0) (celS E (ω.grB q1 q2 F) (32, ω.nb, 0))) (ω.grB q1 q2 F) := by
  have ne : ∀ {x y : Nat} {i j : Pid} {e e2 : va_E}, i ≠ j → σ x = some (i, e) → σ y = some (j, e2) → x ≠ y := fun hij hx hy z => by
    rw [z, hy] at hx
    cases hx
    exact hij rfl
  have sim : ∀ {i : Pid} {l : Pid}, 20 ≤ i.1 ∧ i.1 < 50 → ¬ (20 ≤ l.1 ∧ l.1 < 50) → i ≠ l := fun a b z => b (by rw [← z]; exact a)
  have h21 := hL.1 (21, 0, 0) trivial
  have q12 := ne d12 h1 h2
  have out : ∀ (b : Nat) (i : Pid) (e : va_E), σ b = some (i, e) → (20 ≤ i.1 ∧ i.1 < 50) → i ≠ (21, 0, 0) → sup (sup (sup σ (ω.ad (21, 0, 0)) (21, 0, 0) c21) q1 (22, 0, 0) (celS E (ω.grB q1 q2 F) (22, 0, 0))) q2 (32, ω.nb, 0) (celS E (ω.grB q1 q2 F) (32, ω.nb, 0)) b = some (i, e) := fun b i e hs hi h => by
    rw [sup_ne (ne (sim hi n2) hs h2), sup_ne (ne (sim hi n1) hs h1), sup_ne (ne h hs h21)]
    exact hs
  have a0 : ∀ i : Pid, i ≠ (22, 0, 0) → i ≠ (32, ω.nb, 0) → (ω.grB q1 q2 F).ad i = ω.ad i := fun i a b => by
    rw [grB_ad, if_neg a, if_neg b]
  have mo : ∀ i : Pid, i ≠ (32, ω.nb, 0) → (ω.grB q1 q2 F).M i = ω.M i := fun i a => by
    rw [grB_M, upr_ne a]
  have ao : (ω.grB q1 q2 F).ad (22, 0, 0) = q1 := by
    rw [grB_ad, if_pos rfl]
  have ar : (ω.grB q1 q2 F).ad (32, ω.nb, 0) = q2 := by
    rw [grB_ad, if_neg (by simp), if_pos rfl]
  have f21 : sup (sup (sup σ (ω.ad (21, 0, 0)) (21, 0, 0) c21) q1 (22, 0, 0) (celS E (ω.grB q1 q2 F) (22, 0, 0))) q2 (32, ω.nb, 0) (celS E (ω.grB q1 q2 F) (32, ω.nb, 0)) (ω.ad (21, 0, 0)) = some ((21, 0, 0), c21) := by
    rw [sup_ne (ne (sim (by decide) n2) h21 h2), sup_ne (ne (sim (by decide) n1) h21 h1), sup_at]
  refine ⟨fun i hi => ?_, ⟨by show ω.nb + 1 ≤ 8; omega, hL.2.1.2.1, hL.2.1.2.2.1, hL.2.1.2.2.2.1, hL.2.1.2.2.2.2⟩, ?_⟩
  · rcases lvS_cases hi with rfl | rfl | rfl | rfl | rfl | ⟨b, hb, rfl⟩ | ⟨b, hb, rfl⟩ | ⟨b, hb, rfl⟩ | ⟨b, hb, rfl⟩ | ⟨b, hb, rfl⟩
    · rw [a0 _ (by decide) (by simp), f21, hc]
    · rw [ao, sup_ne q12, sup_at]
    · rw [a0 _ (by decide) (by simp), out _ _ _ (hL.1 (23, 0, 0) trivial) (by decide) (by decide)]
      simp only [celS]
      rw [show (fun j => some ((ω.grB q1 q2 F).ad (33, j, 0))) = fun j => some (ω.ad (33, j, 0)) from funext (fun j => by rw [a0 _ (by simp) (by simp)])]
    · rw [a0 _ (by decide) (by simp), out _ _ _ (hL.1 (24, 0, 0) trivial) (by decide) (by decide)]
      simp only [celS]
      rw [show (fun j => some ((ω.grB q1 q2 F).ad (34, j, 0))) = fun j => some (ω.ad (34, j, 0)) from funext (fun j => by rw [a0 _ (by simp) (by simp)])]
      rfl
    · rw [a0 _ (by decide) (by simp), out _ _ _ (hL.1 (25, 0, 0) trivial) (by decide) (by decide)]
      simp only [celS]
      rw [show (fun j => some ((ω.grB q1 q2 F).ad (35, j, 0))) = fun j => some (ω.ad (35, j, 0)) from funext (fun j => by rw [a0 _ (by simp) (by simp)])]
      rfl
    · have hb : b < ω.nb + 1 := hb
      by_cases q : b = ω.nb
      · subst q
        rw [ar, sup_at]
      · rw [a0 _ (by simp) (by simp; omega), out _ _ _ (hL.1 (32, b, 0) (by show b < ω.nb; omega)) (lvS_lab (ω := ω) (i := (32, b, 0)) (by show b < ω.nb; omega)) (by simp)]
        simp only [celS, mo (32, b, 0) (by simp; omega)]
    · rw [a0 _ (by simp) (by simp), out _ _ _ (hL.1 (33, b, 0) hb) (lvS_lab (ω := ω) (i := (33, b, 0)) hb) (by simp)]
      simp only [celS, mo (33, b, 0) (by simp)]
      rfl
    · rw [a0 _ (by simp) (by simp), out _ _ _ (hL.1 (34, b, 0) hb) (lvS_lab (ω := ω) (i := (34, b, 0)) hb) (by simp)]
      simp only [celS, mo (34, b, 0) (by simp)]
    · rw [a0 _ (by simp) (by simp), out _ _ _ (hL.1 (35, b, 0) hb) (lvS_lab (ω := ω) (i := (35, b, 0)) hb) (by simp)]
      simp only [celS, mo (35, b, 0) (by simp), a0 (45, b, 0) (by simp) (by simp)]
    · rw [a0 _ (by simp) (by simp), out _ _ _ (hL.1 (45, b, 0) hb) (lvS_lab (ω := ω) (i := (45, b, 0)) hb) (by simp)]
      simp only [celS, mo (45, b, 0) (by simp)]
  · exact hL.2.2.kp (fun e hs => out _ _ _ hs (by decide) (by decide)) (fun a e hs => out _ _ _ hs (by decide) (by decide))
def WS.grH (ω : WS) (q1 q2 : Nat) (F : Nat → Int32) : WS := (fun i => if i = (24, 0, 0) then q1 else if i = (34, ω.nh, 0) then q2 else ω.ad i, fun k => if k = 1 then ω.nh + 1 else ω.2.1 k, ω.2.2.1, ω.2.2.2.1, upr ω.M (34, ω.nh, 0) F)
theorem grH_M {q1 q2 : Nat} {F : Nat → Int32} : (ω.grH q1 q2 F).M = upr ω.M (34, ω.nh, 0) F := rfl
theorem grH_ad {q1 q2 : Nat} {F : Nat → Int32} {i : Pid} : (ω.grH q1 q2 F).ad i = if i = (24, 0, 0) then q1 else if i = (34, ω.nh, 0) then q2 else ω.ad i := rfl
theorem SimG.aH (h : SimG ω g w) (h8 : g.nb ≤ 8) {q1 q2 : Nat} {F : Nat → Int32} {x : Int32} (f0 : F 0 = 24) (f1 : F 1 = x) (f2 : F 2 = 0) : SimG (ω.grH q1 q2 F) ((addH g).set 3 g.nh 1 x) w := by
  obtain ⟨⟨h1a, h1b, h1c⟩, h2, h3, h4, h5, h6, h7, ⟨h8', h9, h10, h11⟩, h12, h13⟩ := h
  obtain ⟨g1, hg1⟩ : ∃ g1, g1 = (addH g).set 3 g.nh 1 x := ⟨_, rfl⟩
  have gi : ∀ kd a k, ¬ (kd = 3 ∧ a = g.nh) → g1.i kd a k = g.i kd a k := fun kd a k hno => by
    rw [hg1, gi_set, if_neg (fun z => hno ⟨z.1, z.2.1⟩), addH_i, if_neg hno]
  have gn : ∀ k, k < 3 → g1.i 3 g.nh k = F k := fun k hk => by
    rw [hg1, gi_set, addH_i]
    match k, hk with
    | 0, _ => rw [if_neg (by omega), if_pos ⟨rfl, rfl⟩, f0]; rfl
    | 1, _ => rw [if_pos ⟨rfl, rfl, rfl⟩, f1]
    | 2, _ => rw [if_neg (by omega), if_pos ⟨rfl, rfl⟩, f2]; rfl
  have gq : ∀ b, g1.q b = g.q b := fun b => by rw [hg1]; rfl
  have e0 : g1.nb = g.nb := by rw [hg1]; rfl
  have e1 : g1.nh = g.nh + 1 := by rw [hg1]; rfl
  have e2 : g1.nv = g.nv := by rw [hg1]; rfl
  have e3 : g1.bd = g.bd := by rw [hg1]; rfl
  have mo : ∀ i : Pid, i ≠ (34, ω.nh, 0) → (ω.grH q1 q2 F).M i = ω.M i := fun i a => by
    rw [grH_M, upr_ne a]
  have m0 : (ω.grH q1 q2 F).M (34, ω.nh, 0) = F := by rw [grH_M, upr_at]
  rw [← hg1]
  unfold SimG
  rw [e0, e1, e2, e3]
  refine ⟨⟨h1a, by show ω.nh + 1 = _; rw [h1b], h1c⟩, fun b hb => ?_, fun b hb => ?_, fun b hb i u hu => ?_, fun a ha k hk => ?_, fun v hv k hk => ?_, fun v hv b hb => ?_, ⟨?_, ?_, ?_, ?_⟩, h12, h13⟩
  · rw [mo _ (by simp)]
    refine ⟨fun k hk => ?_, ?_, ?_⟩
    · rw [gi _ _ _ (by omega)]; exact (h2 b hb).1 k hk
    · rw [gi _ _ _ (by omega)]; exact (h2 b hb).2.1
    · rw [gi _ _ _ (by omega)]; exact (h2 b hb).2.2
  · show ω.ql b = _
    rw [gq]; exact h3 b hb
  · rw [gq] at hu; rw [mo _ (by simp)]; exact h4 b hb i u hu
  · by_cases q : a = g.nh
    · subst q
      rw [gn k hk, ← h1b, m0]
    · rw [mo _ (by simp; omega), gi _ _ _ (by omega)]; exact h5 a (by omega) k hk
  · have hst : stt g1 v = stt g v := by unfold stt; rw [gi _ _ _ (by omega), gi _ _ _ (by omega)]
    rw [mo _ (by simp), h6 v hv k hk, vfc_eq, vfc_eq, hst, gi _ _ _ (by omega), gi _ _ _ (by omega)]
  · rw [mo _ (by simp), gi _ _ _ (by omega)]; exact h7 v hv b hb
  · rw [mo _ (by simp), gi _ _ _ (by omega)]; exact h8'
  · rw [mo _ (by simp), gi _ _ _ (by omega)]; exact h9
  · rw [mo _ (by simp), gi _ _ _ (by omega)]; exact h10
  · rw [mo _ (by simp)]; exact h11
theorem LayS.aH {c21 : va_E} {q1 q2 : Nat} {F : Nat → Int32} {l1 l2 : Pid} {e1 e2 : va_E} (hL : LayS E σ ω) (h16 : ω.nh < 12) (h1 : σ q1 = some (l1, e1)) (h2 : σ q2 = some (l2, e2)) (n1 : ¬ (20 ≤ l1.1 ∧ l1.1 < 50)) (n2 : ¬ (20 ≤ l2.1 ∧ l2.1 < 50)) (d12 : l1 ≠ l2) (hc : c21 = celS E (ω.grH q1 q2 F) (21, 0, 0)) :
    LayS E (sup (sup (sup σ (ω.ad (21, 0, 0)) (21, 0, 0) c21) q1 (24, 0, 0) (celS E (ω.grH q1 q2 F) (24, 0, 0))) q2 (34, ω.nh, 0) (celS E (ω.grH q1 q2 F) (34, ω.nh, 0))) (ω.grH q1 q2 F) := by
  have ne : ∀ {x y : Nat} {i j : Pid} {e e2 : va_E}, i ≠ j → σ x = some (i, e) → σ y = some (j, e2) → x ≠ y := fun hij hx hy z => by
    rw [z, hy] at hx
    cases hx
    exact hij rfl
  have sim : ∀ {i : Pid} {l : Pid}, 20 ≤ i.1 ∧ i.1 < 50 → ¬ (20 ≤ l.1 ∧ l.1 < 50) → i ≠ l := fun a b z => b (by rw [← z]; exact a)
  have h21 := hL.1 (21, 0, 0) trivial
  have q12 := ne d12 h1 h2
  have out : ∀ (b : Nat) (i : Pid) (e : va_E), σ b = some (i, e) → (20 ≤ i.1 ∧ i.1 < 50) → i ≠ (21, 0, 0) → sup (sup (sup σ (ω.ad (21, 0, 0)) (21, 0, 0) c21) q1 (24, 0, 0) (celS E (ω.grH q1 q2 F) (24, 0, 0))) q2 (34, ω.nh, 0) (celS E (ω.grH q1 q2 F) (34, ω.nh, 0)) b = some (i, e) := fun b i e hs hi h => by
    rw [sup_ne (ne (sim hi n2) hs h2), sup_ne (ne (sim hi n1) hs h1), sup_ne (ne h hs h21)]
    exact hs
  have a0 : ∀ i : Pid, i ≠ (24, 0, 0) → i ≠ (34, ω.nh, 0) → (ω.grH q1 q2 F).ad i = ω.ad i := fun i a b => by
    rw [grH_ad, if_neg a, if_neg b]
  have mo : ∀ i : Pid, i ≠ (34, ω.nh, 0) → (ω.grH q1 q2 F).M i = ω.M i := fun i a => by
    rw [grH_M, upr_ne a]
  have ao : (ω.grH q1 q2 F).ad (24, 0, 0) = q1 := by
    rw [grH_ad, if_pos rfl]
  have ar : (ω.grH q1 q2 F).ad (34, ω.nh, 0) = q2 := by
    rw [grH_ad, if_neg (by simp), if_pos rfl]
  have f21 : sup (sup (sup σ (ω.ad (21, 0, 0)) (21, 0, 0) c21) q1 (24, 0, 0) (celS E (ω.grH q1 q2 F) (24, 0, 0))) q2 (34, ω.nh, 0) (celS E (ω.grH q1 q2 F) (34, ω.nh, 0)) (ω.ad (21, 0, 0)) = some ((21, 0, 0), c21) := by
    rw [sup_ne (ne (sim (by decide) n2) h21 h2), sup_ne (ne (sim (by decide) n1) h21 h1), sup_at]
  refine ⟨fun i hi => ?_, ⟨hL.2.1.1, by show ω.nh + 1 ≤ 12; omega, hL.2.1.2.2.1, hL.2.1.2.2.2.1, hL.2.1.2.2.2.2⟩, ?_⟩
  · rcases lvS_cases hi with rfl | rfl | rfl | rfl | rfl | ⟨b, hb, rfl⟩ | ⟨b, hb, rfl⟩ | ⟨b, hb, rfl⟩ | ⟨b, hb, rfl⟩ | ⟨b, hb, rfl⟩
    · rw [a0 _ (by decide) (by simp), f21, hc]
    · rw [a0 _ (by decide) (by simp), out _ _ _ (hL.1 (22, 0, 0) trivial) (by decide) (by decide)]
      simp only [celS]
      rw [show (fun j => some ((ω.grH q1 q2 F).ad (32, j, 0))) = fun j => some (ω.ad (32, j, 0)) from funext (fun j => by rw [a0 _ (by simp) (by simp)])]
      rfl
    · rw [a0 _ (by decide) (by simp), out _ _ _ (hL.1 (23, 0, 0) trivial) (by decide) (by decide)]
      simp only [celS]
      rw [show (fun j => some ((ω.grH q1 q2 F).ad (33, j, 0))) = fun j => some (ω.ad (33, j, 0)) from funext (fun j => by rw [a0 _ (by simp) (by simp)])]
    · rw [ao, sup_ne q12, sup_at]
    · rw [a0 _ (by decide) (by simp), out _ _ _ (hL.1 (25, 0, 0) trivial) (by decide) (by decide)]
      simp only [celS]
      rw [show (fun j => some ((ω.grH q1 q2 F).ad (35, j, 0))) = fun j => some (ω.ad (35, j, 0)) from funext (fun j => by rw [a0 _ (by simp) (by simp)])]
      rfl
    · rw [a0 _ (by simp) (by simp), out _ _ _ (hL.1 (32, b, 0) hb) (lvS_lab (ω := ω) (i := (32, b, 0)) hb) (by simp)]
      simp only [celS, mo (32, b, 0) (by simp)]
    · rw [a0 _ (by simp) (by simp), out _ _ _ (hL.1 (33, b, 0) hb) (lvS_lab (ω := ω) (i := (33, b, 0)) hb) (by simp)]
      simp only [celS, mo (33, b, 0) (by simp)]
      rfl
    · have hb : b < ω.nh + 1 := hb
      by_cases q : b = ω.nh
      · subst q
        rw [ar, sup_at]
      · rw [a0 _ (by simp) (by simp; omega), out _ _ _ (hL.1 (34, b, 0) (by show b < ω.nh; omega)) (lvS_lab (ω := ω) (i := (34, b, 0)) (by show b < ω.nh; omega)) (by simp)]
        simp only [celS, mo (34, b, 0) (by simp; omega)]
    · rw [a0 _ (by simp) (by simp), out _ _ _ (hL.1 (35, b, 0) hb) (lvS_lab (ω := ω) (i := (35, b, 0)) hb) (by simp)]
      simp only [celS, mo (35, b, 0) (by simp), a0 (45, b, 0) (by simp) (by simp)]
    · rw [a0 _ (by simp) (by simp), out _ _ _ (hL.1 (45, b, 0) hb) (lvS_lab (ω := ω) (i := (45, b, 0)) hb) (by simp)]
      simp only [celS, mo (45, b, 0) (by simp)]
  · exact hL.2.2.kp (fun e hs => out _ _ _ hs (by decide) (by decide)) (fun a e hs => out _ _ _ hs (by decide) (by decide))
end GrBH
