/-! ===== the law's green is a green ===== -/
def SimG (ω : WS) (g : GS) (w : Int32) : Prop :=
  (ω.nb = g.nb ∧ ω.nh = g.nh ∧ ω.nv = g.nv) ∧
  (∀ b, b < g.nb → (∀ k, k < 4 → ω.M (32, b, 0) k = g.i 2 b k) ∧ ω.M (32, b, 0) 4 = g.i 2 b 5 ∧ ω.M (32, b, 0) 5 = g.i 2 b 6) ∧
  (∀ b, b < 8 → ω.ql b = if b < g.nb then (g.q b).length else 0) ∧
  (∀ b, b < g.nb → ∀ i u, (g.q b)[i]? = some u → ω.M (33, b, 0) i = nI u) ∧
  (∀ h, h < g.nh → ∀ k, k < 3 → ω.M (34, h, 0) k = g.i 3 h k) ∧
  (∀ v, v < g.nv → ∀ k, k < 8 → ω.M (35, v, 0) k = vfc g v k) ∧
  (∀ v, v < g.nv → ∀ b, b < 8 → ω.M (45, v, 0) b = g.i 10 v b) ∧
  (ω.M (21, 0, 0) 0 = g.i 1 0 7 ∧ ω.M (21, 0, 0) 1 = g.i 1 0 8 ∧ ω.M (21, 0, 0) 2 = g.i 1 0 9 ∧ ω.M (21, 0, 0) 3 = w) ∧
  ω.bd = g.bd ∧ ω.nl = g.bd.length
theorem wrM {ω : WS} {i j : Pid} {k n : Nat} {v : Int32} : (ω.wr i k v).M j n = if j = i ∧ n = k then v else ω.M j n := rfl
theorem stt_set {g : GS} {kd a k v : Nat} {x : Int32} (h : ¬ (kd = 4 ∧ a = v ∧ (k = 2 ∨ k = 3))) : stt (g.set kd a k x) v = stt g v := by
  unfold stt
  have e2 : (g.set kd a k x).i 4 v 2 = g.i 4 v 2 := by rw [gi_set, if_neg (by omega)]
  have e3 : (g.set kd a k x).i 4 v 3 = g.i 4 v 3 := by rw [gi_set, if_neg (by omega)]
  rw [e2, e3]
/-- the number of a visitor that is told as k -/
theorem vfc_eq (g : GS) (v k : Nat) : vfc g v k = if k = 2 then stt g v else if k < 7 then g.i 4 v k else g.i 4 v 7 := by
  match k with
  | 0 => rfl
  | 1 => rfl
  | 2 => rfl
  | 3 => rfl
  | 4 => rfl
  | 5 => rfl
  | 6 => rfl
  | n + 7 => rw [if_neg (by omega), if_neg (by omega)]; rfl
theorem vfc_set {g : GS} {kd a k v k2 : Nat} {x : Int32} (h : ¬ (kd = 4 ∧ a = v)) : vfc (g.set kd a k x) v k2 = vfc g v k2 := by
  have e : ∀ j, (g.set kd a k x).i 4 v j = g.i 4 v j := fun j => by rw [gi_set, if_neg (by omega)]
  rw [vfc_eq, vfc_eq, stt_set (by omega), e, e]
section SimGs
variable {ω : WS} {g : GS} {w x : Int32}
theorem SimG.nb (h : SimG ω g w) : ω.nb = g.nb := h.1.1
theorem SimG.nh (h : SimG ω g w) : ω.nh = g.nh := h.1.2.1
theorem SimG.nv (h : SimG ω g w) : ω.nv = g.nv := h.1.2.2
theorem SimG.bo (h : SimG ω g w) {b k : Nat} (hb : b < g.nb) (hk : k < 4) : ω.M (32, b, 0) k = g.i 2 b k := (h.2.1 b hb).1 k hk
theorem SimG.b4 (h : SimG ω g w) {b : Nat} (hb : b < g.nb) : ω.M (32, b, 0) 4 = g.i 2 b 5 := (h.2.1 b hb).2.1
theorem SimG.b5 (h : SimG ω g w) {b : Nat} (hb : b < g.nb) : ω.M (32, b, 0) 5 = g.i 2 b 6 := (h.2.1 b hb).2.2
theorem SimG.ql (h : SimG ω g w) {b : Nat} (h8 : g.nb ≤ 8) (hb : b < g.nb) : ω.ql b = (g.q b).length := by rw [h.2.2.1 b (by omega), if_pos hb]
theorem SimG.qe (h : SimG ω g w) {b i u : Nat} (hb : b < g.nb) (hu : (g.q b)[i]? = some u) : ω.M (33, b, 0) i = nI u := h.2.2.2.1 b hb i u hu
theorem SimG.he (h : SimG ω g w) {a k : Nat} (ha : a < g.nh) (hk : k < 3) : ω.M (34, a, 0) k = g.i 3 a k := h.2.2.2.2.1 a ha k hk
theorem SimG.vi (h : SimG ω g w) {v k : Nat} (hv : v < g.nv) (hk : k < 8) : ω.M (35, v, 0) k = vfc g v k := h.2.2.2.2.2.1 v hv k hk
theorem SimG.pr (h : SimG ω g w) {v b : Nat} (hv : v < g.nv) (hb : b < 8) : ω.M (45, v, 0) b = g.i 10 v b := h.2.2.2.2.2.2.1 v hv b hb
theorem SimG.rd (h : SimG ω g w) : ω.M (21, 0, 0) 0 = g.i 1 0 7 := h.2.2.2.2.2.2.2.1.1
theorem SimG.da (h : SimG ω g w) : ω.M (21, 0, 0) 1 = g.i 1 0 8 := h.2.2.2.2.2.2.2.1.2.1
theorem SimG.mk (h : SimG ω g w) : ω.M (21, 0, 0) 2 = g.i 1 0 9 := h.2.2.2.2.2.2.2.1.2.2.1
theorem SimG.wo (h : SimG ω g w) : ω.M (21, 0, 0) 3 = w := h.2.2.2.2.2.2.2.1.2.2.2
theorem SimG.bd (h : SimG ω g w) : ω.bd = g.bd := h.2.2.2.2.2.2.2.2.1
theorem SimG.nl (h : SimG ω g w) : ω.nl = g.bd.length := h.2.2.2.2.2.2.2.2.2
/-- a fact of a booth -/
theorem SimG.b32 (h : SimG ω g w) {b j k : Nat} (hj : (k < 4 ∧ j = k) ∨ (k = 5 ∧ j = 4) ∨ (k = 6 ∧ j = 5)) : SimG (ω.wr (32, b, 0) j x) (g.set 2 b k x) w := by
  obtain ⟨h1, h2, h3, h4, h5, h6, h7, ⟨h8, h9, h10, h11⟩, h12, h13⟩ := h
  refine ⟨h1, fun a ha => ⟨fun k2 hk2 => ?_, ?_, ?_⟩, h3, fun a ha i u hu => ?_, fun a ha k2 hk2 => ?_, fun a ha k2 hk2 => ?_, fun a ha k2 hk2 => ?_, ⟨?_, ?_, ?_, ?_⟩, h12, h13⟩
  · have e : k2 = j ↔ k2 = k := by omega
    simp only [wrM, gi_set, Prod.mk.injEq, true_and, and_true, e]
    rw [(h2 a ha).1 k2 hk2]
  · have e : 4 = j ↔ 5 = k := by omega
    simp only [wrM, gi_set, Prod.mk.injEq, true_and, and_true, e]
    rw [(h2 a ha).2.1]
  · have e : 5 = j ↔ 6 = k := by omega
    simp only [wrM, gi_set, Prod.mk.injEq, true_and, and_true, e]
    rw [(h2 a ha).2.2]
  · rw [wrM, if_neg (by simp)]; exact h4 a ha i u hu
  · rw [wrM, if_neg (by simp), gi_set, if_neg (by omega)]; exact h5 a ha k2 hk2
  · rw [wrM, if_neg (by simp), vfc_set (by omega)]; exact h6 a ha k2 hk2
  · rw [wrM, if_neg (by simp), gi_set, if_neg (by omega)]; exact h7 a ha k2 hk2
  · rw [wrM, if_neg (by simp), gi_set, if_neg (by omega)]; exact h8
  · rw [wrM, if_neg (by simp), gi_set, if_neg (by omega)]; exact h9
  · rw [wrM, if_neg (by simp), gi_set, if_neg (by omega)]; exact h10
  · rw [wrM, if_neg (by simp)]; exact h11
/-- a fact of a helper -/
theorem SimG.h34 (h : SimG ω g w) {b k : Nat} : SimG (ω.wr (34, b, 0) k x) (g.set 3 b k x) w := by
  obtain ⟨h1, h2, h3, h4, h5, h6, h7, ⟨h8, h9, h10, h11⟩, h12, h13⟩ := h
  refine ⟨h1, fun a ha => ⟨fun k2 hk2 => ?_, ?_, ?_⟩, h3, fun a ha i u hu => ?_, fun a ha k2 hk2 => ?_, fun a ha k2 hk2 => ?_, fun a ha k2 hk2 => ?_, ⟨?_, ?_, ?_, ?_⟩, h12, h13⟩
  · rw [wrM, if_neg (by simp), gi_set, if_neg (by omega)]; exact (h2 a ha).1 k2 hk2
  · rw [wrM, if_neg (by simp), gi_set, if_neg (by omega)]; exact (h2 a ha).2.1
  · rw [wrM, if_neg (by simp), gi_set, if_neg (by omega)]; exact (h2 a ha).2.2
  · rw [wrM, if_neg (by simp)]; exact h4 a ha i u hu
  · simp only [wrM, gi_set, Prod.mk.injEq, true_and, and_true]
    rw [h5 a ha k2 hk2]
  · rw [wrM, if_neg (by simp), vfc_set (by omega)]; exact h6 a ha k2 hk2
  · rw [wrM, if_neg (by simp), gi_set, if_neg (by omega)]; exact h7 a ha k2 hk2
  · rw [wrM, if_neg (by simp), gi_set, if_neg (by omega)]; exact h8
  · rw [wrM, if_neg (by simp), gi_set, if_neg (by omega)]; exact h9
  · rw [wrM, if_neg (by simp), gi_set, if_neg (by omega)]; exact h10
  · rw [wrM, if_neg (by simp)]; exact h11
/-- a fact of a visitor, but state and booth -/
theorem SimG.v35 (h : SimG ω g w) {b k : Nat} (hk1 : k < 8) (hk2 : k ≠ 2) (hk3 : k ≠ 3) : SimG (ω.wr (35, b, 0) k x) (g.set 4 b k x) w := by
  obtain ⟨h1, h2, h3, h4, h5, h6, h7, ⟨h8, h9, h10, h11⟩, h12, h13⟩ := h
  refine ⟨h1, fun a ha => ⟨fun k2 hk2 => ?_, ?_, ?_⟩, h3, fun a ha i u hu => ?_, fun a ha k2 hk2 => ?_, fun a ha q hq => ?_, fun a ha k2 hk2 => ?_, ⟨?_, ?_, ?_, ?_⟩, h12, h13⟩
  · rw [wrM, if_neg (by simp), gi_set, if_neg (by omega)]; exact (h2 a ha).1 k2 hk2
  · rw [wrM, if_neg (by simp), gi_set, if_neg (by omega)]; exact (h2 a ha).2.1
  · rw [wrM, if_neg (by simp), gi_set, if_neg (by omega)]; exact (h2 a ha).2.2
  · rw [wrM, if_neg (by simp)]; exact h4 a ha i u hu
  · rw [wrM, if_neg (by simp), gi_set, if_neg (by omega)]; exact h5 a ha k2 hk2
  · have hv : vfc (g.set 4 b k x) a q = if a = b ∧ q = k then x else vfc g a q := by
      rw [vfc_eq, vfc_eq, stt_set (by omega), gi_set, gi_set]
      by_cases hab : a = b ∧ q = k
      · rw [if_pos hab, if_neg (by omega)]
        by_cases h7q : q < 7
        · rw [if_pos h7q, if_pos (by omega)]
        · rw [if_neg h7q, if_pos (by omega)]
      · rw [if_neg hab]
        by_cases q2 : q = 2
        · rw [if_pos q2, if_pos q2]
        · rw [if_neg q2, if_neg q2]
          by_cases h7q : q < 7
          · rw [if_pos h7q, if_pos h7q, if_neg (by omega)]
          · rw [if_neg h7q, if_neg h7q, if_neg (by omega)]
    rw [hv, wrM, h6 a ha q hq]
    simp only [Prod.mk.injEq, true_and, and_true]
  · rw [wrM, if_neg (by simp), gi_set, if_neg (by omega)]; exact h7 a ha k2 hk2
  · rw [wrM, if_neg (by simp), gi_set, if_neg (by omega)]; exact h8
  · rw [wrM, if_neg (by simp), gi_set, if_neg (by omega)]; exact h9
  · rw [wrM, if_neg (by simp), gi_set, if_neg (by omega)]; exact h10
  · rw [wrM, if_neg (by simp)]; exact h11
/-- a practice -/
theorem SimG.p45 (h : SimG ω g w) {b k : Nat} : SimG (ω.wr (45, b, 0) k x) (g.set 10 b k x) w := by
  obtain ⟨h1, h2, h3, h4, h5, h6, h7, ⟨h8, h9, h10, h11⟩, h12, h13⟩ := h
  refine ⟨h1, fun a ha => ⟨fun k2 hk2 => ?_, ?_, ?_⟩, h3, fun a ha i u hu => ?_, fun a ha k2 hk2 => ?_, fun a ha k2 hk2 => ?_, fun a ha k2 hk2 => ?_, ⟨?_, ?_, ?_, ?_⟩, h12, h13⟩
  · rw [wrM, if_neg (by simp), gi_set, if_neg (by omega)]; exact (h2 a ha).1 k2 hk2
  · rw [wrM, if_neg (by simp), gi_set, if_neg (by omega)]; exact (h2 a ha).2.1
  · rw [wrM, if_neg (by simp), gi_set, if_neg (by omega)]; exact (h2 a ha).2.2
  · rw [wrM, if_neg (by simp)]; exact h4 a ha i u hu
  · rw [wrM, if_neg (by simp), gi_set, if_neg (by omega)]; exact h5 a ha k2 hk2
  · rw [wrM, if_neg (by simp), vfc_set (by omega)]; exact h6 a ha k2 hk2
  · simp only [wrM, gi_set, Prod.mk.injEq, true_and, and_true]
    rw [h7 a ha k2 hk2]
  · rw [wrM, if_neg (by simp), gi_set, if_neg (by omega)]; exact h8
  · rw [wrM, if_neg (by simp), gi_set, if_neg (by omega)]; exact h9
  · rw [wrM, if_neg (by simp), gi_set, if_neg (by omega)]; exact h10
  · rw [wrM, if_neg (by simp)]; exact h11
/-- round, dart and mark -/
theorem SimG.n21 (h : SimG ω g w) {j : Nat} (hj : j < 3) : SimG (ω.wr (21, 0, 0) j x) (g.set 1 0 (j + 7) x) w := by
  obtain ⟨h1, h2, h3, h4, h5, h6, h7, ⟨h8, h9, h10, h11⟩, h12, h13⟩ := h
  refine ⟨h1, fun a ha => ⟨fun k2 hk2 => ?_, ?_, ?_⟩, h3, fun a ha i u hu => ?_, fun a ha k2 hk2 => ?_, fun a ha k2 hk2 => ?_, fun a ha k2 hk2 => ?_, ⟨?_, ?_, ?_, ?_⟩, h12, h13⟩
  · rw [wrM, if_neg (by simp), gi_set, if_neg (by omega)]; exact (h2 a ha).1 k2 hk2
  · rw [wrM, if_neg (by simp), gi_set, if_neg (by omega)]; exact (h2 a ha).2.1
  · rw [wrM, if_neg (by simp), gi_set, if_neg (by omega)]; exact (h2 a ha).2.2
  · rw [wrM, if_neg (by simp)]; exact h4 a ha i u hu
  · rw [wrM, if_neg (by simp), gi_set, if_neg (by omega)]; exact h5 a ha k2 hk2
  · rw [wrM, if_neg (by simp), vfc_set (by omega)]; exact h6 a ha k2 hk2
  · rw [wrM, if_neg (by simp), gi_set, if_neg (by omega)]; exact h7 a ha k2 hk2
  · have e : 7 = j + 7 ↔ 0 = j := by omega
    simp only [wrM, gi_set, true_and, e]
    rw [h8]
  · have e : 8 = j + 7 ↔ 1 = j := by omega
    simp only [wrM, gi_set, true_and, e]
    rw [h9]
  · have e : 9 = j + 7 ↔ 2 = j := by omega
    simp only [wrM, gi_set, true_and, e]
    rw [h10]
  · rw [wrM, if_neg (by omega)]; exact h11
theorem SimG.w21 (h : SimG ω g w) : SimG (ω.wr (21, 0, 0) 3 x) g x := by
  obtain ⟨h1, h2, h3, h4, h5, h6, h7, ⟨h8, h9, h10, h11⟩, h12, h13⟩ := h
  refine ⟨h1, fun a ha => ⟨fun k2 hk2 => ?_, ?_, ?_⟩, h3, fun a ha i u hu => ?_, fun a ha k2 hk2 => ?_, fun a ha k2 hk2 => ?_, fun a ha k2 hk2 => ?_, ⟨?_, ?_, ?_, ?_⟩, h12, h13⟩
  · rw [wrM, if_neg (by simp)]; exact (h2 a ha).1 k2 hk2
  · rw [wrM, if_neg (by simp)]; exact (h2 a ha).2.1
  · rw [wrM, if_neg (by simp)]; exact (h2 a ha).2.2
  · rw [wrM, if_neg (by simp)]; exact h4 a ha i u hu
  · rw [wrM, if_neg (by simp)]; exact h5 a ha k2 hk2
  · rw [wrM, if_neg (by simp)]; exact h6 a ha k2 hk2
  · rw [wrM, if_neg (by simp)]; exact h7 a ha k2 hk2
  · rw [wrM, if_neg (by simp)]; exact h8
  · rw [wrM, if_neg (by simp)]; exact h9
  · rw [wrM, if_neg (by simp)]; exact h10
  · rw [wrM, if_pos ⟨rfl, rfl⟩]
/-- the prizes that were won stand in the green alone -/
theorem SimG.won (h : SimG ω g w) : SimG ω (g.set 1 0 10 x) w := by
  obtain ⟨h1, h2, h3, h4, h5, h6, h7, ⟨h8, h9, h10, h11⟩, h12, h13⟩ := h
  refine ⟨h1, fun a ha => ⟨fun k2 hk2 => ?_, ?_, ?_⟩, h3, fun a ha i u hu => ?_, fun a ha k2 hk2 => ?_, fun a ha k2 hk2 => ?_, fun a ha k2 hk2 => ?_, ⟨?_, ?_, ?_, h11⟩, h12, h13⟩
  · rw [gi_set, if_neg (by omega)]; exact (h2 a ha).1 k2 hk2
  · rw [gi_set, if_neg (by omega)]; exact (h2 a ha).2.1
  · rw [gi_set, if_neg (by omega)]; exact (h2 a ha).2.2
  · exact h4 a ha i u hu
  · rw [gi_set, if_neg (by omega)]; exact h5 a ha k2 hk2
  · rw [vfc_set (by omega)]; exact h6 a ha k2 hk2
  · rw [gi_set, if_neg (by omega)]; exact h7 a ha k2 hk2
  · rw [gi_set, if_neg (by omega)]; exact h8
  · rw [gi_set, if_neg (by omega)]; exact h9
  · rw [gi_set, if_neg (by omega)]; exact h10
/-- a visitor's state and booth, told anew: of one visitor alone -/
theorem SimG.sb (h : SimG ω g w) {v : Nat} {s t : Int32} {g' : GS} (hn : g'.2.2 = g.2.2) (hq : g'.q = g.q) (hi : ∀ kd a k, ¬ (kd = 4 ∧ a = v ∧ (k = 2 ∨ k = 3)) → g'.i kd a k = g.i kd a k) (hs : stt g' v = s) (ht : g'.i 4 v 3 = t) : SimG ((ω.wr (35, v, 0) 2 s).wr (35, v, 0) 3 t) g' w := by
  obtain ⟨h1, h2, h3, h4, h5, h6, h7, ⟨h8, h9, h10, h11⟩, h12, h13⟩ := h
  have e0 : g'.nb = g.nb := by unfold GS.nb; rw [hn]
  have e1 : g'.nh = g.nh := by unfold GS.nh; rw [hn]
  have e2 : g'.nv = g.nv := by unfold GS.nv; rw [hn]
  have e3 : g'.bd = g.bd := by unfold GS.bd; rw [hn]
  unfold SimG
  rw [e0, e1, e2, e3, hq]
  refine ⟨h1, fun a ha => ⟨fun k2 hk2 => ?_, ?_, ?_⟩, h3, fun a ha i u hu => ?_, fun a ha k2 hk2 => ?_, fun a ha q hq => ?_, fun a ha k2 hk2 => ?_, ⟨?_, ?_, ?_, ?_⟩, h12, h13⟩
  · rw [wrM, if_neg (by simp), wrM, if_neg (by simp), hi _ _ _ (by omega)]; exact (h2 a ha).1 k2 hk2
  · rw [wrM, if_neg (by simp), wrM, if_neg (by simp), hi _ _ _ (by omega)]; exact (h2 a ha).2.1
  · rw [wrM, if_neg (by simp), wrM, if_neg (by simp), hi _ _ _ (by omega)]; exact (h2 a ha).2.2
  · rw [wrM, if_neg (by simp), wrM, if_neg (by simp)]; exact h4 a ha i u hu
  · rw [wrM, if_neg (by simp), wrM, if_neg (by simp), hi _ _ _ (by omega)]; exact h5 a ha k2 hk2
  · rw [wrM, wrM, h6 a ha q hq]
    simp only [Prod.mk.injEq, true_and, and_true]
    by_cases hav : a = v
    · subst hav
      by_cases q3 : q = 3
      · subst q3
        rw [if_pos ⟨rfl, rfl⟩]
        exact ht.symm
      by_cases q2 : q = 2
      · subst q2
        rw [if_neg (by omega), if_pos ⟨rfl, rfl⟩]
        exact hs.symm
      rw [if_neg (by omega), if_neg (by omega), vfc_eq, vfc_eq, if_neg q2, if_neg q2, hi _ _ _ (by omega), hi _ _ _ (by omega)]
    · have e4 : stt g' a = stt g a := by unfold stt; rw [hi _ _ _ (by omega), hi _ _ _ (by omega)]
      rw [if_neg (by omega), if_neg (by omega), vfc_eq, vfc_eq, e4, hi _ _ _ (by omega), hi _ _ _ (by omega)]
  · rw [wrM, if_neg (by simp), wrM, if_neg (by simp), hi _ _ _ (by omega)]; exact h7 a ha k2 hk2
  · rw [wrM, if_neg (by simp), wrM, if_neg (by simp), hi _ _ _ (by omega)]; exact h8
  · rw [wrM, if_neg (by simp), wrM, if_neg (by simp), hi _ _ _ (by omega)]; exact h9
  · rw [wrM, if_neg (by simp), wrM, if_neg (by simp), hi _ _ _ (by omega)]; exact h10
  · rw [wrM, if_neg (by simp), wrM, if_neg (by simp)]; exact h11
/-- a visitor's state alone -/
theorem SimG.s2 (h : SimG ω g w) {v : Nat} {s : Int32} {g' : GS} (hn : g'.2.2 = g.2.2) (hq : g'.q = g.q) (hi : ∀ kd a k, ¬ (kd = 4 ∧ a = v ∧ k = 2) → g'.i kd a k = g.i kd a k) (hs : stt g' v = s) : SimG (ω.wr (35, v, 0) 2 s) g' w := by
  obtain ⟨h1, h2, h3, h4, h5, h6, h7, ⟨h8, h9, h10, h11⟩, h12, h13⟩ := h
  have e0 : g'.nb = g.nb := by unfold GS.nb; rw [hn]
  have e1 : g'.nh = g.nh := by unfold GS.nh; rw [hn]
  have e2 : g'.nv = g.nv := by unfold GS.nv; rw [hn]
  have e3 : g'.bd = g.bd := by unfold GS.bd; rw [hn]
  unfold SimG
  rw [e0, e1, e2, e3, hq]
  refine ⟨h1, fun a ha => ⟨fun k2 hk2 => ?_, ?_, ?_⟩, h3, fun a ha i u hu => ?_, fun a ha k2 hk2 => ?_, fun a ha q hq => ?_, fun a ha k2 hk2 => ?_, ⟨?_, ?_, ?_, ?_⟩, h12, h13⟩
  · rw [wrM, if_neg (by simp), hi _ _ _ (by omega)]; exact (h2 a ha).1 k2 hk2
  · rw [wrM, if_neg (by simp), hi _ _ _ (by omega)]; exact (h2 a ha).2.1
  · rw [wrM, if_neg (by simp), hi _ _ _ (by omega)]; exact (h2 a ha).2.2
  · rw [wrM, if_neg (by simp)]; exact h4 a ha i u hu
  · rw [wrM, if_neg (by simp), hi _ _ _ (by omega)]; exact h5 a ha k2 hk2
  · rw [wrM, h6 a ha q hq]
    simp only [Prod.mk.injEq, true_and, and_true]
    by_cases q2 : q = 2
    · subst q2
      by_cases hav : a = v
      · subst hav
        rw [if_pos ⟨rfl, rfl⟩]
        exact hs.symm
      · have e4 : stt g' a = stt g a := by unfold stt; rw [hi _ _ _ (by omega), hi _ _ _ (by omega)]
        rw [if_neg (by omega)]
        exact e4.symm
    · rw [if_neg (by omega), vfc_eq, vfc_eq, if_neg q2, if_neg q2, hi _ _ _ (by omega), hi _ _ _ (by omega)]
  · rw [wrM, if_neg (by simp), hi _ _ _ (by omega)]; exact h7 a ha k2 hk2
  · rw [wrM, if_neg (by simp), hi _ _ _ (by omega)]; exact h8
  · rw [wrM, if_neg (by simp), hi _ _ _ (by omega)]; exact h9
  · rw [wrM, if_neg (by simp), hi _ _ _ (by omega)]; exact h10
  · rw [wrM, if_neg (by simp)]; exact h11
/-- another row for a queue -/
def WS.setQ (ω : WS) (b t n : Nat) (F : Nat → Int32) : WS := (fun i => if i = (33, b, 0) then t else ω.ad i, ω.2.1, fun a => if a = b then n else ω.ql a, ω.bd, upr ω.M (33, b, 0) F)
theorem setQ_M {b t n : Nat} {F : Nat → Int32} {j : Pid} (h : j ≠ (33, b, 0)) : (ω.setQ b t n F).M j = ω.M j := upr_ne h
theorem setQ_ad {b t n : Nat} {F : Nat → Int32} {j : Pid} (h : j ≠ (33, b, 0)) : (ω.setQ b t n F).ad j = ω.ad j := if_neg h
theorem SimG.setQ (h : SimG ω g w) {b t n : Nat} {F : Nat → Int32} {L : List Nat} {Q : Nat → List Nat} (hb : b < g.nb) (hn : n = L.length) (hF : ∀ i u, L[i]? = some u → F i = nI u) (hQ : Q b = L) (hQ2 : ∀ a, a < g.nb → a ≠ b → Q a = g.q a) : SimG (ω.setQ b t n F) (g.setq Q) w := by
  obtain ⟨h1, h2, h3, h4, h5, h6, h7, ⟨h8, h9, h10, h11⟩, h12, h13⟩ := h
  refine ⟨h1, fun a ha => ⟨fun k2 hk2 => ?_, ?_, ?_⟩, fun a ha => ?_, fun a ha i u hu => ?_, fun a ha k2 hk2 => ?_, fun a ha q hq => ?_, fun a ha k2 hk2 => ?_, ⟨?_, ?_, ?_, ?_⟩, h12, h13⟩
  · rw [setQ_M (by simp)]; exact (h2 a ha).1 k2 hk2
  · rw [setQ_M (by simp)]; exact (h2 a ha).2.1
  · rw [setQ_M (by simp)]; exact (h2 a ha).2.2
  · show (if a = b then n else ω.ql a) = if a < g.nb then (Q a).length else 0
    by_cases hab : a = b
    · subst hab
      rw [if_pos rfl, if_pos hb, hQ]; exact hn
    · rw [if_neg hab, h3 a ha]
      by_cases hlt : a < g.nb
      · rw [if_pos hlt, if_pos hlt, hQ2 a hlt hab]
      · rw [if_neg hlt, if_neg hlt]
  · have hu : (Q a)[i]? = some u := hu
    show upr ω.M (33, b, 0) F (33, a, 0) i = _
    by_cases hab : a = b
    · subst hab
      rw [hQ] at hu
      rw [upr_at]
      exact hF i u hu
    · rw [hQ2 a ha hab] at hu
      rw [upr_ne (by simp [hab])]
      exact h4 a ha i u hu
  · rw [setQ_M (by simp)]; exact h5 a ha k2 hk2
  · rw [setQ_M (by simp)]; exact h6 a ha q hq
  · rw [setQ_M (by simp)]; exact h7 a ha k2 hk2
  · rw [setQ_M (by simp)]; exact h8
  · rw [setQ_M (by simp)]; exact h9
  · rw [setQ_M (by simp)]; exact h10
  · rw [setQ_M (by simp)]; exact h11
/-- another board: n places, the lines L in the first ones -/
def WS.setB (ω : WS) (t n : Nat) (L : List Ln) : WS := (fun i => if i = (26, 0, 0) then t else ω.ad i, fun k => if k = 3 then n else ω.2.1 k, ω.2.2.1, L, ω.M)
theorem SimG.setB (h : SimG ω g w) {t n : Nat} {L : List Ln} (hn : n = L.length) : SimG (ω.setB t n L) (g.setbd L) w := by
  obtain ⟨h1, h2, h3, h4, h5, h6, h7, h8, h12, h13⟩ := h
  exact ⟨h1, h2, h3, h4, h5, h6, h7, h8, rfl, hn⟩
end SimGs
/-- the addresses that never change -/
def Stb (ω ω' : WS) : Prop := ∀ i : Pid, i.1 ≠ 33 → i.1 ≠ 26 → ω'.ad i = ω.ad i
theorem Stb.rf {ω : WS} : Stb ω ω := fun _ _ _ => rfl
theorem Stb.tr {ω ω1 ω2 : WS} (h : Stb ω ω1) (h2 : Stb ω1 ω2) : Stb ω ω2 := fun i a b => (h2 i a b).trans (h i a b)
theorem Stb.of_ad {ω ω1 : WS} (h : ω1.ad = ω.ad) : Stb ω ω1 := fun i _ _ => by rw [h]
theorem Stb.wr {ω ω1 : WS} {i : Pid} {k : Nat} {v : Int32} (h : Stb ω ω1) : Stb ω (ω1.wr i k v) := h
theorem Stb.setQ {ω ω1 : WS} {b t n : Nat} {F : Nat → Int32} (h : Stb ω ω1) : Stb ω (ω1.setQ b t n F) := fun i h1 h2 => by
  show (if i = (33, b, 0) then t else ω1.ad i) = _
  rw [if_neg (fun z => h1 (by rw [z]))]
  exact h i h1 h2
theorem Stb.setB {ω ω1 : WS} {t n : Nat} {L : List Ln} (h : Stb ω ω1) : Stb ω (ω1.setB t n L) := fun i h1 h2 => by
  show (if i = (26, 0, 0) then t else ω1.ad i) = _
  rw [if_neg (fun z => h2 (by rw [z]))]
  exact h i h1 h2
/-- what a method of the green leaves -/
def SPost (E : EX) (σ : Sg) (ω : WS) (g' : GS) (w : Int32) (σ' : Sg) : Prop := ∃ ω', LayS E σ' ω' ∧ SimG ω' g' w ∧ Stb ω ω' ∧ KpS σ σ'
theorem lvS_cases {ω : WS} {i : Pid} (h : lvS ω i) : i = (21, 0, 0) ∨ i = (22, 0, 0) ∨ i = (23, 0, 0) ∨ i = (24, 0, 0) ∨ i = (25, 0, 0) ∨ (∃ b, b < ω.nb ∧ i = (32, b, 0)) ∨ (∃ b, b < 8 ∧ i = (33, b, 0)) ∨ (∃ b, b < ω.nh ∧ i = (34, b, 0)) ∨ (∃ b, b < ω.nv ∧ i = (35, b, 0)) ∨ ∃ b, b < ω.nv ∧ i = (45, b, 0) := by
  unfold lvS at h
  split at h
  · exact Or.inl rfl
  · exact Or.inr (Or.inl rfl)
  · exact Or.inr (Or.inr (Or.inl rfl))
  · exact Or.inr (Or.inr (Or.inr (Or.inl rfl)))
  · exact Or.inr (Or.inr (Or.inr (Or.inr (Or.inl rfl))))
  · exact Or.inr (Or.inr (Or.inr (Or.inr (Or.inr (Or.inl ⟨_, h, rfl⟩)))))
  · exact Or.inr (Or.inr (Or.inr (Or.inr (Or.inr (Or.inr (Or.inl ⟨_, h, rfl⟩))))))
  · exact Or.inr (Or.inr (Or.inr (Or.inr (Or.inr (Or.inr (Or.inr (Or.inl ⟨_, h, rfl⟩)))))))
  · exact Or.inr (Or.inr (Or.inr (Or.inr (Or.inr (Or.inr (Or.inr (Or.inr (Or.inl ⟨_, h, rfl⟩))))))))
  · exact Or.inr (Or.inr (Or.inr (Or.inr (Or.inr (Or.inr (Or.inr (Or.inr (Or.inr ⟨_, h, rfl⟩))))))))
  · exact h.elim
/-- a cell of the green that is the same in two of its shapes -/
theorem celS_eq {E : EX} {ω ω' : WS} {i : Pid} (hi : lvS ω i) (h23 : i ≠ (23, 0, 0)) (hM : ω'.M i = ω.M i) (hn : ω'.nb = ω.nb ∧ ω'.nh = ω.nh ∧ ω'.nv = ω.nv) (h21 : i = (21, 0, 0) → ∀ k, 22 ≤ k → k ≤ 26 → ω'.ad (k, 0, 0) = ω.ad (k, 0, 0)) (hr : ∀ k x, k ≠ 33 → 32 ≤ k → ω'.ad (k, x, 0) = ω.ad (k, x, 0)) (hq : ∀ b, i = (33, b, 0) → ω'.ql b = ω.ql b) : celS E ω' i = celS E ω i := by
  rcases lvS_cases hi with rfl | rfl | rfl | rfl | rfl | ⟨b, hb, rfl⟩ | ⟨b, hb, rfl⟩ | ⟨b, hb, rfl⟩ | ⟨b, hb, rfl⟩ | ⟨b, hb, rfl⟩
  · have a := h21 rfl
    simp only [celS, hM, a 22 (by decide) (by decide), a 23 (by decide) (by decide), a 24 (by decide) (by decide), a 25 (by decide) (by decide), a 26 (by decide) (by decide)]
  · simp only [celS, hn.1, hr 32 _ (by decide) (by decide)]
  · exact absurd rfl h23
  · simp only [celS, hn.2.1, hr 34 _ (by decide) (by decide)]
  · simp only [celS, hn.2.2, hr 35 _ (by decide) (by decide)]
  · simp only [celS, hM]
  · simp only [celS, hM, hq b rfl]
  · simp only [celS, hM]
  · simp only [celS, hM, hr 45 _ (by decide) (by decide)]
  · simp only [celS, hM]
theorem sup_sup {σ : Sg} {q : Nat} {i j : Pid} {e e2 : va_E} : sup (sup σ q i e) q j e2 = sup σ q j e2 := by
  funext b
  unfold sup
  split <;> rfl
theorem KpS.fresh {σ σ1 : Sg} {q : Nat} (h : KpS σ σ1) (hq : σ1 q = none) : ∀ i e, σ q = some (i, e) → 20 ≤ i.1 ∧ i.1 < 50 := fun i e hs => Classical.byContradiction (fun hn => by
  have := h q i e hs hn
  rw [hq] at this
  cases this)
theorem setB_setB {ω : WS} {t n t2 n2 : Nat} {L L2 : List Ln} : (ω.setB t n L).setB t2 n2 L2 = ω.setB t2 n2 L2 := by
  have e1 : (fun i : Pid => if i = (26, 0, 0) then t2 else if i = (26, 0, 0) then t else ω.ad i) = fun i => if i = (26, 0, 0) then t2 else ω.ad i := by
    funext i
    split <;> rfl
  have e2 : (fun k : Nat => if k = 3 then n2 else if k = 3 then n else ω.2.1 k) = fun k => if k = 3 then n2 else ω.2.1 k := by
    funext k
    split <;> rfl
  show ((fun i : Pid => if i = (26, 0, 0) then t2 else if i = (26, 0, 0) then t else ω.ad i), (fun k : Nat => if k = 3 then n2 else if k = 3 then n else ω.2.1 k), ω.2.2.1, L2, ω.M) = ((fun i : Pid => if i = (26, 0, 0) then t2 else ω.ad i), (fun k : Nat => if k = 3 then n2 else ω.2.1 k), ω.2.2.1, L2, ω.M)
  rw [e1, e2]
theorem setB_ad {ω : WS} {t n : Nat} {L : List Ln} {i : Pid} (h : i ≠ (26, 0, 0)) : (ω.setB t n L).ad i = ω.ad i := if_neg h
section SetW
variable {κ : KX} {cc : ByteArray} {nL fr lo : Nat} {own : String} {σ : Sg} {ω : WS} {cN dN : Nat} {l : LSt} {st rest : List Value} {pc : Nat}
theorem va_up_fn {n b t : Nat} {ad : Pid → Nat} {k : Nat} : va_up (fun j => some (ad (k, j, 0))) b (some t) = fun j => some ((fun i : Pid => if i = (k, b, 0) then t else ad i) (k, j, 0)) := by
  funext j
  by_cases h : j = b
  · subst h; simp [va_up]
  · simp [va_up, h]
/-- a queue gets another row, which lay beside -/
theorem w_setQ (G : Gd κ cc nL own fr lo) (hL : LayS κ.E σ ω) {b t n : Nat} {F : Nat → Int32} {tmp : Pid} {x : Int32} (hb : b < 8) (hn : n ≤ 16) (ht : σ t = some (tmp, .inl (κ.E.cy 0, pInts n F))) (htm : ¬ (20 ≤ tmp.1 ∧ tmp.1 < 50)) (hx : x = nI b) (d : decode cc pc = .ok (.aastore, 1)) (h : ∀ σ', LayS κ.E σ' (ω.setQ b t n F) → (∀ σ0, KpS σ0 σ → (∀ i e, σ0 t = some (i, e) → 20 ≤ i.1 ∧ i.1 < 50) → KpS σ0 σ') → HV κ nL σ' cN dN l st (pc + 1)) : HV κ nL σ cN dN l (.ref t :: .int x :: .ref (ω.ad (23, 0, 0)) :: st) pc := by
  have h23 := hL.1 (23, 0, 0) trivial
  refine h_aasA G h23 ht hx hb (by decide) d ?_
  have ht2 := sup_lab (i2 := (23, 0, 0)) (e3 := .inl (κ.E.cy 5, pRefs 8 (va_up (fun j => some (ω.ad (33, j, 0))) b (some t)))) h23 (fun z => htm (by rw [z]; decide)) ht
  refine HV.lab (j := (33, b, 0)) ht2 ?_
  have key : ∀ (a : Nat) (i : Pid) (e : va_E), σ a = some (i, e) → i ≠ (23, 0, 0) → i ≠ tmp → sup (sup σ (ω.ad (23, 0, 0)) (23, 0, 0) (.inl (κ.E.cy 5, pRefs 8 (va_up (fun j => some (ω.ad (33, j, 0))) b (some t))))) t (33, b, 0) (.inl (κ.E.cy 0, pInts n F)) a = some (i, e) := fun a i e hs h1 h2 => sup_lab ht2 h2 (sup_lab h23 h1 hs)
  have hts : ∀ i : Pid, 20 ≤ i.1 ∧ i.1 < 50 → i ≠ tmp := fun i hi z => htm (by rw [← z]; exact hi)
  refine h _ ⟨fun i hi => ?_, ⟨hL.2.1.1, hL.2.1.2.1, hL.2.1.2.2.1, hL.2.1.2.2.2.1, fun a => ?_⟩, ?_⟩ (fun σ0 hk h0 a i e hs hno => ?_)
  · have hi2 : lvS ω i := hi
    show sup _ _ _ _ (if i = (33, b, 0) then t else ω.ad i) = _
    by_cases e1 : i = (33, b, 0)
    · subst e1
      rw [if_pos rfl, sup_at]
      show some ((33, b, 0), _) = some ((33, b, 0), Sum.inl (κ.E.cy 0, pInts (if b = b then n else ω.ql b) (upr ω.M (33, b, 0) F (33, b, 0))))
      rw [if_pos rfl, upr_at]
    · rw [if_neg e1]
      by_cases e2 : i = (23, 0, 0)
      · subst e2
        rw [sup_lab ht2 (hts _ (by decide)) sup_at]
        show some ((23, 0, 0), _) = some ((23, 0, 0), Sum.inl (κ.E.cy 5, pRefs 8 (fun j => some ((fun i : Pid => if i = (33, b, 0) then t else ω.ad i) (33, j, 0)))))
        rw [va_up_fn (n := 8)]
      · rw [key _ _ _ (hL.1 i hi2) e2 (hts _ (lvS_lab hi2))]
        refine congrArg (fun e => some (i, e)) (celS_eq hi2 e2 (setQ_M e1) ⟨rfl, rfl, rfl⟩ (fun _ k _ _ => if_neg (by simp; omega)) (fun k x hk _ => if_neg (by simp [hk])) (fun c hc => if_neg (fun z => e1 (by rw [hc, z])))).symm
  · show (if a = b then n else ω.ql a) ≤ 16
    split
    · exact hn
    · exact hL.2.1.2.2.2.2 a
  · exact hL.2.2.kp (fun e hs => by
      show sup _ _ _ _ (if ((26, 0, 0) : Pid) = (33, b, 0) then t else ω.ad (26, 0, 0)) = _
      rw [if_neg (by simp)]
      exact key _ _ _ hs (by decide) (hts _ (by decide))) (fun c e hs => key _ _ _ hs (by decide) (hts _ (by decide)))
  · have h1 := hk a i e hs hno
    have hat : a ≠ t := fun z => hno (h0 i e (by rw [← z]; exact hs))
    rw [sup_ne hat]
    exact sup_lab h23 (fun z => hno (by rw [z]; decide)) h1
/-- the green gets another row for its lines: empty places at first -/
theorem w_newB (G : Gd κ cc nL RX6 fr lo) (hL : LayS κ.E σ ω) {t n : Nat} {tmp : Pid} {f : Nat → Option Nat} (hn : n ≤ 4) (ht : σ t = some (tmp, .inl (κ.E.cy 5, pRefs n f))) (htm : ¬ (20 ≤ tmp.1 ∧ tmp.1 < 50)) (d : decode cc pc = .ok (.putfield 35, 3)) (h : ∀ σ', LayS κ.E σ' (ω.setB t n []) → (∀ σ0, KpS σ0 σ → (∀ i e, σ0 t = some (i, e) → 20 ≤ i.1 ∧ i.1 < 50) → KpS σ0 σ') → (∀ a i e, σ a = some (i, e) → i ≠ tmp → ¬ (20 ≤ i.1 ∧ i.1 < 50 ∧ i.1 ≠ 36) → σ' a = some (i, e)) → HV κ nL σ' cN dN l st (pc + 3)) : HV κ nL σ cN dN l (.ref t :: .ref (ω.ad (21, 0, 0)) :: st) pc := by
  have h21 := hL.1 (21, 0, 0) trivial
  refine h_put (T := TX6) (N := 9) (k := 8) (ty := .array (.array .int)) G h21 uX6 tyX6 tyX6_ok nmX6 rfl (by decide) (by decide +kernel) rfl rfl rfl rfl (Nat.le_of_ble_eq_true rfl) d ?_
  have hts : ∀ i : Pid, 20 ≤ i.1 ∧ i.1 < 50 → i ≠ tmp := fun i hi z => htm (by rw [← z]; exact hi)
  generalize hc : (Sum.inr (6, _) : va_E) = c21
  have ht2 : sup σ (ω.ad (21, 0, 0)) (21, 0, 0) c21 t = _ := sup_lab h21 (fun z => htm (by rw [z]; decide)) ht
  refine HV.lab (j := (26, 0, 0)) ht2 ?_
  have key : ∀ (a : Nat) (i : Pid) (e : va_E), σ a = some (i, e) → i ≠ (21, 0, 0) → i ≠ tmp → sup (sup σ (ω.ad (21, 0, 0)) (21, 0, 0) c21) t (26, 0, 0) (.inl (κ.E.cy 5, pRefs n f)) a = some (i, e) := fun a i e hs h1 h2 => sup_lab ht2 h2 (sup_lab h21 h1 hs)
  refine h _ ⟨fun i hi => ?_, ⟨hL.2.1.1, hL.2.1.2.1, hL.2.1.2.2.1, hn, hL.2.1.2.2.2.2⟩, ?_⟩ (fun σ0 hk h0 a i e hs hno => ?_) (fun a i e hs h1 h2 => key _ _ _ hs (fun z => h2 (by rw [z]; decide)) h1)
  · have hi2 : lvS ω i := hi
    show sup _ _ _ _ (if i = (26, 0, 0) then t else ω.ad i) = _
    rw [if_neg (fun z => (lvS_nb hi2).1 (by rw [z]))]
    by_cases e2 : i = (21, 0, 0)
    · subst e2
      rw [sup_lab ht2 (hts _ (by decide)) sup_at, ← hc]
      rfl
    · rw [key _ _ _ (hL.1 i hi2) e2 (hts _ (lvS_lab hi2))]
      by_cases e3 : i = (23, 0, 0)
      · subst e3; rfl
      · exact congrArg (fun e => some (i, e)) (celS_eq (ω := ω) (ω' := ω.setB t n []) hi2 e3 rfl ⟨rfl, rfl, rfl⟩ (fun z => absurd z e2) (fun k x hk _ => if_neg (by simp; omega)) (fun c hc => rfl)).symm
  · refine ⟨f, ?_, Nat.zero_le _, fun j x hx => by cases hx⟩
    show sup _ _ _ _ (if ((26, 0, 0) : Pid) = (26, 0, 0) then t else ω.ad (26, 0, 0)) = _
    rw [if_pos rfl, sup_at]
    rfl
  · have h1 := hk a i e hs hno
    have hat : a ≠ t := fun z => hno (h0 i e (by rw [← z]; exact hs))
    rw [sup_ne hat]
    exact sup_lab h21 (fun z => hno (by rw [z]; decide)) h1
/-- a line comes into the board's next place -/
theorem w_addB (G : Gd κ cc nL own fr lo) (hL : LayS κ.E σ ω) {a : Nat} {x : Ln} {y : Int32} (hx : LineAt κ.E σ a x) (hy : y = nI ω.bd.length) (hlt : ω.bd.length < ω.nl) (d : decode cc pc = .ok (.aastore, 1)) (h : ∀ σ', LayS κ.E σ' (ω.setB (ω.ad (26, 0, 0)) ω.nl (ω.bd ++ [x])) → (∀ a i e, σ a = some (i, e) → i ≠ (26, 0, 0) → σ' a = some (i, e)) → HV κ nL σ' cN dN l st (pc + 1)) : HV κ nL σ cN dN l (.ref a :: .int y :: .ref (ω.ad (26, 0, 0)) :: st) pc := by
  obtain ⟨f, h26, h0, hf⟩ := hL.2.2
  obtain ⟨F, ha, hF⟩ := hx
  have hnl := hL.2.1.2.2.2.1
  refine h_aasA G h26 ha hy hlt (by omega) d ?_
  have key : ∀ (b : Nat) (i : Pid) (e : va_E), σ b = some (i, e) → i ≠ (26, 0, 0) → sup σ (ω.ad (26, 0, 0)) (26, 0, 0) (.inl (κ.E.cy 5, pRefs ω.nl (va_up f ω.bd.length (some a)))) b = some (i, e) := fun b i e hs h1 => sup_lab h26 h1 hs
  refine h _ ⟨fun i hi => ?_, ⟨hL.2.1.1, hL.2.1.2.1, hL.2.1.2.2.1, hnl, hL.2.1.2.2.2.2⟩, ?_⟩ key
  · have hi2 : lvS ω i := hi
    have e0 : ∀ j : Pid, (ω.setB (ω.ad (26, 0, 0)) ω.nl (ω.bd ++ [x])).ad j = ω.ad j := fun j => by
      show (if j = (26, 0, 0) then ω.ad (26, 0, 0) else ω.ad j) = _
      split
      · rename_i z; rw [z]
      · rfl
    rw [e0, key _ _ _ (hL.1 i hi2) (fun z => (lvS_nb hi2).1 (by rw [z]))]
    by_cases e3 : i = (23, 0, 0)
    · subst e3; simp only [celS, e0]
    · exact congrArg (fun e => some (i, e)) (celS_eq (ω := ω) (ω' := ω.setB (ω.ad (26, 0, 0)) ω.nl (ω.bd ++ [x])) hi2 e3 rfl ⟨rfl, rfl, rfl⟩ (fun _ k _ _ => e0 _) (fun k x hk _ => e0 _) (fun c hc => rfl)).symm
  · refine ⟨va_up f ω.bd.length (some a), ?_, by show (ω.bd ++ [x]).length ≤ ω.nl; simp; omega, fun j z hz => ?_⟩
    · show sup _ _ _ _ (if ((26, 0, 0) : Pid) = (26, 0, 0) then ω.ad (26, 0, 0) else ω.ad (26, 0, 0)) = _
      rw [if_pos rfl, sup_at]
      rfl
    · have hz : (ω.bd ++ [x])[j]? = some z := hz
      by_cases hj : j < ω.bd.length
      · rw [List.getElem?_append_left hj] at hz
        obtain ⟨b, b1, b2⟩ := hf j z hz
        exact ⟨b, by simp [va_up, Nat.ne_of_lt hj, b1], b2.kp (fun e hs => key _ _ _ hs (by decide))⟩
      · have hj2 := (List.getElem?_eq_some_iff.mp hz).1
        simp at hj2
        have : j = ω.bd.length := by omega
        subst this
        simp at hz
        subst hz
        exact ⟨a, by simp [va_up], F, key _ _ _ ha (by decide), hF⟩
end SetW
