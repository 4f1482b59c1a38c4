/-! ===== the class's memory holds a green; what is always true of a green ===== -/
def SimC (f : Nat) (M : Mem) (g : GS) : Prop :=
  (M (1, f, 0) 1 = nI g.nb ∧ M (1, f, 0) 3 = nI g.nh ∧ M (1, f, 0) 5 = nI g.nv ∧ ∀ k, 7 ≤ k → k ≤ 10 → M (1, f, 0) k = g.i 1 0 k) ∧
  (∀ b, b < g.nb → (∀ k, k < 7 → k ≠ 4 → M (2, f, b) k = g.i 2 b k) ∧ M (2, f, b) 4 = nI (wk g b) ∧ M (2, f, b) 7 = nI (g.q b).length ∧ ∀ i u, (g.q b)[i]? = some u → M (9, f, b) i = nI u) ∧
  (∀ h, h < g.nh → ∀ k, k < 3 → M (3, f, h) k = g.i 3 h k) ∧
  (∀ v, v < g.nv → (∀ k, k < 8 → M (4, f, v) k = g.i 4 v k) ∧ ∀ b, b < 8 → M (10, f, v) b = g.i 10 v b) ∧
  M (5, f, 0) 0 = nI g.bd.length ∧ ∀ l x, g.bd[l]? = some x → M (11, f, 0) l = nI x.1 ∧ M (12, f, 0) l = nI x.2.1 ∧ M (13, f, 0) l = x.2.2
def Inv (g : GS) : Prop :=
  (g.nb ≤ 8 ∧ g.nh ≤ 12 ∧ g.nv ≤ 16) ∧
  (∀ h, h < g.nh → (g.i 3 h 1 = -1 ∨ ∃ b, b < g.nb ∧ g.i 3 h 1 = nI b) ∧ 0 < g.i 3 h 0 ∧ g.i 3 h 0 ≤ 24) ∧
  (∀ v, v < g.nv → (g.i 4 v 2 = 0 ∨ g.i 4 v 2 = 1) ∧ (g.i 4 v 3 = -1 ∨ ∃ b, b < g.nb ∧ g.i 4 v 3 = nI b) ∧ (g.i 4 v 2 = 1 → g.i 4 v 3 = -1) ∧ ∀ b, b < 8 → 0 ≤ g.i 10 v b ∧ g.i 10 v b ≤ 9) ∧
  (∀ b, b < g.nb → (g.q b).Nodup ∧ (∀ v, v ∈ g.q b ↔ v < g.nv ∧ g.i 4 v 3 = nI b) ∧ 0 ≤ g.i 2 b 2 ∧ g.i 2 b 2 ≤ 99) ∧
  g.bd.length ≤ 3 ∧ (∀ x, x ∈ g.bd → x.1 < g.nv) ∧ g.bd.Pairwise (fun x y => y.2.2 ≤ x.2.2)
/-- what a method of the green f leaves as it was: other greens, and what is beyond the counts n -/
def oR (f : Nat) (n : Nat → Nat) (kd f' a : Nat) : Prop := f' ≠ f ∨ ((kd = 2 ∨ kd = 9) ∧ n 0 ≤ a) ∨ (kd = 3 ∧ n 1 ≤ a) ∨ ((kd = 4 ∨ kd = 10) ∧ n 2 ≤ a)
def Fr (f : Nat) (n : Nat → Nat) (M M' : Mem) : Prop := ∀ kd f' a, oR f n kd f' a → M' (kd, f', a) = M (kd, f', a)
section Frames
variable {f : Nat} {n : Nat → Nat} {M M' M2 : Mem} {a k : Nat} {v : Int32}
theorem Fr.rf : Fr f n M M := fun _ _ _ _ => Eq.refl _
theorem Fr.trans (h : Fr f n M M') (h2 : Fr f n M' M2) : Fr f n M M2 := fun kd f' a hf => (h2 kd f' a hf).trans (h kd f' a hf)
theorem Fr.b2 (h : Fr f n M M') (ha : a < n 0) : Fr f n M (up M' (2, f, a) k v) := fun kd f' a' hf => (up_ne (fun q => by cases q; unfold oR at hf; omega)).trans (h kd f' a' hf)
theorem Fr.q9 (h : Fr f n M M') (ha : a < n 0) : Fr f n M (up M' (9, f, a) k v) := fun kd f' a' hf => (up_ne (fun q => by cases q; unfold oR at hf; omega)).trans (h kd f' a' hf)
theorem Fr.h3 (h : Fr f n M M') (ha : a < n 1) : Fr f n M (up M' (3, f, a) k v) := fun kd f' a' hf => (up_ne (fun q => by cases q; unfold oR at hf; omega)).trans (h kd f' a' hf)
theorem Fr.v4 (h : Fr f n M M') (ha : a < n 2) : Fr f n M (up M' (4, f, a) k v) := fun kd f' a' hf => (up_ne (fun q => by cases q; unfold oR at hf; omega)).trans (h kd f' a' hf)
theorem Fr.p10 (h : Fr f n M M') (ha : a < n 2) : Fr f n M (up M' (10, f, a) k v) := fun kd f' a' hf => (up_ne (fun q => by cases q; unfold oR at hf; omega)).trans (h kd f' a' hf)
theorem Fr.f1 (h : Fr f n M M') : Fr f n M (up M' (1, f, a) k v) := fun kd f' a' hf => (up_ne (fun q => by cases q; unfold oR at hf; omega)).trans (h kd f' a' hf)
theorem Fr.c5 (h : Fr f n M M') : Fr f n M (up M' (5, f, a) k v) := fun kd f' a' hf => (up_ne (fun q => by cases q; unfold oR at hf; omega)).trans (h kd f' a' hf)
theorem Fr.c11 (h : Fr f n M M') : Fr f n M (up M' (11, f, a) k v) := fun kd f' a' hf => (up_ne (fun q => by cases q; unfold oR at hf; omega)).trans (h kd f' a' hf)
theorem Fr.c12 (h : Fr f n M M') : Fr f n M (up M' (12, f, a) k v) := fun kd f' a' hf => (up_ne (fun q => by cases q; unfold oR at hf; omega)).trans (h kd f' a' hf)
theorem Fr.c13 (h : Fr f n M M') : Fr f n M (up M' (13, f, a) k v) := fun kd f' a' hf => (up_ne (fun q => by cases q; unfold oR at hf; omega)).trans (h kd f' a' hf)
end Frames
theorem wkN_congr {g g' : GS} (b n : Nat) (h : ∀ a, a < n → g'.i 3 a 1 = g.i 3 a 1) : wkN g' b n = wkN g b n := by
  induction n with
  | zero => rfl
  | succ n ih =>
    unfold wkN
    rw [ih (fun a ha => h a (by omega)), h n (by omega)]
theorem wk_congr {g g' : GS} (b : Nat) (hn : g'.nh = g.nh) (h : ∀ a, a < g.nh → g'.i 3 a 1 = g.i 3 a 1) : wk g' b = wk g b := by
  unfold wk
  rw [hn]
  exact wkN_congr b _ h
theorem wk_set {g : GS} {kd a k : Nat} {x : Int32} (h : ¬ (kd = 3 ∧ k = 1)) (b : Nat) : wk (g.set kd a k x) b = wk g b :=
  wk_congr b rfl (fun c _ => by
    rw [gi_set]
    exact if_neg (fun q => h ⟨q.1.symm, q.2.2.symm⟩))
theorem wk_setq {g : GS} {F : Nat → List Nat} (b : Nat) : wk (g.setq F) b = wk g b := wk_congr b rfl (fun _ _ => rfl)
theorem wk_setbd {g : GS} {L : List (Nat × Nat × Int32)} (b : Nat) : wk (g.setbd L) b = wk g b := wk_congr b rfl (fun _ _ => rfl)
theorem wkN_le (g : GS) (b : Nat) : ∀ n, wkN g b n ≤ n
  | 0 => Nat.le_refl 0
  | n + 1 => by
    have := wkN_le g b n
    unfold wkN
    split <;> omega
theorem wk_le {g : GS} (hI : Inv g) (b : Nat) : wk g b ≤ 12 := Nat.le_trans (wkN_le g b g.nh) hI.1.2.1
section Keep
variable {f : Nat} {M : Mem} {g : GS} {x : Int32}
/-- a fact of a visitor is written -/
theorem SimC.v4 (h : SimC f M g) {v k : Nat} : SimC f (up M (4, f, v) k x) (g.set 4 v k x) := by
  obtain ⟨⟨h1, h2, h3, h4⟩, h5, h6, h7, h8, h9⟩ := h
  refine ⟨⟨by simpa [up, gi_set, gq_set, gnb_set, gnh_set, gnv_set, gbd_set] using h1, by simpa [up, gi_set, gq_set, gnb_set, gnh_set, gnv_set, gbd_set] using h2, by simpa [up, gi_set, gq_set, gnb_set, gnh_set, gnv_set, gbd_set] using h3, fun k2 a b => by simpa [up, gi_set, gq_set, gnb_set, gnh_set, gnv_set, gbd_set] using h4 k2 a b⟩, fun b hb => ?_, fun a ha k2 hk => by simpa [up, gi_set, gq_set, gnb_set, gnh_set, gnv_set, gbd_set] using h6 a ha k2 hk, fun a ha => ⟨fun k2 hk => ?_, fun b hb => by simpa [up, gi_set, gq_set, gnb_set, gnh_set, gnv_set, gbd_set] using (h7 a ha).2 b hb⟩, by simpa [up, gi_set, gq_set, gnb_set, gnh_set, gnv_set, gbd_set] using h8, fun l y hy => by simpa [up, gi_set, gq_set, gnb_set, gnh_set, gnv_set, gbd_set] using h9 l y hy⟩
  · obtain ⟨a1, a2, a3, a4⟩ := h5 b hb
    exact ⟨fun k2 c d => by simpa [up, gi_set, gq_set, gnb_set, gnh_set, gnv_set, gbd_set] using a1 k2 c d, by rw [wk_set (by omega)]; simpa [up, gi_set, gq_set, gnb_set, gnh_set, gnv_set, gbd_set] using a2, by simpa [up, gi_set, gq_set, gnb_set, gnh_set, gnv_set, gbd_set] using a3, fun i u hu => by simpa [up, gi_set, gq_set, gnb_set, gnh_set, gnv_set, gbd_set] using a4 i u hu⟩
  · simp only [up, gi_set, Prod.mk.injEq, true_and]
    split
    · rfl
    · exact (h7 a ha).1 k2 hk
/-- a fact of a booth, but its helpers and its queue -/
theorem SimC.b2 (h : SimC f M g) {v k : Nat} (hk1 : k < 7) (hk2 : k ≠ 4) : SimC f (up M (2, f, v) k x) (g.set 2 v k x) := by
  obtain ⟨⟨h1, h2, h3, h4⟩, h5, h6, h7, h8, h9⟩ := h
  refine ⟨⟨by simpa [up, gi_set, gq_set, gnb_set, gnh_set, gnv_set, gbd_set] using h1, by simpa [up, gi_set, gq_set, gnb_set, gnh_set, gnv_set, gbd_set] using h2, by simpa [up, gi_set, gq_set, gnb_set, gnh_set, gnv_set, gbd_set] using h3, fun k2 a b => by simpa [up, gi_set, gq_set, gnb_set, gnh_set, gnv_set, gbd_set] using h4 k2 a b⟩, fun b hb => ?_, fun a ha k2 hk => by simpa [up, gi_set, gq_set, gnb_set, gnh_set, gnv_set, gbd_set] using h6 a ha k2 hk, fun a ha => ⟨fun k2 hk => by simpa [up, gi_set, gq_set, gnb_set, gnh_set, gnv_set, gbd_set] using (h7 a ha).1 k2 hk, fun b hb => by simpa [up, gi_set, gq_set, gnb_set, gnh_set, gnv_set, gbd_set] using (h7 a ha).2 b hb⟩, by simpa [up, gi_set, gq_set, gnb_set, gnh_set, gnv_set, gbd_set] using h8, fun l y hy => by simpa [up, gi_set, gq_set, gnb_set, gnh_set, gnv_set, gbd_set] using h9 l y hy⟩
  obtain ⟨a1, a2, a3, a4⟩ := h5 b hb
  refine ⟨fun k2 c d => ?_, ?_, ?_, fun i u hu => by simpa [up, gi_set, gq_set, gnb_set, gnh_set, gnv_set, gbd_set] using a4 i u hu⟩
  · simp only [up, gi_set, Prod.mk.injEq, true_and]
    split
    · rfl
    · exact a1 k2 c d
  · rw [wk_set (by omega), ← a2]
    simp only [up]
    rw [if_neg (by rintro ⟨-, q⟩; exact hk2 q.symm)]
  · rw [gq_set, ← a3]
    simp only [up]
    rw [if_neg (by rintro ⟨-, q⟩; omega)]
/-- a fact of a helper, but where this one works -/
theorem SimC.h3 (h : SimC f M g) {v k : Nat} (hk1 : k ≠ 1) : SimC f (up M (3, f, v) k x) (g.set 3 v k x) := by
  obtain ⟨⟨h1, h2, h3, h4⟩, h5, h6, h7, h8, h9⟩ := h
  refine ⟨⟨by simpa [up, gi_set, gq_set, gnb_set, gnh_set, gnv_set, gbd_set] using h1, by simpa [up, gi_set, gq_set, gnb_set, gnh_set, gnv_set, gbd_set] using h2, by simpa [up, gi_set, gq_set, gnb_set, gnh_set, gnv_set, gbd_set] using h3, fun k2 a b => by simpa [up, gi_set, gq_set, gnb_set, gnh_set, gnv_set, gbd_set] using h4 k2 a b⟩, fun b hb => ?_, fun a ha k2 hk => ?_, fun a ha => ⟨fun k2 hk => by simpa [up, gi_set, gq_set, gnb_set, gnh_set, gnv_set, gbd_set] using (h7 a ha).1 k2 hk, fun b hb => by simpa [up, gi_set, gq_set, gnb_set, gnh_set, gnv_set, gbd_set] using (h7 a ha).2 b hb⟩, by simpa [up, gi_set, gq_set, gnb_set, gnh_set, gnv_set, gbd_set] using h8, fun l y hy => by simpa [up, gi_set, gq_set, gnb_set, gnh_set, gnv_set, gbd_set] using h9 l y hy⟩
  · obtain ⟨a1, a2, a3, a4⟩ := h5 b hb
    exact ⟨fun k2 c d => by simpa [up, gi_set, gq_set, gnb_set, gnh_set, gnv_set, gbd_set] using a1 k2 c d, by rw [wk_set (by omega)]; simpa [up, gi_set, gq_set, gnb_set, gnh_set, gnv_set, gbd_set] using a2, by simpa [up, gi_set, gq_set, gnb_set, gnh_set, gnv_set, gbd_set] using a3, fun i u hu => by simpa [up, gi_set, gq_set, gnb_set, gnh_set, gnv_set, gbd_set] using a4 i u hu⟩
  · simp only [up, gi_set, Prod.mk.injEq, true_and]
    split
    · rfl
    · exact h6 a ha k2 hk
/-- a practice -/
theorem SimC.p10 (h : SimC f M g) {v k : Nat} : SimC f (up M (10, f, v) k x) (g.set 10 v k x) := by
  obtain ⟨⟨h1, h2, h3, h4⟩, h5, h6, h7, h8, h9⟩ := h
  refine ⟨⟨by simpa [up, gi_set, gq_set, gnb_set, gnh_set, gnv_set, gbd_set] using h1, by simpa [up, gi_set, gq_set, gnb_set, gnh_set, gnv_set, gbd_set] using h2, by simpa [up, gi_set, gq_set, gnb_set, gnh_set, gnv_set, gbd_set] using h3, fun k2 a b => by simpa [up, gi_set, gq_set, gnb_set, gnh_set, gnv_set, gbd_set] using h4 k2 a b⟩, fun b hb => ?_, fun a ha k2 hk => by simpa [up, gi_set, gq_set, gnb_set, gnh_set, gnv_set, gbd_set] using h6 a ha k2 hk, fun a ha => ⟨fun k2 hk => by simpa [up, gi_set, gq_set, gnb_set, gnh_set, gnv_set, gbd_set] using (h7 a ha).1 k2 hk, fun b hb => ?_⟩, by simpa [up, gi_set, gq_set, gnb_set, gnh_set, gnv_set, gbd_set] using h8, fun l y hy => by simpa [up, gi_set, gq_set, gnb_set, gnh_set, gnv_set, gbd_set] using h9 l y hy⟩
  · obtain ⟨a1, a2, a3, a4⟩ := h5 b hb
    exact ⟨fun k2 c d => by simpa [up, gi_set, gq_set, gnb_set, gnh_set, gnv_set, gbd_set] using a1 k2 c d, by rw [wk_set (by omega)]; simpa [up, gi_set, gq_set, gnb_set, gnh_set, gnv_set, gbd_set] using a2, by simpa [up, gi_set, gq_set, gnb_set, gnh_set, gnv_set, gbd_set] using a3, fun i u hu => by simpa [up, gi_set, gq_set, gnb_set, gnh_set, gnv_set, gbd_set] using a4 i u hu⟩
  · simp only [up, gi_set, Prod.mk.injEq, true_and]
    split
    · rfl
    · exact (h7 a ha).2 b hb
/-- a number of the green itself, but the counts -/
theorem SimC.f1 (h : SimC f M g) {k : Nat} (hk1 : 7 ≤ k) : SimC f (up M (1, f, 0) k x) (g.set 1 0 k x) := by
  obtain ⟨⟨h1, h2, h3, h4⟩, h5, h6, h7, h8, h9⟩ := h
  refine ⟨⟨?_, ?_, ?_, fun k2 a b => ?_⟩, fun b hb => ?_, fun a ha k2 hk => by simpa [up, gi_set, gq_set, gnb_set, gnh_set, gnv_set, gbd_set] using h6 a ha k2 hk, fun a ha => ⟨fun k2 hk => by simpa [up, gi_set, gq_set, gnb_set, gnh_set, gnv_set, gbd_set] using (h7 a ha).1 k2 hk, fun b hb => by simpa [up, gi_set, gq_set, gnb_set, gnh_set, gnv_set, gbd_set] using (h7 a ha).2 b hb⟩, by simpa [up, gi_set, gq_set, gnb_set, gnh_set, gnv_set, gbd_set] using h8, fun l y hy => by simpa [up, gi_set, gq_set, gnb_set, gnh_set, gnv_set, gbd_set] using h9 l y hy⟩
  · simp only [up]; rw [if_neg (by rintro ⟨-, q⟩; omega)]; exact h1
  · simp only [up]; rw [if_neg (by rintro ⟨-, q⟩; omega)]; exact h2
  · simp only [up]; rw [if_neg (by rintro ⟨-, q⟩; omega)]; exact h3
  · simp only [up, gi_set, true_and]
    split
    · rfl
    · exact h4 k2 a b
  · obtain ⟨a1, a2, a3, a4⟩ := h5 b hb
    exact ⟨fun k2 c d => by simpa [up, gi_set, gq_set, gnb_set, gnh_set, gnv_set, gbd_set] using a1 k2 c d, by rw [wk_set (by omega)]; simpa [up, gi_set, gq_set, gnb_set, gnh_set, gnv_set, gbd_set] using a2, by simpa [up, gi_set, gq_set, gnb_set, gnh_set, gnv_set, gbd_set] using a3, fun i u hu => by simpa [up, gi_set, gq_set, gnb_set, gnh_set, gnv_set, gbd_set] using a4 i u hu⟩
end Keep
