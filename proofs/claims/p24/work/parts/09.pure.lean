/-! ===== facts about greens, without the machine ===== -/
section Acc
variable {f : Nat} {M : Mem} {g : GS}
theorem SimC.nb (h : SimC f M g) : M (1, f, 0) 1 = nI g.nb := h.1.1
theorem SimC.nh (h : SimC f M g) : M (1, f, 0) 3 = nI g.nh := h.1.2.1
theorem SimC.nv (h : SimC f M g) : M (1, f, 0) 5 = nI g.nv := h.1.2.2.1
theorem SimC.num (h : SimC f M g) {k : Nat} (h1 : 7 ≤ k) (h2 : k ≤ 10) : M (1, f, 0) k = g.i 1 0 k := h.1.2.2.2 k h1 h2
theorem SimC.bo (h : SimC f M g) {b k : Nat} (hb : b < g.nb) (h1 : k < 7) (h2 : k ≠ 4) : M (2, f, b) k = g.i 2 b k := (h.2.1 b hb).1 k h1 h2
theorem SimC.wks (h : SimC f M g) {b : Nat} (hb : b < g.nb) : M (2, f, b) 4 = nI (wk g b) := (h.2.1 b hb).2.1
theorem SimC.ql (h : SimC f M g) {b : Nat} (hb : b < g.nb) : M (2, f, b) 7 = nI (g.q b).length := (h.2.1 b hb).2.2.1
theorem SimC.qe (h : SimC f M g) {b : Nat} (hb : b < g.nb) {i u : Nat} (hu : (g.q b)[i]? = some u) : M (9, f, b) i = nI u := (h.2.1 b hb).2.2.2 i u hu
theorem SimC.he (h : SimC f M g) {a k : Nat} (ha : a < g.nh) (h1 : k < 3) : M (3, f, a) k = g.i 3 a k := h.2.2.1 a ha k h1
theorem SimC.vi (h : SimC f M g) {v k : Nat} (hv : v < g.nv) (h1 : k < 8) : M (4, f, v) k = g.i 4 v k := (h.2.2.2.1 v hv).1 k h1
theorem SimC.pr (h : SimC f M g) {v b : Nat} (hv : v < g.nv) (h1 : b < 8) : M (10, f, v) b = g.i 10 v b := (h.2.2.2.1 v hv).2 b h1
theorem SimC.bdl (h : SimC f M g) : M (5, f, 0) 0 = nI g.bd.length := h.2.2.2.2.1
theorem SimC.bde (h : SimC f M g) {l : Nat} {x : Nat × Nat × Int32} (hx : g.bd[l]? = some x) : M (11, f, 0) l = nI x.1 ∧ M (12, f, 0) l = nI x.2.1 ∧ M (13, f, 0) l = x.2.2 := h.2.2.2.2.2 l x hx
theorem Inv.nb8 (h : Inv g) : g.nb ≤ 8 := h.1.1
theorem Inv.nh12 (h : Inv g) : g.nh ≤ 12 := h.1.2.1
theorem Inv.nv16 (h : Inv g) : g.nv ≤ 16 := h.1.2.2
theorem Inv.hat (h : Inv g) {a : Nat} (ha : a < g.nh) : g.i 3 a 1 = -1 ∨ ∃ b, b < g.nb ∧ g.i 3 a 1 = nI b := (h.2.1 a ha).1
theorem Inv.hst (h : Inv g) {a : Nat} (ha : a < g.nh) : 0 < g.i 3 a 0 ∧ g.i 3 a 0 ≤ 24 := (h.2.1 a ha).2
theorem Inv.vho (h : Inv g) {v : Nat} (hv : v < g.nv) : g.i 4 v 2 = 0 ∨ g.i 4 v 2 = 1 := (h.2.2.1 v hv).1
theorem Inv.vat (h : Inv g) {v : Nat} (hv : v < g.nv) : g.i 4 v 3 = -1 ∨ ∃ b, b < g.nb ∧ g.i 4 v 3 = nI b := (h.2.2.1 v hv).2.1
theorem Inv.vha (h : Inv g) {v : Nat} (hv : v < g.nv) (h1 : g.i 4 v 2 = 1) : g.i 4 v 3 = -1 := (h.2.2.1 v hv).2.2.1 h1
theorem Inv.vpr (h : Inv g) {v b : Nat} (hv : v < g.nv) (hb : b < 8) : 0 ≤ g.i 10 v b ∧ g.i 10 v b ≤ 9 := (h.2.2.1 v hv).2.2.2 b hb
theorem Inv.qnd (h : Inv g) {b : Nat} (hb : b < g.nb) : (g.q b).Nodup := (h.2.2.2.1 b hb).1
theorem Inv.qm (h : Inv g) {b v : Nat} (hb : b < g.nb) : v ∈ g.q b ↔ v < g.nv ∧ g.i 4 v 3 = nI b := (h.2.2.2.1 b hb).2.1 v
theorem Inv.bpz (h : Inv g) {b : Nat} (hb : b < g.nb) : 0 ≤ g.i 2 b 2 ∧ g.i 2 b 2 ≤ 99 := (h.2.2.2.1 b hb).2.2
theorem Inv.bd3 (h : Inv g) : g.bd.length ≤ 3 := h.2.2.2.2.1
theorem Inv.bdv (h : Inv g) {x : Nat × Nat × Int32} (hx : x ∈ g.bd) : x.1 < g.nv := h.2.2.2.2.2.1 x hx
theorem Inv.bds (h : Inv g) : g.bd.Pairwise (fun x y => y.2.2 ≤ x.2.2) := h.2.2.2.2.2.2
end Acc
theorem nI_m1 {n : Nat} (h : n < 2 ^ 31) : nI n ≠ -1 := fun q => absurd (show nI n < 0 by rw [q]; decide) (nI_pos h)
theorem nI_inj {a b : Nat} (ha : a < 2 ^ 31) (hb : b < 2 ^ 31) (h : nI a = nI b) : a = b := (nI_eq ha hb).mp h
theorem nodup_len : ∀ (n : Nat) (L : List Nat), L.Nodup → (∀ u, u ∈ L → u < n) → L.length ≤ n
  | 0, L, _, h => by
    cases L with
    | nil => exact Nat.le_refl 0
    | cons a L => exact absurd (h a List.mem_cons_self) (by omega)
  | n + 1, L, hn, h => by
    by_cases hm : n ∈ L
    · have h1 := nodup_len n (L.erase n) (hn.erase n) (fun u hu => by
        have := (hn.mem_erase_iff).mp hu
        have := h u this.2
        omega)
      rw [List.length_erase_of_mem hm] at h1
      omega
    · have := nodup_len n L hn (fun u hu => by
        have h2 := h u hu
        have : u ≠ n := fun q => hm (q ▸ hu)
        omega)
      omega
theorem filter_id {L : List Nat} {v : Nat} (h : v ∉ L) : L.filter (fun u => u != v) = L := List.filter_eq_self.mpr (fun u hu => by simp; intro q; exact h (q ▸ hu))
theorem Inv.ql16 {g : GS} (h : Inv g) {b : Nat} (hb : b < g.nb) : (g.q b).length ≤ 16 := Nat.le_trans (nodup_len g.nv _ (h.qnd hb) (fun u hu => ((h.qm hb).mp hu).1)) h.nv16
/-- the count of helpers when one goes elsewhere -/
theorem wkN_set {g : GS} {h : Nat} {x : Int32} (b : Nat) : ∀ n, wkN (g.set 3 h 1 x) b n + (if h < n ∧ g.i 3 h 1 = nI b then 1 else 0) = wkN g b n + (if h < n ∧ x = nI b then 1 else 0)
  | 0 => by simp [wkN]
  | n + 1 => by
    have ih := wkN_set (g := g) (h := h) (x := x) b n
    unfold wkN
    by_cases hn : n = h
    · subst hn
      rw [gi_set]
      simp only [true_and, if_true, Nat.lt_irrefl, false_and, if_false, Nat.lt_succ_self] at ih ⊢
      split <;> split <;> omega
    · have e1 : (h < n + 1) ↔ (h < n) := by omega
      have e2 : (g.set 3 h 1 x).i 3 n 1 = g.i 3 n 1 := by rw [gi_set, if_neg (by omega)]
      simp only [e1, e2]
      omega
theorem wk_send {g : GS} {h : Nat} {x : Int32} (b : Nat) (hh : h < g.nh) : wk (g.set 3 h 1 x) b + (if g.i 3 h 1 = nI b then 1 else 0) = wk g b + (if x = nI b then 1 else 0) := by
  have := wkN_set (g := g) (h := h) (x := x) b g.nh
  simp only [hh, true_and] at this
  exact this
section Keep2
variable {f : Nat} {M M' : Mem} {g : GS}
theorem SimC.send (hS : SimC f M g) {h : Nat} {x : Int32} (hM : ∀ kd a k, ¬ (kd = 2 ∧ k = 4) → ¬ (kd = 3 ∧ a = h ∧ k = 1) → M' (kd, f, a) k = M (kd, f, a) k) (hx : M' (3, f, h) 1 = x) (hw : ∀ b, b < g.nb → M' (2, f, b) 4 = nI (wk (g.set 3 h 1 x) b)) : SimC f M' (g.set 3 h 1 x) := by
  obtain ⟨⟨h1, h2, h3, h4⟩, h5, h6, h7, h8, h9⟩ := hS
  refine ⟨⟨by rw [hM _ _ _ (by omega) (by omega)]; exact h1, by rw [hM _ _ _ (by omega) (by omega)]; exact h2, by rw [hM _ _ _ (by omega) (by omega)]; exact h3, fun k2 a b => ?_⟩, fun b hb => ?_, fun a ha k2 hk => ?_, fun a ha => ⟨fun k2 hk => ?_, fun b hb => ?_⟩, ?_, fun l y hy => ?_⟩
  · rw [hM _ _ _ (by omega) (by omega), gi_set, if_neg (by omega)]; exact h4 k2 a b
  · obtain ⟨a1, a2, a3, a4⟩ := h5 b hb
    refine ⟨fun k2 c d => ?_, hw b hb, ?_, fun i u hu => ?_⟩
    · rw [hM _ _ _ (by omega) (by omega), gi_set, if_neg (by omega)]; exact a1 k2 c d
    · rw [hM _ _ _ (by omega) (by omega)]; exact a3
    · rw [hM _ _ _ (by omega) (by omega)]; exact a4 i u hu
  · by_cases hc : a = h ∧ k2 = 1
    · obtain ⟨rfl, rfl⟩ := hc
      rw [gi_set, if_pos ⟨rfl, rfl, rfl⟩]; exact hx
    · rw [hM _ _ _ (by omega) (by omega), gi_set, if_neg (by omega)]; exact h6 a ha k2 hk
  · rw [hM _ _ _ (by omega) (by omega), gi_set, if_neg (by omega)]; exact (h7 a ha).1 k2 hk
  · rw [hM _ _ _ (by omega) (by omega), gi_set, if_neg (by omega)]; exact (h7 a ha).2 b hb
  · rw [hM _ _ _ (by omega) (by omega)]; exact h8
  · rw [hM _ _ _ (by omega) (by omega), hM _ _ _ (by omega) (by omega), hM _ _ _ (by omega) (by omega)]; exact h9 l y hy
/-- queues are others -/
theorem SimC.setq (hS : SimC f M g) {F : Nat → List Nat} (hM : ∀ kd a k, kd ≠ 9 → ¬ (kd = 2 ∧ k = 7) → M' (kd, f, a) k = M (kd, f, a) k) (hl : ∀ b, b < g.nb → M' (2, f, b) 7 = nI (F b).length ∧ ∀ i u, (F b)[i]? = some u → M' (9, f, b) i = nI u) : SimC f M' (g.setq F) := by
  obtain ⟨⟨h1, h2, h3, h4⟩, h5, h6, h7, h8, h9⟩ := hS
  refine ⟨⟨by rw [hM _ _ _ (by omega) (by omega)]; exact h1, by rw [hM _ _ _ (by omega) (by omega)]; exact h2, by rw [hM _ _ _ (by omega) (by omega)]; exact h3, fun k2 a b => ?_⟩, fun b hb => ?_, fun a ha k2 hk => ?_, fun a ha => ⟨fun k2 hk => ?_, fun b hb => ?_⟩, ?_, fun l y hy => ?_⟩
  · rw [hM _ _ _ (by omega) (by omega)]; exact h4 k2 a b
  · obtain ⟨a1, a2, a3, a4⟩ := h5 b hb
    refine ⟨fun k2 c d => ?_, ?_, (hl b hb).1, (hl b hb).2⟩
    · rw [hM _ _ _ (by omega) (by omega)]; exact a1 k2 c d
    · rw [hM _ _ _ (by omega) (by omega), wk_setq]; exact a2
  · rw [hM _ _ _ (by omega) (by omega)]; exact h6 a ha k2 hk
  · rw [hM _ _ _ (by omega) (by omega)]; exact (h7 a ha).1 k2 hk
  · rw [hM _ _ _ (by omega) (by omega)]; exact (h7 a ha).2 b hb
  · rw [hM _ _ _ (by omega) (by omega)]; exact h8
  · rw [hM _ _ _ (by omega) (by omega), hM _ _ _ (by omega) (by omega), hM _ _ _ (by omega) (by omega)]; exact h9 l y hy
/-- the board is another -/
theorem SimC.setbd (hS : SimC f M g) {L : List (Nat × Nat × Int32)} (hM : ∀ kd a k, kd ≠ 11 → kd ≠ 12 → kd ≠ 13 → ¬ (kd = 5 ∧ k = 0) → M' (kd, f, a) k = M (kd, f, a) k) (hl : M' (5, f, 0) 0 = nI L.length) (he : ∀ l x, L[l]? = some x → M' (11, f, 0) l = nI x.1 ∧ M' (12, f, 0) l = nI x.2.1 ∧ M' (13, f, 0) l = x.2.2) : SimC f M' (g.setbd L) := by
  obtain ⟨⟨h1, h2, h3, h4⟩, h5, h6, h7, h8, h9⟩ := hS
  refine ⟨⟨by rw [hM _ _ _ (by omega) (by omega) (by omega) (by omega)]; exact h1, by rw [hM _ _ _ (by omega) (by omega) (by omega) (by omega)]; exact h2, by rw [hM _ _ _ (by omega) (by omega) (by omega) (by omega)]; exact h3, fun k2 a b => ?_⟩, fun b hb => ?_, fun a ha k2 hk => ?_, fun a ha => ⟨fun k2 hk => ?_, fun b hb => ?_⟩, hl, he⟩
  · rw [hM _ _ _ (by omega) (by omega) (by omega) (by omega)]; exact h4 k2 a b
  · obtain ⟨a1, a2, a3, a4⟩ := h5 b hb
    refine ⟨fun k2 c d => ?_, ?_, ?_, fun i u hu => ?_⟩
    · rw [hM _ _ _ (by omega) (by omega) (by omega) (by omega)]; exact a1 k2 c d
    · rw [hM _ _ _ (by omega) (by omega) (by omega) (by omega), wk_setbd]; exact a2
    · rw [hM _ _ _ (by omega) (by omega) (by omega) (by omega)]; exact a3
    · rw [hM _ _ _ (by omega) (by omega) (by omega) (by omega)]; exact a4 i u hu
  · rw [hM _ _ _ (by omega) (by omega) (by omega) (by omega)]; exact h6 a ha k2 hk
  · rw [hM _ _ _ (by omega) (by omega) (by omega) (by omega)]; exact (h7 a ha).1 k2 hk
  · rw [hM _ _ _ (by omega) (by omega) (by omega) (by omega)]; exact (h7 a ha).2 b hb
end Keep2
theorem i_nlt {a b : Int32} : ¬ a < b ↔ b ≤ a := by rw [Int32.lt_iff_toInt_lt, Int32.le_iff_toInt_le]; omega
theorem i_nle {a b : Int32} : ¬ a ≤ b ↔ b < a := by rw [Int32.lt_iff_toInt_lt, Int32.le_iff_toInt_le]; omega
def enc : Option Nat → Int32
  | none => -1
  | some o => nI o
theorem bestN_lt {g : GS} {v o : Nat} : ∀ {n : Nat}, bestN g v n = some o → o < n
  | 0, h => by simp [bestN] at h
  | n + 1, h => by
    unfold bestN at h
    split at h
    · cases h; omega
    · have := bestN_lt h; omega
def upr (M : Mem) (i : Pid) (A : Nat → Int32) : Mem := fun j => if j = i then A else M j
theorem upr_at {M : Mem} {i : Pid} {A : Nat → Int32} : upr M i A i = A := by simp [upr]
theorem upr_ne {M : Mem} {i j : Pid} {A : Nat → Int32} (h : j ≠ i) : upr M i A j = M j := by simp [upr, h]
theorem up_upr {M : Mem} {i : Pid} {A : Nat → Int32} {k : Nat} {v : Int32} : up (upr M i A) i k v = upr M i (upd A k v) := by
  funext j n
  by_cases h : j = i
  · subst h; simp [up, upr, upd]
  · simp [up, upr, h]
theorem upr_self {M : Mem} {i : Pid} : upr M i (M i) = M := by
  funext j
  by_cases h : j = i
  · subst h; simp [upr]
  · simp [upr, h]
theorem Fr.r9 {f : Nat} {n : Nat → Nat} {M M' : Mem} {a : Nat} {A : Nat → Int32} (h : Fr f n M M') (ha : a < n 0) : Fr f n M (upr M' (9, f, a) A) := fun kd f' a' hf => (upr_ne (fun q => by cases q; unfold oR at hf; omega)).trans (h kd f' a' hf)
