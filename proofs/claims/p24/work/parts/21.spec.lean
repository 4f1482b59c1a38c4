/-! ===== what each call answers: the code of the throw, the answer, the green behind it ===== -/
abbrev Sp : Type := Nat × Int32 × GS
/-- the number that x names, of n -/
def ix (n : Nat) (x : Int32) : Option Nat := if x < 0 ∨ nI n ≤ x then none else some x.toNatClampNeg
theorem ix_in {n j : Nat} (hj : j < n) (hn : n < 2 ^ 31) : ix n (nI j) = some j := by
  unfold ix
  rw [if_neg (fun q => q.elim (fun q => nI_pos (by omega) q) (fun q => nI_ge hj hn q)), nI_clamp (by omega)]
theorem ix_out {n : Nat} {x : Int32} (hn : n < 2 ^ 31) (h : ∀ b, b < n → x ≠ nI b) : ix n x = none := by
  unfold ix
  rw [if_pos]
  rcases pk_ix x hn with q | q | ⟨j, hj, q⟩
  · exact Or.inl q
  · exact Or.inr q
  · exact absurd q (h j hj)
theorem ix_some {n j : Nat} {x : Int32} (hn : n < 2 ^ 31) (h : ix n x = some j) : j < n ∧ x = nI j := by
  rcases pk_ix x hn with q | q | ⟨k, hk, rfl⟩
  · unfold ix at h; rw [if_pos (Or.inl q)] at h; cases h
  · unfold ix at h; rw [if_pos (Or.inr q)] at h; cases h
  · rw [ix_in hk hn] at h; cases h; exact ⟨hk, rfl⟩
theorem ix_none {n : Nat} {x : Int32} (hn : n < 2 ^ 31) (h : ix n x = none) : ∀ b, b < n → x ≠ nI b := by
  intro b hb q
  rw [q, ix_in hb hn] at h
  cases h
abbrev inR (x lo hi : Int32) : Prop := lo ≤ x ∧ x ≤ hi
def addB (g : GS) (c go p n : Int32) : GS := (fun kd a k => if kd = 2 ∧ a = g.nb then (if k = 0 then c else if k = 1 then go else if k = 2 then p else if k = 3 then n else 0) else g.1 kd a k, fun b => if b = g.nb then [] else g.q b, fun j => if j = 0 then g.nb + 1 else g.2.2.1 j, g.bd)
def addH (g : GS) : GS := (fun kd a k => if kd = 3 ∧ a = g.nh then (if k = 0 then 24 else if k = 1 then -1 else 0) else g.1 kd a k, g.q, fun j => if j = 1 then g.nh + 1 else g.2.2.1 j, g.bd)
def addV (g : GS) (t s : Int32) : GS := (fun kd a k => if kd = 4 ∧ a = g.nv then (if k = 0 then t else if k = 1 then s else if k = 3 then -1 else 0) else if kd = 10 ∧ a = g.nv then 0 else g.1 kd a k, g.q, fun j => if j = 2 then g.nv + 1 else g.2.2.1 j, g.bd)
def spAddBooth (g : GS) (c go p n : Int32) : Sp :=
  if ¬ inR c 1 9 ∨ ¬ inR go 0 60 ∨ ¬ inR p 0 99 ∨ ¬ inR n 1 3 then (1, 0, g) else if g.nb = 8 then (2, 0, g) else (0, nI g.nb, addB g c go p n)
def spAddHelper (g : GS) : Sp := if g.nh = 12 then (1, 0, g) else (0, nI g.nh, addH g)
def spCome (g : GS) (t s : Int32) : Sp :=
  if ¬ inR t 0 200 ∨ ¬ inR s 0 30 then (1, 0, g) else if g.nv = 16 then (2, 0, g) else (0, nI g.nv, addV g t s)
def spSetDart (g : GS) (d : Int32) : Sp := if ¬ inR d 1 65536 then (1, 0, g) else (0, g.i 1 0 8, g.set 1 0 8 d)
def spWork (g : GS) (h b : Int32) : Sp := match ix g.nh h with
  | none => (1, 0, g)
  | some h => if b = -1 ∨ (ix g.nb b).isSome = true then (0, g.i 3 h 1, g.set 3 h 1 b) else (1, 0, g)
def spBring (g : GS) (b p : Int32) : Sp := match ix g.nb b with
  | none => (1, 0, g)
  | some b => if ¬ inR p 1 99 then (2, 0, g) else if 99 < g.i 2 b 2 + p then (3, 0, g) else (0, g.i 2 b 2 + p, g.set 2 b 2 (g.i 2 b 2 + p))
def spSell (g : GS) (v t : Int32) : Sp := match ix g.nv v with
  | none => (1, 0, g)
  | some v => if ¬ inR t 1 200 then (2, 0, g) else (0, g.i 4 v 0 + t, (g.set 4 v 0 (g.i 4 v 0 + t)).set 4 v 2 0)
def spLeave (g : GS) (v : Int32) : Sp := match ix g.nv v with
  | none => (1, 0, g)
  | some v => (0, g.i 4 v 3, leaveQ g v)
def spBooth (g : GS) (b w : Int32) : Sp := match ix g.nb b, ix 10 w with
  | some b, some w => (0, bfc g b w, g)
  | _, _ => (1, 0, g)
def spQueue (g : GS) (b i : Int32) : Sp := match ix g.nb b with
  | none => (1, 0, g)
  | some b => match ix (g.q b).length i with
    | none => (1, 0, g)
    | some i => (0, nI ((g.q b).getD i 0), g)
def spHelper (g : GS) (h w : Int32) : Sp := match ix g.nh h, ix 3 w with
  | some h, some w => (0, g.i 3 h w, g)
  | _, _ => (1, 0, g)
def spVisitor (g : GS) (v w : Int32) : Sp := match ix g.nv v, ix 8 w with
  | some v, some w => (0, vfc g v w, g)
  | _, _ => (1, 0, g)
def spPractice (g : GS) (v b : Int32) : Sp := match ix g.nv v, ix g.nb b with
  | some v, some b => (0, g.i 10 v b, g)
  | _, _ => (1, 0, g)
def spBoard (g : GS) (l w : Int32) : Sp := match ix g.bd.length l, ix 3 w with
  | some l, some w => (0, lfc (g.bd.getD l (0, 0, 0)) w, g)
  | _, _ => (1, 0, g)
def spPass (g : GS) (n : Int32) : Sp := if ¬ inR n 1 200 then (1, 0, g) else (0, (rounds9 g n.toNatClampNeg).i 1 0 10 - g.i 1 0 10, rounds9 g n.toNatClampNeg)
def spCount (g : GS) (w : Int32) : Sp := match ix 11 w with
  | none => (1, 0, g)
  | some w => (0, tot g w, g)
def spForesee (g : GS) (v n w : Int32) : Sp := match ix g.nv v, ix 3 w with
  | some v, some w => if ¬ inR n 1 100 then (2, 0, g) else (0, ffc (rounds9 g n.toNatClampNeg) v w, g)
  | _, _ => (1, 0, g)
/-- behind how many more rounds b isn't open, of at most n more -/
def clsN (g : GS) (b k : Nat) : Nat → Int32
  | 0 => -1
  | n + 1 => if opn (rounds9 g k) b then clsN g b (k + 1) n else nI k
def spCloses (g : GS) (b : Int32) : Sp := match ix g.nb b with
  | none => (1, 0, g)
  | some b => (0, clsN g b 0 101, g)
/-- the prizes that are won with h at x -/
def wonW (g : GS) (h : Nat) (x : Int32) (n : Nat) : Int32 := (rounds9 (g.set 3 h 1 x) n).i 1 0 10 - (g.set 3 h 1 x).i 1 0 10
/-- the best of the first k booths, and what is won with it -/
def advN (g : GS) (h n : Nat) : Nat → Int32 × Int32
  | 0 => (-1, wonW g h (-1) n)
  | k + 1 => if (advN g h n k).2 < wonW g h (nI k) n then (nI k, wonW g h (nI k) n) else advN g h n k
def spAdvise (g : GS) (h n : Int32) : Sp := match ix g.nh h with
  | none => (1, 0, g)
  | some h => if ¬ inR n 1 60 then (2, 0, g) else (0, (advN g h n.toNatClampNeg g.nb).1, g)
/-! ===== the class's green with what is beyond its counts ===== -/
def Fresh (M : Mem) (g : GS) : Prop :=
  (∀ b, g.nb ≤ b → b < 8 → M (2, 0, b) 4 = 0 ∧ M (2, 0, b) 5 = 0 ∧ M (2, 0, b) 6 = 0 ∧ M (2, 0, b) 7 = 0) ∧
  (∀ h, g.nh ≤ h → h < 12 → M (3, 0, h) 2 = 0) ∧
  (∀ v, g.nv ≤ v → v < 16 → (M (4, 0, v) 2 = 0 ∧ M (4, 0, v) 4 = 0 ∧ M (4, 0, v) 5 = 0 ∧ M (4, 0, v) 6 = 0 ∧ M (4, 0, v) 7 = 0) ∧ ∀ b, M (10, 0, v) b = 0)
def CI (M : Mem) (g : GS) : Prop := SimC 0 M g ∧ Inv g ∧ Fresh M g
theorem Fresh.of_Fr {M M' : Mem} {g g' : GS} (h : Fresh M g) (hF : Fr 0 g.2.2.1 M M') (hn : g'.2.2.1 = g.2.2.1) : Fresh M' g' := by
  have e0 := nb_of hn
  have e1 := nh_of hn
  have e2 := nv_of hn
  obtain ⟨h1, h2, h3⟩ := h
  refine ⟨fun b hb hb8 => ?_, fun a ha ha9 => ?_, fun v hv hv9 => ?_⟩
  · rw [e0] at hb
    rw [hF 2 0 b (Or.inr (Or.inl ⟨Or.inl rfl, hb⟩))]
    exact h1 b hb hb8
  · rw [e1] at ha
    rw [hF 3 0 a (Or.inr (Or.inr (Or.inl ⟨rfl, ha⟩)))]
    exact h2 a ha ha9
  · rw [e2] at hv
    rw [hF 4 0 v (Or.inr (Or.inr (Or.inr ⟨Or.inl rfl, hv⟩))), hF 10 0 v (Or.inr (Or.inr (Or.inr ⟨Or.inr rfl, hv⟩)))]
    exact h3 v hv hv9
theorem SimC.same {f : Nat} {M M' : Mem} {g : GS} (h : SimC f M g) (hM : ∀ kd a, M' (kd, f, a) = M (kd, f, a)) : SimC f M' g := by
  unfold SimC at h ⊢
  simp only [hM]
  exact h
theorem CI.same {M M' : Mem} {g : GS} (h : CI M g) (hM : ∀ kd a, M' (kd, 0, a) = M (kd, 0, a)) : CI M' g := by
  obtain ⟨h1, h2, h3⟩ := h
  refine ⟨h1.same hM, h2, ?_⟩
  unfold Fresh at h3 ⊢
  simp only [hM]
  exact h3
theorem wk_none {g : GS} {b : Nat} (h : ∀ a, a < g.nh → g.i 3 a 1 ≠ nI b) : wk g b = 0 := by
  have : ∀ n, n ≤ g.nh → wkN g b n = 0 := by
    intro n
    induction n with
    | zero => intro _; rfl
    | succ n ih =>
      intro hn
      rw [wkN, ih (by omega), if_neg (h n (by omega))]
  exact this g.nh (Nat.le_refl _)
