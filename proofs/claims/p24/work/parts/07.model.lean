/-! ===== the green as a mathematical value: ints by (kind, number, fact), queues as lists, counts, the board as a list ===== -/
abbrev GS : Type := (Nat → Nat → Nat → Int32) × (Nat → List Nat) × (Nat → Nat) × List (Nat × Nat × Int32)
def GS.i (g : GS) (kd a k : Nat) : Int32 := g.1 kd a k
def GS.q (g : GS) (b : Nat) : List Nat := g.2.1 b
def GS.nb (g : GS) : Nat := g.2.2.1 0
def GS.nh (g : GS) : Nat := g.2.2.1 1
def GS.nv (g : GS) : Nat := g.2.2.1 2
def GS.bd (g : GS) : List (Nat × Nat × Int32) := g.2.2.2
def GS.set (g : GS) (kd a k : Nat) (x : Int32) : GS := (fun p q r => if p = kd ∧ q = a ∧ r = k then x else g.1 p q r, g.2)
def GS.setq (g : GS) (f : Nat → List Nat) : GS := (g.1, f, g.2.2)
def GS.setbd (g : GS) (L : List (Nat × Nat × Int32)) : GS := (g.1, g.2.1, g.2.2.1, L)
def GS.setn (g : GS) (j n : Nat) : GS := (g.1, g.2.1, fun a => if a = j then n else g.2.2.1 a, g.2.2.2)
theorem gi_set {g : GS} {kd a k p q r : Nat} {x : Int32} : (g.set kd a k x).i p q r = if p = kd ∧ q = a ∧ r = k then x else g.i p q r := rfl
theorem gq_set {g : GS} {kd a k : Nat} {x : Int32} : (g.set kd a k x).q = g.q := rfl
theorem gnb_set {g : GS} {kd a k : Nat} {x : Int32} : (g.set kd a k x).nb = g.nb := rfl
theorem gnh_set {g : GS} {kd a k : Nat} {x : Int32} : (g.set kd a k x).nh = g.nh := rfl
theorem gnv_set {g : GS} {kd a k : Nat} {x : Int32} : (g.set kd a k x).nv = g.nv := rfl
theorem gbd_set {g : GS} {kd a k : Nat} {x : Int32} : (g.set kd a k x).bd = g.bd := rfl
theorem gi_setq {g : GS} {f : Nat → List Nat} : (g.setq f).i = g.i := rfl
theorem gq_setq {g : GS} {f : Nat → List Nat} : (g.setq f).q = f := rfl
theorem gnb_setq {g : GS} {f : Nat → List Nat} : (g.setq f).nb = g.nb := rfl
theorem gnh_setq {g : GS} {f : Nat → List Nat} : (g.setq f).nh = g.nh := rfl
theorem gnv_setq {g : GS} {f : Nat → List Nat} : (g.setq f).nv = g.nv := rfl
theorem gbd_setq {g : GS} {f : Nat → List Nat} : (g.setq f).bd = g.bd := rfl
theorem gi_setbd {g : GS} {L : List (Nat × Nat × Int32)} : (g.setbd L).i = g.i := rfl
theorem gq_setbd {g : GS} {L : List (Nat × Nat × Int32)} : (g.setbd L).q = g.q := rfl
theorem gnb_setbd {g : GS} {L : List (Nat × Nat × Int32)} : (g.setbd L).nb = g.nb := rfl
theorem gnh_setbd {g : GS} {L : List (Nat × Nat × Int32)} : (g.setbd L).nh = g.nh := rfl
theorem gnv_setbd {g : GS} {L : List (Nat × Nat × Int32)} : (g.setbd L).nv = g.nv := rfl
theorem gbd_setbd {g : GS} {L : List (Nat × Nat × Int32)} : (g.setbd L).bd = L := rfl
/-- the remainder, as the machine computes it -/
abbrev rm9 (x y : Int32) : Int32 := x - x / y * y
/-- how many of the first n helpers are at b -/
def wkN (g : GS) (b : Nat) : Nat → Nat
  | 0 => 0
  | n + 1 => wkN g b n + if g.i 3 n 1 = nI b then 1 else 0
def wk (g : GS) (b : Nat) : Nat := wkN g b g.nh
abbrev opn (g : GS) (b : Nat) : Prop := g.i 2 b 3 ≤ nI (wk g b)
def cst (g : GS) (b : Nat) : Int32 := if nI b = g.i 1 0 9 then g.i 2 b 0 - 1 else g.i 2 b 0
abbrev invites (g : GS) (v b : Nat) : Prop := opn g b ∧ 0 < g.i 2 b 2 ∧ cst g b ≤ g.i 4 v 0
abbrev better (g : GS) (v b o : Nat) : Prop := (g.q b).length < (g.q o).length ∨ ((g.q b).length = (g.q o).length ∧ g.i 10 v o < g.i 10 v b)
def takes (g : GS) (v b : Nat) : Option Nat → Bool
  | none => true
  | some o => decide (better g v b o)
def bestN (g : GS) (v : Nat) : Nat → Option Nat
  | 0 => none
  | b + 1 => if invites g v b ∧ takes g v b (bestN g v b) = true then some b else bestN g v b
def choose9 (g : GS) (v : Nat) : GS := match bestN g v g.nb with
  | some b => (g.set 4 v 3 (nI b)).setq (fun a => if a = b then g.q b ++ [v] else g.q a)
  | none => if g.i 4 v 0 = 0 then g.set 4 v 2 1 else g
/-- one leaves a queue and strolls -/
def leaveQ (g : GS) (v : Nat) : GS := (g.set 4 v 3 (-1)).setq (fun a => (g.q a).filter (fun u => u != v))
def pts (g : GS) (v b : Nat) : Int32 :=
  let p := g.i 4 v 1 + 3 * g.i 10 v b + 5 * (nI (wk g b) - g.i 2 b 3)
  if nI b = g.i 1 0 9 then 2 * p else p
/-- a play comes on the board -/
def bdIns (L : List (Nat × Nat × Int32)) (x : Nat × Nat × Int32) : List (Nat × Nat × Int32) :=
  ((L.takeWhile (fun y => decide (x.2.2 ≤ y.2.2))) ++ x :: L.dropWhile (fun y => decide (x.2.2 ≤ y.2.2))).take 3
def min9 (x y : Int32) : Int32 := if y < x then y else x
def max9 (x y : Int32) : Int32 := if x < y then y else x
def play9 (g : GS) (v b : Nat) : GS :=
  let c := cst g b
  let p := pts g v b
  let g1 := ((g.set 4 v 0 (g.i 4 v 0 - c)).set 2 b 6 (g.i 2 b 6 + c)).setbd (bdIns g.bd (v, b, p))
  let g2 := (((g1.set 10 v b (min9 (g.i 10 v b + 1) 9)).set 4 v 6 (g.i 4 v 6 + 1)).set 2 b 5 (g.i 2 b 5 + 1)).set 4 v 7 (max9 (g.i 4 v 7) p)
  if g.i 2 b 1 ≤ p ∧ 0 < g.i 2 b 2 then ((g2.set 2 b 2 (g.i 2 b 2 - 1)).set 4 v 4 (g.i 4 v 4 + 1)).set 1 0 10 (g.i 1 0 10 + 1) else g2
/-- the first of the queue at b leaves it, and plays if this one can pay -/
def serve1 (g : GS) (b : Nat) : GS := match g.q b with
  | [] => g
  | v :: _ => let g1 := leaveQ g v
    if cst g1 b ≤ g1.i 4 v 0 then play9 g1 v b else g1
def serveN (g : GS) (b : Nat) : Nat → GS
  | 0 => g
  | n + 1 => serveN (serve1 g b) b n
def serve9 (g : GS) (b : Nat) : GS := if opn g b then serveN g b (wk g b) else g
def rest9 (g : GS) (h : Nat) : GS := g.set 3 h 0 (min9 (g.i 3 h 0 + 2) 24)
def tire9 (g : GS) (h : Nat) : GS :=
  if g.i 3 h 1 = -1 then rest9 g h
  else
    let g1 := (g.set 3 h 2 (g.i 3 h 2 + 1)).set 3 h 0 (g.i 3 h 0 - 1)
    if 0 < g1.i 3 h 0 then g1 else rest9 (g1.set 3 h 1 (-1)) h
def dart9 (g : GS) : GS :=
  let d := rm9 (g.i 1 0 8 * 75 + 74) 65537
  (g.set 1 0 8 d).set 1 0 9 (if 0 < g.nb then rm9 d (nI g.nb) else -1)
/-- the board's marks: line k is its first -/
def markN (g : GS) (k : Nat) : List (Nat × Nat × Int32) → GS
  | [] => g
  | x :: L => markN ((g.set 4 x.1 5 (g.i 4 x.1 5 + (3 - nI k))).set 4 x.1 0 (if k = 0 then g.i 4 x.1 0 + 5 else g.i 4 x.1 0)) (k + 1) L
/-- all who wait at a booth that isn't open stroll -/
def clear9 (g : GS) : GS :=
  (fun p q r => if p = 4 ∧ r = 3 ∧ q < g.nv ∧ (∃ b, b < g.nb ∧ g.i 4 q 3 = nI b ∧ ¬ opn g b) then -1 else g.1 p q r, fun b => if b < g.nb ∧ ¬ opn g b then [] else g.q b, g.2.2)
def endHour9 (g : GS) : GS := clear9 ((markN g 0 g.bd).setbd [])
abbrev strl (g : GS) (v : Nat) : Prop := g.i 4 v 2 = 0 ∧ g.i 4 v 3 = -1
def chooseN (g : GS) : Nat → GS
  | 0 => g
  | n + 1 => let g1 := chooseN g n
    if strl g1 n then choose9 g1 n else g1
def servesN (g : GS) : Nat → GS
  | 0 => g
  | n + 1 => serve9 (servesN g n) n
def tiresN (g : GS) : Nat → GS
  | 0 => g
  | n + 1 => tire9 (tiresN g n) n
def round9 (g : GS) : GS :=
  let g1 := if rm9 (g.i 1 0 7) 12 = 0 then dart9 g else g
  let g2 := chooseN g1 g1.nv
  let g3 := servesN g2 g2.nb
  let g4 := tiresN g3 g3.nh
  let g5 := if rm9 (g4.i 1 0 7) 12 = 11 then endHour9 g4 else g4
  g5.set 1 0 7 (g5.i 1 0 7 + 1)
def rounds9 (g : GS) : Nat → GS
  | 0 => g
  | n + 1 => round9 (rounds9 g n)
