/-! ===== the pool: all objects of the class and of the reference that live on, by ids; which refers to which never changes, only ints do ===== -/
abbrev Pid : Type := Nat × Nat × Nat
abbrev Mem : Type := Pid → Nat → Int32
def up (M : Mem) (i : Pid) (k : Nat) (v : Int32) : Mem := fun j n => if j = i ∧ n = k then v else M j n
abbrev pInts (n : Nat) (f : Nat → Int32) : vp_A := (n, .inl f)
abbrev pRefs (n : Nat) (f : Nat → Option Nat) : vp_A := (n, .inr (.inr (.inr (.inr f))))
/-- kinds: 0 FeteBoard, 1 Fete, 2 Booth, 3 Helper, 4 Visitor, 5 Chalk, 6 7 8 the rows of booths, helpers, visitors, 9 a queue, 10 a practice row, 11 12 13 the chalk's rows, 14 the reference, 15 to 20 its rows -/
def celF (ad : Pid → Nat) (cy : Nat → ClassId) (M : Mem) : Pid → va_E
  | (0, _, _) => .inr (5, [.ref (ad (1, 0, 0)), .ref (ad (1, 1, 0))])
  | (1, f, x) => .inr (2, [.ref (ad (6, f, 0)), .int (M (1, f, x) 1), .ref (ad (7, f, 0)), .int (M (1, f, x) 3), .ref (ad (8, f, 0)), .int (M (1, f, x) 5), .ref (ad (5, f, 0)), .int (M (1, f, x) 7), .int (M (1, f, x) 8), .int (M (1, f, x) 9), .int (M (1, f, x) 10)])
  | (2, f, b) => .inr (0, [.int (M (2, f, b) 0), .int (M (2, f, b) 1), .int (M (2, f, b) 2), .int (M (2, f, b) 3), .int (M (2, f, b) 4), .int (M (2, f, b) 5), .int (M (2, f, b) 6), .int (M (2, f, b) 7), .ref (ad (9, f, b))])
  | (3, f, h) => .inr (3, [.int (M (3, f, h) 0), .int (M (3, f, h) 1), .int (M (3, f, h) 2)])
  | (4, f, v) => .inr (4, [.int (M (4, f, v) 0), .int (M (4, f, v) 1), .int (M (4, f, v) 2), .int (M (4, f, v) 3), .int (M (4, f, v) 4), .int (M (4, f, v) 5), .int (M (4, f, v) 6), .int (M (4, f, v) 7), .ref (ad (10, f, v))])
  | (5, f, x) => .inr (1, [.int (M (5, f, x) 0), .ref (ad (11, f, 0)), .ref (ad (12, f, 0)), .ref (ad (13, f, 0))])
  | (6, f, _) => .inl (cy 1, pRefs 8 (fun j => some (ad (2, f, j))))
  | (7, f, _) => .inl (cy 2, pRefs 12 (fun j => some (ad (3, f, j))))
  | (8, f, _) => .inl (cy 3, pRefs 16 (fun j => some (ad (4, f, j))))
  | (9, f, b) => .inl (cy 0, pInts 16 (M (9, f, b)))
  | (10, f, v) => .inl (cy 0, pInts 8 (M (10, f, v)))
  | (11, f, x) => .inl (cy 0, pInts 3 (M (11, f, x)))
  | (12, f, x) => .inl (cy 0, pInts 3 (M (12, f, x)))
  | (13, f, x) => .inl (cy 0, pInts 3 (M (13, f, x)))
  | (14, f, x) => .inr (6, [.int (M (14, f, x) 0), .int (M (14, f, x) 1), .int (M (14, f, x) 2), .int (M (14, f, x) 3), .ref (ad (15, 0, 0)), .ref (ad (16, 0, 0)), .ref (ad (17, 0, 0)), .ref (ad (18, 0, 0)), .ref (ad (19, 0, 0)), .ref (ad (20, 0, 0))])
  | (15, f, x) => .inl (cy 0, pInts 48 (M (15, f, x)))
  | (16, f, x) => .inl (cy 0, pInts 36 (M (16, f, x)))
  | (17, f, x) => .inl (cy 0, pInts 144 (M (17, f, x)))
  | (18, f, x) => .inl (cy 0, pInts 128 (M (18, f, x)))
  | (19, f, x) => .inl (cy 0, pInts 9 (M (19, f, x)))
  | (20, f, x) => .inl (cy 0, pInts 5 (M (20, f, x)))
  | _ => .inl (cy 0, pInts 0 (fun _ => 0))
def idsF (f : Nat) : List Pid := [(1, f, 0), (5, f, 0), (6, f, 0), (7, f, 0), (8, f, 0), (11, f, 0), (12, f, 0), (13, f, 0)] ++ ((List.range 8).map (fun b => (2, f, b)) ++ ((List.range 12).map (fun h => (3, f, h)) ++ ((List.range 16).map (fun v => (4, f, v)) ++ ((List.range 8).map (fun b => (9, f, b)) ++ (List.range 16).map (fun v => (10, f, v))))))
def idsC : List Pid := (0, 0, 0) :: (idsF 0 ++ idsF 1)
def idsR : List Pid := [(14, 0, 0), (15, 0, 0), (16, 0, 0), (17, 0, 0), (18, 0, 0), (19, 0, 0), (20, 0, 0)]
theorem idsC_nd : idsC.Nodup := by decide +kernel
theorem idsR_nd : idsR.Nodup := by decide +kernel
theorem mC0 : ((0, 0, 0) : Pid) ∈ idsC := by decide +kernel
theorem mC1 {f : Nat} (hf : f < 2) : ((1, f, 0) : Pid) ∈ idsC := (show ∀ f, f < 2 → ((1, f, 0) : Pid) ∈ idsC by decide +kernel) f hf
theorem mC5 {f : Nat} (hf : f < 2) : ((5, f, 0) : Pid) ∈ idsC := (show ∀ f, f < 2 → ((5, f, 0) : Pid) ∈ idsC by decide +kernel) f hf
theorem mC6 {f : Nat} (hf : f < 2) : ((6, f, 0) : Pid) ∈ idsC := (show ∀ f, f < 2 → ((6, f, 0) : Pid) ∈ idsC by decide +kernel) f hf
theorem mC7 {f : Nat} (hf : f < 2) : ((7, f, 0) : Pid) ∈ idsC := (show ∀ f, f < 2 → ((7, f, 0) : Pid) ∈ idsC by decide +kernel) f hf
theorem mC8 {f : Nat} (hf : f < 2) : ((8, f, 0) : Pid) ∈ idsC := (show ∀ f, f < 2 → ((8, f, 0) : Pid) ∈ idsC by decide +kernel) f hf
theorem mC11 {f : Nat} (hf : f < 2) : ((11, f, 0) : Pid) ∈ idsC := (show ∀ f, f < 2 → ((11, f, 0) : Pid) ∈ idsC by decide +kernel) f hf
theorem mC12 {f : Nat} (hf : f < 2) : ((12, f, 0) : Pid) ∈ idsC := (show ∀ f, f < 2 → ((12, f, 0) : Pid) ∈ idsC by decide +kernel) f hf
theorem mC13 {f : Nat} (hf : f < 2) : ((13, f, 0) : Pid) ∈ idsC := (show ∀ f, f < 2 → ((13, f, 0) : Pid) ∈ idsC by decide +kernel) f hf
theorem mC2 {f b : Nat} (hf : f < 2) (hb : b < 8) : ((2, f, b) : Pid) ∈ idsC := (show ∀ f, f < 2 → ∀ b, b < 8 → ((2, f, b) : Pid) ∈ idsC by decide +kernel) f hf b hb
theorem mC9 {f b : Nat} (hf : f < 2) (hb : b < 8) : ((9, f, b) : Pid) ∈ idsC := (show ∀ f, f < 2 → ∀ b, b < 8 → ((9, f, b) : Pid) ∈ idsC by decide +kernel) f hf b hb
theorem mC3 {f b : Nat} (hf : f < 2) (hb : b < 12) : ((3, f, b) : Pid) ∈ idsC := (show ∀ f, f < 2 → ∀ b, b < 12 → ((3, f, b) : Pid) ∈ idsC by decide +kernel) f hf b hb
theorem mC4 {f b : Nat} (hf : f < 2) (hb : b < 16) : ((4, f, b) : Pid) ∈ idsC := (show ∀ f, f < 2 → ∀ b, b < 16 → ((4, f, b) : Pid) ∈ idsC by decide +kernel) f hf b hb
theorem mC10 {f b : Nat} (hf : f < 2) (hb : b < 16) : ((10, f, b) : Pid) ∈ idsC := (show ∀ f, f < 2 → ∀ b, b < 16 → ((10, f, b) : Pid) ∈ idsC by decide +kernel) f hf b hb
theorem mR14 : ((14, 0, 0) : Pid) ∈ idsR := by decide +kernel
theorem mR15 : ((15, 0, 0) : Pid) ∈ idsR := by decide +kernel
theorem mR16 : ((16, 0, 0) : Pid) ∈ idsR := by decide +kernel
theorem mR17 : ((17, 0, 0) : Pid) ∈ idsR := by decide +kernel
theorem mR18 : ((18, 0, 0) : Pid) ∈ idsR := by decide +kernel
theorem mR19 : ((19, 0, 0) : Pid) ∈ idsR := by decide +kernel
theorem mR20 : ((20, 0, 0) : Pid) ∈ idsR := by decide +kernel
/-- the pool as a world -/
def PW (ids : List Pid) (ad : Pid → Nat) (c : Pid → va_E) : va_W := ids.map (fun i => (ad i, c i))
theorem PW_get {ids : List Pid} (ad : Pid → Nat) (c : Pid → va_E) (hn : ids.Nodup) {i : Pid} (hi : i ∈ ids) : ∃ k : Nat, (PW ids ad c)[k]? = some (ad i, c i) ∧ ∀ e c', c' i = e → (∀ j, j ≠ i → c' j = c j) → (PW ids ad c).set k (ad i, e) = PW ids ad c' := by
  obtain ⟨k, hk⟩ := List.getElem?_of_mem hi
  have hl : k < ids.length := (List.getElem?_eq_some_iff.mp hk).1
  refine ⟨k, by simp [PW, hk], fun e c' h1 h2 => ?_⟩
  apply List.ext_getElem?
  intro n
  by_cases hkn : n = k
  · subst hkn
    rw [List.getElem?_set_self (by simpa [PW] using hl)]
    simp [PW, hk, h1]
  · rw [List.getElem?_set_ne (Ne.symm hkn)]
    simp only [PW, List.getElem?_map]
    cases hj : ids[n]? with
    | none => rfl
    | some j =>
      have hne : j ≠ i := fun hji => by
        subst hji
        have hln : n < ids.length := (List.getElem?_eq_some_iff.mp hj).1
        have h3 := (List.getElem?_eq_some_iff.mp hj).2
        have h4 := (List.getElem?_eq_some_iff.mp hk).2
        rcases Nat.lt_or_gt_of_ne hkn with q | q
        · exact List.pairwise_iff_getElem.mp hn n k hln hl q (h3.trans h4.symm)
        · exact List.pairwise_iff_getElem.mp hn k n hl hln q (h4.trans h3.symm)
      simp [h2 j hne]
/-- what a launch, the tables and the pool are: the same for all contracts -/
abbrev EX : Type := Launch × va_G × (Pid → Nat) × (Nat → ClassId) × (Nat × Nat × (Nat → Int32))
abbrev EX.l (E : EX) : Launch := E.1
abbrev EX.D (E : EX) : va_G := E.2.1
abbrev EX.ad (E : EX) : Pid → Nat := E.2.2.1
abbrev EX.cy (E : EX) : Nat → ClassId := E.2.2.2.1
/-- the script: where it lies, how long it is, its cells -/
abbrev EX.sc (E : EX) : Nat × Nat × (Nat → Int32) := E.2.2.2.2
abbrev EX.cel (E : EX) (M : Mem) : Pid → va_E := celF E.ad E.cy M
def tysF (cy : Nat → ClassId) : List (ClassId × FieldType) := [(cy 0, .int), (cy 1, .object RX0), (cy 2, .object RX3), (cy 3, .object RX4), (cy 4, .object RX7), (cy 5, .array .int)]
def Rg (E : EX) (ids : List Pid) (sz : Nat) : Nat → Prop := fun q => (∃ i, i ∈ ids ∧ q = E.ad i) ∨ sz ≤ q
def Inj (E : EX) (ids : List Pid) : Prop := ∀ i, i ∈ ids → ∀ j, j ∈ ids → E.ad i = E.ad j → i = j
def Wd (E : EX) (ids : List Pid) (M : Mem) (U : State) : Prop := va_P E.D vwCl (PW ids E.ad (E.cel M)) U.heap ∧ va_K E.D vwCl (tysF E.cy) U ∧ Inj E ids
def ALL : List Cond := lw_tbl.filter goodWord
/-- a contract: from the memory M and these arguments the method answers v and leaves M', and P v M' -/
def Ret (E : EX) (ids : List Pid) (y : MethodName) (cc : ByteArray) (nL : Nat) (rt : Option FieldType) (fr lo : Nat) (args : List Value) (M : Mem) (P : Option Value → Mem → Prop) : Prop :=
  ∀ sz : Nat, Met E.l y (Cond.code y cc nL rt :: ALL) { frames := fr, cells := 0, slots := 0, locals := lo } (va_Pc args (fun U => U.heap.size = sz ∧ Wd E ids M U)) (fun _ st oc t => (∃ (v : Option Value) (M' : Mem), oc = .returned v ∧ P v M' ∧ Wd E ids M' t) ∧ va_F (Rg E ids sz) st t) 0 0 (Rg E ids sz)
/-- where a walk stands: program, launch, environment, room, start; method, arguments, frames below, its method and code; what is to be reached; the tables; which cells may change; the ids -/
abbrev KX : Type := (Program × EX × Env × Room × State) × (MethodId × Array Value × List Frame × Method × Code) × (State → Prop) × (Nat → Prop) × (Nat × Nat)
abbrev KX.p (κ : KX) : Program := κ.1.1
abbrev KX.E (κ : KX) : EX := κ.1.2.1
abbrev KX.e (κ : KX) : Env := κ.1.2.2.1
abbrev KX.R (κ : KX) : Room := κ.1.2.2.2.1
abbrev KX.s (κ : KX) : State := κ.1.2.2.2.2
abbrev KX.m (κ : KX) : MethodId := κ.2.1.1
abbrev KX.args (κ : KX) : Array Value := κ.2.1.2.1
abbrev KX.below (κ : KX) : List Frame := κ.2.1.2.2.1
abbrev KX.meth (κ : KX) : Method := κ.2.1.2.2.2.1
abbrev KX.c (κ : KX) : Code := κ.2.1.2.2.2.2
abbrev KX.Q (κ : KX) : State → Prop := κ.2.2.1
abbrev KX.A (κ : KX) : Nat → Prop := κ.2.2.2.1
abbrev KX.n (κ : KX) : Nat × Nat := κ.2.2.2.2
abbrev LSt : Type := List (Option Value)
def LV (ls : Array Slot) (nL : Nat) (l : LSt) : Prop := ∃ lv, lv_has ls nL lv ∧ l.length = nL ∧ ∀ i v, l[i]? = some (some v) → (i, v) ∈ lv
abbrev KX.Wk (κ : KX) (H : Heap) (locs : List Loc) (g : JFrame) : Prop := W κ.p κ.E.l κ.e κ.R κ.s κ.m κ.args κ.below κ.meth κ.c H locs κ.n.1 κ.n.2 κ.Q g
/-- the walk at pc with these locals, this stack, this memory, comes to its end -/
def V (κ : KX) (ids : List Pid) (nL : Nat) (M : Mem) (l : LSt) (st : List Value) (pc : Nat) : Prop :=
  ∀ (H : Heap) (locs : List Loc) (ls : Array Slot), va_P κ.E.D vwCl (PW ids κ.E.ad (κ.E.cel M)) H → va_S κ.A κ.s.heap H locs → LV ls nL l → κ.Wk H locs (F0 κ.m pc ls st)
def Good (κ : KX) (ids : List Pid) (cc : ByteArray) (nL : Nat) (own : String) (fr lo : Nat) : Prop :=
  κ.p.tables.exec = Jvm.exec ∧ κ.c.code = cc ∧ κ.c.maxLocals = nL ∧ κ.s.vm.findClass own = some κ.m.cls ∧ (∀ w ∈ ALL, w.before κ.args κ.s = true) ∧ va_K κ.E.D vwCl (tysF κ.E.cy) κ.s ∧ Inj κ.E ids ∧ ids.Nodup ∧ κ.A = Rg κ.E ids κ.s.heap.size ∧ κ.meth.locks = false ∧ fr ≤ κ.R.frames ∧ lo ≤ κ.R.locals ∧ κ.n.1 ≤ κ.R.cells ∧ κ.n.2 ≤ κ.R.slots
