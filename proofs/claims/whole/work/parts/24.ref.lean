/-! ===== the reference's memory holds a green (w: prizes won in this round that it has not yet written) ===== -/
def SimR (N : Mem) (g : GS) (w : Int32) : Prop :=
  (N (14, 0, 0) 1 = nI g.nb ∧ N (14, 0, 0) 2 = nI g.nh ∧ N (14, 0, 0) 3 = nI g.nv) ∧
  (∀ b, b < g.nb → (∀ k, k < 4 → N (15, 0, 0) (6 * b + k) = g.i 2 b k) ∧ N (15, 0, 0) (6 * b + 4) = g.i 2 b 5 ∧ N (15, 0, 0) (6 * b + 5) = g.i 2 b 6) ∧
  (∀ h, h < g.nh → ∀ k, k < 3 → N (16, 0, 0) (3 * h + k) = g.i 3 h k) ∧
  (∀ v, v < g.nv → N (17, 0, 0) (9 * v + 0) = g.i 4 v 0 ∧ N (17, 0, 0) (9 * v + 1) = g.i 4 v 1 ∧ N (17, 0, 0) (9 * v + 2) = stt g v ∧ N (17, 0, 0) (9 * v + 3) = g.i 4 v 3 ∧ N (17, 0, 0) (9 * v + 5) = g.i 4 v 4 ∧ N (17, 0, 0) (9 * v + 6) = g.i 4 v 5 ∧ N (17, 0, 0) (9 * v + 7) = g.i 4 v 6 ∧ N (17, 0, 0) (9 * v + 8) = g.i 4 v 7) ∧
  (∀ v, v < 16 → ∀ b, b < 8 → N (18, 0, 0) (8 * v + b) = if v < g.nv then g.i 10 v b else 0) ∧
  (∀ b, b < g.nb → ∀ i u, (g.q b)[i]? = some u → N (17, 0, 0) (9 * u + 4) = nI i) ∧
  (∀ l x, g.bd[l]? = some x → N (19, 0, 0) (3 * l + 0) = nI x.1 ∧ N (19, 0, 0) (3 * l + 1) = nI x.2.1 ∧ N (19, 0, 0) (3 * l + 2) = x.2.2) ∧
  N (20, 0, 0) 0 = g.i 1 0 7 ∧ N (20, 0, 0) 1 = g.i 1 0 8 ∧ N (20, 0, 0) 2 = g.i 1 0 9 ∧ N (20, 0, 0) 3 + w = g.i 1 0 10 ∧ N (20, 0, 0) 4 = nI g.bd.length
section RA
variable {N : Mem} {g : GS} {w : Int32}
theorem SimR.nb (h : SimR N g w) : N (14, 0, 0) 1 = nI g.nb := h.1.1
theorem SimR.nh (h : SimR N g w) : N (14, 0, 0) 2 = nI g.nh := h.1.2.1
theorem SimR.nv (h : SimR N g w) : N (14, 0, 0) 3 = nI g.nv := h.1.2.2
theorem SimR.bo (h : SimR N g w) {b k : Nat} (hb : b < g.nb) (hk : k < 4) : N (15, 0, 0) (6 * b + k) = g.i 2 b k := (h.2.1 b hb).1 k hk
theorem SimR.b4 (h : SimR N g w) {b : Nat} (hb : b < g.nb) : N (15, 0, 0) (6 * b + 4) = g.i 2 b 5 := (h.2.1 b hb).2.1
theorem SimR.b5 (h : SimR N g w) {b : Nat} (hb : b < g.nb) : N (15, 0, 0) (6 * b + 5) = g.i 2 b 6 := (h.2.1 b hb).2.2
theorem SimR.he (h : SimR N g w) {a k : Nat} (ha : a < g.nh) (hk : k < 3) : N (16, 0, 0) (3 * a + k) = g.i 3 a k := h.2.2.1 a ha k hk
theorem SimR.v0 (h : SimR N g w) {v : Nat} (hv : v < g.nv) : N (17, 0, 0) (9 * v + 0) = g.i 4 v 0 := (h.2.2.2.1 v hv).1
theorem SimR.v1 (h : SimR N g w) {v : Nat} (hv : v < g.nv) : N (17, 0, 0) (9 * v + 1) = g.i 4 v 1 := (h.2.2.2.1 v hv).2.1
theorem SimR.v2 (h : SimR N g w) {v : Nat} (hv : v < g.nv) : N (17, 0, 0) (9 * v + 2) = stt g v := (h.2.2.2.1 v hv).2.2.1
theorem SimR.v3 (h : SimR N g w) {v : Nat} (hv : v < g.nv) : N (17, 0, 0) (9 * v + 3) = g.i 4 v 3 := (h.2.2.2.1 v hv).2.2.2.1
theorem SimR.v5 (h : SimR N g w) {v : Nat} (hv : v < g.nv) : N (17, 0, 0) (9 * v + 5) = g.i 4 v 4 := (h.2.2.2.1 v hv).2.2.2.2.1
theorem SimR.v6 (h : SimR N g w) {v : Nat} (hv : v < g.nv) : N (17, 0, 0) (9 * v + 6) = g.i 4 v 5 := (h.2.2.2.1 v hv).2.2.2.2.2.1
theorem SimR.v7 (h : SimR N g w) {v : Nat} (hv : v < g.nv) : N (17, 0, 0) (9 * v + 7) = g.i 4 v 6 := (h.2.2.2.1 v hv).2.2.2.2.2.2.1
theorem SimR.v8 (h : SimR N g w) {v : Nat} (hv : v < g.nv) : N (17, 0, 0) (9 * v + 8) = g.i 4 v 7 := (h.2.2.2.1 v hv).2.2.2.2.2.2.2
theorem SimR.pr (h : SimR N g w) {v b : Nat} (hv : v < g.nv) (hv2 : v < 16) (hb : b < 8) : N (18, 0, 0) (8 * v + b) = g.i 10 v b := by
  rw [h.2.2.2.2.1 v hv2 b hb, if_pos hv]
theorem SimR.pl (h : SimR N g w) {b i u : Nat} (hb : b < g.nb) (hu : (g.q b)[i]? = some u) : N (17, 0, 0) (9 * u + 4) = nI i := h.2.2.2.2.2.1 b hb i u hu
theorem SimR.bde (h : SimR N g w) {l : Nat} {x : Nat × Nat × Int32} (hx : g.bd[l]? = some x) : N (19, 0, 0) (3 * l + 0) = nI x.1 ∧ N (19, 0, 0) (3 * l + 1) = nI x.2.1 ∧ N (19, 0, 0) (3 * l + 2) = x.2.2 := h.2.2.2.2.2.2.1 l x hx
theorem SimR.n0 (h : SimR N g w) : N (20, 0, 0) 0 = g.i 1 0 7 := h.2.2.2.2.2.2.2.1
theorem SimR.n1 (h : SimR N g w) : N (20, 0, 0) 1 = g.i 1 0 8 := h.2.2.2.2.2.2.2.2.1
theorem SimR.n2 (h : SimR N g w) : N (20, 0, 0) 2 = g.i 1 0 9 := h.2.2.2.2.2.2.2.2.2.1
theorem SimR.n3 (h : SimR N g w) : N (20, 0, 0) 3 + w = g.i 1 0 10 := h.2.2.2.2.2.2.2.2.2.2.1
theorem SimR.n4 (h : SimR N g w) : N (20, 0, 0) 4 = nI g.bd.length := h.2.2.2.2.2.2.2.2.2.2.2
theorem stt_set {kd a k v : Nat} {x : Int32} (h : ¬ (kd = 4 ∧ a = v ∧ (k = 2 ∨ k = 3))) : stt (g.set kd a k x) v = stt g v := by
  have e2 : (g.set kd a k x).i 4 v 2 = g.i 4 v 2 := by rw [gi_set, if_neg (by omega)]
  have e3 : (g.set kd a k x).i 4 v 3 = g.i 4 v 3 := by rw [gi_set, if_neg (by omega)]
  unfold stt
  rw [e2, e3]
/-- two memories that are the same where a green is told -/
theorem SimR.of (h : SimR N g w) {N' : Mem} {g' : GS} {w' : Int32} (hn : g'.2.2.1 = g.2.2.1) (e14 : ∀ k, 0 < k → N' (14, 0, 0) k = N (14, 0, 0) k)
    (h15 : ∀ b, b < g.nb → (∀ k, k < 4 → N' (15, 0, 0) (6 * b + k) = g'.i 2 b k) ∧ N' (15, 0, 0) (6 * b + 4) = g'.i 2 b 5 ∧ N' (15, 0, 0) (6 * b + 5) = g'.i 2 b 6)
    (h16 : ∀ h, h < g.nh → ∀ k, k < 3 → N' (16, 0, 0) (3 * h + k) = g'.i 3 h k)
    (h17 : ∀ v, v < g.nv → N' (17, 0, 0) (9 * v + 0) = g'.i 4 v 0 ∧ N' (17, 0, 0) (9 * v + 1) = g'.i 4 v 1 ∧ N' (17, 0, 0) (9 * v + 2) = stt g' v ∧ N' (17, 0, 0) (9 * v + 3) = g'.i 4 v 3 ∧ N' (17, 0, 0) (9 * v + 5) = g'.i 4 v 4 ∧ N' (17, 0, 0) (9 * v + 6) = g'.i 4 v 5 ∧ N' (17, 0, 0) (9 * v + 7) = g'.i 4 v 6 ∧ N' (17, 0, 0) (9 * v + 8) = g'.i 4 v 7)
    (h18 : ∀ v, v < 16 → ∀ b, b < 8 → N' (18, 0, 0) (8 * v + b) = if v < g.nv then g'.i 10 v b else 0)
    (hp : ∀ b, b < g.nb → ∀ i u, (g'.q b)[i]? = some u → N' (17, 0, 0) (9 * u + 4) = nI i)
    (h19 : ∀ l x, g'.bd[l]? = some x → N' (19, 0, 0) (3 * l + 0) = nI x.1 ∧ N' (19, 0, 0) (3 * l + 1) = nI x.2.1 ∧ N' (19, 0, 0) (3 * l + 2) = x.2.2)
    (h20 : N' (20, 0, 0) 0 = g'.i 1 0 7 ∧ N' (20, 0, 0) 1 = g'.i 1 0 8 ∧ N' (20, 0, 0) 2 = g'.i 1 0 9 ∧ N' (20, 0, 0) 3 + w' = g'.i 1 0 10 ∧ N' (20, 0, 0) 4 = nI g'.bd.length) : SimR N' g' w' := by
  have e0 := nb_of hn
  have e1 := nh_of hn
  have e2 := nv_of hn
  refine ⟨⟨by rw [e14 1 (by decide), e0]; exact h.nb, by rw [e14 2 (by decide), e1]; exact h.nh, by rw [e14 3 (by decide), e2]; exact h.nv⟩, ?_, ?_, ?_, ?_, ?_, h19, h20⟩
  · rw [e0]; exact h15
  · rw [e1]; exact h16
  · rw [e2]; exact h17
  · rw [e2]; exact h18
  · rw [e0]; exact hp
theorem SimR.thr (h : SimR N g w) {x : Int32} : SimR (up N (14, 0, 0) 0 x) g w := by
  refine h.of rfl (fun k hk => by rw [up_at, if_neg (by omega)]) ?_ ?_ ?_ ?_ ?_ ?_ ?_
  · rw [up_ne (by simp)]; exact h.2.1
  · rw [up_ne (by simp)]; exact h.2.2.1
  · rw [up_ne (by simp)]; exact h.2.2.2.1
  · rw [up_ne (by simp)]; exact h.2.2.2.2.1
  · rw [up_ne (by simp)]; exact h.2.2.2.2.2.1
  · rw [up_ne (by simp)]; exact h.2.2.2.2.2.2.1
  · rw [up_ne (by simp)]; exact h.2.2.2.2.2.2.2
theorem SimR.sv0 (h : SimR N g w) {v : Nat} {x : Int32} : SimR (up N (17, 0, 0) (9 * v + 0) x) (g.set 4 v 0 x) w := by
  refine h.of rfl (fun j _ => by rw [up_ne (by simp)]) ?_ ?_ (fun u hu => ?_) ?_ (fun b hb i u hu => ?_) ?_ ?_
  · rw [up_ne (by simp)]; exact h.2.1
  · rw [up_ne (by simp)]; exact h.2.2.1
  · rw [stt_set (by omega)]
    refine ⟨?_, ?_, ?_, ?_, ?_, ?_, ?_, ?_⟩
    · by_cases q : u = v
      · subst q; rw [up_at, if_pos rfl, gi_set, if_pos ⟨rfl, rfl, rfl⟩]
      · rw [up_at, if_neg (by omega), gi_set, if_neg (by omega)]; exact h.v0 hu
    · rw [up_at, if_neg (by omega), gi_set, if_neg (by omega)]; exact h.v1 hu
    · rw [up_at, if_neg (by omega)]; exact h.v2 hu
    · rw [up_at, if_neg (by omega), gi_set, if_neg (by omega)]; exact h.v3 hu
    · rw [up_at, if_neg (by omega), gi_set, if_neg (by omega)]; exact h.v5 hu
    · rw [up_at, if_neg (by omega), gi_set, if_neg (by omega)]; exact h.v6 hu
    · rw [up_at, if_neg (by omega), gi_set, if_neg (by omega)]; exact h.v7 hu
    · rw [up_at, if_neg (by omega), gi_set, if_neg (by omega)]; exact h.v8 hu
  · rw [up_ne (by simp)]
    intro u hu b hb
    have e : (g.set 4 v 0 x).i 10 u b = g.i 10 u b := by rw [gi_set, if_neg (by omega)]
    rw [e]
    exact h.2.2.2.2.1 u hu b hb
  · rw [up_at, if_neg (by omega)]; exact h.pl hb hu
  · rw [up_ne (by simp)]; exact h.2.2.2.2.2.2.1
  · rw [up_ne (by simp)]; exact h.2.2.2.2.2.2.2
theorem SimR.sv5 (h : SimR N g w) {v : Nat} {x : Int32} : SimR (up N (17, 0, 0) (9 * v + 5) x) (g.set 4 v 4 x) w := by
  refine h.of rfl (fun j _ => by rw [up_ne (by simp)]) ?_ ?_ (fun u hu => ?_) ?_ (fun b hb i u hu => ?_) ?_ ?_
  · rw [up_ne (by simp)]; exact h.2.1
  · rw [up_ne (by simp)]; exact h.2.2.1
  · rw [stt_set (by omega)]
    refine ⟨?_, ?_, ?_, ?_, ?_, ?_, ?_, ?_⟩
    · rw [up_at, if_neg (by omega), gi_set, if_neg (by omega)]; exact h.v0 hu
    · rw [up_at, if_neg (by omega), gi_set, if_neg (by omega)]; exact h.v1 hu
    · rw [up_at, if_neg (by omega)]; exact h.v2 hu
    · rw [up_at, if_neg (by omega), gi_set, if_neg (by omega)]; exact h.v3 hu
    · by_cases q : u = v
      · subst q; rw [up_at, if_pos rfl, gi_set, if_pos ⟨rfl, rfl, rfl⟩]
      · rw [up_at, if_neg (by omega), gi_set, if_neg (by omega)]; exact h.v5 hu
    · rw [up_at, if_neg (by omega), gi_set, if_neg (by omega)]; exact h.v6 hu
    · rw [up_at, if_neg (by omega), gi_set, if_neg (by omega)]; exact h.v7 hu
    · rw [up_at, if_neg (by omega), gi_set, if_neg (by omega)]; exact h.v8 hu
  · rw [up_ne (by simp)]
    intro u hu b hb
    have e : (g.set 4 v 4 x).i 10 u b = g.i 10 u b := by rw [gi_set, if_neg (by omega)]
    rw [e]
    exact h.2.2.2.2.1 u hu b hb
  · rw [up_at, if_neg (by omega)]; exact h.pl hb hu
  · rw [up_ne (by simp)]; exact h.2.2.2.2.2.2.1
  · rw [up_ne (by simp)]; exact h.2.2.2.2.2.2.2
theorem SimR.sv6 (h : SimR N g w) {v : Nat} {x : Int32} : SimR (up N (17, 0, 0) (9 * v + 6) x) (g.set 4 v 5 x) w := by
  refine h.of rfl (fun j _ => by rw [up_ne (by simp)]) ?_ ?_ (fun u hu => ?_) ?_ (fun b hb i u hu => ?_) ?_ ?_
  · rw [up_ne (by simp)]; exact h.2.1
  · rw [up_ne (by simp)]; exact h.2.2.1
  · rw [stt_set (by omega)]
    refine ⟨?_, ?_, ?_, ?_, ?_, ?_, ?_, ?_⟩
    · rw [up_at, if_neg (by omega), gi_set, if_neg (by omega)]; exact h.v0 hu
    · rw [up_at, if_neg (by omega), gi_set, if_neg (by omega)]; exact h.v1 hu
    · rw [up_at, if_neg (by omega)]; exact h.v2 hu
    · rw [up_at, if_neg (by omega), gi_set, if_neg (by omega)]; exact h.v3 hu
    · rw [up_at, if_neg (by omega), gi_set, if_neg (by omega)]; exact h.v5 hu
    · by_cases q : u = v
      · subst q; rw [up_at, if_pos rfl, gi_set, if_pos ⟨rfl, rfl, rfl⟩]
      · rw [up_at, if_neg (by omega), gi_set, if_neg (by omega)]; exact h.v6 hu
    · rw [up_at, if_neg (by omega), gi_set, if_neg (by omega)]; exact h.v7 hu
    · rw [up_at, if_neg (by omega), gi_set, if_neg (by omega)]; exact h.v8 hu
  · rw [up_ne (by simp)]
    intro u hu b hb
    have e : (g.set 4 v 5 x).i 10 u b = g.i 10 u b := by rw [gi_set, if_neg (by omega)]
    rw [e]
    exact h.2.2.2.2.1 u hu b hb
  · rw [up_at, if_neg (by omega)]; exact h.pl hb hu
  · rw [up_ne (by simp)]; exact h.2.2.2.2.2.2.1
  · rw [up_ne (by simp)]; exact h.2.2.2.2.2.2.2
theorem SimR.sv7 (h : SimR N g w) {v : Nat} {x : Int32} : SimR (up N (17, 0, 0) (9 * v + 7) x) (g.set 4 v 6 x) w := by
  refine h.of rfl (fun j _ => by rw [up_ne (by simp)]) ?_ ?_ (fun u hu => ?_) ?_ (fun b hb i u hu => ?_) ?_ ?_
  · rw [up_ne (by simp)]; exact h.2.1
  · rw [up_ne (by simp)]; exact h.2.2.1
  · rw [stt_set (by omega)]
    refine ⟨?_, ?_, ?_, ?_, ?_, ?_, ?_, ?_⟩
    · rw [up_at, if_neg (by omega), gi_set, if_neg (by omega)]; exact h.v0 hu
    · rw [up_at, if_neg (by omega), gi_set, if_neg (by omega)]; exact h.v1 hu
    · rw [up_at, if_neg (by omega)]; exact h.v2 hu
    · rw [up_at, if_neg (by omega), gi_set, if_neg (by omega)]; exact h.v3 hu
    · rw [up_at, if_neg (by omega), gi_set, if_neg (by omega)]; exact h.v5 hu
    · rw [up_at, if_neg (by omega), gi_set, if_neg (by omega)]; exact h.v6 hu
    · by_cases q : u = v
      · subst q; rw [up_at, if_pos rfl, gi_set, if_pos ⟨rfl, rfl, rfl⟩]
      · rw [up_at, if_neg (by omega), gi_set, if_neg (by omega)]; exact h.v7 hu
    · rw [up_at, if_neg (by omega), gi_set, if_neg (by omega)]; exact h.v8 hu
  · rw [up_ne (by simp)]
    intro u hu b hb
    have e : (g.set 4 v 6 x).i 10 u b = g.i 10 u b := by rw [gi_set, if_neg (by omega)]
    rw [e]
    exact h.2.2.2.2.1 u hu b hb
  · rw [up_at, if_neg (by omega)]; exact h.pl hb hu
  · rw [up_ne (by simp)]; exact h.2.2.2.2.2.2.1
  · rw [up_ne (by simp)]; exact h.2.2.2.2.2.2.2
theorem SimR.sv8 (h : SimR N g w) {v : Nat} {x : Int32} : SimR (up N (17, 0, 0) (9 * v + 8) x) (g.set 4 v 7 x) w := by
  refine h.of rfl (fun j _ => by rw [up_ne (by simp)]) ?_ ?_ (fun u hu => ?_) ?_ (fun b hb i u hu => ?_) ?_ ?_
  · rw [up_ne (by simp)]; exact h.2.1
  · rw [up_ne (by simp)]; exact h.2.2.1
  · rw [stt_set (by omega)]
    refine ⟨?_, ?_, ?_, ?_, ?_, ?_, ?_, ?_⟩
    · rw [up_at, if_neg (by omega), gi_set, if_neg (by omega)]; exact h.v0 hu
    · rw [up_at, if_neg (by omega), gi_set, if_neg (by omega)]; exact h.v1 hu
    · rw [up_at, if_neg (by omega)]; exact h.v2 hu
    · rw [up_at, if_neg (by omega), gi_set, if_neg (by omega)]; exact h.v3 hu
    · rw [up_at, if_neg (by omega), gi_set, if_neg (by omega)]; exact h.v5 hu
    · rw [up_at, if_neg (by omega), gi_set, if_neg (by omega)]; exact h.v6 hu
    · rw [up_at, if_neg (by omega), gi_set, if_neg (by omega)]; exact h.v7 hu
    · by_cases q : u = v
      · subst q; rw [up_at, if_pos rfl, gi_set, if_pos ⟨rfl, rfl, rfl⟩]
      · rw [up_at, if_neg (by omega), gi_set, if_neg (by omega)]; exact h.v8 hu
  · rw [up_ne (by simp)]
    intro u hu b hb
    have e : (g.set 4 v 7 x).i 10 u b = g.i 10 u b := by rw [gi_set, if_neg (by omega)]
    rw [e]
    exact h.2.2.2.2.1 u hu b hb
  · rw [up_at, if_neg (by omega)]; exact h.pl hb hu
  · rw [up_ne (by simp)]; exact h.2.2.2.2.2.2.1
  · rw [up_ne (by simp)]; exact h.2.2.2.2.2.2.2
theorem SimR.sb2 (h : SimR N g w) {v : Nat} {x : Int32} : SimR (up N (15, 0, 0) (6 * v + 2) x) (g.set 2 v 2 x) w := by
  refine h.of rfl (fun j _ => by rw [up_ne (by simp)]) (fun b hb => ?_) ?_ ?_ ?_ ?_ ?_ ?_
  · refine ⟨fun j hj => ?_, ?_, ?_⟩
    · by_cases q : b = v ∧ j = 2
      · rw [up_at, if_pos (by omega), gi_set, if_pos ⟨rfl, q.1, q.2⟩]
      · rw [up_at, if_neg (by omega), gi_set, if_neg (by omega)]; exact h.bo hb hj
    · rw [up_at, if_neg (by omega), gi_set, if_neg (by omega)]; exact h.b4 hb
    · rw [up_at, if_neg (by omega), gi_set, if_neg (by omega)]; exact h.b5 hb
  · rw [up_ne (by simp)]; exact h.2.2.1
  · rw [up_ne (by simp)]; exact h.2.2.2.1
  · rw [up_ne (by simp)]; exact h.2.2.2.2.1
  · rw [up_ne (by simp)]; exact h.2.2.2.2.2.1
  · rw [up_ne (by simp)]; exact h.2.2.2.2.2.2.1
  · rw [up_ne (by simp)]; exact h.2.2.2.2.2.2.2
theorem SimR.sb4 (h : SimR N g w) {v : Nat} {x : Int32} : SimR (up N (15, 0, 0) (6 * v + 4) x) (g.set 2 v 5 x) w := by
  refine h.of rfl (fun j _ => by rw [up_ne (by simp)]) (fun b hb => ?_) ?_ ?_ ?_ ?_ ?_ ?_
  · refine ⟨fun j hj => ?_, ?_, ?_⟩
    · rw [up_at, if_neg (by omega), gi_set, if_neg (by omega)]; exact h.bo hb hj
    · by_cases q : b = v
      · subst q; rw [up_at, if_pos rfl, gi_set, if_pos ⟨rfl, rfl, rfl⟩]
      · rw [up_at, if_neg (by omega), gi_set, if_neg (by omega)]; exact h.b4 hb
    · rw [up_at, if_neg (by omega), gi_set, if_neg (by omega)]; exact h.b5 hb
  · rw [up_ne (by simp)]; exact h.2.2.1
  · rw [up_ne (by simp)]; exact h.2.2.2.1
  · rw [up_ne (by simp)]; exact h.2.2.2.2.1
  · rw [up_ne (by simp)]; exact h.2.2.2.2.2.1
  · rw [up_ne (by simp)]; exact h.2.2.2.2.2.2.1
  · rw [up_ne (by simp)]; exact h.2.2.2.2.2.2.2
theorem SimR.sb5 (h : SimR N g w) {v : Nat} {x : Int32} : SimR (up N (15, 0, 0) (6 * v + 5) x) (g.set 2 v 6 x) w := by
  refine h.of rfl (fun j _ => by rw [up_ne (by simp)]) (fun b hb => ?_) ?_ ?_ ?_ ?_ ?_ ?_
  · refine ⟨fun j hj => ?_, ?_, ?_⟩
    · rw [up_at, if_neg (by omega), gi_set, if_neg (by omega)]; exact h.bo hb hj
    · rw [up_at, if_neg (by omega), gi_set, if_neg (by omega)]; exact h.b4 hb
    · by_cases q : b = v
      · subst q; rw [up_at, if_pos rfl, gi_set, if_pos ⟨rfl, rfl, rfl⟩]
      · rw [up_at, if_neg (by omega), gi_set, if_neg (by omega)]; exact h.b5 hb
  · rw [up_ne (by simp)]; exact h.2.2.1
  · rw [up_ne (by simp)]; exact h.2.2.2.1
  · rw [up_ne (by simp)]; exact h.2.2.2.2.1
  · rw [up_ne (by simp)]; exact h.2.2.2.2.2.1
  · rw [up_ne (by simp)]; exact h.2.2.2.2.2.2.1
  · rw [up_ne (by simp)]; exact h.2.2.2.2.2.2.2
theorem SimR.sh (h : SimR N g w) {a k : Nat} (hk : k < 3) {x : Int32} : SimR (up N (16, 0, 0) (3 * a + k) x) (g.set 3 a k x) w := by
  refine h.of rfl (fun j _ => by rw [up_ne (by simp)]) ?_ (fun b hb j hj => ?_) ?_ ?_ ?_ ?_ ?_
  · rw [up_ne (by simp)]; exact h.2.1
  · by_cases q : b = a ∧ j = k
    · rw [up_at, if_pos (by omega), gi_set, if_pos ⟨rfl, q.1, q.2⟩]
    · rw [up_at, if_neg (by omega), gi_set, if_neg (by omega)]; exact h.he hb hj
  · rw [up_ne (by simp)]; exact h.2.2.2.1
  · rw [up_ne (by simp)]; exact h.2.2.2.2.1
  · rw [up_ne (by simp)]; exact h.2.2.2.2.2.1
  · rw [up_ne (by simp)]; exact h.2.2.2.2.2.2.1
  · rw [up_ne (by simp)]; exact h.2.2.2.2.2.2.2
theorem SimR.sp (h : SimR N g w) {a k : Nat} (ha : a < g.nv) (hk : k < 8) {x : Int32} : SimR (up N (18, 0, 0) (8 * a + k) x) (g.set 10 a k x) w := by
  refine h.of rfl (fun j _ => by rw [up_ne (by simp)]) ?_ ?_ ?_ (fun u hu b hb => ?_) ?_ ?_ ?_
  · rw [up_ne (by simp)]; exact h.2.1
  · rw [up_ne (by simp)]; exact h.2.2.1
  · rw [up_ne (by simp)]; exact h.2.2.2.1
  · by_cases q : u = a ∧ b = k
    · have e : (g.set 10 a k x).i 10 u b = x := by rw [gi_set, if_pos ⟨rfl, q.1, q.2⟩]
      rw [up_at, if_pos (by omega), e, if_pos (by omega)]
    · have e : (g.set 10 a k x).i 10 u b = g.i 10 u b := by rw [gi_set, if_neg (by omega)]
      rw [up_at, if_neg (by omega), e]; exact h.2.2.2.2.1 u hu b hb
  · rw [up_ne (by simp)]; exact h.2.2.2.2.2.1
  · rw [up_ne (by simp)]; exact h.2.2.2.2.2.2.1
  · rw [up_ne (by simp)]; exact h.2.2.2.2.2.2.2
theorem SimR.sn0 (h : SimR N g w) {x : Int32} : SimR (up N (20, 0, 0) 0 x) (g.set 1 0 7 x) w := by
  refine h.of rfl (fun j _ => by rw [up_ne (by simp)]) ?_ ?_ ?_ ?_ ?_ ?_ ⟨by rw [up_at, if_pos rfl, gi_set, if_pos ⟨rfl, rfl, rfl⟩], by rw [up_at, if_neg (by decide), gi_set, if_neg (by omega)]; exact h.n1, by rw [up_at, if_neg (by decide), gi_set, if_neg (by omega)]; exact h.n2, by rw [up_at, if_neg (by decide), gi_set, if_neg (by omega)]; exact h.n3, by rw [up_at, if_neg (by decide)]; exact h.n4⟩
  · rw [up_ne (by simp)]; exact h.2.1
  · rw [up_ne (by simp)]; exact h.2.2.1
  · rw [up_ne (by simp)]; exact h.2.2.2.1
  · rw [up_ne (by simp)]; exact h.2.2.2.2.1
  · rw [up_ne (by simp)]; exact h.2.2.2.2.2.1
  · rw [up_ne (by simp)]; exact h.2.2.2.2.2.2.1
theorem SimR.sn1 (h : SimR N g w) {x : Int32} : SimR (up N (20, 0, 0) 1 x) (g.set 1 0 8 x) w := by
  refine h.of rfl (fun j _ => by rw [up_ne (by simp)]) ?_ ?_ ?_ ?_ ?_ ?_ ⟨by rw [up_at, if_neg (by decide), gi_set, if_neg (by omega)]; exact h.n0, by rw [up_at, if_pos rfl, gi_set, if_pos ⟨rfl, rfl, rfl⟩], by rw [up_at, if_neg (by decide), gi_set, if_neg (by omega)]; exact h.n2, by rw [up_at, if_neg (by decide), gi_set, if_neg (by omega)]; exact h.n3, by rw [up_at, if_neg (by decide)]; exact h.n4⟩
  · rw [up_ne (by simp)]; exact h.2.1
  · rw [up_ne (by simp)]; exact h.2.2.1
  · rw [up_ne (by simp)]; exact h.2.2.2.1
  · rw [up_ne (by simp)]; exact h.2.2.2.2.1
  · rw [up_ne (by simp)]; exact h.2.2.2.2.2.1
  · rw [up_ne (by simp)]; exact h.2.2.2.2.2.2.1
theorem SimR.sn2 (h : SimR N g w) {x : Int32} : SimR (up N (20, 0, 0) 2 x) (g.set 1 0 9 x) w := by
  refine h.of rfl (fun j _ => by rw [up_ne (by simp)]) ?_ ?_ ?_ ?_ ?_ ?_ ⟨by rw [up_at, if_neg (by decide), gi_set, if_neg (by omega)]; exact h.n0, by rw [up_at, if_neg (by decide), gi_set, if_neg (by omega)]; exact h.n1, by rw [up_at, if_pos rfl, gi_set, if_pos ⟨rfl, rfl, rfl⟩], by rw [up_at, if_neg (by decide), gi_set, if_neg (by omega)]; exact h.n3, by rw [up_at, if_neg (by decide)]; exact h.n4⟩
  · rw [up_ne (by simp)]; exact h.2.1
  · rw [up_ne (by simp)]; exact h.2.2.1
  · rw [up_ne (by simp)]; exact h.2.2.2.1
  · rw [up_ne (by simp)]; exact h.2.2.2.2.1
  · rw [up_ne (by simp)]; exact h.2.2.2.2.2.1
  · rw [up_ne (by simp)]; exact h.2.2.2.2.2.2.1
/-- a prize more that this round has won -/
theorem SimR.win (h : SimR N g w) : SimR N (g.set 1 0 10 (g.i 1 0 10 + 1)) (w + 1) := by
  refine h.of rfl (fun _ _ => rfl) h.2.1 h.2.2.1 h.2.2.2.1 h.2.2.2.2.1 h.2.2.2.2.2.1 h.2.2.2.2.2.2.1 ⟨h.n0, h.n1, h.n2, ?_, h.n4⟩
  rw [gi_set, if_pos ⟨rfl, rfl, rfl⟩, ← h.n3, Int32.add_assoc]
/-- the reference writes what was won -/
theorem SimR.sn3 (h : SimR N g w) : SimR (up N (20, 0, 0) 3 (N (20, 0, 0) 3 + w)) g 0 := by
  refine h.of rfl (fun j _ => by rw [up_ne (by simp)]) ?_ ?_ ?_ ?_ ?_ ?_ ⟨by rw [up_at, if_neg (by decide)]; exact h.n0, by rw [up_at, if_neg (by decide)]; exact h.n1, by rw [up_at, if_neg (by decide)]; exact h.n2, by rw [up_at, if_pos rfl, Int32.add_zero]; exact h.n3, by rw [up_at, if_neg (by decide)]; exact h.n4⟩
  · rw [up_ne (by simp)]; exact h.2.1
  · rw [up_ne (by simp)]; exact h.2.2.1
  · rw [up_ne (by simp)]; exact h.2.2.2.1
  · rw [up_ne (by simp)]; exact h.2.2.2.2.1
  · rw [up_ne (by simp)]; exact h.2.2.2.2.2.1
  · rw [up_ne (by simp)]; exact h.2.2.2.2.2.2.1
end RA
theorem ix6 (a k : Nat) : (6 : Int32) * nI a + nI k = nI (6 * a + k) := by rw [show (6 : Int32) = nI 6 from rfl, pk_mul, nI_add]
theorem ix3 (a k : Nat) : (3 : Int32) * nI a + nI k = nI (3 * a + k) := by rw [show (3 : Int32) = nI 3 from rfl, pk_mul, nI_add]
theorem ix9 (a k : Nat) : (9 : Int32) * nI a + nI k = nI (9 * a + k) := by rw [show (9 : Int32) = nI 9 from rfl, pk_mul, nI_add]
theorem ix8 (a k : Nat) : (8 : Int32) * nI a + nI k = nI (8 * a + k) := by rw [show (8 : Int32) = nI 8 from rfl, pk_mul, nI_add]
section RM
variable {E : EX} {N : Mem} {g : GS} {w : Int32}
theorem r_thrown : Ret E idsR yX6_thrown cX6_thrown 1 (some .int) 0 0 [.ref (E.ad (14, 0, 0))] N (fun r M' => r = some (.int (N (14, 0, 0) 0)) ∧ N = M') := by
  refine Ret_of_V RX6 (by decide) rfl idsR_nd [some (.ref (E.ad (14, 0, 0)))] rfl (Nat.le_of_ble_eq_true rfl) (fun κ hE G E9 hr => ?_)
  subst hE
  refine s_aload_n G dX6_thrown_0 rfl ?_
  refine gX6_28 G dX6_thrown_1 ?_
  exact s_iret G E9 hr dX6_thrown_4 (by exact ⟨rfl, rfl⟩)
theorem r_fail (x : Int32) : Ret E idsR yX6_fail cX6_fail 2 (some .int) 0 0 [.ref (E.ad (14, 0, 0)), .int x] N (fun r M' => r = some (.int 0) ∧ M' = up N (14, 0, 0) 0 x) := by
  refine Ret_of_V RX6 (by decide) rfl idsR_nd [some (.ref (E.ad (14, 0, 0))), some (.int x)] rfl (Nat.le_of_ble_eq_true rfl) (fun κ hE G E9 hr => ?_)
  subst hE
  refine s_aload_n G dX6_fail_0 rfl ?_
  refine s_iload_n G dX6_fail_1 rfl ?_
  refine pX6_28 G dX6_fail_2 ?_
  refine s_iconst (v := 0) G dX6_fail_5 (by decide) ?_
  exact s_iret G E9 hr dX6_fail_6 (by exact ⟨rfl, rfl⟩)
theorem r_isIn (x lo hi : Int32) : Ret E idsR yX6_isIn cX6_isIn 3 (some .boolean) 0 0 [.int x, .int lo, .int hi] N (fun r M' => N = M' ∧ ((inR x lo hi ∧ r = some (.int 1)) ∨ (¬ inR x lo hi ∧ r = some (.int 0)))) := by
  refine Ret_of_V RX6 (by decide) rfl idsR_nd [some (.int x), some (.int lo), some (.int hi)] rfl (Nat.le_of_ble_eq_true rfl) (fun κ hE G E9 hr => ?_)
  subst hE
  refine s_iload_n G dX6_isIn_0 rfl ?_
  refine s_iload_n G dX6_isIn_1 rfl ?_
  refine s_icmp_lt G 14 dX6_isIn_2 (by decide) (fun h2 => ?_) (fun h2 => ?_)
  · refine s_iconst (v := 0) G dX6_isIn_14 (by decide) ?_
    refine s_zret G E9 hr (Or.inl rfl) dX6_isIn_15 ⟨rfl, Or.inr ⟨fun q => i_nlt.mpr q.1 h2, rfl⟩⟩
  refine s_iload_n G dX6_isIn_5 rfl ?_
  refine s_iload_n G dX6_isIn_6 rfl ?_
  refine s_icmp_gt G 14 dX6_isIn_7 (by decide) (fun h7 => ?_) (fun h7 => ?_)
  · refine s_iconst (v := 0) G dX6_isIn_14 (by decide) ?_
    refine s_zret G E9 hr (Or.inl rfl) dX6_isIn_15 ⟨rfl, Or.inr ⟨fun q => i_nlt.mpr q.2 h7, rfl⟩⟩
  · refine s_iconst (v := 1) G dX6_isIn_10 (by decide) ?_
    refine s_goto G 15 dX6_isIn_11 (by decide) ?_
    refine s_zret G E9 hr (Or.inr rfl) dX6_isIn_15 ⟨rfl, Or.inl ⟨⟨i_nlt.mp h2, i_nlt.mp h7⟩, rfl⟩⟩
theorem r_isBooth {n : Nat} (hM : N (14, 0, 0) 1 = nI n) (hn : n < 2 ^ 30) (x : Int32) : Ret E idsR yX6_isBooth cX6_isBooth 2 (some .boolean) 1 22 [.ref (E.ad (14, 0, 0)), .int x] N (fun r M' => N = M' ∧ ((∃ b, b < n ∧ x = nI b ∧ r = some (.int 1)) ∨ ((∀ b, b < n → x ≠ nI b) ∧ r = some (.int 0)))) := by
  refine Ret_of_V RX6 (by decide) rfl idsR_nd [some (.ref (E.ad (14, 0, 0))), some (.int x)] rfl (Nat.le_of_ble_eq_true rfl) (fun κ hE G E9 hr => ?_)
  subst hE
  refine s_iload_n G dX6_isBooth_0 rfl ?_
  refine s_iconst (v := 0) G dX6_isBooth_1 (by decide) ?_
  refine s_aload_n G dX6_isBooth_2 rfl ?_
  refine gX6_32 G dX6_isBooth_3 ?_
  rw [hM]
  refine s_iconst (v := 1) G dX6_isBooth_6 (by decide) ?_
  refine s_isub G dX6_isBooth_7 ?_
  refine iX6_35 G (r_isIn x 0 (nI n - 1)) (by decide) (Nat.le_of_ble_eq_true rfl) dX6_isBooth_8 (fun r9 M9 hp9 => ?_)
  obtain ⟨rfl, ⟨hin, rfl⟩ | ⟨hin, rfl⟩⟩ := hp9
  · have ht : (nI n - nI 1).toInt = (n : Int) - (1 : Nat) := pk_sub_toInt (by omega) (by decide)
    have h1 := hin.1
    have h2 := hin.2
    rw [Int32.le_iff_toInt_le] at h1 h2
    have e1 : (nI n - 1).toInt = (n : Int) - (1 : Nat) := ht
    rw [e1] at h2
    have z : ((0 : Int32).toInt) = 0 := by decide
    rw [z] at h1
    obtain ⟨j, hj, rfl⟩ := nI_of (x := x) (i_nlt.mpr (by rw [Int32.le_iff_toInt_le, z]; exact h1))
    rw [nI_toInt hj] at h2
    refine s_zret G E9 hr (Or.inr rfl) dX6_isBooth_11 ⟨rfl, Or.inl ⟨j, by omega, rfl, rfl⟩⟩
  · have ht : (nI n - nI 1).toInt = (n : Int) - (1 : Nat) := pk_sub_toInt (by omega) (by decide)
    have e1 : (nI n - 1).toInt = (n : Int) - (1 : Nat) := ht
    refine s_zret G E9 hr (Or.inl rfl) dX6_isBooth_11 ⟨rfl, Or.inr ⟨fun b hb q => hin ?_, rfl⟩⟩
    rw [q]
    refine ⟨nI_pos' (by omega), ?_⟩
    rw [Int32.le_iff_toInt_le, e1, nI_toInt (by omega)]
    omega
theorem r_isHelper {n : Nat} (hM : N (14, 0, 0) 2 = nI n) (hn : n < 2 ^ 30) (x : Int32) : Ret E idsR yX6_isHelper cX6_isHelper 2 (some .boolean) 1 22 [.ref (E.ad (14, 0, 0)), .int x] N (fun r M' => N = M' ∧ ((∃ b, b < n ∧ x = nI b ∧ r = some (.int 1)) ∨ ((∀ b, b < n → x ≠ nI b) ∧ r = some (.int 0)))) := by
  refine Ret_of_V RX6 (by decide) rfl idsR_nd [some (.ref (E.ad (14, 0, 0))), some (.int x)] rfl (Nat.le_of_ble_eq_true rfl) (fun κ hE G E9 hr => ?_)
  subst hE
  refine s_iload_n G dX6_isHelper_0 rfl ?_
  refine s_iconst (v := 0) G dX6_isHelper_1 (by decide) ?_
  refine s_aload_n G dX6_isHelper_2 rfl ?_
  refine gX6_39 G dX6_isHelper_3 ?_
  rw [hM]
  refine s_iconst (v := 1) G dX6_isHelper_6 (by decide) ?_
  refine s_isub G dX6_isHelper_7 ?_
  refine iX6_35 G (r_isIn x 0 (nI n - 1)) (by decide) (Nat.le_of_ble_eq_true rfl) dX6_isHelper_8 (fun r9 M9 hp9 => ?_)
  obtain ⟨rfl, ⟨hin, rfl⟩ | ⟨hin, rfl⟩⟩ := hp9
  · have ht : (nI n - nI 1).toInt = (n : Int) - (1 : Nat) := pk_sub_toInt (by omega) (by decide)
    have h1 := hin.1
    have h2 := hin.2
    rw [Int32.le_iff_toInt_le] at h1 h2
    have e1 : (nI n - 1).toInt = (n : Int) - (1 : Nat) := ht
    rw [e1] at h2
    have z : ((0 : Int32).toInt) = 0 := by decide
    rw [z] at h1
    obtain ⟨j, hj, rfl⟩ := nI_of (x := x) (i_nlt.mpr (by rw [Int32.le_iff_toInt_le, z]; exact h1))
    rw [nI_toInt hj] at h2
    refine s_zret G E9 hr (Or.inr rfl) dX6_isHelper_11 ⟨rfl, Or.inl ⟨j, by omega, rfl, rfl⟩⟩
  · have ht : (nI n - nI 1).toInt = (n : Int) - (1 : Nat) := pk_sub_toInt (by omega) (by decide)
    have e1 : (nI n - 1).toInt = (n : Int) - (1 : Nat) := ht
    refine s_zret G E9 hr (Or.inl rfl) dX6_isHelper_11 ⟨rfl, Or.inr ⟨fun b hb q => hin ?_, rfl⟩⟩
    rw [q]
    refine ⟨nI_pos' (by omega), ?_⟩
    rw [Int32.le_iff_toInt_le, e1, nI_toInt (by omega)]
    omega
theorem r_isVisitor {n : Nat} (hM : N (14, 0, 0) 3 = nI n) (hn : n < 2 ^ 30) (x : Int32) : Ret E idsR yX6_isVisitor cX6_isVisitor 2 (some .boolean) 1 22 [.ref (E.ad (14, 0, 0)), .int x] N (fun r M' => N = M' ∧ ((∃ b, b < n ∧ x = nI b ∧ r = some (.int 1)) ∨ ((∀ b, b < n → x ≠ nI b) ∧ r = some (.int 0)))) := by
  refine Ret_of_V RX6 (by decide) rfl idsR_nd [some (.ref (E.ad (14, 0, 0))), some (.int x)] rfl (Nat.le_of_ble_eq_true rfl) (fun κ hE G E9 hr => ?_)
  subst hE
  refine s_iload_n G dX6_isVisitor_0 rfl ?_
  refine s_iconst (v := 0) G dX6_isVisitor_1 (by decide) ?_
  refine s_aload_n G dX6_isVisitor_2 rfl ?_
  refine gX6_42 G dX6_isVisitor_3 ?_
  rw [hM]
  refine s_iconst (v := 1) G dX6_isVisitor_6 (by decide) ?_
  refine s_isub G dX6_isVisitor_7 ?_
  refine iX6_35 G (r_isIn x 0 (nI n - 1)) (by decide) (Nat.le_of_ble_eq_true rfl) dX6_isVisitor_8 (fun r9 M9 hp9 => ?_)
  obtain ⟨rfl, ⟨hin, rfl⟩ | ⟨hin, rfl⟩⟩ := hp9
  · have ht : (nI n - nI 1).toInt = (n : Int) - (1 : Nat) := pk_sub_toInt (by omega) (by decide)
    have h1 := hin.1
    have h2 := hin.2
    rw [Int32.le_iff_toInt_le] at h1 h2
    have e1 : (nI n - 1).toInt = (n : Int) - (1 : Nat) := ht
    rw [e1] at h2
    have z : ((0 : Int32).toInt) = 0 := by decide
    rw [z] at h1
    obtain ⟨j, hj, rfl⟩ := nI_of (x := x) (i_nlt.mpr (by rw [Int32.le_iff_toInt_le, z]; exact h1))
    rw [nI_toInt hj] at h2
    refine s_zret G E9 hr (Or.inr rfl) dX6_isVisitor_11 ⟨rfl, Or.inl ⟨j, by omega, rfl, rfl⟩⟩
  · have ht : (nI n - nI 1).toInt = (n : Int) - (1 : Nat) := pk_sub_toInt (by omega) (by decide)
    have e1 : (nI n - 1).toInt = (n : Int) - (1 : Nat) := ht
    refine s_zret G E9 hr (Or.inl rfl) dX6_isVisitor_11 ⟨rfl, Or.inr ⟨fun b hb q => hin ?_, rfl⟩⟩
    rw [q]
    refine ⟨nI_pos' (by omega), ?_⟩
    rw [Int32.le_iff_toInt_le, e1, nI_toInt (by omega)]
    omega
theorem r_bo {a k : Nat} (ha : a < 8) (hk : k < 6) : Ret E idsR yX6_bo cX6_bo 3 (some .int) 0 0 [.ref (E.ad (14, 0, 0)), .int (nI a), .int (nI k)] N (fun r M' => r = some (.int (N (15, 0, 0) (6 * a + k))) ∧ N = M') := by
  refine Ret_of_V RX6 (by decide) rfl idsR_nd [some (.ref (E.ad (14, 0, 0))), some (.int (nI a)), some (.int (nI k))] rfl (Nat.le_of_ble_eq_true rfl) (fun κ hE G E9 hr => ?_)
  subst hE
  refine s_aload_n G dX6_bo_0 rfl ?_
  refine gX6_9 G dX6_bo_1 ?_
  refine s_bipush (v := 6) G dX6_bo_4 (by decide) ?_
  refine s_iload_n G dX6_bo_6 rfl ?_
  refine s_imul G dX6_bo_7 ?_
  refine s_iload_n G dX6_bo_8 rfl ?_
  refine s_iadd G dX6_bo_9 ?_
  refine al_15 G (ix6 a k) (by omega) dX6_bo_10 ?_
  refine s_iret G E9 hr dX6_bo_11 ⟨rfl, rfl⟩
theorem r_setBo {a k : Nat} (ha : a < 8) (hk : k < 6) (x : Int32) : Ret E idsR yX6_setBo cX6_setBo 4 none 0 0 [.ref (E.ad (14, 0, 0)), .int (nI a), .int (nI k), .int x] N (fun r M' => r = none ∧ M' = up N (15, 0, 0) (6 * a + k) x) := by
  refine Ret_of_V RX6 (by decide) rfl idsR_nd [some (.ref (E.ad (14, 0, 0))), some (.int (nI a)), some (.int (nI k)), some (.int x)] rfl (Nat.le_of_ble_eq_true rfl) (fun κ hE G E9 hr => ?_)
  subst hE
  refine s_aload_n G dX6_setBo_0 rfl ?_
  refine gX6_9 G dX6_setBo_1 ?_
  refine s_bipush (v := 6) G dX6_setBo_4 (by decide) ?_
  refine s_iload_n G dX6_setBo_6 rfl ?_
  refine s_imul G dX6_setBo_7 ?_
  refine s_iload_n G dX6_setBo_8 rfl ?_
  refine s_iadd G dX6_setBo_9 ?_
  refine s_iload_n G dX6_setBo_10 rfl ?_
  refine as_15 G (ix6 a k) (by omega) dX6_setBo_11 ?_
  refine s_vret G E9 hr dX6_setBo_12 ⟨rfl, rfl⟩
theorem r_he {a k : Nat} (ha : a < 12) (hk : k < 3) : Ret E idsR yX6_he cX6_he 3 (some .int) 0 0 [.ref (E.ad (14, 0, 0)), .int (nI a), .int (nI k)] N (fun r M' => r = some (.int (N (16, 0, 0) (3 * a + k))) ∧ N = M') := by
  refine Ret_of_V RX6 (by decide) rfl idsR_nd [some (.ref (E.ad (14, 0, 0))), some (.int (nI a)), some (.int (nI k))] rfl (Nat.le_of_ble_eq_true rfl) (fun κ hE G E9 hr => ?_)
  subst hE
  refine s_aload_n G dX6_he_0 rfl ?_
  refine gX6_13 G dX6_he_1 ?_
  refine s_iconst (v := 3) G dX6_he_4 (by decide) ?_
  refine s_iload_n G dX6_he_5 rfl ?_
  refine s_imul G dX6_he_6 ?_
  refine s_iload_n G dX6_he_7 rfl ?_
  refine s_iadd G dX6_he_8 ?_
  refine al_16 G (ix3 a k) (by omega) dX6_he_9 ?_
  refine s_iret G E9 hr dX6_he_10 ⟨rfl, rfl⟩
theorem r_setHe {a k : Nat} (ha : a < 12) (hk : k < 3) (x : Int32) : Ret E idsR yX6_setHe cX6_setHe 4 none 0 0 [.ref (E.ad (14, 0, 0)), .int (nI a), .int (nI k), .int x] N (fun r M' => r = none ∧ M' = up N (16, 0, 0) (3 * a + k) x) := by
  refine Ret_of_V RX6 (by decide) rfl idsR_nd [some (.ref (E.ad (14, 0, 0))), some (.int (nI a)), some (.int (nI k)), some (.int x)] rfl (Nat.le_of_ble_eq_true rfl) (fun κ hE G E9 hr => ?_)
  subst hE
  refine s_aload_n G dX6_setHe_0 rfl ?_
  refine gX6_13 G dX6_setHe_1 ?_
  refine s_iconst (v := 3) G dX6_setHe_4 (by decide) ?_
  refine s_iload_n G dX6_setHe_5 rfl ?_
  refine s_imul G dX6_setHe_6 ?_
  refine s_iload_n G dX6_setHe_7 rfl ?_
  refine s_iadd G dX6_setHe_8 ?_
  refine s_iload_n G dX6_setHe_9 rfl ?_
  refine as_16 G (ix3 a k) (by omega) dX6_setHe_10 ?_
  refine s_vret G E9 hr dX6_setHe_11 ⟨rfl, rfl⟩
theorem r_vi {a k : Nat} (ha : a < 16) (hk : k < 9) : Ret E idsR yX6_vi cX6_vi 3 (some .int) 0 0 [.ref (E.ad (14, 0, 0)), .int (nI a), .int (nI k)] N (fun r M' => r = some (.int (N (17, 0, 0) (9 * a + k))) ∧ N = M') := by
  refine Ret_of_V RX6 (by decide) rfl idsR_nd [some (.ref (E.ad (14, 0, 0))), some (.int (nI a)), some (.int (nI k))] rfl (Nat.le_of_ble_eq_true rfl) (fun κ hE G E9 hr => ?_)
  subst hE
  refine s_aload_n G dX6_vi_0 rfl ?_
  refine gX6_16 G dX6_vi_1 ?_
  refine s_bipush (v := 9) G dX6_vi_4 (by decide) ?_
  refine s_iload_n G dX6_vi_6 rfl ?_
  refine s_imul G dX6_vi_7 ?_
  refine s_iload_n G dX6_vi_8 rfl ?_
  refine s_iadd G dX6_vi_9 ?_
  refine al_17 G (ix9 a k) (by omega) dX6_vi_10 ?_
  refine s_iret G E9 hr dX6_vi_11 ⟨rfl, rfl⟩
theorem r_setVi {a k : Nat} (ha : a < 16) (hk : k < 9) (x : Int32) : Ret E idsR yX6_setVi cX6_setVi 4 none 0 0 [.ref (E.ad (14, 0, 0)), .int (nI a), .int (nI k), .int x] N (fun r M' => r = none ∧ M' = up N (17, 0, 0) (9 * a + k) x) := by
  refine Ret_of_V RX6 (by decide) rfl idsR_nd [some (.ref (E.ad (14, 0, 0))), some (.int (nI a)), some (.int (nI k)), some (.int x)] rfl (Nat.le_of_ble_eq_true rfl) (fun κ hE G E9 hr => ?_)
  subst hE
  refine s_aload_n G dX6_setVi_0 rfl ?_
  refine gX6_16 G dX6_setVi_1 ?_
  refine s_bipush (v := 9) G dX6_setVi_4 (by decide) ?_
  refine s_iload_n G dX6_setVi_6 rfl ?_
  refine s_imul G dX6_setVi_7 ?_
  refine s_iload_n G dX6_setVi_8 rfl ?_
  refine s_iadd G dX6_setVi_9 ?_
  refine s_iload_n G dX6_setVi_10 rfl ?_
  refine as_17 G (ix9 a k) (by omega) dX6_setVi_11 ?_
  refine s_vret G E9 hr dX6_setVi_12 ⟨rfl, rfl⟩
end RM
