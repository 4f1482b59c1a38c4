/-! ===== the facts of a round that law asks for ===== -/
def RFh (t : Nat) (g : GS) (n : Nat → Nat) : Prop := LI t 40 g ∧ Inv g ∧ t < 50 ∧ Pg (rnd1 g) (rnd3 g) n ∧ (∀ a, n a ≤ wk g a) ∧ ∀ a, ¬ opn g a → n a = 0
section Rf
variable {g : GS} {t : Nat} {n : Nat → Nat}
theorem wk1 {b : Nat} : wk (rnd1 g) b = wk g b := wk_congr b (nh_of rnd1_n) (fun a _ => rnd1_i (by omega))
theorem opn1 {b : Nat} : opn (rnd1 g) b ↔ opn g b := by
  show (rnd1 g).i 2 b 3 ≤ nI (wk (rnd1 g) b) ↔ _
  rw [wk1, rnd1_i (by omega)]
theorem cst1 (h : LI t 40 g) {b : Nat} (hb : b < g.nb) : ∃ c, c ≤ 9 ∧ cst (rnd1 g) b = nI c := by
  obtain ⟨⟨c, c1, c9, e⟩, -⟩ := h.2.2.2.2.2 b hb
  unfold cst
  rw [rnd1_i (kd := 2) (by omega), e]
  split
  · exact ⟨c - 1, by omega, nI_sub c1⟩
  · exact ⟨c, c9, rfl⟩
theorem RFh.mk (h : LI t 40 g) (hI : Inv g) (ht : t < 50) : ∃ n, RFh t g n := by
  have e1 : (rnd1 g).nv = g.nv := nv_of rnd1_n
  have e2 : (rnd1 g).nb = g.nb := nb_of rnd1_n
  have hp : Pg (rnd1 g) (rnd1 g) (fun _ => 0) := Pg.rf (fun v hv => by
    obtain ⟨⟨k, h1, h2⟩, -⟩ := h.2.2.2.2.1 v (by omega)
    exact ⟨k, by omega, (rnd1_i (by omega)).trans h2⟩) hI.r1
  obtain ⟨n, h1, h2, h3, -⟩ := Pg.servesM (hp.choose (rnd1 g).nv) hI.r2 (fun b hb => cst1 h (by omega)) (rnd1 g).nb (Nat.le_refl _)
  have e3 : (rnd2 g).nb = (rnd1 g).nb := nb_of (chooseN_n _)
  refine ⟨n, h, hI, ht, ?_, fun a => by rw [← wk1]; exact h2 a, fun a ha => h3 a (fun z => ha (opn1.mp z))⟩
  unfold rnd3
  rw [e3]
  exact h1
theorem r_i2 {a k : Nat} : (round9 g).i 2 a k = (rnd3 g).i 2 a k := by
  rw [round_eq, gi_set, if_neg (by omega)]
  unfold rnd5
  split
  · rw [endHour_i (by omega)]
    exact tiresN_i (by omega) _
  · exact tiresN_i (by omega) _
theorem r_i4 {a k : Nat} (h0 : k ≠ 0) (h3 : k ≠ 3) (h5 : k ≠ 5) : (round9 g).i 4 a k = (rnd3 g).i 4 a k := by
  rw [round_eq, gi_set, if_neg (by omega)]
  unfold rnd5
  split
  · rw [endHour_i (by omega)]
    exact tiresN_i (by omega) _
  · exact tiresN_i (by omega) _
theorem r_i1 {k : Nat} (h7 : k ≠ 7) : (round9 g).i 1 0 k = (rnd3 g).i 1 0 k := by
  rw [round_eq, gi_set, if_neg (by omega)]
  unfold rnd5
  split
  · rw [endHour_i (by omega)]
    exact tiresN_i (by omega) _
  · exact tiresN_i (by omega) _
theorem r_n : (round9 g).2.2.1 = g.2.2.1 := rounds_n 1
theorem RFh.rd4 (h : RFh t g n) : (rnd4 g).i 1 0 7 = nI t := by
  have e : (rnd4 g).i 1 0 7 = (rnd3 g).i 1 0 7 := tiresN_i (by omega) _
  rw [e, h.2.2.2.1.1.2.2.1 7 (by decide), rnd1_i (by omega)]
  exact h.1.2.1
theorem RFh.r_7 (h : RFh t g n) : (round9 g).i 1 0 7 = nI (t + 1) := by
  have e : (rnd5 g).i 1 0 7 = nI t := by
    rw [← h.rd4]
    unfold rnd5
    split
    · exact endHour_i (by omega)
    · rfl
  rw [round_eq, gi_set, if_pos ⟨rfl, rfl, rfl⟩, e]
  exact nI_1 t
theorem RFh.last (h : RFh t g n) : rm9 ((rnd4 g).i 1 0 7) 12 = 11 ↔ t % 12 = 11 := by
  rw [h.rd4, show (12 : Int32) = nI 12 from rfl, nI_rem (by have := h.2.2.1; omega) (by decide) (by decide), show (11 : Int32) = nI 11 from rfl]
  exact nI_eq (by omega) (by decide)
theorem RFh.r_i3 (h : RFh t g n) {a k : Nat} (ha : a < g.nh) (hk : k < 3) : (round9 g).i 3 a k = trow (g.i 3 a 0) (g.i 3 a 1) (g.i 3 a 2) k := by
  have e3 : ∀ k, (rnd3 g).i 3 a k = g.i 3 a k := fun k => (h.2.2.2.1.1.2.2.2.1 a k).trans (rnd1_i (by omega))
  have e4 : (round9 g).i 3 a k = (rnd4 g).i 3 a k := by
    rw [round_eq, gi_set, if_neg (by omega)]
    unfold rnd5
    split
    · exact endHour_i (by omega)
    · rfl
  rw [e4]
  unfold rnd4
  rw [tires_row hk _ (by rw [nh_of rnd3_n]; exact ha), e3, e3, e3]
theorem RFh.mk9 (h : RFh t g n) : ∃ m, m < g.nb ∧ (rnd1 g).i 1 0 9 = nI m := by
  obtain ⟨hLI, -, ht, -⟩ := h
  obtain ⟨⟨⟨hb1, hb7⟩, -⟩, h7, ⟨d, hd, e8⟩, hm, -⟩ := hLI
  unfold rnd1
  rw [h7, show (12 : Int32) = nI 12 from rfl, nI_rem (by omega) (by decide) (by decide)]
  split
  · unfold dart9
    dsimp only
    rw [gi_set, if_pos ⟨rfl, rfl, rfl⟩, if_pos (by omega), e8, show (75 : Int32) = nI 75 from rfl, nI_mul, show (74 : Int32) = nI 74 from rfl, nI_add, show (65537 : Int32) = nI 65537 from rfl, nI_rem (by omega) (by decide) (by decide)]
    have h5 : (d * 75 + 74) % 65537 < 65537 := Nat.mod_lt _ (by decide)
    exact ⟨_, Nat.mod_lt _ (by omega), nI_rem (by omega) (by omega) (by omega)⟩
  · rename_i hz
    rcases hm with rfl | ⟨m, h1, h2⟩
    · exact absurd rfl hz
    · exact ⟨m, h1, h2⟩
theorem RFh.r_9 (h : RFh t g n) : ∃ m, m < g.nb ∧ (round9 g).i 1 0 9 = nI m := by
  obtain ⟨m, h1, h2⟩ := h.mk9
  exact ⟨m, h1, by rw [r_i1 (by decide), h.2.2.2.1.1.2.2.1 9 (by decide), h2]⟩
theorem RFh.r_8 (h : RFh t g n) : ∃ d, d ≤ 65536 ∧ (round9 g).i 1 0 8 = nI d := by
  rw [r_i1 (by decide), h.2.2.2.1.1.2.2.1 8 (by decide)]
  obtain ⟨d, hd, e8⟩ := h.1.2.2.1
  unfold rnd1
  split
  · unfold dart9
    dsimp only
    rw [gi_set, if_neg (by omega), gi_set, if_pos ⟨rfl, rfl, rfl⟩, e8, show (75 : Int32) = nI 75 from rfl, nI_mul, show (74 : Int32) = nI 74 from rfl, nI_add, show (65537 : Int32) = nI 65537 from rfl, nI_rem (by omega) (by decide) (by decide)]
    have h5 : (d * 75 + 74) % 65537 < 65537 := Nat.mod_lt _ (by decide)
    exact ⟨_, by omega, rfl⟩
  · exact ⟨d, hd, e8⟩
theorem RFh.r_b (h : RFh t g n) (b : Nat) : (round9 g).i 2 b 0 = g.i 2 b 0 ∧ (round9 g).i 2 b 1 = g.i 2 b 1 ∧ (round9 g).i 2 b 3 = g.i 2 b 3 := by
  obtain ⟨a0, a1, a3⟩ := h.2.2.2.1.1.2.1 b
  rw [r_i2, r_i2, r_i2, a0, a1, a3, rnd1_i (by omega), rnd1_i (by omega), rnd1_i (by omega)]
  exact ⟨rfl, rfl, rfl⟩
theorem RFh.cst (h : RFh t g n) (b : Nat) : cst (round9 g) b = cst (rnd1 g) b := cst_congr b (by rw [r_i1 (by decide), h.2.2.2.1.1.2.2.1 9 (by decide)]) (by rw [(h.r_b b).1, rnd1_i (by omega)])
theorem RFh.r_b2 (h : RFh t g n) {b : Nat} (hb : b < g.nb) : (round9 g).i 2 b 2 ≤ g.i 2 b 2 := by
  obtain ⟨-, -, h3⟩ := h.2.2.2.1.2.1 b (by rw [nb_of rnd1_n]; exact hb)
  rw [rnd1_i (by omega)] at h3
  rw [r_i2]; exact h3
theorem i_aS (a b : Int32) : a + b - a = b := by grind
theorem RFh.r_b5 (h : RFh t g n) {b : Nat} (hb : b < g.nb) : (round9 g).i 2 b 5 - g.i 2 b 5 = nI (n b) := by
  obtain ⟨h3, -, -⟩ := h.2.2.2.1.2.1 b (by rw [nb_of rnd1_n]; exact hb)
  rw [rnd1_i (by omega)] at h3
  rw [r_i2, h3, i_aS]
theorem RFh.r_b6 (h : RFh t g n) {b : Nat} (hb : b < g.nb) : (round9 g).i 2 b 6 - g.i 2 b 6 = nI (n b) * Jvm.Pilot.CFeteBoardLaw_law_r1289_786a2d.cst (round9 g) b := by
  obtain ⟨-, h3, -⟩ := h.2.2.2.1.2.1 b (by rw [nb_of rnd1_n]; exact hb)
  rw [rnd1_i (by omega)] at h3
  rw [r_i2, h3, i_aS, h.cst]
theorem wkN_leq {b : Nat} : ∀ k, wkN g b k ≤ k
  | 0 => Nat.le_refl _
  | k + 1 => by
    show wkN g b k + (if g.i 3 k 1 = nI b then 1 else 0) ≤ k + 1
    have := wkN_leq (b := b) k
    split <;> omega
theorem sN_le {f : Nat → Nat} {c : Nat} (h : ∀ a, f a ≤ c) : ∀ k, sN f k ≤ k * c
  | 0 => by show 0 ≤ _; omega
  | k + 1 => by
    show sN f k + f k ≤ (k + 1) * c
    have h1 := sN_le h k
    have h2 := h k
    rw [Nat.succ_mul]
    omega
theorem RFh.n11 (h : RFh t g n) (b : Nat) : n b ≤ 11 := Nat.le_trans (h.2.2.2.2.1 b) (Nat.le_trans (wkN_leq _) h.1.1.2.1.2)
theorem RFh.N (h : RFh t g n) : sN n g.nb ≤ 77 := by
  have h1 := sN_le h.n11 g.nb
  have h2 := h.1.1.1.2
  omega
theorem RFh.pv (h : RFh t g n) {v : Nat} (hv : v < g.nv) : g.i 4 v 7 ≤ (rnd3 g).i 4 v 7 ∧ (∃ k0 k, k ≤ k0 ∧ k0 < 2 ^ 31 ∧ g.i 4 v 0 = nI k0 ∧ (rnd3 g).i 4 v 0 = nI k) ∧ (∃ p, p ≤ 77 ∧ (rnd3 g).i 4 v 6 = g.i 4 v 6 + nI p) ∧ ∃ p, p ≤ 77 ∧ (rnd3 g).i 4 v 4 = g.i 4 v 4 + nI p := by
  have hN := h.N
  obtain ⟨h1, h2, ⟨p, p1, p2⟩, z, z1, z2⟩ := h.2.2.2.1.2.2.1 v (by rw [nv_of rnd1_n]; exact hv)
  rw [nb_of rnd1_n] at p1 z1
  have e : ∀ k, (rnd1 g).i 4 v k = g.i 4 v k := fun k => rnd1_i (by omega)
  simp only [e] at h1 h2 p2 z2
  exact ⟨h1, h2, ⟨p, by omega, p2⟩, z, by omega, z2⟩
theorem RFh.r_v1 (h : RFh t g n) (v : Nat) : (round9 g).i 4 v 1 = g.i 4 v 1 := by
  rw [r_i4 (by decide) (by decide) (by decide), (h.2.2.2.1.1.2.2.2.2 v).1, rnd1_i (by omega)]
theorem RFh.r_home (h : RFh t g n) {v : Nat} (hh : g.i 4 v 2 = 1) : (round9 g).i 4 v 2 = 1 := by
  rw [r_i4 (by decide) (by decide) (by decide)]
  exact (h.2.2.2.1.1.2.2.2.2 v).2.2 ((rnd1_i (by omega)).trans hh)
theorem RFh.r_v7 (h : RFh t g n) {v : Nat} (hv : v < g.nv) : g.i 4 v 7 ≤ (round9 g).i 4 v 7 := by
  rw [r_i4 (by decide) (by decide) (by decide)]
  exact (h.pv hv).1
theorem RFh.r_v6 (h : RFh t g n) {v : Nat} (hv : v < g.nv) : ∃ a b, a ≤ b ∧ b ≤ 200 * (t + 1) ∧ g.i 4 v 6 = nI a ∧ (round9 g).i 4 v 6 = nI b := by
  rw [r_i4 (by decide) (by decide) (by decide)]
  obtain ⟨-, -, ⟨p, p1, p2⟩, -⟩ := h.pv hv
  obtain ⟨-, -, a, a1, a2⟩ := h.1.2.2.2.2.1 v hv
  exact ⟨a, a + p, by omega, by omega, a2, by rw [p2, a2, nI_add]⟩
theorem RFh.r_v4 (h : RFh t g n) {v : Nat} (hv : v < g.nv) : ∃ a b, a ≤ b ∧ b ≤ 200 * (t + 1) ∧ g.i 4 v 4 = nI a ∧ (round9 g).i 4 v 4 = nI b := by
  rw [r_i4 (by decide) (by decide) (by decide)]
  obtain ⟨-, -, -, ⟨p, p1, p2⟩⟩ := h.pv hv
  obtain ⟨-, ⟨a, a1, a2⟩, -⟩ := h.1.2.2.2.2.1 v hv
  exact ⟨a, a + p, by omega, by omega, a2, by rw [p2, a2, nI_add]⟩
theorem rnd4_bd : (rnd4 g).bd = (rnd3 g).bd := congrArg (fun z : (Nat → List Nat) × (Nat → Nat) × List (Nat × Nat × Int32) => z.2.2) (tiresN_n _)
theorem RFh.bl (h : RFh t g n) : (rnd3 g).bd.length = min 3 (g.bd.length + sN n g.nb) := by
  have e : (rnd1 g).bd = g.bd := congrArg (fun z : (Nat → List Nat) × (Nat → Nat) × List (Nat × Nat × Int32) => z.2.2) rnd1_2
  have h1 := h.2.2.2.1.2.2.2.2
  unfold PgL at h1
  rw [e, nb_of rnd1_n] at h1
  exact h1
theorem i4_3 {v k : Nat} : (rnd4 g).i 4 v k = (rnd3 g).i 4 v k := tiresN_i (by omega) _
/-- tokens at the end of the round -/
theorem RFh.tok (h : RFh t g n) (v : Nat) : (round9 g).i 4 v 0 = if t % 12 = 11 then (match (rnd3 g).bd with
    | [] => (rnd3 g).i 4 v 0
    | x :: _ => if v = x.1 then (rnd3 g).i 4 v 0 + 5 else (rnd3 g).i 4 v 0) else (rnd3 g).i 4 v 0 := by
  rw [round_eq, gi_set, if_neg (by omega)]
  unfold rnd5
  by_cases q : t % 12 = 11
  · rw [if_pos (h.last.mpr q), if_pos q]
    unfold endHour9
    rw [clear_i (by omega), gi_setbd, mark_tok, rnd4_bd, i4_3]
    cases (rnd3 g).bd <;> rfl
  · rw [if_neg (fun z => q (h.last.mp z)), if_neg q, i4_3]
theorem RFh.r_tok (h : RFh t g n) {v : Nat} (hv : v < g.nv) : ∃ k, k ≤ 200 + 45 * (t + 1) ∧ (round9 g).i 4 v 0 = nI k := by
  obtain ⟨-, ⟨k0, k, k1, k2, k3, k4⟩, -⟩ := h.pv hv
  obtain ⟨⟨a, a1, a2⟩, -⟩ := h.1.2.2.2.2.1 v hv
  have ht := h.2.2.1
  have e : k0 = a := nI_inj k2 (by omega) (k3.symm.trans a2)
  rw [h.tok v, k4]
  split
  · split
    · exact ⟨k, by omega, rfl⟩
    · split
      · exact ⟨k + 5, by omega, nI_add k 5⟩
      · exact ⟨k, by omega, rfl⟩
  · exact ⟨k, by omega, rfl⟩
theorem RFh.r_LI (h : RFh t g n) : LI (t + 1) 0 (round9 g) := by
  have e0 := nb_of (r_n (g := g))
  have e1 := nh_of (r_n (g := g))
  have e2 := nv_of (r_n (g := g))
  refine ⟨by rw [e0, e1, e2]; exact h.1.1, h.r_7, h.r_8, Or.inr (by rw [e0]; exact h.r_9), fun v hv => ?_, fun b hb => ?_⟩
  · rw [e2] at hv
    refine ⟨h.r_tok hv, ?_, ?_⟩
    · obtain ⟨a, b, -, h2, -, h4⟩ := h.r_v4 hv
      exact ⟨b, h2, h4⟩
    · obtain ⟨a, b, -, h2, -, h4⟩ := h.r_v6 hv
      exact ⟨b, h2, h4⟩
  · rw [e0] at hb
    rw [(h.r_b b).1, (h.r_b b).2.2]
    exact h.1.2.2.2.2.2 b hb
theorem RFh.r_P (h : RFh t g n) : sI (fun v => (round9 g).i 4 v 6 - g.i 4 v 6) g.nv = sI (fun b => (round9 g).i 2 b 5 - g.i 2 b 5) g.nb := by
  have h1 := h.2.2.2.1.2.2.2.1.2.1
  rw [nb_of rnd1_n, nv_of rnd1_n] at h1
  refine ((sI_congr _ (fun v _ => ?_)).trans h1).trans (sI_congr _ (fun b _ => ?_))
  · rw [r_i4 (by decide) (by decide) (by decide), rnd1_i (by omega)]
  · rw [r_i2, rnd1_i (by omega)]
theorem RFh.r_Z (h : RFh t g n) : sI (fun v => (round9 g).i 4 v 4 - g.i 4 v 4) g.nv = (round9 g).i 1 0 10 - g.i 1 0 10 := by
  have h1 := h.2.2.2.1.2.2.2.1.2.2.1
  rw [nv_of rnd1_n, rnd1_i (by omega)] at h1
  rw [r_i1 (by decide), ← h1]
  refine sI_congr _ (fun v _ => ?_)
  rw [r_i4 (by decide) (by decide) (by decide), rnd1_i (by omega)]
theorem RFh.r_S (h : RFh t g n) : prsN (round9 g) g.nb + (round9 g).i 1 0 10 = prsN g g.nb + g.i 1 0 10 := by
  have h1 := h.2.2.2.1.2.2.2.1.2.2.2
  rw [nb_of rnd1_n, rnd1_i (by omega), prs_sI, prs_sI] at h1
  rw [r_i1 (by decide), prs_sI, prs_sI, sI_congr _ (fun b _ => (r_i2 : (round9 g).i 2 b 2 = (rnd3 g).i 2 b 2)), h1, sI_congr _ (fun b _ => (rnd1_i (by omega) : (rnd1 g).i 2 b 2 = g.i 2 b 2))]
theorem RFh.bdv (h : RFh t g n) : ∀ x, x ∈ (rnd3 g).bd → x.1 < g.nv := fun x hx => by
  have h1 := h.2.1.r3.2.2.2.2.2.1 x hx
  rw [nv_of rnd3_n] at h1
  exact h1
theorem RFh.r_T (h : RFh t g n) : sI (fun v => g.i 4 v 0 - (round9 g).i 4 v 0) g.nv = sI (fun b => (round9 g).i 2 b 6 - g.i 2 b 6) g.nb - (if t % 12 = 11 ∧ 0 < g.bd.length + sN n g.nb then 5 else 0) := by
  have h1 := h.2.2.2.1.2.2.2.1.1
  have hl := h.bl
  have hm := h.bdv
  rw [nb_of rnd1_n, nv_of rnd1_n] at h1
  have e1 : sI (fun b => (round9 g).i 2 b 6 - g.i 2 b 6) g.nb = sI (fun b => (rnd3 g).i 2 b 6 - (rnd1 g).i 2 b 6) g.nb := sI_congr _ (fun b _ => by rw [r_i2, rnd1_i (by omega)])
  have e2 : sI (fun v => g.i 4 v 0 - (rnd3 g).i 4 v 0) g.nv = sI (fun v => (rnd1 g).i 4 v 0 - (rnd3 g).i 4 v 0) g.nv := sI_congr _ (fun v _ => by rw [rnd1_i (by omega)])
  rw [e1, ← h1, ← e2]
  have ht := h.tok
  cases hb : (rnd3 g).bd with
  | nil =>
    rw [hb] at ht hl
    rw [if_neg (fun z => by rw [List.length_nil] at hl; omega), Int32.sub_zero]
    refine sI_congr _ (fun v _ => ?_)
    rw [ht v]
    split <;> rfl
  | cons x L =>
    rw [hb] at ht hl hm
    by_cases q : t % 12 = 11
    · rw [if_pos ⟨q, by rw [List.length_cons] at hl; omega⟩, Int32.sub_eq_add_neg]
      refine sI_upd _ (hm x List.mem_cons_self) (fun j hj => ?_) ?_
      · rw [ht j, if_pos q]
        dsimp only
        rw [if_neg hj]
      · rw [ht x.1, if_pos q]
        dsimp only
        rw [if_pos rfl]
        grind
    · rw [if_neg (fun z => q z.1), Int32.sub_zero]
      refine sI_congr _ (fun v _ => ?_)
      rw [ht v, if_neg q]
theorem RFh.r_M (h : RFh t g n) : sI (fun v => (round9 g).i 4 v 5 - g.i 4 v 5) g.nv = if t % 12 = 11 then mkS (min 3 (g.bd.length + sN n g.nb)) else 0 := by
  have e5 : ∀ v, (rnd4 g).i 4 v 5 = g.i 4 v 5 := fun v => by rw [i4_3, (h.2.2.2.1.1.2.2.2.2 v).2.1, rnd1_i (by omega)]
  have hm := h.bdv
  by_cases q : t % 12 = 11
  · rw [if_pos q, ← h.bl]
    have h1 := mark_sum (g := g) (rnd4 g).bd (rnd4 g) 0 (by rw [rnd4_bd]; exact hm) (by rw [rnd4_bd, h.bl]; omega)
    rw [sI_0 (f := fun v => (rnd4 g).i 4 v 5 - g.i 4 v 5) _ (fun v => by rw [e5, Int32.sub_self]), rnd4_bd, Nat.zero_add, Int32.zero_add, show mkS 0 = 0 from rfl, Int32.add_zero] at h1
    rw [← h1]
    refine sI_congr _ (fun v _ => ?_)
    rw [round_eq, gi_set, if_neg (by omega)]
    unfold rnd5
    rw [if_pos (h.last.mpr q)]
    unfold endHour9
    rw [clear_i (by omega), gi_setbd, rnd4_bd]
  · rw [if_neg q]
    refine sI_0 _ (fun v => ?_)
    rw [round_eq, gi_set, if_neg (by omega)]
    unfold rnd5
    rw [if_neg (fun z => q (h.last.mp z)), e5, Int32.sub_self]
theorem RFh.r_bd (h : RFh t g n) : (round9 g).bd.length = if t % 12 = 11 then 0 else min 3 (g.bd.length + sN n g.nb) := by
  rw [round_eq, gbd_set]
  unfold rnd5
  by_cases q : t % 12 = 11
  · rw [if_pos (h.last.mpr q), if_pos q]; rfl
  · rw [if_neg (fun z => q (h.last.mp z)), if_neg q, rnd4_bd, h.bl]
theorem mkbd_n {y : GS} : ((markN y 0 y.bd).setbd []).2.2.1 = y.2.2.1 := endHour_n (g := y)
theorem endq {y : GS} {b : Nat} (h : b < ((markN y 0 y.bd).setbd []).nb ∧ ¬ opn ((markN y 0 y.bd).setbd []) b) : (endHour9 y).q b = [] := if_pos h
theorem RFh.r_q (h : RFh t g n) (q : t % 12 = 11) {b : Nat} (hb : b < g.nb) (ho : ¬ opn (round9 g) b) : (round9 g).q b = [] := by
  have e : (round9 g).q b = (endHour9 (rnd4 g)).q b := by
    rw [round_eq, gq_set]
    unfold rnd5
    rw [if_pos (h.last.mpr q)]
  rw [e]
  have en : ((markN (rnd4 g) 0 (rnd4 g).bd).setbd []).2.2.1 = (rnd4 g).2.2.1 := mkbd_n
  refine endq ⟨by rw [nb_of en, nb_of rnd4_n]; exact hb, fun z => ho ?_⟩
  have ei : ∀ kd a k, ¬ (kd = 4 ∧ (k = 5 ∨ k = 0)) → ¬ (kd = 1) → ¬ (kd = 4 ∧ k = 3) → (round9 g).i kd a k = ((markN (rnd4 g) 0 (rnd4 g).bd).setbd []).i kd a k := fun kd a k h1 h2 h3 => by
    rw [round_eq, gi_set, if_neg (by omega)]
    unfold rnd5
    rw [if_pos (h.last.mpr q)]
    unfold endHour9
    rw [clear_i h3]
  have e1 : wk (round9 g) b = wk ((markN (rnd4 g) 0 (rnd4 g).bd).setbd []) b := wk_congr b (by rw [nh_of en, nh_of rnd4_n, nh_of r_n]) (fun a _ => ei _ _ _ (by omega) (by omega) (by omega))
  show (round9 g).i 2 b 3 ≤ nI (wk (round9 g) b)
  rw [e1, ei _ _ _ (by omega) (by omega) (by omega)]
  exact z
end Rf
