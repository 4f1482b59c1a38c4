/-! ===== what a round changes: sums and bounds ===== -/
def sI (f : Nat → Int32) : Nat → Int32
  | 0 => 0
  | n + 1 => sI f n + f n
def sN (f : Nat → Nat) : Nat → Nat
  | 0 => 0
  | n + 1 => sN f n + f n
theorem sI_congr {f f' : Nat → Int32} : ∀ n, (∀ a, a < n → f' a = f a) → sI f' n = sI f n
  | 0, _ => rfl
  | n + 1, h => by
    show sI f' n + f' n = sI f n + f n
    rw [sI_congr n (fun a ha => h a (by omega)), h n (by omega)]
theorem sI_upd {f f' : Nat → Int32} {a : Nat} {d : Int32} : ∀ n, a < n → (∀ j, j ≠ a → f' j = f j) → f' a = f a + d → sI f' n = sI f n + d
  | 0, h, _, _ => absurd h (Nat.not_lt_zero a)
  | n + 1, h, h1, h2 => by
    show sI f' n + f' n = sI f n + f n + d
    by_cases q : a = n
    · subst q
      rw [sI_congr a (fun j hj => h1 j (by omega)), h2, Int32.add_assoc]
    · rw [sI_upd n (by omega) h1 h2, h1 n (fun z => q z.symm), Int32.add_assoc, Int32.add_comm d, ← Int32.add_assoc]
theorem sN_congr {f f' : Nat → Nat} : ∀ n, (∀ a, a < n → f' a = f a) → sN f' n = sN f n
  | 0, _ => rfl
  | n + 1, h => by
    show sN f' n + f' n = sN f n + f n
    rw [sN_congr n (fun a ha => h a (by omega)), h n (by omega)]
theorem sN_upd {f f' : Nat → Nat} {a : Nat} {d : Nat} : ∀ n, a < n → (∀ j, j ≠ a → f' j = f j) → f' a = f a + d → sN f' n = sN f n + d
  | 0, h, _, _ => absurd h (Nat.not_lt_zero a)
  | n + 1, h, h1, h2 => by
    show sN f' n + f' n = sN f n + f n + d
    by_cases q : a = n
    · subst q
      rw [sN_congr a (fun j hj => h1 j (by omega)), h2]; omega
    · rw [sN_upd n (by omega) h1 h2, h1 n (fun z => q z.symm)]; omega
theorem prs_sI {g : GS} : ∀ n, prsN g n = sI (fun b => g.i 2 b 2) n
  | 0 => rfl
  | n + 1 => by
    show prsN g n + g.i 2 n 2 = _
    rw [prs_sI n]
    rfl
section Pl
variable {x : GS} {v b : Nat}
theorem play_i2 {a k : Nat} : (play9 x v b).i 2 a k = if a = b then (if k = 5 then x.i 2 b 5 + 1 else if k = 6 then x.i 2 b 6 + cst x b else if k = 2 ∧ (x.i 2 b 1 ≤ pts x v b ∧ 0 < x.i 2 b 2) then x.i 2 b 2 - 1 else x.i 2 b k) else x.i 2 a k := by
  unfold play9
  by_cases w : x.i 2 b 1 ≤ pts x v b ∧ 0 < x.i 2 b 2
  · simp only [if_pos w, gi_set, gi_setbd]
    by_cases q : a = b
    · subst q
      by_cases k5 : k = 5
      · simp [k5]
      · by_cases k6 : k = 6
        · simp [k6]
        · by_cases k2 : k = 2
          · simp [k2, w]
          · simp [k5, k6, k2]
    · simp [q]
  · simp only [if_neg w, gi_set, gi_setbd]
    by_cases q : a = b
    · subst q
      by_cases k5 : k = 5
      · simp [k5]
      · by_cases k6 : k = 6
        · simp [k6]
        · by_cases k2 : k = 2
          · simp [k2, w]
          · simp [k5, k6, k2]
    · simp [q]
theorem play_i4 {u k : Nat} : (play9 x v b).i 4 u k = if u = v then (if k = 0 then x.i 4 v 0 - cst x b else if k = 6 then x.i 4 v 6 + 1 else if k = 7 then max9 (x.i 4 v 7) (pts x v b) else if k = 4 ∧ (x.i 2 b 1 ≤ pts x v b ∧ 0 < x.i 2 b 2) then x.i 4 v 4 + 1 else x.i 4 v k) else x.i 4 u k := by
  unfold play9
  by_cases w : x.i 2 b 1 ≤ pts x v b ∧ 0 < x.i 2 b 2
  · simp only [if_pos w, gi_set, gi_setbd]
    by_cases q : u = v
    · subst q
      by_cases k0 : k = 0
      · simp [k0]
      · by_cases k6 : k = 6
        · simp [k6]
        · by_cases k7 : k = 7
          · simp [k7]
          · by_cases k4 : k = 4
            · simp [k4, w]
            · simp [k0, k6, k7, k4]
    · simp [q]
  · simp only [if_neg w, gi_set, gi_setbd]
    by_cases q : u = v
    · subst q
      by_cases k0 : k = 0
      · simp [k0]
      · by_cases k6 : k = 6
        · simp [k6]
        · by_cases k7 : k = 7
          · simp [k7]
          · by_cases k4 : k = 4
            · simp [k4, w]
            · simp [k0, k6, k7, k4]
    · simp [q]
theorem play_i1 {k : Nat} : (play9 x v b).i 1 0 k = if k = 10 ∧ (x.i 2 b 1 ≤ pts x v b ∧ 0 < x.i 2 b 2) then x.i 1 0 10 + 1 else x.i 1 0 k := by
  unfold play9
  by_cases w : x.i 2 b 1 ≤ pts x v b ∧ 0 < x.i 2 b 2
  · simp only [if_pos w, gi_set, gi_setbd]
    by_cases k0 : k = 10
    · simp [k0, w]
    · simp [k0]
  · simp only [if_neg w, gi_set, gi_setbd]
    simp [w]
theorem play_i3 {a k : Nat} : (play9 x v b).i 3 a k = x.i 3 a k := by
  unfold play9
  by_cases w : x.i 2 b 1 ≤ pts x v b ∧ 0 < x.i 2 b 2
  · simp only [if_pos w, gi_set, gi_setbd]
    simp
  · simp only [if_neg w, gi_set, gi_setbd]
    simp
theorem play_nn : (play9 x v b).2.2.1 = x.2.2.1 := by
  unfold play9
  by_cases w : x.i 2 b 1 ≤ pts x v b ∧ 0 < x.i 2 b 2
  · simp only [if_pos w]; rfl
  · simp only [if_neg w]; rfl
theorem play_bd : (play9 x v b).bd = bdIns x.bd (v, b, pts x v b) := by
  unfold play9
  by_cases w : x.i 2 b 1 ≤ pts x v b ∧ 0 < x.i 2 b 2
  · simp only [if_pos w]; rfl
  · simp only [if_neg w]; rfl
theorem bdIns_ln (L : List (Nat × Nat × Int32)) (y : Nat × Nat × Int32) : (bdIns L y).length = min 3 (L.length + 1) := by
  unfold bdIns
  rw [List.length_take, List.length_append, List.length_cons, ← Nat.add_assoc, ← List.length_append, List.takeWhile_append_dropWhile]
end Pl
def PgK (g x : GS) : Prop := x.2.2.1 = g.2.2.1 ∧ (∀ b, x.i 2 b 0 = g.i 2 b 0 ∧ x.i 2 b 1 = g.i 2 b 1 ∧ x.i 2 b 3 = g.i 2 b 3) ∧ (∀ j, j ≠ 10 → x.i 1 0 j = g.i 1 0 j) ∧ (∀ h k, x.i 3 h k = g.i 3 h k) ∧ ∀ v, x.i 4 v 1 = g.i 4 v 1 ∧ x.i 4 v 5 = g.i 4 v 5 ∧ (g.i 4 v 2 = 1 → x.i 4 v 2 = 1)
def PgB (g x : GS) (n : Nat → Nat) : Prop := ∀ b, b < g.nb → x.i 2 b 5 = g.i 2 b 5 + nI (n b) ∧ x.i 2 b 6 = g.i 2 b 6 + nI (n b) * cst g b ∧ x.i 2 b 2 ≤ g.i 2 b 2
def PgV (g x : GS) (N : Nat) : Prop := ∀ v, v < g.nv → g.i 4 v 7 ≤ x.i 4 v 7 ∧ (∃ k0 k, k ≤ k0 ∧ k0 < 2 ^ 31 ∧ g.i 4 v 0 = nI k0 ∧ x.i 4 v 0 = nI k) ∧ (∃ p, p ≤ N ∧ x.i 4 v 6 = g.i 4 v 6 + nI p) ∧ ∃ p, p ≤ N ∧ x.i 4 v 4 = g.i 4 v 4 + nI p
def PgS (g x : GS) : Prop := sI (fun v => g.i 4 v 0 - x.i 4 v 0) g.nv = sI (fun b => x.i 2 b 6 - g.i 2 b 6) g.nb ∧ sI (fun v => x.i 4 v 6 - g.i 4 v 6) g.nv = sI (fun b => x.i 2 b 5 - g.i 2 b 5) g.nb ∧ sI (fun v => x.i 4 v 4 - g.i 4 v 4) g.nv = x.i 1 0 10 - g.i 1 0 10 ∧ prsN x g.nb + x.i 1 0 10 = prsN g g.nb + g.i 1 0 10
def PgL (g x : GS) (N : Nat) : Prop := x.bd.length = min 3 (g.bd.length + N)
def Pg (g x : GS) (n : Nat → Nat) : Prop := PgK g x ∧ PgB g x n ∧ PgV g x (sN n g.nb) ∧ PgS g x ∧ PgL g x (sN n g.nb)
theorem sI_0 {f : Nat → Int32} : ∀ n, (∀ a, f a = 0) → sI f n = 0
  | 0, _ => rfl
  | n + 1, h => by show sI f n + f n = 0; rw [sI_0 n h, h]; rfl
theorem sN_0 : ∀ n, sN (fun _ => 0) n = 0
  | 0 => rfl
  | n + 1 => sN_0 n
theorem Pg.rf {g : GS} (htok : ∀ v, v < g.nv → ∃ k, k < 2 ^ 31 ∧ g.i 4 v 0 = nI k) (hI : Inv g) : Pg g g (fun _ => 0) := by
  have hz : sN (fun _ => 0) g.nb = 0 := sN_0 _
  unfold Pg
  rw [hz]
  refine ⟨⟨rfl, fun _ => ⟨rfl, rfl, rfl⟩, fun _ _ => rfl, fun _ _ => rfl, fun _ => ⟨rfl, rfl, id⟩⟩, fun b hb => ⟨?_, ?_, Int32.le_refl _⟩, fun v hv => ⟨Int32.le_refl _, ?_, ⟨0, by omega, ?_⟩, 0, by omega, ?_⟩, ⟨?_, ?_, ?_, rfl⟩, ?_⟩
  · exact (Int32.add_zero _).symm
  · rw [show nI 0 = 0 from rfl, Int32.zero_mul, Int32.add_zero]
  · obtain ⟨k, h1, h2⟩ := htok v hv
    exact ⟨k, k, Nat.le_refl _, h1, h2, h2⟩
  · exact (Int32.add_zero _).symm
  · exact (Int32.add_zero _).symm
  · rw [sI_0 _ (fun a => Int32.sub_self _), sI_0 _ (fun a => Int32.sub_self _)]
  · rw [sI_0 _ (fun a => Int32.sub_self _), sI_0 _ (fun a => Int32.sub_self _)]
  · rw [sI_0 _ (fun a => Int32.sub_self _), Int32.sub_self]
  · have := hI.2.2.2.2.1
    unfold PgL
    omega
theorem Pg.same {g x x' : GS} {n : Nat → Nat} (h : Pg g x n) (hn : x'.2.2.1 = x.2.2.1) (hi : ∀ kd a k, ¬ (kd = 4 ∧ (k = 2 ∨ k = 3)) → x'.i kd a k = x.i kd a k) (h2 : ∀ v, x.i 4 v 2 = 1 → x'.i 4 v 2 = 1) (hb : x'.bd = x.bd) : Pg g x' n := by
  have e1 : ∀ k, x'.i 1 0 k = x.i 1 0 k := fun k => hi _ _ _ (by omega)
  have e2 : ∀ a k, x'.i 2 a k = x.i 2 a k := fun a k => hi _ _ _ (by omega)
  have e3 : ∀ a k, x'.i 3 a k = x.i 3 a k := fun a k => hi _ _ _ (by omega)
  have e40 : ∀ a, x'.i 4 a 0 = x.i 4 a 0 := fun a => hi _ _ _ (by omega)
  have e41 : ∀ a, x'.i 4 a 1 = x.i 4 a 1 := fun a => hi _ _ _ (by omega)
  have e44 : ∀ a, x'.i 4 a 4 = x.i 4 a 4 := fun a => hi _ _ _ (by omega)
  have e45 : ∀ a, x'.i 4 a 5 = x.i 4 a 5 := fun a => hi _ _ _ (by omega)
  have e46 : ∀ a, x'.i 4 a 6 = x.i 4 a 6 := fun a => hi _ _ _ (by omega)
  have e47 : ∀ a, x'.i 4 a 7 = x.i 4 a 7 := fun a => hi _ _ _ (by omega)
  obtain ⟨⟨k1, k2, k3, k4, k5⟩, hB, hV, hS, hL⟩ := h
  refine ⟨⟨hn.trans k1, ?_, ?_, ?_, fun v => ?_⟩, ?_, ?_, ?_, ?_⟩
  · simp only [e2]; exact k2
  · simp only [e1]; exact k3
  · simp only [e3]; exact k4
  · rw [e41, e45]
    exact ⟨(k5 v).1, (k5 v).2.1, fun q => h2 v ((k5 v).2.2 q)⟩
  · unfold PgB at hB ⊢
    simp only [e2]; exact hB
  · unfold PgV at hV ⊢
    simp only [e40, e44, e46, e47]; exact hV
  · unfold PgS at hS ⊢
    simp only [prs_sI, e1, e2, e40, e44, e46] at hS ⊢; exact hS
  · unfold PgL at hL ⊢
    rw [hb]; exact hL
theorem nI_lee {a b : Nat} (h : a ≤ b) (hb : b < 2 ^ 31) : nI a ≤ nI b := by
  rw [Int32.le_iff_toInt_le, nI_toInt (by omega), nI_toInt (by omega)]; omega
theorem nI_ofle {a b : Nat} (ha : a < 2 ^ 31) (hb : b < 2 ^ 31) (h : nI a ≤ nI b) : a ≤ b := by
  rw [Int32.le_iff_toInt_le, nI_toInt ha, nI_toInt hb] at h; omega
theorem le_max9 (x y : Int32) : x ≤ max9 x y := by
  unfold max9
  split
  · exact Int32.le_of_lt (by assumption)
  · exact Int32.le_refl _
theorem i_sa (a b c : Int32) : a - (b - c) = (a - b) + c := by grind
theorem i_as (a b c : Int32) : (a + c) - b = (a - b) + c := by grind
theorem Pg.play {g x : GS} {n : Nat → Nat} {v b c : Nat} (h : Pg g x n) (hv : v < g.nv) (hb : b < g.nb) (hp : 0 ≤ x.i 2 b 2 ∧ x.i 2 b 2 ≤ 99) (hc : cst g b = nI c) (hc' : cst x b = cst g b) (hc9 : c ≤ 9) (htok : cst x b ≤ x.i 4 v 0) : Pg g (play9 x v b) (fun a => if a = b then n b + 1 else n a) := by
  obtain ⟨⟨k1, k2, k3, k4, k5⟩, hB, hV, ⟨s1, s2, s3, s4⟩, hL⟩ := h
  have hs : sN (fun a => if a = b then n b + 1 else n a) g.nb = sN n g.nb + 1 := sN_upd _ hb (fun j hj => if_neg hj) (if_pos rfl)
  have hpk : 0 < x.i 2 b 2 → ∃ k, k + 1 ≤ 99 ∧ x.i 2 b 2 = nI (k + 1) := fun h0 => by
    obtain ⟨k, hk, e⟩ := nI_of2 (n := 99) (by decide) (i_nlt.mpr hp.1) hp.2
    rw [e] at h0
    rcases k with _ | k
    · exact absurd h0 (by decide)
    · exact ⟨k, hk, e⟩
  unfold Pg
  rw [hs]
  refine ⟨⟨play_nn.trans k1, fun a => ?_, fun j hj => ?_, fun a k => ?_, fun u => ?_⟩, fun a ha => ?_, fun u hu => ?_, ⟨?_, ?_, ?_, ?_⟩, ?_⟩
  · simp only [play_i2]
    by_cases q : a = b
    · subst q
      simp
      exact k2 a
    · simp [q]
      exact k2 a
  · rw [play_i1, if_neg (fun z => hj z.1)]; exact k3 j hj
  · rw [play_i3]; exact k4 a k
  · simp only [play_i4]
    by_cases q : u = v
    · subst q
      simp
      exact k5 u
    · simp [q]
      exact k5 u
  · obtain ⟨b1, b2, b3⟩ := hB a ha
    by_cases q : a = b
    · subst q
      dsimp only
      rw [if_pos rfl]
      refine ⟨?_, ?_, ?_⟩
      · rw [play_i2, if_pos rfl, if_pos rfl, b1, ← nI_1, Int32.add_assoc]
      · rw [play_i2, if_pos rfl, if_neg (by decide), if_pos rfl, b2, hc', ← nI_1]
        grind
      · rw [play_i2, if_pos rfl, if_neg (by decide), if_neg (by decide)]
        by_cases w : x.i 2 a 1 ≤ pts x v a ∧ 0 < x.i 2 a 2
        · rw [if_pos ⟨rfl, w⟩]
          obtain ⟨k, hk, e⟩ := hpk w.2
          refine Int32.le_trans ?_ b3
          rw [e, show (1 : Int32) = nI 1 from rfl, nI_sub (by omega)]
          exact nI_lee (by omega) (by omega)
        · rw [if_neg (fun z => w z.2)]
          exact b3
    · dsimp only
      rw [if_neg q]
      refine ⟨?_, ?_, ?_⟩
      · rw [play_i2, if_neg q]; exact b1
      · rw [play_i2, if_neg q]; exact b2
      · rw [play_i2, if_neg q]; exact b3
  · obtain ⟨v1, ⟨k0, k, w1, w2, w3, w4⟩, ⟨p, p1, p2⟩, z, z1, z2⟩ := hV u hu
    by_cases q : u = v
    · subst q
      refine ⟨?_, ?_, ?_, ?_⟩
      · rw [play_i4, if_pos rfl, if_neg (by decide), if_neg (by decide), if_pos rfl]
        exact Int32.le_trans v1 (le_max9 _ _)
      · rw [hc', hc, w4] at htok
        have hck := nI_ofle (by omega) (by omega) htok
        exact ⟨k0, k - c, by omega, w2, w3, by rw [play_i4, if_pos rfl, if_pos rfl, hc', hc, w4, nI_sub hck]⟩
      · exact ⟨p + 1, by omega, by rw [play_i4, if_pos rfl, if_neg (by decide), if_pos rfl, p2, ← nI_1, Int32.add_assoc]⟩
      · by_cases w : x.i 2 b 1 ≤ pts x u b ∧ 0 < x.i 2 b 2
        · exact ⟨z + 1, by omega, by rw [play_i4, if_pos rfl, if_neg (by decide), if_neg (by decide), if_neg (by decide), if_pos ⟨rfl, w⟩, z2, ← nI_1, Int32.add_assoc]⟩
        · exact ⟨z, by omega, by rw [play_i4, if_pos rfl, if_neg (by decide), if_neg (by decide), if_neg (by decide), if_neg (fun y => w y.2), z2]⟩
    · refine ⟨by rw [play_i4, if_neg q]; exact v1, ⟨k0, k, w1, w2, w3, by rw [play_i4, if_neg q]; exact w4⟩, ⟨p, by omega, by rw [play_i4, if_neg q]; exact p2⟩, z, by omega, by rw [play_i4, if_neg q]; exact z2⟩
  · have l := sI_upd (f := fun v => g.i 4 v 0 - x.i 4 v 0) (f' := fun u => g.i 4 u 0 - (play9 x v b).i 4 u 0) (a := v) (d := cst x b) g.nv hv (fun j hj => by simp only [play_i4, if_neg hj]) (by simp only [play_i4, if_true, i_sa])
    have r := sI_upd (f := fun b => x.i 2 b 6 - g.i 2 b 6) (f' := fun a => (play9 x v b).i 2 a 6 - g.i 2 a 6) (a := b) (d := cst x b) g.nb hb (fun j hj => by simp only [play_i2, if_neg hj]) (by rw [play_i2, if_pos rfl, if_neg (by decide), if_pos rfl, i_as])
    rw [l, r, s1]
  · have l := sI_upd (f := fun v => x.i 4 v 6 - g.i 4 v 6) (f' := fun u => (play9 x v b).i 4 u 6 - g.i 4 u 6) (a := v) (d := 1) g.nv hv (fun j hj => by simp only [play_i4, if_neg hj]) (by rw [play_i4, if_pos rfl, if_neg (by decide), if_pos rfl, i_as])
    have r := sI_upd (f := fun b => x.i 2 b 5 - g.i 2 b 5) (f' := fun a => (play9 x v b).i 2 a 5 - g.i 2 a 5) (a := b) (d := 1) g.nb hb (fun j hj => by simp only [play_i2, if_neg hj]) (by rw [play_i2, if_pos rfl, if_pos rfl, i_as])
    rw [l, r, s2]
  · by_cases w : x.i 2 b 1 ≤ pts x v b ∧ 0 < x.i 2 b 2
    · have l := sI_upd (f := fun v => x.i 4 v 4 - g.i 4 v 4) (f' := fun u => (play9 x v b).i 4 u 4 - g.i 4 u 4) (a := v) (d := 1) g.nv hv (fun j hj => by simp only [play_i4, if_neg hj]) (by rw [play_i4, if_pos rfl, if_neg (by decide), if_neg (by decide), if_neg (by decide), if_pos ⟨rfl, w⟩, i_as])
      rw [l, s3, play_i1, if_pos ⟨rfl, w⟩, i_as]
    · rw [play_i1, if_neg (fun z => w z.2), ← s3]
      refine sI_congr _ (fun u _ => ?_)
      rw [play_i4]
      by_cases q : u = v
      · subst q
        rw [if_pos rfl, if_neg (by decide), if_neg (by decide), if_neg (by decide), if_neg (fun z => w z.2)]
      · rw [if_neg q]
  · rw [prs_sI, prs_sI] at s4 ⊢
    by_cases w : x.i 2 b 1 ≤ pts x v b ∧ 0 < x.i 2 b 2
    · have l := sI_upd (f := fun b => x.i 2 b 2) (f' := fun a => (play9 x v b).i 2 a 2) (a := b) (d := -1) g.nb hb (fun j hj => by simp only [play_i2, if_neg hj]) (by rw [play_i2, if_pos rfl, if_neg (by decide), if_neg (by decide), if_pos ⟨rfl, w⟩, Int32.sub_eq_add_neg])
      rw [l, play_i1, if_pos ⟨rfl, w⟩, ← s4]
      grind
    · rw [play_i1, if_neg (fun z => w z.2), ← s4]
      refine congrArg (· + _) (sI_congr _ (fun a _ => ?_))
      rw [play_i2]
      by_cases q : a = b
      · subst q
        rw [if_pos rfl, if_neg (by decide), if_neg (by decide), if_neg (fun z => w z.2)]
      · rw [if_neg q]
  · unfold PgL at hL ⊢
    rw [play_bd, bdIns_ln, hL]
    omega
theorem Pg.cst {g x : GS} {n : Nat → Nat} (h : Pg g x n) (b : Nat) : cst x b = cst g b := cst_congr b (h.1.2.2.1 9 (by decide)) (h.1.2.1 b).1
theorem Pg.wk {g x : GS} {n : Nat → Nat} (h : Pg g x n) (b : Nat) : wk x b = wk g b := wk_congr b (nh_of h.1.1) (fun a _ => h.1.2.2.2.1 a 1)
theorem Pg.opn {g x : GS} {n : Nat → Nat} (h : Pg g x n) (b : Nat) : opn x b ↔ opn g b := by
  show x.i 2 b 3 ≤ nI (Jvm.Pilot.CFeteBoardLaw_law_r1289_786a2d.wk x b) ↔ _
  rw [h.wk b, (h.1.2.1 b).2.2]
theorem Pg.serve1 {g x : GS} {n : Nat → Nat} {b c : Nat} (h : Pg g x n) (hI : Inv x) (hb : b < g.nb) (hc : Jvm.Pilot.CFeteBoardLaw_law_r1289_786a2d.cst g b = nI c) (hc9 : c ≤ 9) : ∃ n', Pg g (serve1 x b) n' ∧ (∀ a, a ≠ b → n' a = n a) ∧ n' b ≤ n b + 1 := by
  unfold Jvm.Pilot.CFeteBoardLaw_law_r1289_786a2d.serve1
  have hbx : b < x.nb := by rw [nb_of h.1.1]; exact hb
  cases hq : x.q b with
  | nil => exact ⟨n, h, fun _ _ => rfl, by omega⟩
  | cons v Q =>
    have hm : v ∈ x.q b := by rw [hq]; exact List.mem_cons_self
    have hv : v < g.nv := by rw [← nv_of h.1.1]; exact ((hI.qm hbx).mp hm).1
    have h1 : Pg g (leaveQ x v) n := h.same rfl (fun kd a k hno => gi_set.trans (if_neg (by omega))) (fun u hu => (gi_set.trans (if_neg (by omega))).trans hu) rfl
    dsimp only
    split
    · refine ⟨_, h1.play hv hb ?_ hc (h1.cst b) hc9 (by assumption), fun a ha => if_neg ha, by rw [if_pos rfl]; omega⟩
      have e : (leaveQ x v).i 2 b 2 = x.i 2 b 2 := (show (x.set 4 v 3 (-1)).i 2 b 2 = x.i 2 b 2 from gi_set.trans (if_neg (by omega)))
      rw [e]
      exact hI.bpz hbx
    · exact ⟨n, h1, fun _ _ => rfl, by omega⟩
theorem Inv.serve1 {x : GS} {b : Nat} (h : Inv x) (hb : b < x.nb) : Inv (serve1 x b) := Inv.serveN 1 x h hb
theorem Pg.serveN {g : GS} {b c : Nat} (hb : b < g.nb) (hc : Jvm.Pilot.CFeteBoardLaw_law_r1289_786a2d.cst g b = nI c) (hc9 : c ≤ 9) : ∀ (k : Nat) (x : GS) (n : Nat → Nat), Pg g x n → Inv x → ∃ n', Pg g (serveN x b k) n' ∧ (∀ a, a ≠ b → n' a = n a) ∧ n' b ≤ n b + k
  | 0, x, n, h, hI => ⟨n, h, fun _ _ => rfl, by omega⟩
  | k + 1, x, n, h, hI => by
    obtain ⟨n1, h1, a1, b1⟩ := h.serve1 hI hb hc hc9
    obtain ⟨n2, h2, a2, b2⟩ := Pg.serveN hb hc hc9 k _ n1 h1 (hI.serve1 (by rw [nb_of h.1.1]; exact hb))
    exact ⟨n2, h2, fun a ha => (a2 a ha).trans (a1 a ha), by omega⟩
theorem Pg.servesM {g x : GS} (h : Pg g x (fun _ => 0)) (hI : Inv x) (hc : ∀ b, b < g.nb → ∃ c, c ≤ 9 ∧ Jvm.Pilot.CFeteBoardLaw_law_r1289_786a2d.cst g b = nI c) : ∀ m, m ≤ g.nb → ∃ n, Pg g (servesN x m) n ∧ (∀ a, n a ≤ Jvm.Pilot.CFeteBoardLaw_law_r1289_786a2d.wk g a) ∧ (∀ a, ¬ Jvm.Pilot.CFeteBoardLaw_law_r1289_786a2d.opn g a → n a = 0) ∧ ∀ a, m ≤ a → n a = 0
  | 0, _ => ⟨_, h, fun _ => Nat.zero_le _, fun _ _ => rfl, fun _ _ => rfl⟩
  | m + 1, hm => by
    obtain ⟨n, h1, h2, h3, h4⟩ := Pg.servesM h hI hc m (by omega)
    have hIm := hI.servesN m (by rw [nb_of h.1.1]; omega)
    obtain ⟨c, hc9, hcm⟩ := hc m (by omega)
    show ∃ n, Pg g (serve9 (servesN x m) m) n ∧ _
    unfold serve9
    split
    · rename_i ho
      obtain ⟨n2, g2, a2, b2⟩ := Pg.serveN (by omega) hcm hc9 (Jvm.Pilot.CFeteBoardLaw_law_r1289_786a2d.wk (servesN x m) m) _ n h1 hIm
      rw [h1.wk m] at b2
      have hn0 := h4 m (Nat.le_refl _)
      refine ⟨n2, g2, fun a => ?_, fun a ha => ?_, fun a ha => ?_⟩
      · by_cases q : a = m
        · subst q; omega
        · rw [a2 a q]; exact h2 a
      · by_cases q : a = m
        · subst q; exact absurd ((h1.opn a).mp ho) ha
        · rw [a2 a q]; exact h3 a ha
      · rw [a2 a (by omega)]; exact h4 a (by omega)
    · exact ⟨n, h1, h2, h3, fun a ha => h4 a (by omega)⟩
theorem choose_h {x : GS} {v u : Nat} (h : x.i 4 u 2 = 1) : (choose9 x v).i 4 u 2 = 1 := by
  unfold choose9
  split
  · exact (gi_set.trans (if_neg (by omega))).trans h
  · split
    · rw [gi_set]
      split
      · rfl
      · exact h
    · exact h
theorem chooseN_h {x : GS} {u : Nat} (h : x.i 4 u 2 = 1) : ∀ n, (chooseN x n).i 4 u 2 = 1
  | 0 => h
  | n + 1 => by
    show (if strl (chooseN x n) n then choose9 (chooseN x n) n else chooseN x n).i 4 u 2 = 1
    split
    · exact choose_h (chooseN_h h n)
    · exact chooseN_h h n
theorem choose_bd {x : GS} {v : Nat} : (choose9 x v).bd = x.bd := by
  unfold choose9
  split
  · rfl
  · split <;> rfl
theorem chooseN_bd {x : GS} : ∀ n, (chooseN x n).bd = x.bd
  | 0 => rfl
  | n + 1 => by
    show (if strl (chooseN x n) n then choose9 (chooseN x n) n else chooseN x n).bd = x.bd
    split
    · exact choose_bd.trans (chooseN_bd n)
    · exact chooseN_bd n
theorem Pg.choose {g : GS} (h : Pg g g (fun _ => 0)) (k : Nat) : Pg g (chooseN g k) (fun _ => 0) := h.same (chooseN_n k) (fun kd a j hno => chooseN_i hno k) (fun v hv => chooseN_h hv k) (chooseN_bd k)
section Ti
variable {x : GS}
/-- a helper's three numbers after a round's work or rest -/
def trow (e at9 aw : Int32) : Nat → Int32
  | 0 => if at9 = -1 then min9 (e + 2) 24 else if 0 < e - 1 then e - 1 else min9 (e - 1 + 2) 24
  | 1 => if at9 = -1 then at9 else if 0 < e - 1 then at9 else -1
  | _ => if at9 = -1 then aw else aw + 1
theorem tire_row {h k : Nat} (hk : k < 3) : (tire9 x h).i 3 h k = trow (x.i 3 h 0) (x.i 3 h 1) (x.i 3 h 2) k := by
  unfold tire9
  by_cases q : x.i 3 h 1 = -1
  · rw [if_pos q]
    unfold rest9
    match k, hk with
    | 0, _ => simp [gi_set, trow, q]
    | 1, _ => simp [gi_set, trow, q]
    | 2, _ => simp [gi_set, trow, q]
  · rw [if_neg q]
    dsimp only
    have e0 : ((x.set 3 h 2 (x.i 3 h 2 + 1)).set 3 h 0 (x.i 3 h 0 - 1)).i 3 h 0 = x.i 3 h 0 - 1 := by simp [gi_set]
    rw [e0]
    by_cases p : 0 < x.i 3 h 0 - 1
    · rw [if_pos p]
      match k, hk with
      | 0, _ => simp [gi_set, trow, q, p]
      | 1, _ => simp [gi_set, trow, q, p]
      | 2, _ => simp [gi_set, trow, q, p]
    · rw [if_neg p]
      unfold rest9
      match k, hk with
      | 0, _ => simp [gi_set, trow, q, p]
      | 1, _ => simp [gi_set, trow, q, p]
      | 2, _ => simp [gi_set, trow, q, p]
theorem tires_keep {h k : Nat} : ∀ n, n ≤ h → (tiresN x n).i 3 h k = x.i 3 h k
  | 0, _ => rfl
  | n + 1, hn => by
    show (tire9 (tiresN x n) n).i 3 h k = _
    rw [tire_i (by omega)]
    exact tires_keep n (by omega)
theorem tires_row {h k : Nat} (hk : k < 3) : ∀ n, h < n → (tiresN x n).i 3 h k = trow (x.i 3 h 0) (x.i 3 h 1) (x.i 3 h 2) k
  | 0, hn => absurd hn (Nat.not_lt_zero h)
  | n + 1, hn => by
    show (tire9 (tiresN x n) n).i 3 h k = _
    by_cases q : h = n
    · subst q
      rw [tire_row hk, tires_keep h (Nat.le_refl _), tires_keep h (Nat.le_refl _), tires_keep h (Nat.le_refl _)]
    · rw [tire_i (by omega)]
      exact tires_row hk n (by omega)
end Ti
section Mk
def mkS : Nat → Int32
  | 0 => 0
  | 1 => 3
  | 2 => 5
  | _ => 6
theorem mkS_s : ∀ k, k < 3 → mkS (k + 1) = mkS k + (3 - nI k)
  | 0, _ => rfl
  | 1, _ => rfl
  | 2, _ => rfl
theorem mark_sum {g : GS} : ∀ (L : List (Nat × Nat × Int32)) (y : GS) (k : Nat), (∀ x, x ∈ L → x.1 < g.nv) → L.length + k ≤ 3 → sI (fun v => (markN y k L).i 4 v 5 - g.i 4 v 5) g.nv + mkS k = sI (fun v => y.i 4 v 5 - g.i 4 v 5) g.nv + mkS (k + L.length)
  | [], y, k, _, _ => rfl
  | x :: L, y, k, hm, hk => by
    have hl : (x :: L).length = L.length + 1 := rfl
    rw [hl] at hk ⊢
    show sI (fun v => (markN ((y.set 4 x.1 5 (y.i 4 x.1 5 + (3 - nI k))).set 4 x.1 0 (if k = 0 then y.i 4 x.1 0 + 5 else y.i 4 x.1 0)) (k + 1) L).i 4 v 5 - g.i 4 v 5) g.nv + mkS k = _
    have h1 := mark_sum L ((y.set 4 x.1 5 (y.i 4 x.1 5 + (3 - nI k))).set 4 x.1 0 (if k = 0 then y.i 4 x.1 0 + 5 else y.i 4 x.1 0)) (k + 1) (fun z hz => hm z (List.mem_cons_of_mem _ hz)) (by omega)
    have h2 := sI_upd (f := fun v => y.i 4 v 5 - g.i 4 v 5) (f' := fun v => ((y.set 4 x.1 5 (y.i 4 x.1 5 + (3 - nI k))).set 4 x.1 0 (if k = 0 then y.i 4 x.1 0 + 5 else y.i 4 x.1 0)).i 4 v 5 - g.i 4 v 5) (a := x.1) (d := 3 - nI k) g.nv (hm x List.mem_cons_self) (fun j hj => by simp [gi_set, hj]) (by simp [gi_set]; grind)
    rw [h2] at h1
    rw [show k + (L.length + 1) = k + 1 + L.length by omega]
    rw [mkS_s k (by omega)] at h1
    grind
theorem mark_tok1 {v : Nat} : ∀ (L : List (Nat × Nat × Int32)) (y : GS) (k : Nat), 0 < k → (markN y k L).i 4 v 0 = y.i 4 v 0
  | [], _, _, _ => rfl
  | x :: L, y, k, hk => by
    show (markN ((y.set 4 x.1 5 (y.i 4 x.1 5 + (3 - nI k))).set 4 x.1 0 (if k = 0 then y.i 4 x.1 0 + 5 else y.i 4 x.1 0)) (k + 1) L).i 4 v 0 = _
    rw [mark_tok1 L _ (k + 1) (by omega), if_neg (by omega), gi_set]
    split
    · rename_i h
      rw [h.2.1]
    · rw [gi_set, if_neg (by omega)]
theorem mark_tok {v : Nat} (L : List (Nat × Nat × Int32)) (y : GS) : (markN y 0 L).i 4 v 0 = match L with
    | [] => y.i 4 v 0
    | x :: _ => if v = x.1 then y.i 4 v 0 + 5 else y.i 4 v 0 := by
  cases L with
  | nil => rfl
  | cons x L =>
    show (markN ((y.set 4 x.1 5 (y.i 4 x.1 5 + (3 - nI 0))).set 4 x.1 0 (if 0 = 0 then y.i 4 x.1 0 + 5 else y.i 4 x.1 0)) (0 + 1) L).i 4 v 0 = _
    rw [mark_tok1 L _ 1 (by omega), if_pos rfl, gi_set]
    by_cases q : v = x.1
    · subst q
      simp
    · simp [q, gi_set]
end Mk
