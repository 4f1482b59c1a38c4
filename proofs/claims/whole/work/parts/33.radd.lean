/-! ===== the reference: what is added ===== -/
section RAdd
variable {E : EX} {N N' : Mem} {g : GS} {w : Int32}
theorem SimR.addB (h : SimR N g w) (hb : g.nb < 8) {c go p n : Int32} (hM : ∀ j : Pid, j ≠ (14, 0, 0) → j ≠ (15, 0, 0) → N' j = N j) (h1 : N' (14, 0, 0) 1 = nI (g.nb + 1)) (h2 : N' (14, 0, 0) 2 = N (14, 0, 0) 2) (h3 : N' (14, 0, 0) 3 = N (14, 0, 0) 3) (ho : ∀ k, k < 6 * g.nb → N' (15, 0, 0) k = N (15, 0, 0) k) (hn0 : N' (15, 0, 0) (6 * g.nb + 0) = c) (hn1 : N' (15, 0, 0) (6 * g.nb + 1) = go) (hn2 : N' (15, 0, 0) (6 * g.nb + 2) = p) (hn3 : N' (15, 0, 0) (6 * g.nb + 3) = n) (hn4 : N' (15, 0, 0) (6 * g.nb + 4) = 0) (hn5 : N' (15, 0, 0) (6 * g.nb + 5) = 0) : SimR N' (addB g c go p n) w := by
  obtain ⟨g1, hg1⟩ : ∃ g1, g1 = Jvm.Pilot.CFeteBoardLaw_law_r8679_226777.addB g c go p n := ⟨_, rfl⟩
  have gi : ∀ kd a k, ¬ (kd = 2 ∧ a = g.nb) → g1.i kd a k = g.i kd a k := fun kd a k hno => by
    rw [hg1]
    show (if kd = 2 ∧ a = g.nb then (if k = 0 then c else if k = 1 then go else if k = 2 then p else if k = 3 then n else 0) else g.1 kd a k) = _
    rw [if_neg hno]
    rfl
  have gn : ∀ k, g1.i 2 g.nb k = (if k = 0 then c else if k = 1 then go else if k = 2 then p else if k = 3 then n else 0) := fun k => by
    rw [hg1]
    show (if 2 = 2 ∧ g.nb = g.nb then (if k = 0 then c else if k = 1 then go else if k = 2 then p else if k = 3 then n else 0) else g.1 2 g.nb k) = _
    rw [if_pos ⟨rfl, rfl⟩]
  have hnb : g1.nb = g.nb + 1 := by rw [hg1]; rfl
  have hnh : g1.nh = g.nh := by rw [hg1]; rfl
  have hnv : g1.nv = g.nv := by rw [hg1]; rfl
  have hbd : g1.bd = g.bd := by rw [hg1]; rfl
  have hq : ∀ b, g1.q b = if b = g.nb then [] else g.q b := fun b => by rw [hg1]; rfl
  have hst : ∀ v, stt g1 v = stt g v := fun v => by unfold stt; rw [gi _ _ _ (by omega), gi _ _ _ (by omega)]
  rw [← hg1]
  refine ⟨⟨by rw [h1, hnb], by rw [h2, hnh]; exact h.nh, by rw [h3, hnv]; exact h.nv⟩, fun b hb1 => ?_, fun a ha k hk => ?_, fun v hv => ?_, fun v hv b hb1 => ?_, fun b hb1 i u hu => ?_, fun l x hx => ?_, ?_⟩
  · rw [hnb] at hb1
    by_cases q : b = g.nb
    · subst q
      refine ⟨fun k hk => ?_, by rw [hn4, gn]; rfl, by rw [hn5, gn]; rfl⟩
      rw [gn]
      match k, hk with
      | 0, _ => exact hn0
      | 1, _ => exact hn1
      | 2, _ => exact hn2
      | 3, _ => exact hn3
      | k + 4, hk => omega
    · have hlt : b < g.nb := by omega
      refine ⟨fun k hk => ?_, ?_, ?_⟩
      · rw [ho _ (by omega), gi _ _ _ (by omega)]; exact h.bo hlt hk
      · rw [ho _ (by omega), gi _ _ _ (by omega)]; exact h.b4 hlt
      · rw [ho _ (by omega), gi _ _ _ (by omega)]; exact h.b5 hlt
  · rw [hM _ (by simp) (by simp), gi _ _ _ (by omega)]; exact h.he (by rw [hnh] at ha; exact ha) hk
  · rw [hnv] at hv
    rw [hM _ (by simp) (by simp), gi _ _ _ (by omega), gi _ _ _ (by omega), hst, gi _ _ _ (by omega), gi _ _ _ (by omega), gi _ _ _ (by omega), gi _ _ _ (by omega), gi _ _ _ (by omega)]
    exact h.2.2.2.1 v hv
  · rw [hM _ (by simp) (by simp), hnv, gi _ _ _ (by omega)]; exact h.2.2.2.2.1 v hv b hb1
  · rw [hnb] at hb1
    rw [hq] at hu
    by_cases q : b = g.nb
    · rw [if_pos q] at hu; cases hu
    · rw [if_neg q] at hu
      rw [hM _ (by simp) (by simp)]
      exact h.pl (by omega) hu
  · rw [hbd] at hx
    rw [hM _ (by simp) (by simp)]
    exact h.bde hx
  · rw [hM _ (by simp) (by simp), gi _ _ _ (by omega), gi _ _ _ (by omega), gi _ _ _ (by omega), gi _ _ _ (by omega), hbd]
    exact h.2.2.2.2.2.2.2
theorem SimR.addH (h : SimR N g w) (hM : ∀ j : Pid, j ≠ (14, 0, 0) → j ≠ (16, 0, 0) → N' j = N j) (h1 : N' (14, 0, 0) 1 = N (14, 0, 0) 1) (h2 : N' (14, 0, 0) 2 = nI (g.nh + 1)) (h3 : N' (14, 0, 0) 3 = N (14, 0, 0) 3) (ho : ∀ k, k < 3 * g.nh → N' (16, 0, 0) k = N (16, 0, 0) k) (hn0 : N' (16, 0, 0) (3 * g.nh + 0) = 24) (hn1 : N' (16, 0, 0) (3 * g.nh + 1) = -1) (hn2 : N' (16, 0, 0) (3 * g.nh + 2) = 0) : SimR N' (addH g) w := by
  obtain ⟨g1, hg1⟩ : ∃ g1, g1 = Jvm.Pilot.CFeteBoardLaw_law_r8679_226777.addH g := ⟨_, rfl⟩
  have gi : ∀ kd a k, ¬ (kd = 3 ∧ a = g.nh) → g1.i kd a k = g.i kd a k := fun kd a k hno => by
    rw [hg1]
    show (if kd = 3 ∧ a = g.nh then (if k = 0 then 24 else if k = 1 then -1 else 0) else g.1 kd a k) = _
    rw [if_neg hno]
    rfl
  have gn : ∀ k, g1.i 3 g.nh k = (if k = 0 then 24 else if k = 1 then -1 else 0) := fun k => by
    rw [hg1]
    show (if 3 = 3 ∧ g.nh = g.nh then (if k = 0 then 24 else if k = 1 then -1 else 0) else g.1 3 g.nh k) = _
    rw [if_pos ⟨rfl, rfl⟩]
  have hnb : g1.nb = g.nb := by rw [hg1]; rfl
  have hnh : g1.nh = g.nh + 1 := by rw [hg1]; rfl
  have hnv : g1.nv = g.nv := by rw [hg1]; rfl
  have hbd : g1.bd = g.bd := by rw [hg1]; rfl
  have hq : ∀ b, g1.q b = g.q b := fun b => by rw [hg1]; rfl
  have hst : ∀ v, stt g1 v = stt g v := fun v => by unfold stt; rw [gi _ _ _ (by omega), gi _ _ _ (by omega)]
  rw [← hg1]
  refine ⟨⟨by rw [h1, hnb]; exact h.nb, by rw [h2, hnh], by rw [h3, hnv]; exact h.nv⟩, fun b hb1 => ?_, fun a ha k hk => ?_, fun v hv => ?_, fun v hv b hb1 => ?_, fun b hb1 i u hu => ?_, fun l x hx => ?_, ?_⟩
  · rw [hnb] at hb1
    refine ⟨fun k hk => ?_, ?_, ?_⟩
    · rw [hM _ (by simp) (by simp), gi _ _ _ (by omega)]; exact h.bo hb1 hk
    · rw [hM _ (by simp) (by simp), gi _ _ _ (by omega)]; exact h.b4 hb1
    · rw [hM _ (by simp) (by simp), gi _ _ _ (by omega)]; exact h.b5 hb1
  · rw [hnh] at ha
    by_cases q : a = g.nh
    · subst q
      rw [gn]
      match k, hk with
      | 0, _ => exact hn0
      | 1, _ => exact hn1
      | 2, _ => exact hn2
      | k + 3, hk => omega
    · rw [ho _ (by omega), gi _ _ _ (by omega)]; exact h.he (by omega) hk
  · rw [hnv] at hv
    rw [hM _ (by simp) (by simp), gi _ _ _ (by omega), gi _ _ _ (by omega), hst, gi _ _ _ (by omega), gi _ _ _ (by omega), gi _ _ _ (by omega), gi _ _ _ (by omega), gi _ _ _ (by omega)]
    exact h.2.2.2.1 v hv
  · rw [hM _ (by simp) (by simp), hnv, gi _ _ _ (by omega)]; exact h.2.2.2.2.1 v hv b hb1
  · rw [hnb] at hb1
    rw [hq] at hu
    rw [hM _ (by simp) (by simp)]
    exact h.pl hb1 hu
  · rw [hbd] at hx
    rw [hM _ (by simp) (by simp)]
    exact h.bde hx
  · rw [hM _ (by simp) (by simp), gi _ _ _ (by omega), gi _ _ _ (by omega), gi _ _ _ (by omega), gi _ _ _ (by omega), hbd]
    exact h.2.2.2.2.2.2.2
theorem SimR.addV (h : SimR N g w) (hqv : ∀ b, b < g.nb → ∀ u, u ∈ g.q b → u < g.nv) {t s : Int32} (hM : ∀ j : Pid, j ≠ (14, 0, 0) → j ≠ (17, 0, 0) → N' j = N j) (h1 : N' (14, 0, 0) 1 = N (14, 0, 0) 1) (h2 : N' (14, 0, 0) 2 = N (14, 0, 0) 2) (h3 : N' (14, 0, 0) 3 = nI (g.nv + 1)) (ho : ∀ k, k < 9 * g.nv → N' (17, 0, 0) k = N (17, 0, 0) k) (hn0 : N' (17, 0, 0) (9 * g.nv + 0) = t) (hn1 : N' (17, 0, 0) (9 * g.nv + 1) = s) (hn2 : N' (17, 0, 0) (9 * g.nv + 2) = 0) (hn3 : N' (17, 0, 0) (9 * g.nv + 3) = -1) (hn5 : N' (17, 0, 0) (9 * g.nv + 5) = 0) (hn6 : N' (17, 0, 0) (9 * g.nv + 6) = 0) (hn7 : N' (17, 0, 0) (9 * g.nv + 7) = 0) (hn8 : N' (17, 0, 0) (9 * g.nv + 8) = 0) : SimR N' (addV g t s) w := by
  obtain ⟨g1, hg1⟩ : ∃ g1, g1 = Jvm.Pilot.CFeteBoardLaw_law_r8679_226777.addV g t s := ⟨_, rfl⟩
  have gi : ∀ kd a k, ¬ ((kd = 4 ∨ kd = 10) ∧ a = g.nv) → g1.i kd a k = g.i kd a k := fun kd a k hno => by
    rw [hg1]
    show (if kd = 4 ∧ a = g.nv then (if k = 0 then t else if k = 1 then s else if k = 3 then -1 else 0) else if kd = 10 ∧ a = g.nv then 0 else g.1 kd a k) = _
    rw [if_neg (fun q => hno ⟨Or.inl q.1, q.2⟩), if_neg (fun q => hno ⟨Or.inr q.1, q.2⟩)]
    rfl
  have gn : ∀ k, g1.i 4 g.nv k = (if k = 0 then t else if k = 1 then s else if k = 3 then -1 else 0) := fun k => by
    rw [hg1]
    show (if 4 = 4 ∧ g.nv = g.nv then (if k = 0 then t else if k = 1 then s else if k = 3 then -1 else 0) else if 4 = 10 ∧ g.nv = g.nv then 0 else g.1 4 g.nv k) = _
    rw [if_pos ⟨rfl, rfl⟩]
  have gp : ∀ k, g1.i 10 g.nv k = 0 := fun k => by
    rw [hg1]
    show (if 10 = 4 ∧ g.nv = g.nv then (if k = 0 then t else if k = 1 then s else if k = 3 then -1 else 0) else if 10 = 10 ∧ g.nv = g.nv then 0 else g.1 10 g.nv k) = _
    rw [if_neg (fun q => absurd q.1 (by decide)), if_pos ⟨rfl, rfl⟩]
  have hnb : g1.nb = g.nb := by rw [hg1]; rfl
  have hnh : g1.nh = g.nh := by rw [hg1]; rfl
  have hnv : g1.nv = g.nv + 1 := by rw [hg1]; rfl
  have hbd : g1.bd = g.bd := by rw [hg1]; rfl
  have hq : ∀ b, g1.q b = g.q b := fun b => by rw [hg1]; rfl
  have hst : ∀ v, v ≠ g.nv → stt g1 v = stt g v := fun v hv => by unfold stt; rw [gi _ _ _ (by omega), gi _ _ _ (by omega)]
  rw [← hg1]
  refine ⟨⟨by rw [h1, hnb]; exact h.nb, by rw [h2, hnh]; exact h.nh, by rw [h3, hnv]⟩, fun b hb1 => ?_, fun a ha k hk => ?_, fun v hv => ?_, fun v hv b hb1 => ?_, fun b hb1 i u hu => ?_, fun l x hx => ?_, ?_⟩
  · rw [hnb] at hb1
    refine ⟨fun k hk => ?_, ?_, ?_⟩
    · rw [hM _ (by simp) (by simp), gi _ _ _ (by omega)]; exact h.bo hb1 hk
    · rw [hM _ (by simp) (by simp), gi _ _ _ (by omega)]; exact h.b4 hb1
    · rw [hM _ (by simp) (by simp), gi _ _ _ (by omega)]; exact h.b5 hb1
  · rw [hM _ (by simp) (by simp), gi _ _ _ (by omega)]; exact h.he (by rw [hnh] at ha; exact ha) hk
  · rw [hnv] at hv
    by_cases q : v = g.nv
    · subst q
      have hs0 : stt g1 g.nv = 0 := by unfold stt; rw [gn, gn]; rfl
      rw [hs0, gn, gn, gn, gn, gn, gn, gn]
      exact ⟨hn0, hn1, hn2, hn3, hn5, hn6, hn7, hn8⟩
    · have hlt : v < g.nv := by omega
      rw [ho _ (by omega), ho _ (by omega), ho _ (by omega), ho _ (by omega), ho _ (by omega), ho _ (by omega), ho _ (by omega), ho _ (by omega), gi _ _ _ (by omega), gi _ _ _ (by omega), hst v q, gi _ _ _ (by omega), gi _ _ _ (by omega), gi _ _ _ (by omega), gi _ _ _ (by omega), gi _ _ _ (by omega)]
      exact h.2.2.2.1 v hlt
  · rw [hM _ (by simp) (by simp), hnv, h.2.2.2.2.1 v hv b hb1]
    by_cases q : v = g.nv
    · subst q
      rw [gp, if_neg (by omega), if_pos (by omega)]
    · rw [gi _ _ _ (by omega)]
      by_cases z : v < g.nv
      · rw [if_pos z, if_pos (by omega)]
      · rw [if_neg z, if_neg (by omega)]
  · rw [hnb] at hb1
    rw [hq] at hu
    have := hqv b hb1 u (List.mem_of_getElem? hu)
    rw [ho _ (by omega)]
    exact h.pl hb1 hu
  · rw [hbd] at hx
    rw [hM _ (by simp) (by simp)]
    exact h.bde hx
  · rw [hM _ (by simp) (by simp), gi _ _ _ (by omega), gi _ _ _ (by omega), gi _ _ _ (by omega), gi _ _ _ (by omega), hbd]
    exact h.2.2.2.2.2.2.2
theorem V.to0 {κ : KX} {ids : List Pid} {cc : ByteArray} {nL fr lo : Nat} {own : String} {M : Mem} {l : LSt} {st : List Value} {pc : Nat} (G : Good κ ids cc nL own fr lo) (hn : κ.n = (0, 0)) (h : VT κ ids κ.A [] 0 0 nL M l st pc) : V κ ids nL M l st pc := by
  refine V.to G ?_
  rw [hn]
  exact h
theorem celR_upr {E : EX} {N : Mem} {i : Pid} {A : Nat → Int32} {j : Pid} (hj : j ≠ i) : E.cel (upr N i A) j = E.cel N j := by
  show celF E.ad E.cy (upr N i A) j = celF E.ad E.cy N j
  unfold celF
  split <;> simp only [upr_ne hj]
theorem e_addBooth (hS : SimR N g 0) (hI : Inv g) (c go p n : Int32) : RetK E idsR yX6_addBooth cX6_addBooth 6 (some .int) 1 40 1 6 [.ref (E.ad (14, 0, 0)), .int c, .int go, .int p, .int n] N (RPost (spAddBooth g c go p n)) := by
  have hb8 := hI.nb8
  have hh12 := hI.nh12
  have hv16 := hI.nv16
  refine RetK_of_V RX6 (by decide) rfl idsR_nd [some (.ref (E.ad (14, 0, 0))), some (.int c), some (.int go), some (.int p), some (.int n), none] rfl (Nat.le_of_ble_eq_true rfl) (fun κ hE G E9 hr => ?_)
  subst hE
  refine s_aload_n G dX6_addBooth_0 rfl ?_
  refine s_iconst (v := 0) G dX6_addBooth_1 (by decide) ?_
  refine pX6_28 G dX6_addBooth_2 ?_
  refine V.abs (fun M1 hM1 => ?_)
  have hS1 : SimR M1 g 0 := by rw [hM1]; exact hS.thr
  have hz : M1 (14, 0, 0) 0 = 0 := by rw [hM1, up_at, if_pos rfl]
  clear hM1
  refine s_iload_n G dX6_addBooth_5 rfl ?_
  refine s_iconst (v := 1) G dX6_addBooth_6 (by decide) ?_
  refine s_bipush (v := 9) G dX6_addBooth_7 (by decide) ?_
  refine iX6_35 G (r_isIn c 1 9) (by decide) (Nat.le_of_ble_eq_true rfl) dX6_addBooth_9 (fun r9 M9 hp9 => ?_)
  obtain ⟨rfl, ⟨r0, rfl⟩ | ⟨r0, rfl⟩⟩ := hp9
  rotate_left
  · refine s_if_eq G 45 dX6_addBooth_12 (by decide) (fun h12 => ?_) (fun h12 => ?_)
    rotate_left
    · exact absurd rfl h12
    refine s_aload_n G dX6_addBooth_45 rfl ?_
    refine s_iconst (v := 1) G dX6_addBooth_46 (by decide) ?_
    refine iX6_45 G (r_fail 1) (by decide) (Nat.le_of_ble_eq_true rfl) dX6_addBooth_47 (fun r9 M9 hp9 => ?_)
    obtain ⟨rfl, rfl⟩ := hp9
    refine sk_iret G E9 hr dX6_addBooth_50 (rp_fail (k := 1) (by unfold spAddBooth; rw [if_pos (Or.inl r0)]) (by decide) rfl hS1)
  refine s_if_eq G 45 dX6_addBooth_12 (by decide) (fun h12 => ?_) (fun h12 => ?_)
  · exact absurd h12 (by decide)
  refine s_iload_n G dX6_addBooth_15 rfl ?_
  refine s_iconst (v := 0) G dX6_addBooth_16 (by decide) ?_
  refine s_bipush (v := 60) G dX6_addBooth_17 (by decide) ?_
  refine iX6_35 G (r_isIn go 0 60) (by decide) (Nat.le_of_ble_eq_true rfl) dX6_addBooth_19 (fun r9 M9 hp9 => ?_)
  obtain ⟨rfl, ⟨r1, rfl⟩ | ⟨r1, rfl⟩⟩ := hp9
  rotate_left
  · refine s_if_eq G 45 dX6_addBooth_22 (by decide) (fun h22 => ?_) (fun h22 => ?_)
    rotate_left
    · exact absurd rfl h22
    refine s_aload_n G dX6_addBooth_45 rfl ?_
    refine s_iconst (v := 1) G dX6_addBooth_46 (by decide) ?_
    refine iX6_45 G (r_fail 1) (by decide) (Nat.le_of_ble_eq_true rfl) dX6_addBooth_47 (fun r9 M9 hp9 => ?_)
    obtain ⟨rfl, rfl⟩ := hp9
    refine sk_iret G E9 hr dX6_addBooth_50 (rp_fail (k := 1) (by unfold spAddBooth; rw [if_pos (Or.inr (Or.inl r1))]) (by decide) rfl hS1)
  refine s_if_eq G 45 dX6_addBooth_22 (by decide) (fun h22 => ?_) (fun h22 => ?_)
  · exact absurd h22 (by decide)
  refine s_iload_n G dX6_addBooth_25 rfl ?_
  refine s_iconst (v := 0) G dX6_addBooth_26 (by decide) ?_
  refine s_bipush (v := 99) G dX6_addBooth_27 (by decide) ?_
  refine iX6_35 G (r_isIn p 0 99) (by decide) (Nat.le_of_ble_eq_true rfl) dX6_addBooth_29 (fun r9 M9 hp9 => ?_)
  obtain ⟨rfl, ⟨r2, rfl⟩ | ⟨r2, rfl⟩⟩ := hp9
  rotate_left
  · refine s_if_eq G 45 dX6_addBooth_32 (by decide) (fun h32 => ?_) (fun h32 => ?_)
    rotate_left
    · exact absurd rfl h32
    refine s_aload_n G dX6_addBooth_45 rfl ?_
    refine s_iconst (v := 1) G dX6_addBooth_46 (by decide) ?_
    refine iX6_45 G (r_fail 1) (by decide) (Nat.le_of_ble_eq_true rfl) dX6_addBooth_47 (fun r9 M9 hp9 => ?_)
    obtain ⟨rfl, rfl⟩ := hp9
    refine sk_iret G E9 hr dX6_addBooth_50 (rp_fail (k := 1) (by unfold spAddBooth; rw [if_pos (Or.inr (Or.inr (Or.inl r2)))]) (by decide) rfl hS1)
  refine s_if_eq G 45 dX6_addBooth_32 (by decide) (fun h32 => ?_) (fun h32 => ?_)
  · exact absurd h32 (by decide)
  refine s_iload G dX6_addBooth_35 rfl ?_
  refine s_iconst (v := 1) G dX6_addBooth_37 (by decide) ?_
  refine s_iconst (v := 3) G dX6_addBooth_38 (by decide) ?_
  refine iX6_35 G (r_isIn n 1 3) (by decide) (Nat.le_of_ble_eq_true rfl) dX6_addBooth_39 (fun r9 M9 hp9 => ?_)
  obtain ⟨rfl, ⟨r3, rfl⟩ | ⟨r3, rfl⟩⟩ := hp9
  rotate_left
  · refine s_if_ne G 51 dX6_addBooth_42 (by decide) (fun h42 => ?_) (fun h42 => ?_)
    · exact absurd rfl h42
    refine s_aload_n G dX6_addBooth_45 rfl ?_
    refine s_iconst (v := 1) G dX6_addBooth_46 (by decide) ?_
    refine iX6_45 G (r_fail 1) (by decide) (Nat.le_of_ble_eq_true rfl) dX6_addBooth_47 (fun r9 M9 hp9 => ?_)
    obtain ⟨rfl, rfl⟩ := hp9
    refine sk_iret G E9 hr dX6_addBooth_50 (rp_fail (k := 1) (by unfold spAddBooth; rw [if_pos (Or.inr (Or.inr (Or.inr r3)))]) (by decide) rfl hS1)
  refine s_if_ne G 51 dX6_addBooth_42 (by decide) (fun h42 => ?_) (fun h42 => ?_)
  rotate_left
  · exact absurd h42 (by decide)
  have rr : ¬ (¬ inR c 1 9 ∨ ¬ inR go 0 60 ∨ ¬ inR p 0 99 ∨ ¬ inR n 1 3) := fun q => q.elim (fun q => q r0) (fun q => q.elim (fun q => q r1) (fun q => q.elim (fun q => q r2) (fun q => q r3)))
  refine s_aload_n G dX6_addBooth_51 rfl ?_
  refine gX6_32 G dX6_addBooth_52 ?_
  rw [hS1.nb]
  refine s_bipush (v := 8) G dX6_addBooth_55 (by decide) ?_
  refine s_icmp_ne G 66 dX6_addBooth_57 (by decide) (fun h57 => ?_) (fun h57 => ?_)
  rotate_left
  · refine s_aload_n G dX6_addBooth_60 rfl ?_
    refine s_iconst (v := 2) G dX6_addBooth_61 (by decide) ?_
    refine iX6_45 G (r_fail 2) (by decide) (Nat.le_of_ble_eq_true rfl) dX6_addBooth_62 (fun r9 M9 hp9 => ?_)
    obtain ⟨rfl, rfl⟩ := hp9
    refine sk_iret G E9 hr dX6_addBooth_65 (rp_fail (k := 2) (by unfold spAddBooth; rw [if_neg rr, if_pos (nI_inj (b := 8) (by omega) (by decide) h57)]) (by decide) rfl hS1)
  have hb9 : g.nb < 8 := by
    have : g.nb ≠ 8 := fun q => h57 (by rw [q]; rfl)
    omega
  have hsp : spAddBooth g c go p n = (0, nI g.nb, addB g c go p n) := by unfold spAddBooth; rw [if_neg rr, if_neg (by omega)]
  obtain ⟨hQ9, hn9, hc9, hd9, hR9, hz9⟩ := E9
  have E9 : EndsK κ idsR (RPost (spAddBooth g c go p n)) κ.s.heap.size 1 6 := ⟨hQ9, hn9, hc9, hd9, hR9, hz9⟩
  refine V.to0 G hn9 ?_
  refine tt_bipush (v := 6) G dX6_addBooth_66 (by decide) ?_
  refine tt_newi (A9 := κ.A) (k := 6) G G.hA9 rfl (by decide) (by decide +kernel) hc9 hd9 dX6_addBooth_68 (fun q => ?_)
  refine tt_dup G dX6_addBooth_70 rfl ?_
  refine tt_iconst (v := 0) G dX6_addBooth_71 (by decide) ?_
  refine tt_iload_n G dX6_addBooth_72 rfl ?_
  refine tt_iast (j := 0) (k := 0) G rfl rfl (by decide) (by decide) dX6_addBooth_73 ?_
  refine tt_dup G dX6_addBooth_74 rfl ?_
  refine tt_iconst (v := 1) G dX6_addBooth_75 (by decide) ?_
  refine tt_iload_n G dX6_addBooth_76 rfl ?_
  refine tt_iast (j := 0) (k := 1) G rfl rfl (by decide) (by decide) dX6_addBooth_77 ?_
  refine tt_dup G dX6_addBooth_78 rfl ?_
  refine tt_iconst (v := 2) G dX6_addBooth_79 (by decide) ?_
  refine tt_iload_n G dX6_addBooth_80 rfl ?_
  refine tt_iast (j := 0) (k := 2) G rfl rfl (by decide) (by decide) dX6_addBooth_81 ?_
  refine tt_dup G dX6_addBooth_82 rfl ?_
  refine tt_iconst (v := 3) G dX6_addBooth_83 (by decide) ?_
  refine tt_iload G dX6_addBooth_84 rfl ?_
  refine tt_iast (j := 0) (k := 3) G rfl rfl (by decide) (by decide) dX6_addBooth_86 ?_
  refine tt_dup G dX6_addBooth_87 rfl ?_
  refine tt_iconst (v := 4) G dX6_addBooth_88 (by decide) ?_
  refine tt_iconst (v := 0) G dX6_addBooth_89 (by decide) ?_
  refine tt_iast (j := 0) (k := 4) G rfl rfl (by decide) (by decide) dX6_addBooth_90 ?_
  refine tt_dup G dX6_addBooth_91 rfl ?_
  refine tt_iconst (v := 5) G dX6_addBooth_92 (by decide) ?_
  refine tt_iconst (v := 0) G dX6_addBooth_93 (by decide) ?_
  refine tt_iast (j := 0) (k := 5) G rfl rfl (by decide) (by decide) dX6_addBooth_94 ?_
  refine tt_astore G dX6_addBooth_95 (by decide) rfl ?_
  refine tt_aload G dX6_addBooth_97 rfl ?_
  refine tt_iconst (v := 0) G dX6_addBooth_99 (by decide) ?_
  refine tt_aload_n G dX6_addBooth_100 rfl ?_
  refine tt_get (i := (14, 0, 0)) (T := TX6) (k := 4) G uX6 mR14 rfl rfl (by decide) (by decide +kernel) rfl dX6_addBooth_101 ?_
  refine tt_bipush (v := 6) G dX6_addBooth_104 (by decide) ?_
  refine tt_aload_n G dX6_addBooth_106 rfl ?_
  refine tt_get (i := (14, 0, 0)) (T := TX6) (k := 1) G uX6 mR14 rfl rfl (by decide) (by decide +kernel) rfl dX6_addBooth_107 ?_
  rw [hS1.nb]
  refine tt_imul G dX6_addBooth_110 ?_
  refine tt_bipush (v := 6) G dX6_addBooth_111 (by decide) ?_
  obtain ⟨A, hA⟩ : ∃ A, A = va_cpy (upd (upd (upd (upd (upd (upd (fun _ => 0) 0 c) 1 go) 2 p) 3 n) 4 0) 5 0) (M1 (15, 0, 0)) 0 (6 * g.nb) 6 := ⟨_, rfl⟩
  refine tt_copyP (M' := upr M1 (15, 0, 0) A) (j := 0) (i := (15, 0, 0)) (n0 := 6) (n1 := 48) (s0 := 0) (d0 := 6 * g.nb) (m0 := 6) G (by decide +kernel) (by decide +kernel) (by decide +kernel) (by decide +kernel) rfl mR15 rfl rfl (pk_mul 6 g.nb) rfl (by decide) (by omega) (by decide) (by decide) (by rw [hA]; rfl) (fun j hj => celR_upr hj) (by decide) (by decide) dX6_addBooth_113 ?_
  refine VT.out (k := 0) (n := 0) G E9 (G.wide (Nat.le_refl _)) (by decide) (by decide) (fun κ2 hE2 hm2 G2 E92 hv2 _ _ => ?_)
  clear E9 hQ9 hn9 hc9 hd9 hR9 hz9
  have hr2 : κ2.meth.sig.returnType = some .int := by rw [hm2]; exact hr
  have hA0 : ∀ k, k < 6 * g.nb → A k = M1 (15, 0, 0) k := fun k hk => by rw [hA]; unfold va_cpy; rw [if_neg (by omega)]
  have hA1 : ∀ k, k < 6 → A (6 * g.nb + k) = upd (upd (upd (upd (upd (upd (fun _ => 0) 0 c) 1 go) 2 p) 3 n) 4 0) 5 0 k := fun k hk => by rw [hA]; unfold va_cpy; rw [if_pos (by omega), show 0 + (6 * g.nb + k - 6 * g.nb) = k by omega]
  clear hA
  generalize κ.s.heap.size = z9 at E92
  revert hr2
  rw [← hE2]
  clear hE2 hm2 hv2 G hr
  intro hr
  rename_i G9 E99
  have G := G2
  have E9 := E92
  refine s_aload_n G dX6_addBooth_116 rfl ?_
  refine s_dup G dX6_addBooth_117 rfl ?_
  refine gX6_32 G dX6_addBooth_118 ?_
  rw [upr_ne (by simp), hS1.nb]
  refine s_iconst (v := 1) G dX6_addBooth_121 (by decide) ?_
  refine s_iadd G dX6_addBooth_122 ?_
  refine pX6_32 G dX6_addBooth_123 ?_
  refine s_aload_n G dX6_addBooth_126 rfl ?_
  refine gX6_32 G dX6_addBooth_127 ?_
  rw [up_at, if_pos rfl, nI_1]
  refine s_iconst (v := 1) G dX6_addBooth_130 (by decide) ?_
  refine s_isub G dX6_addBooth_131 ?_
  rw [show nI (g.nb + 1) - 1 = nI g.nb from nI_pred g.nb]
  refine sk_iret G E9 hr dX6_addBooth_132 (rp_ok hsp (by rw [up_at, if_neg (by decide), upr_ne (by simp)]; exact hz) ?_)
  refine hS1.addB hb9 (fun j h1 h2 => by rw [up_ne h1, upr_ne h2]) (by rw [up_at, if_pos rfl]) (by rw [up_at, if_neg (by decide), upr_ne (by simp)]) (by rw [up_at, if_neg (by decide), upr_ne (by simp)]) (fun k hk => by rw [up_ne (by simp), upr_at]; exact hA0 k hk) ?_ ?_ ?_ ?_ ?_ ?_ <;> (rw [up_ne (by simp), upr_at, hA1 _ (by decide)]; rfl)
theorem e_addHelper (hS : SimR N g 0) (hI : Inv g) : RetK E idsR yX6_addHelper cX6_addHelper 2 (some .int) 1 40 1 3 [.ref (E.ad (14, 0, 0))] N (RPost (spAddHelper g)) := by
  have hb8 := hI.nb8
  have hh12 := hI.nh12
  have hv16 := hI.nv16
  refine RetK_of_V RX6 (by decide) rfl idsR_nd [some (.ref (E.ad (14, 0, 0))), none] rfl (Nat.le_of_ble_eq_true rfl) (fun κ hE G E9 hr => ?_)
  subst hE
  refine s_aload_n G dX6_addHelper_0 rfl ?_
  refine s_iconst (v := 0) G dX6_addHelper_1 (by decide) ?_
  refine pX6_28 G dX6_addHelper_2 ?_
  refine V.abs (fun M1 hM1 => ?_)
  have hS1 : SimR M1 g 0 := by rw [hM1]; exact hS.thr
  have hz : M1 (14, 0, 0) 0 = 0 := by rw [hM1, up_at, if_pos rfl]
  clear hM1
  refine s_aload_n G dX6_addHelper_5 rfl ?_
  refine gX6_39 G dX6_addHelper_6 ?_
  rw [hS1.nh]
  refine s_bipush (v := 12) G dX6_addHelper_9 (by decide) ?_
  refine s_icmp_ne G 20 dX6_addHelper_11 (by decide) (fun h11 => ?_) (fun h11 => ?_)
  rotate_left
  · refine s_aload_n G dX6_addHelper_14 rfl ?_
    refine s_iconst (v := 1) G dX6_addHelper_15 (by decide) ?_
    refine iX6_45 G (r_fail 1) (by decide) (Nat.le_of_ble_eq_true rfl) dX6_addHelper_16 (fun r9 M9 hp9 => ?_)
    obtain ⟨rfl, rfl⟩ := hp9
    refine sk_iret G E9 hr dX6_addHelper_19 (rp_fail (k := 1) (by unfold spAddHelper; rw [if_pos (nI_inj (b := 12) (by omega) (by decide) h11)]) (by decide) rfl hS1)
  have hb9 : g.nh < 12 := by
    have : g.nh ≠ 12 := fun q => h11 (by rw [q]; rfl)
    omega
  have hsp : spAddHelper g = (0, nI g.nh, addH g) := by unfold spAddHelper; rw [if_neg (by omega)]
  obtain ⟨hQ9, hn9, hc9, hd9, hR9, hz9⟩ := E9
  have E9 : EndsK κ idsR (RPost (spAddHelper g)) κ.s.heap.size 1 3 := ⟨hQ9, hn9, hc9, hd9, hR9, hz9⟩
  refine V.to0 G hn9 ?_
  refine tt_iconst (v := 3) G dX6_addHelper_20 (by decide) ?_
  refine tt_newi (A9 := κ.A) (k := 3) G G.hA9 rfl (by decide) (by decide +kernel) hc9 hd9 dX6_addHelper_21 (fun q => ?_)
  refine tt_dup G dX6_addHelper_23 rfl ?_
  refine tt_iconst (v := 0) G dX6_addHelper_24 (by decide) ?_
  refine tt_bipush (v := 24) G dX6_addHelper_25 (by decide) ?_
  refine tt_iast (j := 0) (k := 0) G rfl rfl (by decide) (by decide) dX6_addHelper_27 ?_
  refine tt_dup G dX6_addHelper_28 rfl ?_
  refine tt_iconst (v := 1) G dX6_addHelper_29 (by decide) ?_
  refine tt_iconst (v := -1) G dX6_addHelper_30 (by decide) ?_
  refine tt_iast (j := 0) (k := 1) G rfl rfl (by decide) (by decide) dX6_addHelper_31 ?_
  refine tt_dup G dX6_addHelper_32 rfl ?_
  refine tt_iconst (v := 2) G dX6_addHelper_33 (by decide) ?_
  refine tt_iconst (v := 0) G dX6_addHelper_34 (by decide) ?_
  refine tt_iast (j := 0) (k := 2) G rfl rfl (by decide) (by decide) dX6_addHelper_35 ?_
  refine tt_astore_n G dX6_addHelper_36 (by decide) rfl ?_
  refine tt_aload_n G dX6_addHelper_37 rfl ?_
  refine tt_iconst (v := 0) G dX6_addHelper_38 (by decide) ?_
  refine tt_aload_n G dX6_addHelper_39 rfl ?_
  refine tt_get (i := (14, 0, 0)) (T := TX6) (k := 5) G uX6 mR14 rfl rfl (by decide) (by decide +kernel) rfl dX6_addHelper_40 ?_
  refine tt_iconst (v := 3) G dX6_addHelper_43 (by decide) ?_
  refine tt_aload_n G dX6_addHelper_44 rfl ?_
  refine tt_get (i := (14, 0, 0)) (T := TX6) (k := 2) G uX6 mR14 rfl rfl (by decide) (by decide +kernel) rfl dX6_addHelper_45 ?_
  rw [hS1.nh]
  refine tt_imul G dX6_addHelper_48 ?_
  refine tt_iconst (v := 3) G dX6_addHelper_49 (by decide) ?_
  obtain ⟨A, hA⟩ : ∃ A, A = va_cpy (upd (upd (upd (fun _ => 0) 0 24) 1 (-1)) 2 0) (M1 (16, 0, 0)) 0 (3 * g.nh) 3 := ⟨_, rfl⟩
  refine tt_copyP (M' := upr M1 (16, 0, 0) A) (j := 0) (i := (16, 0, 0)) (n0 := 3) (n1 := 36) (s0 := 0) (d0 := 3 * g.nh) (m0 := 3) G (by decide +kernel) (by decide +kernel) (by decide +kernel) (by decide +kernel) rfl mR16 rfl rfl (pk_mul 3 g.nh) rfl (by decide) (by omega) (by decide) (by decide) (by rw [hA]; rfl) (fun j hj => celR_upr hj) (by decide) (by decide) dX6_addHelper_50 ?_
  refine VT.out (k := 0) (n := 0) G E9 (G.wide (Nat.le_refl _)) (by decide) (by decide) (fun κ2 hE2 hm2 G2 E92 hv2 _ _ => ?_)
  clear E9 hQ9 hn9 hc9 hd9 hR9 hz9
  have hr2 : κ2.meth.sig.returnType = some .int := by rw [hm2]; exact hr
  have hA0 : ∀ k, k < 3 * g.nh → A k = M1 (16, 0, 0) k := fun k hk => by rw [hA]; unfold va_cpy; rw [if_neg (by omega)]
  have hA1 : ∀ k, k < 3 → A (3 * g.nh + k) = upd (upd (upd (fun _ => 0) 0 24) 1 (-1)) 2 0 k := fun k hk => by rw [hA]; unfold va_cpy; rw [if_pos (by omega), show 0 + (3 * g.nh + k - 3 * g.nh) = k by omega]
  clear hA
  generalize κ.s.heap.size = z9 at E92
  revert hr2
  rw [← hE2]
  clear hE2 hm2 hv2 G hr
  intro hr
  rename_i G9 E99
  have G := G2
  have E9 := E92
  refine s_aload_n G dX6_addHelper_53 rfl ?_
  refine s_dup G dX6_addHelper_54 rfl ?_
  refine gX6_39 G dX6_addHelper_55 ?_
  rw [upr_ne (by simp), hS1.nh]
  refine s_iconst (v := 1) G dX6_addHelper_58 (by decide) ?_
  refine s_iadd G dX6_addHelper_59 ?_
  refine pX6_39 G dX6_addHelper_60 ?_
  refine s_aload_n G dX6_addHelper_63 rfl ?_
  refine gX6_39 G dX6_addHelper_64 ?_
  rw [up_at, if_pos rfl, nI_1]
  refine s_iconst (v := 1) G dX6_addHelper_67 (by decide) ?_
  refine s_isub G dX6_addHelper_68 ?_
  rw [show nI (g.nh + 1) - 1 = nI g.nh from nI_pred g.nh]
  refine sk_iret G E9 hr dX6_addHelper_69 (rp_ok hsp (by rw [up_at, if_neg (by decide), upr_ne (by simp)]; exact hz) ?_)
  refine hS1.addH (fun j h1 h2 => by rw [up_ne h1, upr_ne h2]) (by rw [up_at, if_neg (by decide), upr_ne (by simp)]) (by rw [up_at, if_pos rfl]) (by rw [up_at, if_neg (by decide), upr_ne (by simp)]) (fun k hk => by rw [up_ne (by simp), upr_at]; exact hA0 k hk) ?_ ?_ ?_ <;> (rw [up_ne (by simp), upr_at, hA1 _ (by decide)]; rfl)
theorem e_come (hS : SimR N g 0) (hI : Inv g) (t s : Int32) : RetK E idsR yX6_come cX6_come 4 (some .int) 1 40 1 9 [.ref (E.ad (14, 0, 0)), .int t, .int s] N (RPost (spCome g t s)) := by
  have hb8 := hI.nb8
  have hh12 := hI.nh12
  have hv16 := hI.nv16
  refine RetK_of_V RX6 (by decide) rfl idsR_nd [some (.ref (E.ad (14, 0, 0))), some (.int t), some (.int s), none] rfl (Nat.le_of_ble_eq_true rfl) (fun κ hE G E9 hr => ?_)
  subst hE
  refine s_aload_n G dX6_come_0 rfl ?_
  refine s_iconst (v := 0) G dX6_come_1 (by decide) ?_
  refine pX6_28 G dX6_come_2 ?_
  refine V.abs (fun M1 hM1 => ?_)
  have hS1 : SimR M1 g 0 := by rw [hM1]; exact hS.thr
  have hz : M1 (14, 0, 0) 0 = 0 := by rw [hM1, up_at, if_pos rfl]
  clear hM1
  refine s_iload_n G dX6_come_5 rfl ?_
  refine s_iconst (v := 0) G dX6_come_6 (by decide) ?_
  refine s_sipush (v := 200) G dX6_come_7 (by decide) ?_
  refine iX6_35 G (r_isIn t 0 200) (by decide) (Nat.le_of_ble_eq_true rfl) dX6_come_10 (fun r9 M9 hp9 => ?_)
  obtain ⟨rfl, ⟨r0, rfl⟩ | ⟨r0, rfl⟩⟩ := hp9
  rotate_left
  · refine s_if_eq G 26 dX6_come_13 (by decide) (fun h13 => ?_) (fun h13 => ?_)
    rotate_left
    · exact absurd rfl h13
    refine s_aload_n G dX6_come_26 rfl ?_
    refine s_iconst (v := 1) G dX6_come_27 (by decide) ?_
    refine iX6_45 G (r_fail 1) (by decide) (Nat.le_of_ble_eq_true rfl) dX6_come_28 (fun r9 M9 hp9 => ?_)
    obtain ⟨rfl, rfl⟩ := hp9
    refine sk_iret G E9 hr dX6_come_31 (rp_fail (k := 1) (by unfold spCome; rw [if_pos (Or.inl r0)]) (by decide) rfl hS1)
  refine s_if_eq G 26 dX6_come_13 (by decide) (fun h13 => ?_) (fun h13 => ?_)
  · exact absurd h13 (by decide)
  refine s_iload_n G dX6_come_16 rfl ?_
  refine s_iconst (v := 0) G dX6_come_17 (by decide) ?_
  refine s_bipush (v := 30) G dX6_come_18 (by decide) ?_
  refine iX6_35 G (r_isIn s 0 30) (by decide) (Nat.le_of_ble_eq_true rfl) dX6_come_20 (fun r9 M9 hp9 => ?_)
  obtain ⟨rfl, ⟨r1, rfl⟩ | ⟨r1, rfl⟩⟩ := hp9
  rotate_left
  · refine s_if_ne G 32 dX6_come_23 (by decide) (fun h23 => ?_) (fun h23 => ?_)
    · exact absurd rfl h23
    refine s_aload_n G dX6_come_26 rfl ?_
    refine s_iconst (v := 1) G dX6_come_27 (by decide) ?_
    refine iX6_45 G (r_fail 1) (by decide) (Nat.le_of_ble_eq_true rfl) dX6_come_28 (fun r9 M9 hp9 => ?_)
    obtain ⟨rfl, rfl⟩ := hp9
    refine sk_iret G E9 hr dX6_come_31 (rp_fail (k := 1) (by unfold spCome; rw [if_pos (Or.inr r1)]) (by decide) rfl hS1)
  refine s_if_ne G 32 dX6_come_23 (by decide) (fun h23 => ?_) (fun h23 => ?_)
  rotate_left
  · exact absurd h23 (by decide)
  have rr : ¬ (¬ inR t 0 200 ∨ ¬ inR s 0 30) := fun q => q.elim (fun q => q r0) (fun q => q r1)
  refine s_aload_n G dX6_come_32 rfl ?_
  refine gX6_42 G dX6_come_33 ?_
  rw [hS1.nv]
  refine s_bipush (v := 16) G dX6_come_36 (by decide) ?_
  refine s_icmp_ne G 47 dX6_come_38 (by decide) (fun h38 => ?_) (fun h38 => ?_)
  rotate_left
  · refine s_aload_n G dX6_come_41 rfl ?_
    refine s_iconst (v := 2) G dX6_come_42 (by decide) ?_
    refine iX6_45 G (r_fail 2) (by decide) (Nat.le_of_ble_eq_true rfl) dX6_come_43 (fun r9 M9 hp9 => ?_)
    obtain ⟨rfl, rfl⟩ := hp9
    refine sk_iret G E9 hr dX6_come_46 (rp_fail (k := 2) (by unfold spCome; rw [if_neg rr, if_pos (nI_inj (b := 16) (by omega) (by decide) h38)]) (by decide) rfl hS1)
  have hb9 : g.nv < 16 := by
    have : g.nv ≠ 16 := fun q => h38 (by rw [q]; rfl)
    omega
  have hsp : spCome g t s = (0, nI g.nv, addV g t s) := by unfold spCome; rw [if_neg rr, if_neg (by omega)]
  obtain ⟨hQ9, hn9, hc9, hd9, hR9, hz9⟩ := E9
  have E9 : EndsK κ idsR (RPost (spCome g t s)) κ.s.heap.size 1 9 := ⟨hQ9, hn9, hc9, hd9, hR9, hz9⟩
  refine V.to0 G hn9 ?_
  refine tt_bipush (v := 9) G dX6_come_47 (by decide) ?_
  refine tt_newi (A9 := κ.A) (k := 9) G G.hA9 rfl (by decide) (by decide +kernel) hc9 hd9 dX6_come_49 (fun q => ?_)
  refine tt_dup G dX6_come_51 rfl ?_
  refine tt_iconst (v := 0) G dX6_come_52 (by decide) ?_
  refine tt_iload_n G dX6_come_53 rfl ?_
  refine tt_iast (j := 0) (k := 0) G rfl rfl (by decide) (by decide) dX6_come_54 ?_
  refine tt_dup G dX6_come_55 rfl ?_
  refine tt_iconst (v := 1) G dX6_come_56 (by decide) ?_
  refine tt_iload_n G dX6_come_57 rfl ?_
  refine tt_iast (j := 0) (k := 1) G rfl rfl (by decide) (by decide) dX6_come_58 ?_
  refine tt_dup G dX6_come_59 rfl ?_
  refine tt_iconst (v := 2) G dX6_come_60 (by decide) ?_
  refine tt_iconst (v := 0) G dX6_come_61 (by decide) ?_
  refine tt_iast (j := 0) (k := 2) G rfl rfl (by decide) (by decide) dX6_come_62 ?_
  refine tt_dup G dX6_come_63 rfl ?_
  refine tt_iconst (v := 3) G dX6_come_64 (by decide) ?_
  refine tt_iconst (v := -1) G dX6_come_65 (by decide) ?_
  refine tt_iast (j := 0) (k := 3) G rfl rfl (by decide) (by decide) dX6_come_66 ?_
  refine tt_dup G dX6_come_67 rfl ?_
  refine tt_iconst (v := 4) G dX6_come_68 (by decide) ?_
  refine tt_iconst (v := 0) G dX6_come_69 (by decide) ?_
  refine tt_iast (j := 0) (k := 4) G rfl rfl (by decide) (by decide) dX6_come_70 ?_
  refine tt_dup G dX6_come_71 rfl ?_
  refine tt_iconst (v := 5) G dX6_come_72 (by decide) ?_
  refine tt_iconst (v := 0) G dX6_come_73 (by decide) ?_
  refine tt_iast (j := 0) (k := 5) G rfl rfl (by decide) (by decide) dX6_come_74 ?_
  refine tt_dup G dX6_come_75 rfl ?_
  refine tt_bipush (v := 6) G dX6_come_76 (by decide) ?_
  refine tt_iconst (v := 0) G dX6_come_78 (by decide) ?_
  refine tt_iast (j := 0) (k := 6) G rfl rfl (by decide) (by decide) dX6_come_79 ?_
  refine tt_dup G dX6_come_80 rfl ?_
  refine tt_bipush (v := 7) G dX6_come_81 (by decide) ?_
  refine tt_iconst (v := 0) G dX6_come_83 (by decide) ?_
  refine tt_iast (j := 0) (k := 7) G rfl rfl (by decide) (by decide) dX6_come_84 ?_
  refine tt_dup G dX6_come_85 rfl ?_
  refine tt_bipush (v := 8) G dX6_come_86 (by decide) ?_
  refine tt_iconst (v := 0) G dX6_come_88 (by decide) ?_
  refine tt_iast (j := 0) (k := 8) G rfl rfl (by decide) (by decide) dX6_come_89 ?_
  refine tt_astore_n G dX6_come_90 (by decide) rfl ?_
  refine tt_aload_n G dX6_come_91 rfl ?_
  refine tt_iconst (v := 0) G dX6_come_92 (by decide) ?_
  refine tt_aload_n G dX6_come_93 rfl ?_
  refine tt_get (i := (14, 0, 0)) (T := TX6) (k := 6) G uX6 mR14 rfl rfl (by decide) (by decide +kernel) rfl dX6_come_94 ?_
  refine tt_bipush (v := 9) G dX6_come_97 (by decide) ?_
  refine tt_aload_n G dX6_come_99 rfl ?_
  refine tt_get (i := (14, 0, 0)) (T := TX6) (k := 3) G uX6 mR14 rfl rfl (by decide) (by decide +kernel) rfl dX6_come_100 ?_
  rw [hS1.nv]
  refine tt_imul G dX6_come_103 ?_
  refine tt_bipush (v := 9) G dX6_come_104 (by decide) ?_
  obtain ⟨A, hA⟩ : ∃ A, A = va_cpy (upd (upd (upd (upd (upd (upd (upd (upd (upd (fun _ => 0) 0 t) 1 s) 2 0) 3 (-1)) 4 0) 5 0) 6 0) 7 0) 8 0) (M1 (17, 0, 0)) 0 (9 * g.nv) 9 := ⟨_, rfl⟩
  refine tt_copyP (M' := upr M1 (17, 0, 0) A) (j := 0) (i := (17, 0, 0)) (n0 := 9) (n1 := 144) (s0 := 0) (d0 := 9 * g.nv) (m0 := 9) G (by decide +kernel) (by decide +kernel) (by decide +kernel) (by decide +kernel) rfl mR17 rfl rfl (pk_mul 9 g.nv) rfl (by decide) (by omega) (by decide) (by decide) (by rw [hA]; rfl) (fun j hj => celR_upr hj) (by decide) (by decide) dX6_come_106 ?_
  refine VT.out (k := 0) (n := 0) G E9 (G.wide (Nat.le_refl _)) (by decide) (by decide) (fun κ2 hE2 hm2 G2 E92 hv2 _ _ => ?_)
  clear E9 hQ9 hn9 hc9 hd9 hR9 hz9
  have hr2 : κ2.meth.sig.returnType = some .int := by rw [hm2]; exact hr
  have hA0 : ∀ k, k < 9 * g.nv → A k = M1 (17, 0, 0) k := fun k hk => by rw [hA]; unfold va_cpy; rw [if_neg (by omega)]
  have hA1 : ∀ k, k < 9 → A (9 * g.nv + k) = upd (upd (upd (upd (upd (upd (upd (upd (upd (fun _ => 0) 0 t) 1 s) 2 0) 3 (-1)) 4 0) 5 0) 6 0) 7 0) 8 0 k := fun k hk => by rw [hA]; unfold va_cpy; rw [if_pos (by omega), show 0 + (9 * g.nv + k - 9 * g.nv) = k by omega]
  clear hA
  generalize κ.s.heap.size = z9 at E92
  revert hr2
  rw [← hE2]
  clear hE2 hm2 hv2 G hr
  intro hr
  rename_i G9 E99
  have G := G2
  have E9 := E92
  refine s_aload_n G dX6_come_109 rfl ?_
  refine s_dup G dX6_come_110 rfl ?_
  refine gX6_42 G dX6_come_111 ?_
  rw [upr_ne (by simp), hS1.nv]
  refine s_iconst (v := 1) G dX6_come_114 (by decide) ?_
  refine s_iadd G dX6_come_115 ?_
  refine pX6_42 G dX6_come_116 ?_
  refine s_aload_n G dX6_come_119 rfl ?_
  refine gX6_42 G dX6_come_120 ?_
  rw [up_at, if_pos rfl, nI_1]
  refine s_iconst (v := 1) G dX6_come_123 (by decide) ?_
  refine s_isub G dX6_come_124 ?_
  rw [show nI (g.nv + 1) - 1 = nI g.nv from nI_pred g.nv]
  refine sk_iret G E9 hr dX6_come_125 (rp_ok hsp (by rw [up_at, if_neg (by decide), upr_ne (by simp)]; exact hz) ?_)
  refine hS1.addV (fun b hb u hu => ((hI.qm hb).mp hu).1) (fun j h1 h2 => by rw [up_ne h1, upr_ne h2]) (by rw [up_at, if_neg (by decide), upr_ne (by simp)]) (by rw [up_at, if_neg (by decide), upr_ne (by simp)]) (by rw [up_at, if_pos rfl]) (fun k hk => by rw [up_ne (by simp), upr_at]; exact hA0 k hk) ?_ ?_ ?_ ?_ ?_ ?_ ?_ ?_ <;> (rw [up_ne (by simp), upr_at, hA1 _ (by decide)]; rfl)
end RAdd
