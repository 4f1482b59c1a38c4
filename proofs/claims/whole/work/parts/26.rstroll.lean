/-! ===== the reference: leaving, the dart, choosing ===== -/
theorem filter_at {v : Nat} : ∀ (L : List Nat) (i0 : Nat), L.Nodup → L[i0]? = some v → ∀ i u, (L.filter (fun u => u != v))[i]? = some u → (i < i0 ∧ L[i]? = some u) ∨ (i0 ≤ i ∧ L[i + 1]? = some u)
  | [], _, _, h, _, _, _ => by cases h
  | x :: L, 0, hn, h, i, u, hu => by
    have hx : x = v := by simpa using h
    rw [hx] at hn hu
    have hn2 := List.nodup_cons.mp hn
    have e : (v :: L).filter (fun u => u != v) = L := by
      simp only [List.filter_cons, bne_self_eq_false, Bool.false_eq_true, if_false]
      exact filter_id hn2.1
    rw [e] at hu
    exact Or.inr ⟨Nat.zero_le _, by rw [List.getElem?_cons_succ]; exact hu⟩
  | x :: L, i0 + 1, hn, h, i, u, hu => by
    have hn2 := List.nodup_cons.mp hn
    have h2 : L[i0]? = some v := by rw [← h, List.getElem?_cons_succ]
    have hxv : x ≠ v := fun q => hn2.1 (q ▸ List.mem_of_getElem? h2)
    have e : (x :: L).filter (fun u => u != v) = x :: L.filter (fun u => u != v) := by
      rw [List.filter_cons, if_pos (by simpa using hxv)]
    rw [e] at hu
    cases i with
    | zero => exact Or.inl ⟨by omega, by simpa using hu⟩
    | succ i =>
      rw [List.getElem?_cons_succ] at hu
      rcases filter_at L i0 hn2.2 h2 i u hu with ⟨q1, q2⟩ | ⟨q1, q2⟩
      · exact Or.inl ⟨by omega, by rw [List.getElem?_cons_succ]; exact q2⟩
      · exact Or.inr ⟨by omega, by rw [List.getElem?_cons_succ]; exact q2⟩
section RS
variable {E : EX} {N : Mem} {g g' : GS} {w : Int32}
theorem SimR.congr (h : SimR N g w) (hn : g'.2.2 = g.2.2) (hi : ∀ kd a k, g'.i kd a k = g.i kd a k) (hq : ∀ b, b < g.nb → g'.q b = g.q b) : SimR N g' w := by
  have hb : g'.bd = g.bd := congrArg Prod.snd hn
  have hs : ∀ v, stt g' v = stt g v := fun v => by unfold stt; rw [hi, hi]
  refine h.of (congrArg Prod.fst hn) (fun _ _ => rfl) (fun b hb => ?_) (fun a ha k hk => ?_) (fun v hv => ?_) (fun v hv b hb => ?_) (fun b hb i u hu => ?_) (fun l x hx => ?_) ?_
  · simp only [hi]; exact h.2.1 b hb
  · rw [hi]; exact h.he ha hk
  · simp only [hi, hs]; exact h.2.2.2.1 v hv
  · rw [hi]; exact h.2.2.2.2.1 v hv b hb
  · rw [hq b hb] at hu; exact h.pl hb hu
  · rw [hb] at hx; exact h.bde hx
  · simp only [hi, hb]; exact h.2.2.2.2.2.2.2
theorem lv_i {v p q r : Nat} (h : ¬ (p = 4 ∧ q = v ∧ r = 3)) : (leaveQ g v).i p q r = g.i p q r := by
  show (g.set 4 v 3 (-1)).i p q r = _
  rw [gi_set, if_neg h]
theorem lv_3 {v : Nat} : (leaveQ g v).i 4 v 3 = -1 := by
  show (g.set 4 v 3 (-1)).i 4 v 3 = _
  rw [gi_set, if_pos ⟨rfl, rfl, rfl⟩]
theorem SimR.leave (hS : SimR N g w) (hI : Inv g) {v b0 i0 : Nat} (hb0 : b0 < g.nb) (hi : (g.q b0)[i0]? = some v) {M1 : Mem} (ha : ∀ j k, ¬ (j = (17, 0, 0) ∧ k % 9 = 4) → M1 j k = N j k) (hp : ∀ u, u < g.nv → M1 (17, 0, 0) (9 * u + 4) = if g.i 4 u 3 = nI b0 ∧ nI i0 < N (17, 0, 0) (9 * u + 4) then N (17, 0, 0) (9 * u + 4) - 1 else N (17, 0, 0) (9 * u + 4)) : SimR (up (up M1 (17, 0, 0) (9 * v + 2) 0) (17, 0, 0) (9 * v + 3) (-1)) (leaveQ g v) w := by
  have hb8 := hI.nb8
  have hui := (hI.qm hb0).mp (List.mem_of_getElem? hi)
  have hl0 := hI.ql16 hb0
  have hi0 := (List.getElem?_eq_some_iff.mp hi).1
  have hh0 : g.i 4 v 2 = 0 := by
    rcases hI.vho hui.1 with q | q
    · exact q
    · exact absurd (hui.2.symm.trans (hI.vha hui.1 q)) (nI_m1 (by omega))
  have e : ∀ (j : Pid) k, j ≠ (17, 0, 0) → up (up M1 (17, 0, 0) (9 * v + 2) 0) (17, 0, 0) (9 * v + 3) (-1) j k = N j k := fun j k hj => by
    rw [up_ne hj, up_ne hj]; exact ha j k (fun q => hj q.1)
  have e17 : ∀ k, k ≠ 9 * v + 2 → k ≠ 9 * v + 3 → k % 9 ≠ 4 → up (up M1 (17, 0, 0) (9 * v + 2) 0) (17, 0, 0) (9 * v + 3) (-1) (17, 0, 0) k = N (17, 0, 0) k := fun k h1 h2 h3 => by
    rw [up_at, if_neg h2, up_at, if_neg h1]; exact ha _ k (fun q => h3 q.2)
  have hst : ∀ u, u ≠ v → stt (leaveQ g v) u = stt g u := fun u hu => by unfold stt; rw [lv_i (by omega), lv_i (by omega)]
  refine hS.of (g' := leaveQ g v) rfl (fun k _ => e _ k (by simp)) (fun b hb => ⟨fun k hk => ?_, ?_, ?_⟩) (fun a ha k hk => ?_) (fun u hu => ⟨?_, ?_, ?_, ?_, ?_, ?_, ?_, ?_⟩) (fun u hu b hb => ?_) (fun b hb i u hu => ?_) (fun l x hx => ?_) ?_
  · rw [e _ _ (by simp), lv_i (by omega)]; exact hS.bo hb hk
  · rw [e _ _ (by simp), lv_i (by omega)]; exact hS.b4 hb
  · rw [e _ _ (by simp), lv_i (by omega)]; exact hS.b5 hb
  · rw [e _ _ (by simp), lv_i (by omega)]; exact hS.he ha hk
  · rw [e17 _ (by omega) (by omega) (by omega), lv_i (by omega)]; exact hS.v0 hu
  · rw [e17 _ (by omega) (by omega) (by omega), lv_i (by omega)]; exact hS.v1 hu
  · by_cases q : u = v
    · subst q
      rw [up_at, if_neg (by omega), up_at, if_pos rfl]
      unfold stt
      rw [lv_3, lv_i (by omega), if_pos hh0, if_pos rfl]
    · rw [e17 _ (by omega) (by omega) (by omega), hst u q]; exact hS.v2 hu
  · by_cases q : u = v
    · subst q
      rw [up_at, if_pos rfl, lv_3]
    · rw [e17 _ (by omega) (by omega) (by omega), lv_i (by omega)]; exact hS.v3 hu
  · rw [e17 _ (by omega) (by omega) (by omega), lv_i (by omega)]; exact hS.v5 hu
  · rw [e17 _ (by omega) (by omega) (by omega), lv_i (by omega)]; exact hS.v6 hu
  · rw [e17 _ (by omega) (by omega) (by omega), lv_i (by omega)]; exact hS.v7 hu
  · rw [e17 _ (by omega) (by omega) (by omega), lv_i (by omega)]; exact hS.v8 hu
  · rw [e _ _ (by simp), lv_i (by omega)]; exact hS.2.2.2.2.1 u hu b hb
  · have hu2 : ((g.q b).filter (fun u => u != v))[i]? = some u := hu
    have hum := (hI.qm hb).mp (List.mem_filter.mp (List.mem_of_getElem? hu2)).1
    rw [up_at, if_neg (by omega), up_at, if_neg (by omega), hp u hum.1]
    by_cases hbb : b = b0
    · subst hbb
      rcases filter_at _ _ (hI.qnd hb) hi i u hu2 with ⟨q1, q2⟩ | ⟨q1, q2⟩
      · rw [hS.pl hb q2, if_neg (fun q => nI_nlt (a := i0) (b := i) (by omega) (by omega) q.2)]
      · have q3 := (List.getElem?_eq_some_iff.mp q2).1
        rw [hS.pl hb q2, if_pos ⟨hum.2, nI_lt (by omega) (by omega)⟩]
        exact nI_pred i
    · have hvn : v ∉ g.q b := fun q => hbb (nI_inj (by omega) (by omega) (((hI.qm hb).mp q).2.symm.trans hui.2))
      rw [filter_id hvn] at hu2
      rw [if_neg (fun q => hbb (nI_inj (by omega) (by omega) (hum.2.symm.trans q.1)))]
      exact hS.pl hb hu2
  · simp only [e _ _ (show ((19, 0, 0) : Pid) ≠ (17, 0, 0) by simp)]
    exact hS.bde hx
  · simp only [e _ _ (show ((20, 0, 0) : Pid) ≠ (17, 0, 0) by simp)]
    rw [lv_i (by omega), lv_i (by omega), lv_i (by omega), lv_i (by omega)]
    exact hS.2.2.2.2.2.2.2
theorem r_stroll {v b0 i0 : Nat} (hS : SimR N g w) (hI : Inv g) (hb0 : b0 < g.nb) (hi : (g.q b0)[i0]? = some v) : Ret E idsR yX6_stroll cX6_stroll 3 none 1 23 [.ref (E.ad (14, 0, 0)), .int (nI v)] N (fun r M' => r = none ∧ SimR M' (leaveQ g v) w ∧ M' (14, 0, 0) = N (14, 0, 0)) := by
  have hv16 := hI.nv16
  have hui := (hI.qm hb0).mp (List.mem_of_getElem? hi)
  have hv9 : v < 16 := by have := hui.1; omega
  have hvv : v < g.nv := hui.1
  refine Ret_of_V RX6 (by decide) rfl idsR_nd [some (.ref (E.ad (14, 0, 0))), some (.int (nI v)), none] rfl (Nat.le_of_ble_eq_true rfl) (fun κ hE G E9 hr => ?_)
  subst hE
  have loop : ∀ n o, o + n = g.nv → ∀ M1 : Mem, (∀ j k, ¬ (j = (17, 0, 0) ∧ k % 9 = 4) → M1 j k = N j k) → (∀ u, u < g.nv → M1 (17, 0, 0) (9 * u + 4) = if u < o ∧ g.i 4 u 3 = nI b0 ∧ nI i0 < N (17, 0, 0) (9 * u + 4) then N (17, 0, 0) (9 * u + 4) - 1 else N (17, 0, 0) (9 * u + 4)) → V κ idsR 3 M1 [some (.ref (κ.E.ad (14, 0, 0))), some (.int (nI v)), some (.int (nI o))] [] 2 := by
    intro n
    induction n with
    | zero =>
      intro o ho M1 hA hP
      have ho : o = g.nv := by omega
      subst ho
      refine s_iload_n G dX6_stroll_2 rfl ?_
      refine s_aload_n G dX6_stroll_3 rfl ?_
      refine gX6_42 G dX6_stroll_4 ?_
      rw [hA (14, 0, 0) 3 (by simp), hS.nv]
      refine s_icmp_ge G 60 dX6_stroll_7 (by decide) (fun h7 => ?_) (fun h7 => ?_)
      rotate_left
      · exact absurd (Int32.le_refl _) h7
      refine s_aload_n G dX6_stroll_60 rfl ?_
      refine s_iload_n G dX6_stroll_61 rfl ?_
      refine s_iconst (v := 2) G dX6_stroll_62 (by decide) ?_
      refine s_iconst (v := 0) G dX6_stroll_63 (by decide) ?_
      refine iX6_83 G (r_setVi (k := 2) hv9 (by decide) 0) (by decide) (Nat.le_of_ble_eq_true rfl) dX6_stroll_64 (fun r9 M9 hp9 => ?_)
      obtain ⟨rfl, rfl⟩ := hp9
      refine s_aload_n G dX6_stroll_67 rfl ?_
      refine s_iload_n G dX6_stroll_68 rfl ?_
      refine s_iconst (v := 3) G dX6_stroll_69 (by decide) ?_
      refine s_iconst (v := -1) G dX6_stroll_70 (by decide) ?_
      refine iX6_83 G (r_setVi (k := 3) hv9 (by decide) (-1)) (by decide) (Nat.le_of_ble_eq_true rfl) dX6_stroll_71 (fun r9 M9 hp9 => ?_)
      obtain ⟨rfl, rfl⟩ := hp9
      refine s_vret G E9 hr dX6_stroll_74 ⟨rfl, hS.leave hI hb0 hi hA (fun u hu => ?_), ?_⟩
      · rw [hP u hu]
        by_cases q : g.i 4 u 3 = nI b0 ∧ nI i0 < N (17, 0, 0) (9 * u + 4)
        · rw [if_pos q, if_pos ⟨hu, q⟩]
        · rw [if_neg q, if_neg (fun z => q z.2)]
      · rw [up_ne (by simp), up_ne (by simp)]
        exact funext (fun k => hA _ k (by simp))
    | succ n ih =>
      intro o hon M1 hA hP
      have ho : o < g.nv := by omega
      have ho9 : o < 16 := by omega
      have e14 : M1 (14, 0, 0) 3 = nI g.nv := by rw [hA (14, 0, 0) 3 (by simp), hS.nv]
      have skip : ¬ (g.i 4 o 3 = nI b0 ∧ nI i0 < N (17, 0, 0) (9 * o + 4)) → V κ idsR 3 M1 [some (.ref (κ.E.ad (14, 0, 0))), some (.int (nI v)), some (.int (nI o))] [] 54 := by
        intro hno
        refine s_iinc G dX6_stroll_54 rfl (by decide) rfl (nI_1 o) ?_
        refine s_goto G 2 dX6_stroll_57 (by decide) ?_
        refine ih (o + 1) (by omega) M1 hA (fun u hu => ?_)
        rw [hP u hu]
        by_cases q : u = o
        · subst q
          rw [if_neg (fun z => hno z.2), if_neg (fun z => hno z.2)]
        · by_cases z : u < o
          · simp only [z, true_and, show u < o + 1 by omega]
          · rw [if_neg (fun y => z y.1), if_neg (fun y => absurd y.1 (by omega))]
      refine s_iload_n G dX6_stroll_2 rfl ?_
      refine s_aload_n G dX6_stroll_3 rfl ?_
      refine gX6_42 G dX6_stroll_4 ?_
      rw [e14]
      refine s_icmp_ge G 60 dX6_stroll_7 (by decide) (fun h7 => ?_) (fun h7 => ?_)
      · exact absurd h7 (nI_ge ho (by omega))
      refine s_aload_n G dX6_stroll_10 rfl ?_
      refine s_iload_n G dX6_stroll_11 rfl ?_
      refine s_iconst (v := 3) G dX6_stroll_12 (by decide) ?_
      refine iX6_80 G (r_vi (k := 3) ho9 (by decide)) (by decide) (Nat.le_of_ble_eq_true rfl) dX6_stroll_13 (fun r9 M9 hp9 => ?_)
      obtain ⟨rfl, rfl⟩ := hp9
      rw [hA _ _ (by omega), hS.v3 ho]
      refine s_aload_n G dX6_stroll_16 rfl ?_
      refine s_iload_n G dX6_stroll_17 rfl ?_
      refine s_iconst (v := 3) G dX6_stroll_18 (by decide) ?_
      refine iX6_80 G (r_vi (k := 3) hv9 (by decide)) (by decide) (Nat.le_of_ble_eq_true rfl) dX6_stroll_19 (fun r9 M9 hp9 => ?_)
      obtain ⟨rfl, rfl⟩ := hp9
      rw [hA _ _ (by omega), hS.v3 hvv, hui.2]
      refine s_icmp_ne G 54 dX6_stroll_22 (by decide) (fun h22 => ?_) (fun h22 => ?_)
      · exact skip (fun q => h22 q.1)
      have e4 : ∀ u, u < g.nv → ¬ (u < o ∧ nI i0 < N (17, 0, 0) (9 * u + 4)) → M1 (17, 0, 0) (9 * u + 4) = N (17, 0, 0) (9 * u + 4) := fun u hu hno => by
        rw [hP u hu, if_neg (fun q => hno ⟨q.1, q.2.2⟩)]
      refine s_aload_n G dX6_stroll_25 rfl ?_
      refine s_iload_n G dX6_stroll_26 rfl ?_
      refine s_iconst (v := 4) G dX6_stroll_27 (by decide) ?_
      refine iX6_80 G (r_vi (k := 4) ho9 (by decide)) (by decide) (Nat.le_of_ble_eq_true rfl) dX6_stroll_28 (fun r9 M9 hp9 => ?_)
      obtain ⟨rfl, rfl⟩ := hp9
      rw [e4 o ho (by omega)]
      refine s_aload_n G dX6_stroll_31 rfl ?_
      refine s_iload_n G dX6_stroll_32 rfl ?_
      refine s_iconst (v := 4) G dX6_stroll_33 (by decide) ?_
      refine iX6_80 G (r_vi (k := 4) hv9 (by decide)) (by decide) (Nat.le_of_ble_eq_true rfl) dX6_stroll_34 (fun r9 M9 hp9 => ?_)
      obtain ⟨rfl, rfl⟩ := hp9
      have ev : N (17, 0, 0) (9 * v + 4) = nI i0 := hS.pl hb0 hi
      rw [e4 v hvv (by rw [ev]; exact fun q => absurd q.2 (i_nlt.mpr (Int32.le_refl _))), ev]
      refine s_icmp_le G 54 dX6_stroll_37 (by decide) (fun h37 => ?_) (fun h37 => ?_)
      · exact skip (fun q => i_nlt.mpr h37 q.2)
      refine s_aload_n G dX6_stroll_40 rfl ?_
      refine s_iload_n G dX6_stroll_41 rfl ?_
      refine s_iconst (v := 4) G dX6_stroll_42 (by decide) ?_
      refine s_aload_n G dX6_stroll_43 rfl ?_
      refine s_iload_n G dX6_stroll_44 rfl ?_
      refine s_iconst (v := 4) G dX6_stroll_45 (by decide) ?_
      refine iX6_80 G (r_vi (k := 4) ho9 (by decide)) (by decide) (Nat.le_of_ble_eq_true rfl) dX6_stroll_46 (fun r9 M9 hp9 => ?_)
      obtain ⟨rfl, rfl⟩ := hp9
      rw [e4 o ho (by omega)]
      refine s_iconst (v := 1) G dX6_stroll_49 (by decide) ?_
      refine s_isub G dX6_stroll_50 ?_
      refine iX6_83 G (r_setVi (k := 4) ho9 (by decide) (N (17, 0, 0) (9 * o + 4) - 1)) (by decide) (Nat.le_of_ble_eq_true rfl) dX6_stroll_51 (fun r9 M9 hp9 => ?_)
      obtain ⟨rfl, rfl⟩ := hp9
      refine s_iinc G dX6_stroll_54 rfl (by decide) rfl (nI_1 o) ?_
      refine s_goto G 2 dX6_stroll_57 (by decide) ?_
      refine ih (o + 1) (by omega) _ (fun j k hjk => ?_) (fun u hu => ?_)
      · by_cases q : j = (17, 0, 0)
        · subst q
          rw [up_at, if_neg (fun z => hjk ⟨rfl, by omega⟩)]
          exact hA _ _ hjk
        · rw [up_ne q]; exact hA _ _ hjk
      · by_cases q : u = o
        · subst q
          rw [up_at, if_pos rfl, if_pos ⟨by omega, h22, i_nle.mp h37⟩]
        · rw [up_at, if_neg (by omega), hP u hu]
          by_cases z : u < o
          · simp only [z, true_and, show u < o + 1 by omega]
          · rw [if_neg (fun y => z y.1), if_neg (fun y => absurd y.1 (by omega))]
  refine s_iconst (v := 0) G dX6_stroll_0 (by decide) ?_
  refine s_istore_n G dX6_stroll_1 (by decide) rfl ?_
  exact loop g.nv 0 (by omega) N (fun _ _ _ => rfl) (fun u _ => by rw [if_neg (fun q => absurd q.1 (by omega))])
theorem r_dart (hS : SimR N g w) (hI : Inv g) : Ret E idsR yX6_dart cX6_dart 1 none 0 0 [.ref (E.ad (14, 0, 0))] N (fun r M' => r = none ∧ SimR M' (dart9 g) w ∧ M' (14, 0, 0) = N (14, 0, 0)) := by
  have hb8 := hI.nb8
  refine Ret_of_V RX6 (by decide) rfl idsR_nd [some (.ref (E.ad (14, 0, 0)))] rfl (Nat.le_of_ble_eq_true rfl) (fun κ hE G E9 hr => ?_)
  subst hE
  refine s_aload_n G dX6_dart_0 rfl ?_
  refine gX6_25 G dX6_dart_1 ?_
  refine s_iconst (v := 1) G dX6_dart_4 (by decide) ?_
  refine s_aload_n G dX6_dart_5 rfl ?_
  refine gX6_25 G dX6_dart_6 ?_
  refine s_iconst (v := 1) G dX6_dart_9 (by decide) ?_
  refine al_20 G (show (1 : Int32) = nI 1 from rfl) (by decide) dX6_dart_10 ?_
  rw [hS.n1]
  refine s_bipush (v := 75) G dX6_dart_11 (by decide) ?_
  refine s_imul G dX6_dart_13 ?_
  refine s_bipush (v := 74) G dX6_dart_14 (by decide) ?_
  refine s_iadd G dX6_dart_16 ?_
  refine s_ldc (v := 65537) G dX6_dart_17 (by decide +kernel) ?_
  refine s_irem G dX6_dart_19 (by decide) ?_
  refine as_20 G (show (1 : Int32) = nI 1 from rfl) (by decide) dX6_dart_20 ?_
  refine V.abs (fun M1 hM1 => ?_)
  obtain ⟨g1, hg1⟩ : ∃ g1, g1 = g.set 1 0 8 (rm9 (g.i 1 0 8 * 75 + 74) 65537) := ⟨_, rfl⟩
  have hS1 : SimR M1 g1 w := by rw [hM1, hg1]; exact hS.sn1
  have hF1 : M1 (14, 0, 0) = N (14, 0, 0) := by rw [hM1, up_ne (by simp)]
  clear hM1
  have hn1 : g1.nb = g.nb := by rw [hg1]; rfl
  have hd : dart9 g = g1.set 1 0 9 (if 0 < g.nb then rm9 (rm9 (g.i 1 0 8 * 75 + 74) 65537) (nI g.nb) else -1) := by
    unfold dart9
    rw [hg1]
  refine s_aload_n G dX6_dart_21 rfl ?_
  refine gX6_25 G dX6_dart_22 ?_
  refine s_iconst (v := 2) G dX6_dart_25 (by decide) ?_
  refine s_aload_n G dX6_dart_26 rfl ?_
  refine gX6_32 G dX6_dart_27 ?_
  rw [hS1.nb, hn1]
  refine s_if_ne G 37 dX6_dart_30 (by decide) (fun h30 => ?_) (fun h30 => ?_)
  · have h0 : 0 < g.nb := by
      rcases Nat.eq_zero_or_pos g.nb with q | q
      · exact absurd (by rw [q]; decide) h30
      · exact q
    refine s_aload_n G dX6_dart_37 rfl ?_
    refine gX6_25 G dX6_dart_38 ?_
    refine s_iconst (v := 1) G dX6_dart_41 (by decide) ?_
    refine al_20 G (show (1 : Int32) = nI 1 from rfl) (by decide) dX6_dart_42 ?_
    rw [hS1.n1, show g1.i 1 0 8 = rm9 (g.i 1 0 8 * 75 + 74) 65537 by rw [hg1]; simp [gi_set]]
    refine s_aload_n G dX6_dart_43 rfl ?_
    refine gX6_32 G dX6_dart_44 ?_
    rw [hS1.nb, hn1]
    refine s_irem G dX6_dart_47 (nI_ne0 h0 (by omega)) ?_
    refine as_20 G (show (2 : Int32) = nI 2 from rfl) (by decide) dX6_dart_48 ?_
    refine s_vret G E9 hr dX6_dart_49 ⟨rfl, by rw [hd, if_pos h0]; exact hS1.sn2, by rw [up_ne (by simp)]; exact hF1⟩
  · have h0 : ¬ 0 < g.nb := fun q => absurd h30 (nI_ne0 q (by omega))
    refine s_iconst (v := -1) G dX6_dart_33 (by decide) ?_
    refine s_goto G 48 dX6_dart_34 (by decide) ?_
    refine as_20 G (show (2 : Int32) = nI 2 from rfl) (by decide) dX6_dart_48 ?_
    refine s_vret G E9 hr dX6_dart_49 ⟨rfl, by rw [hd, if_neg h0]; exact hS1.sn2, by rw [up_ne (by simp)]; exact hF1⟩
end RS
