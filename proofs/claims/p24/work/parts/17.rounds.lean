/-! ===== a whole round, and rounds ===== -/
section InvR
variable {g : GS}
theorem Inv.choose (h : Inv g) {v : Nat} (hv : v < g.nv) (hs : strl g v) : Inv (choose9 g v) := by
  have h8 := h.nb8
  unfold choose9
  cases hq : bestN g v g.nb with
  | none =>
    simp only
    split
    · obtain ⟨a1, a2, a3, a4, a5, a6, a7⟩ := h
      have e3 : ∀ u, (g.set 4 v 2 1).i 4 u 3 = g.i 4 u 3 := fun u => by rw [gi_set, if_neg (by omega)]
      have ei : ∀ kd u k, ¬ (kd = 4 ∧ k = 2) → (g.set 4 v 2 1).i kd u k = g.i kd u k := fun kd u k q => by rw [gi_set, if_neg (by omega)]
      refine ⟨a1, fun h hh => ?_, fun u hu => ?_, fun b hb => ?_, a5, a6, a7⟩
      · rw [ei _ _ _ (by omega), ei _ _ _ (by omega)]; exact a2 h hh
      · obtain ⟨b1, b2, b3, b4⟩ := a3 u hu
        rw [e3, gi_set]
        refine ⟨?_, b2, fun q => ?_, fun b hb => by rw [ei _ _ _ (by omega)]; exact b4 b hb⟩
        · split
          · exact Or.inr rfl
          · exact b1
        · split at q
          · rename_i z; rw [z.2.1]; exact hs.2
          · exact b3 q
      · obtain ⟨b1, b2, b3⟩ := a4 b hb
        exact ⟨b1, fun u => by rw [e3]; exact b2 u, by rw [ei _ _ _ (by omega)]; exact b3⟩
    · exact h
  | some o =>
    simp only
    have ho : o < g.nb := bestN_lt hq
    obtain ⟨a1, a2, a3, a4, a5, a6, a7⟩ := h
    have e3 : ∀ u, (g.set 4 v 3 (nI o)).i 4 u 3 = if u = v then nI o else g.i 4 u 3 := fun u => by
      rw [gi_set]
      by_cases q : u = v
      · rw [if_pos ⟨rfl, q, rfl⟩, if_pos q]
      · rw [if_neg (by omega), if_neg q]
    have ei : ∀ kd u k, ¬ (kd = 4 ∧ k = 3) → (g.set 4 v 3 (nI o)).i kd u k = g.i kd u k := fun kd u k q => by rw [gi_set, if_neg (by omega)]
    refine ⟨a1, fun h hh => ?_, fun u hu => ?_, fun b hb => ?_, a5, a6, a7⟩
    · rw [gi_setq, ei _ _ _ (by omega), ei _ _ _ (by omega)]; exact a2 h hh
    · obtain ⟨b1, b2, b3, b4⟩ := a3 u hu
      rw [gi_setq, ei _ _ _ (by omega), e3]
      refine ⟨b1, ?_, fun q => ?_, fun b hb => by rw [ei _ _ _ (by omega)]; exact b4 b hb⟩
      · by_cases q : u = v
        · rw [if_pos q]; exact Or.inr ⟨o, ho, rfl⟩
        · rw [if_neg q]; exact b2
      · by_cases q2 : u = v
        · rw [q2] at q
          exact absurd (q.symm.trans hs.1) (by decide)
        · rw [if_neg q2]; exact b3 q
    · obtain ⟨b1, b2, b3⟩ := a4 b hb
      have hb9 : b < g.nb := hb
      rw [gi_setq, gq_setq, ei _ _ _ (by omega)]
      have hnv : v ∉ g.q b := fun q => absurd ((b2 v).mp q).2 (by rw [hs.2]; exact fun z => absurd z.symm (nI_m1 (by omega)))
      refine ⟨?_, fun u => ?_, b3⟩
      · split
        · rename_i q
          subst q
          rw [List.nodup_append]
          refine ⟨b1, by simp, fun a ha c hc => ?_⟩
          simp only [List.mem_singleton] at hc
          subst hc
          exact fun z => hnv (z ▸ ha)
        · exact b1
      · rw [e3]
        by_cases q : b = o
        · subst q
          rw [if_pos rfl, List.mem_append, b2 u, List.mem_singleton]
          by_cases q2 : u = v
          · rw [if_pos q2]
            exact ⟨fun _ => ⟨by rw [q2]; exact hv, rfl⟩, fun _ => Or.inr q2⟩
          · rw [if_neg q2]
            exact ⟨fun z => z.resolve_right q2, fun z => Or.inl z⟩
        · rw [if_neg q, b2 u]
          by_cases q2 : u = v
          · rw [if_pos q2, q2, hs.2]
            constructor
            · rintro ⟨-, z⟩; exact absurd z.symm (nI_m1 (by omega))
            · rintro ⟨-, z⟩; exact absurd (nI_inj (by omega) (by omega) z).symm q
          · rw [if_neg q2]
            exact Iff.rfl
theorem choose_n {v : Nat} : (choose9 g v).2.2.1 = g.2.2.1 := by
  unfold choose9
  split
  · rfl
  · split <;> rfl
theorem chooseN_n : ∀ n, (chooseN g n).2.2.1 = g.2.2.1
  | 0 => rfl
  | n + 1 => by
    rw [chooseN]
    split
    · rw [choose_n, chooseN_n n]
    · exact chooseN_n n
theorem Inv.chooseN (h : Inv g) : ∀ n, n ≤ g.nv → Inv (chooseN g n)
  | 0, _ => h
  | n + 1, hn => by
    have ih := Inv.chooseN h n (by omega)
    rw [Jvm.Pilot.CFeteBoardLaw_law_r1289_786a2d.chooseN]
    split
    · rename_i hs
      exact ih.choose (by rw [nv_of (chooseN_n n)]; omega) hs
    · exact ih
theorem serveN_n {b : Nat} : ∀ (n : Nat) (g : GS), (serveN g b n).2.2.1 = g.2.2.1
  | 0, g => rfl
  | n + 1, g => by rw [serveN, serveN_n n, serve1_n]
theorem Inv.serveN {b : Nat} : ∀ (n : Nat) (g : GS), Inv g → b < g.nb → Inv (serveN g b n)
  | 0, g, h, _ => h
  | n + 1, g, h, hb => by
    rw [Jvm.Pilot.CFeteBoardLaw_law_r1289_786a2d.serveN]
    exact Inv.serveN n _ (h.srv1 hb) (by rw [nb_of serve1_n]; exact hb)
theorem serve_n {b : Nat} : (serve9 g b).2.2.1 = g.2.2.1 := by
  unfold serve9
  split
  · exact serveN_n _ g
  · rfl
theorem Inv.serve (h : Inv g) {b : Nat} (hb : b < g.nb) : Inv (serve9 g b) := by
  unfold serve9
  split
  · exact Inv.serveN _ g h hb
  · exact h
theorem servesN_n : ∀ n, (servesN g n).2.2.1 = g.2.2.1
  | 0 => rfl
  | n + 1 => by rw [servesN, serve_n, servesN_n n]
theorem Inv.servesN (h : Inv g) : ∀ n, n ≤ g.nb → Inv (servesN g n)
  | 0, _ => h
  | n + 1, hn => by
    rw [Jvm.Pilot.CFeteBoardLaw_law_r1289_786a2d.servesN]
    exact (Inv.servesN h n (by omega)).serve (by rw [nb_of (servesN_n n)]; omega)
theorem Inv.of_h3 {g' : GS} (h : Inv g) (hn : g'.2 = g.2) (hi : ∀ kd a k, kd ≠ 3 → g'.i kd a k = g.i kd a k) (hh : ∀ a, a < g.nh → (g'.i 3 a 1 = -1 ∨ ∃ b, b < g.nb ∧ g'.i 3 a 1 = nI b) ∧ 0 < g'.i 3 a 0 ∧ g'.i 3 a 0 ≤ 24) : Inv g' := by
  have e0 : g'.nb = g.nb := congrFun (congrArg (fun z => z.2.1) hn) 0
  have e1 : g'.nh = g.nh := congrFun (congrArg (fun z => z.2.1) hn) 1
  have e2 : g'.nv = g.nv := congrFun (congrArg (fun z => z.2.1) hn) 2
  have e3 : g'.bd = g.bd := congrArg (fun z => z.2.2) hn
  have e4 : g'.q = g.q := congrArg (fun z => z.1) hn
  obtain ⟨a1, a2, a3, a4, a5, a6, a7⟩ := h
  refine ⟨by rw [e0, e1, e2]; exact a1, fun h hh9 => ?_, fun u hu => ?_, fun b hb => ?_, by rw [e3]; exact a5, by rw [e3, e2]; exact a6, by rw [e3]; exact a7⟩
  · rw [e1] at hh9; rw [e0]; exact hh h hh9
  · rw [e2] at hu
    rw [hi _ _ _ (by decide), hi _ _ _ (by decide), e0]
    refine ⟨(a3 u hu).1, (a3 u hu).2.1, (a3 u hu).2.2.1, fun b hb => ?_⟩
    rw [hi _ _ _ (by decide)]
    exact (a3 u hu).2.2.2 b hb
  · rw [e0] at hb
    rw [e4, e2, hi _ _ _ (by decide)]
    exact ⟨(a4 b hb).1, fun u => by rw [hi _ _ _ (by decide)]; exact (a4 b hb).2.1 u, (a4 b hb).2.2⟩
theorem st_rng {x : Int32} (h : 0 ≤ x ∧ x ≤ 24) : 0 < min9 (x + 2) 24 ∧ min9 (x + 2) 24 ≤ 24 := by
  unfold min9
  obtain ⟨h1, h2⟩ := h
  obtain ⟨j, hj, rfl⟩ := nI_of2 (M := 24) (n := 24) (by decide) (i_nlt.mpr h1) h2
  have : ∀ j, j ≤ 24 → (0 : Int32) < (if 24 < nI j + 2 then 24 else nI j + 2) ∧ (if 24 < nI j + 2 then 24 else nI j + 2) ≤ (24 : Int32) := by decide +kernel
  exact this j hj
theorem st_dec {x : Int32} (h : 0 < x ∧ x ≤ 24) : 0 ≤ x - 1 ∧ x - 1 ≤ 24 := by
  obtain ⟨h1, h2⟩ := h
  obtain ⟨j, hj, rfl⟩ := nI_of2 (M := 24) (n := 24) (by decide) (i_nlt.mpr (by rw [Int32.le_iff_toInt_le]; rw [Int32.lt_iff_toInt_lt] at h1; omega)) h2
  have : ∀ j, j ≤ 24 → (0 : Int32) < nI j → (0 : Int32) ≤ nI j - 1 ∧ nI j - 1 ≤ (24 : Int32) := by decide +kernel
  exact this j hj h1
theorem tire_n {h : Nat} : (tire9 g h).2 = g.2 := by
  unfold tire9
  split
  · rfl
  · simp only
    split <;> rfl
theorem Inv.tire (hI : Inv g) {h : Nat} (hh : h < g.nh) : Inv (tire9 g h) := by
  have hs := hI.hst hh
  have hd := st_dec hs
  refine hI.of_h3 tire_n (fun kd a k q => ?_) (fun a ha => ?_)
  · unfold tire9 rest9
    split
    · rw [gi_set, if_neg (by omega)]
    · simp only
      split <;> simp [gi_set, q]
  · by_cases q : a = h
    · subst q
      unfold tire9 rest9
      split
      · rename_i hat
        rw [gi_set, if_neg (by omega), gi_set, if_pos ⟨rfl, rfl, rfl⟩]
        exact ⟨Or.inl hat, st_rng ⟨by have := hs.1; rw [Int32.le_iff_toInt_le]; rw [Int32.lt_iff_toInt_lt] at this; omega, hs.2⟩⟩
      · simp only
        split
        · rename_i hpos
          have e1 : ((g.set 3 a 2 (g.i 3 a 2 + 1)).set 3 a 0 (g.i 3 a 0 - 1)).i 3 a 1 = g.i 3 a 1 := by simp [gi_set]
          have e0 : ((g.set 3 a 2 (g.i 3 a 2 + 1)).set 3 a 0 (g.i 3 a 0 - 1)).i 3 a 0 = g.i 3 a 0 - 1 := by simp [gi_set]
          rw [e1]
          rw [e0] at hpos ⊢
          exact ⟨hI.hat ha, hpos, hd.2⟩
        · have e0 : (((g.set 3 a 2 (g.i 3 a 2 + 1)).set 3 a 0 (g.i 3 a 0 - 1)).set 3 a 1 (-1)).i 3 a 0 = g.i 3 a 0 - 1 := by simp [gi_set]
          rw [e0]
          refine ⟨Or.inl (by simp [gi_set]), ?_⟩
          rw [gi_set, if_pos ⟨rfl, rfl, rfl⟩]
          exact st_rng hd
    · have e1 : ∀ k, (tire9 g h).i 3 a k = g.i 3 a k := by
        intro k
        unfold tire9 rest9
        split
        · rw [gi_set, if_neg (by omega)]
        · simp only
          split <;> simp [gi_set, q]
      rw [e1, e1]
      exact ⟨hI.hat ha, hI.hst ha⟩
theorem tiresN_n : ∀ n, (tiresN g n).2 = g.2
  | 0 => rfl
  | n + 1 => by rw [tiresN, tire_n, tiresN_n n]
theorem Inv.tiresN (h : Inv g) : ∀ n, n ≤ g.nh → Inv (tiresN g n)
  | 0, _ => h
  | n + 1, hn => by
    rw [Jvm.Pilot.CFeteBoardLaw_law_r1289_786a2d.tiresN]
    exact (Inv.tiresN h n (by omega)).tire (by rw [nh_of (congrArg (fun z => z.2.1) (tiresN_n n))]; omega)
theorem dart_n : (dart9 g).2 = g.2 := rfl
theorem Inv.dart (h : Inv g) : Inv (dart9 g) := h.f1.f1
theorem endHour_n : (endHour9 g).2.2.1 = g.2.2.1 := by
  show ((markN g 0 g.bd).setbd []).2.2.1 = g.2.2.1
  exact congrArg (fun z => z.2.1) (markN_n g.bd g 0)
end InvR
/-- the round's pieces -/
def rnd1 (g : GS) : GS := if rm9 (g.i 1 0 7) 12 = 0 then dart9 g else g
def rnd2 (g : GS) : GS := chooseN (rnd1 g) (rnd1 g).nv
def rnd3 (g : GS) : GS := servesN (rnd2 g) (rnd2 g).nb
def rnd4 (g : GS) : GS := tiresN (rnd3 g) (rnd3 g).nh
def rnd5 (g : GS) : GS := if rm9 ((rnd4 g).i 1 0 7) 12 = 11 then endHour9 (rnd4 g) else rnd4 g
theorem round_eq (g : GS) : round9 g = (rnd5 g).set 1 0 7 ((rnd5 g).i 1 0 7 + 1) := rfl
theorem rnd1_n {g : GS} : (rnd1 g).2.2.1 = g.2.2.1 := by unfold rnd1; split <;> rfl
theorem rnd2_n {g : GS} : (rnd2 g).2.2.1 = g.2.2.1 := (chooseN_n _).trans rnd1_n
theorem rnd3_n {g : GS} : (rnd3 g).2.2.1 = g.2.2.1 := (servesN_n _).trans rnd2_n
theorem rnd4_n {g : GS} : (rnd4 g).2.2.1 = g.2.2.1 := (congrArg (fun z => z.2.1) (tiresN_n _)).trans rnd3_n
theorem rnd5_n {g : GS} : (rnd5 g).2.2.1 = g.2.2.1 := by
  unfold rnd5
  split
  · exact endHour_n.trans rnd4_n
  · exact rnd4_n
theorem round_n {g : GS} : (round9 g).2.2.1 = g.2.2.1 := rnd5_n
theorem Inv.r1 {g : GS} (h : Inv g) : Inv (rnd1 g) := by unfold rnd1; split; exact h.dart; exact h
theorem Inv.r2 {g : GS} (h : Inv g) : Inv (rnd2 g) := h.r1.chooseN _ (Nat.le_refl _)
theorem Inv.r3 {g : GS} (h : Inv g) : Inv (rnd3 g) := h.r2.servesN _ (Nat.le_refl _)
theorem Inv.r4 {g : GS} (h : Inv g) : Inv (rnd4 g) := h.r3.tiresN _ (Nat.le_refl _)
theorem Inv.r5 {g : GS} (h : Inv g) : Inv (rnd5 g) := by unfold rnd5; split; exact h.r4.endHour; exact h.r4
theorem Inv.round {g : GS} (h : Inv g) : Inv (round9 g) := h.r5.f1
theorem rounds_n {g : GS} : ∀ n, (rounds9 g n).2.2.1 = g.2.2.1
  | 0 => rfl
  | n + 1 => by rw [rounds9, round_n, rounds_n n]
theorem Inv.rounds {g : GS} (h : Inv g) : ∀ n, Inv (rounds9 g n)
  | 0 => h
  | n + 1 => (Inv.rounds h n).round
section Rd
variable {E : EX} {M : Mem} {f : Nat} {g : GS}
theorem c_round (hf : f < 2) (hS : SimC f M g) (hI : Inv g) : Ret E idsC yX2_playRound cX2_playRound 2 none 4 97 [.ref (E.ad (1, f, 0))] M (fun r M' => r = none ∧ SimC f M' (round9 g) ∧ Fr f g.2.2.1 M M') := by
  have hI1 := hI.r1
  have hI2 := hI.r2
  have hI3 := hI.r3
  have hI4 := hI.r4
  refine Ret_of_V RX2 (by decide) rfl idsC_nd [some (.ref (E.ad (1, f, 0))), none] rfl (Nat.le_of_ble_eq_true rfl) (fun κ hE G E9 hr => ?_)
  subst hE
  have p5 : ∀ M5 : Mem, SimC f M5 (rnd5 g) → Fr f g.2.2.1 M M5 → V κ idsC 2 M5 [some (.ref (κ.E.ad (1, f, 0))), none] [] 117 := by
    intro M5 hS5 hF5
    refine s_aload_n G dX2_playRound_117 rfl ?_
    refine s_dup G dX2_playRound_118 rfl ?_
    refine gX2_55 G (by assumption) dX2_playRound_119 ?_
    rw [hS5.num (k := 7) (by decide) (by decide)]
    refine s_iconst (v := 1) G dX2_playRound_122 (by decide) ?_
    refine s_iadd G dX2_playRound_123 ?_
    refine pX2_55 G (by assumption) dX2_playRound_124 ?_
    refine s_vret G E9 hr dX2_playRound_127 ⟨rfl, by rw [round_eq]; exact hS5.f1 (by decide), Fr.f1 hF5⟩
  have p4 : ∀ M4 : Mem, SimC f M4 (rnd4 g) → Fr f g.2.2.1 M M4 → V κ idsC 2 M4 [some (.ref (κ.E.ad (1, f, 0))), none] [] 101 := by
    intro M4 hS4 hF4
    refine s_aload_n G dX2_playRound_101 rfl ?_
    refine gX2_55 G (by assumption) dX2_playRound_102 ?_
    rw [hS4.num (k := 7) (by decide) (by decide)]
    refine s_bipush (v := 12) G dX2_playRound_105 (by decide) ?_
    refine s_irem G dX2_playRound_107 (by decide) ?_
    refine s_bipush (v := 11) G dX2_playRound_108 (by decide) ?_
    refine s_icmp_ne G 117 dX2_playRound_110 (by decide) (fun h110 => ?_) (fun h110 => ?_)
    · exact p5 M4 (by unfold rnd5; rw [if_neg h110]; exact hS4) hF4
    · refine s_aload_n G dX2_playRound_113 rfl ?_
      refine iX2_129 G (by assumption) (c_endHour hf hS4 hI4) (by decide) (Nat.le_of_ble_eq_true rfl) dX2_playRound_114 (fun r9 M9 hp9 => ?_)
      obtain ⟨rfl, hS5, hF5⟩ := hp9
      exact p5 _ (by unfold rnd5; rw [if_pos h110]; exact hS5) (hF4.trans (by rw [← rnd4_n (g := g)]; exact hF5))
  have p3 : ∀ n h, h + n = (rnd3 g).nh → ∀ M3 : Mem, SimC f M3 (tiresN (rnd3 g) h) → Fr f g.2.2.1 M M3 → V κ idsC 2 M3 [some (.ref (κ.E.ad (1, f, 0))), some (.int (nI h))] [] 82 := by
    intro n
    induction n with
    | zero =>
      intro h hh M3 hS3 hF3
      have hh : h = (rnd3 g).nh := by omega
      subst hh
      have e : (tiresN (rnd3 g) (rnd3 g).nh).nh = (rnd3 g).nh := nh_of (congrArg (fun z => z.2.1) (tiresN_n _))
      refine s_iload_n G dX2_playRound_82 rfl ?_
      refine s_aload_n G dX2_playRound_83 rfl ?_
      refine gX2_49 G (by assumption) dX2_playRound_84 ?_
      rw [hS3.nh, e]
      refine s_icmp_ge G 101 dX2_playRound_87 (by decide) (fun h87 => ?_) (fun h87 => ?_)
      · refine V.drop1 1 ?_
        exact p4 M3 hS3 hF3
      · exact absurd (Int32.le_refl _) h87
    | succ n ih =>
      intro h hh M3 hS3 hF3
      have hn9 := congrArg (fun z => z.2.1) (tiresN_n (g := rnd3 g) h)
      have e : (tiresN (rnd3 g) h).nh = (rnd3 g).nh := nh_of hn9
      have hl : h < (rnd3 g).nh := by omega
      have h12 := hI3.nh12
      refine s_iload_n G dX2_playRound_82 rfl ?_
      refine s_aload_n G dX2_playRound_83 rfl ?_
      refine gX2_49 G (by assumption) dX2_playRound_84 ?_
      rw [hS3.nh, e]
      refine s_icmp_ge G 101 dX2_playRound_87 (by decide) (fun h87 => ?_) (fun h87 => ?_)
      · exact absurd h87 (nI_ge hl (by omega))
      refine s_aload_n G dX2_playRound_90 rfl ?_
      refine s_iload_n G dX2_playRound_91 rfl ?_
      refine iX2_126 G (by assumption) (c_tire (h := h) hf hS3 (hI3.tiresN h (by omega)) (by rw [e]; exact hl)) (by decide) (Nat.le_of_ble_eq_true rfl) dX2_playRound_92 (fun r9 M9 hp9 => ?_)
      obtain ⟨rfl, hS4, hF4⟩ := hp9
      refine s_iinc G dX2_playRound_95 rfl (by decide) rfl (nI_1 h) ?_
      refine s_goto G 82 dX2_playRound_98 (by decide) ?_
      exact ih (h + 1) (by omega) _ hS4 (hF3.trans (by rw [← rnd3_n (g := g), show (rnd3 g).2.2.1 = (tiresN (rnd3 g) h).2.2.1 from hn9.symm]; exact hF4))
  have p2 : ∀ n b, b + n = (rnd2 g).nb → ∀ M2 : Mem, SimC f M2 (servesN (rnd2 g) b) → Fr f g.2.2.1 M M2 → V κ idsC 2 M2 [some (.ref (κ.E.ad (1, f, 0))), some (.int (nI b))] [] 49 := by
    intro n
    induction n with
    | zero =>
      intro b hb M2 hS2 hF2
      have hb : b = (rnd2 g).nb := by omega
      subst hb
      have e : (servesN (rnd2 g) (rnd2 g).nb).nb = (rnd2 g).nb := nb_of (servesN_n _)
      refine s_iload_n G dX2_playRound_49 rfl ?_
      refine s_aload_n G dX2_playRound_50 rfl ?_
      refine gX2_46 G (by assumption) dX2_playRound_51 ?_
      rw [hS2.nb, e]
      refine s_icmp_ge G 80 dX2_playRound_54 (by decide) (fun h54 => ?_) (fun h54 => ?_)
      · refine s_iconst (v := 0) G dX2_playRound_80 (by decide) ?_
        refine s_istore_n G dX2_playRound_81 (by decide) rfl ?_
        exact p3 (rnd3 g).nh 0 (by omega) M2 hS2 hF2
      · exact absurd (Int32.le_refl _) h54
    | succ n ih =>
      intro b hb M2 hS2 hF2
      have e : (servesN (rnd2 g) b).nb = (rnd2 g).nb := nb_of (servesN_n _)
      have hl : b < (rnd2 g).nb := by omega
      have hl2 : b < (servesN (rnd2 g) b).nb := by rw [e]; exact hl
      have h8 := hI2.nb8
      have hb8 : b < 8 := by omega
      have hIs := hI2.servesN b (by omega)
      refine s_iload_n G dX2_playRound_49 rfl ?_
      refine s_aload_n G dX2_playRound_50 rfl ?_
      refine gX2_46 G (by assumption) dX2_playRound_51 ?_
      rw [hS2.nb, e]
      refine s_icmp_ge G 80 dX2_playRound_54 (by decide) (fun h54 => ?_) (fun h54 => ?_)
      · exact absurd h54 (nI_ge hl (by omega))
      refine s_aload_n G dX2_playRound_57 rfl ?_
      refine gX2_11 G (by assumption) dX2_playRound_58 ?_
      refine s_iload_n G dX2_playRound_61 rfl ?_
      refine ar_6 G (by assumption) rfl (by first | assumption | omega) dX2_playRound_62 ?_
      refine iX2_120 G (by assumption) (by assumption) (c_isOpenG hf hS2 hIs hl2) (by decide) (Nat.le_of_ble_eq_true rfl) dX2_playRound_63 (fun r9 M9 hp9 => ?_)
      obtain ⟨rfl, rfl⟩ := hp9
      refine s_if_eq G 74 dX2_playRound_66 (by decide) (fun h66 => ?_) (fun h66 => ?_)
      · have ho : ¬ opn (servesN (rnd2 g) b) b := fun q => by rw [if_pos q] at h66; exact absurd h66 (by decide)
        refine s_iinc G dX2_playRound_74 rfl (by decide) rfl (nI_1 b) ?_
        refine s_goto G 49 dX2_playRound_77 (by decide) ?_
        refine ih (b + 1) (by omega) _ ?_ hF2
        rw [servesN, serve9, if_neg ho]
        exact hS2
      · have ho : opn (servesN (rnd2 g) b) b := Decidable.byContradiction (fun q => h66 (by rw [if_neg q]))
        refine s_aload_n G dX2_playRound_69 rfl ?_
        refine s_iload_n G dX2_playRound_70 rfl ?_
        refine iX2_123 G (by assumption) (c_serve hf hS2 hIs hl2) (by decide) (Nat.le_of_ble_eq_true rfl) dX2_playRound_71 (fun r9 M9 hp9 => ?_)
        obtain ⟨rfl, hS3, hF3⟩ := hp9
        refine s_iinc G dX2_playRound_74 rfl (by decide) rfl (nI_1 b) ?_
        refine s_goto G 49 dX2_playRound_77 (by decide) ?_
        refine ih (b + 1) (by omega) _ ?_ (hF2.trans (by rw [← rnd2_n (g := g), ← servesN_n (g := rnd2 g) b]; exact hF3))
        rw [servesN, serve9, if_pos ho]
        exact hS3
  have p1 : ∀ n v, v + n = (rnd1 g).nv → ∀ M1 : Mem, SimC f M1 (chooseN (rnd1 g) v) → Fr f g.2.2.1 M M1 → V κ idsC 2 M1 [some (.ref (κ.E.ad (1, f, 0))), some (.int (nI v))] [] 16 := by
    intro n
    induction n with
    | zero =>
      intro v hv M1 hS1 hF1
      have hv : v = (rnd1 g).nv := by omega
      subst hv
      have e : (chooseN (rnd1 g) (rnd1 g).nv).nv = (rnd1 g).nv := nv_of (chooseN_n _)
      refine s_iload_n G dX2_playRound_16 rfl ?_
      refine s_aload_n G dX2_playRound_17 rfl ?_
      refine gX2_52 G (by assumption) dX2_playRound_18 ?_
      rw [hS1.nv, e]
      refine s_icmp_ge G 47 dX2_playRound_21 (by decide) (fun h21 => ?_) (fun h21 => ?_)
      · refine s_iconst (v := 0) G dX2_playRound_47 (by decide) ?_
        refine s_istore_n G dX2_playRound_48 (by decide) rfl ?_
        exact p2 (rnd2 g).nb 0 (by omega) M1 hS1 hF1
      · exact absurd (Int32.le_refl _) h21
    | succ n ih =>
      intro v hv M1 hS1 hF1
      have e : (chooseN (rnd1 g) v).nv = (rnd1 g).nv := nv_of (chooseN_n _)
      have hl : v < (rnd1 g).nv := by omega
      have hl2 : v < (chooseN (rnd1 g) v).nv := by rw [e]; exact hl
      have h16 := hI1.nv16
      have hv16 : v < 16 := by omega
      have hIs := hI1.chooseN v (by omega)
      refine s_iload_n G dX2_playRound_16 rfl ?_
      refine s_aload_n G dX2_playRound_17 rfl ?_
      refine gX2_52 G (by assumption) dX2_playRound_18 ?_
      rw [hS1.nv, e]
      refine s_icmp_ge G 47 dX2_playRound_21 (by decide) (fun h21 => ?_) (fun h21 => ?_)
      · exact absurd h21 (nI_ge hl (by omega))
      refine s_aload_n G dX2_playRound_24 rfl ?_
      refine gX2_25 G (by assumption) dX2_playRound_25 ?_
      refine s_iload_n G dX2_playRound_28 rfl ?_
      refine ar_8 G (by assumption) rfl (by first | assumption | omega) dX2_playRound_29 ?_
      refine iX2_113 G (by assumption) (by assumption) (c_strollsG hf hS1 hIs hl2) (by decide) (Nat.le_of_ble_eq_true rfl) dX2_playRound_30 (fun r9 M9 hp9 => ?_)
      obtain ⟨rfl, rfl⟩ := hp9
      refine s_if_eq G 41 dX2_playRound_33 (by decide) (fun h33 => ?_) (fun h33 => ?_)
      · have ho : ¬ strl (chooseN (rnd1 g) v) v := fun q => by rw [if_pos q] at h33; exact absurd h33 (by decide)
        refine s_iinc G dX2_playRound_41 rfl (by decide) rfl (nI_1 v) ?_
        refine s_goto G 16 dX2_playRound_44 (by decide) ?_
        refine ih (v + 1) (by omega) _ ?_ hF1
        rw [chooseN]
        rw [if_neg ho]
        exact hS1
      · have ho : strl (chooseN (rnd1 g) v) v := Decidable.byContradiction (fun q => h33 (by rw [if_neg q]))
        refine s_aload_n G dX2_playRound_36 rfl ?_
        refine s_iload_n G dX2_playRound_37 rfl ?_
        refine iX2_117 G (by assumption) (c_choose hf hS1 hIs hl2 ho.2) (by decide) (Nat.le_of_ble_eq_true rfl) dX2_playRound_38 (fun r9 M9 hp9 => ?_)
        obtain ⟨rfl, hS2, hF2⟩ := hp9
        refine s_iinc G dX2_playRound_41 rfl (by decide) rfl (nI_1 v) ?_
        refine s_goto G 16 dX2_playRound_44 (by decide) ?_
        refine ih (v + 1) (by omega) _ ?_ (hF1.trans (by rw [← rnd1_n (g := g), ← chooseN_n (g := rnd1 g) v]; exact hF2))
        rw [chooseN]
        rw [if_pos ho]
        exact hS2
  have p0 : ∀ M1 : Mem, SimC f M1 (rnd1 g) → Fr f g.2.2.1 M M1 → V κ idsC 2 M1 [some (.ref (κ.E.ad (1, f, 0))), none] [] 14 := by
    intro M1 hS1 hF1
    refine s_iconst (v := 0) G dX2_playRound_14 (by decide) ?_
    refine s_istore_n G dX2_playRound_15 (by decide) rfl ?_
    exact p1 (rnd1 g).nv 0 (by omega) M1 hS1 hF1
  refine s_aload_n G dX2_playRound_0 rfl ?_
  refine gX2_55 G (by assumption) dX2_playRound_1 ?_
  rw [hS.num (k := 7) (by decide) (by decide)]
  refine s_bipush (v := 12) G dX2_playRound_4 (by decide) ?_
  refine s_irem G dX2_playRound_6 (by decide) ?_
  refine s_if_ne G 14 dX2_playRound_7 (by decide) (fun h7 => ?_) (fun h7 => ?_)
  · exact p0 M (by unfold rnd1; rw [if_neg h7]; exact hS) Fr.rf
  · refine s_aload_n G dX2_playRound_10 rfl ?_
    refine iX2_110 G (by assumption) (c_dart hf hS hI) (by decide) (Nat.le_of_ble_eq_true rfl) dX2_playRound_11 (fun r9 M9 hp9 => ?_)
    obtain ⟨rfl, hS1, hF1⟩ := hp9
    exact p0 _ (by unfold rnd1; rw [if_pos h7]; exact hS1) hF1
theorem c_goOn {k : Nat} (hf : f < 2) (hS : SimC f M g) (hI : Inv g) (hk : k < 2 ^ 31) : Ret E idsC yX2_goOn cX2_goOn 4 (some .int) 5 118 [.ref (E.ad (1, f, 0)), .int (nI k)] M (fun r M' => r = some (.int ((rounds9 g k).i 1 0 10 - g.i 1 0 10)) ∧ SimC f M' (rounds9 g k) ∧ Fr f g.2.2.1 M M') := by
  refine Ret_of_V RX2 (by decide) rfl idsC_nd [some (.ref (E.ad (1, f, 0))), some (.int (nI k)), none, none] rfl (Nat.le_of_ble_eq_true rfl) (fun κ hE G E9 hr => ?_)
  subst hE
  have loop : ∀ n i, i + n = k → ∀ M1 : Mem, SimC f M1 (rounds9 g i) → Fr f g.2.2.1 M M1 → V κ idsC 4 M1 [some (.ref (κ.E.ad (1, f, 0))), some (.int (nI k)), some (.int (g.i 1 0 10)), some (.int (nI i))] [] 7 := by
    intro n
    induction n with
    | zero =>
      intro i hi M1 hS1 hF1
      have hi : i = k := by omega
      subst hi
      refine s_iload_n G dX2_goOn_7 rfl ?_
      refine s_iload_n G dX2_goOn_8 rfl ?_
      refine s_icmp_ge G 22 dX2_goOn_9 (by decide) (fun h9 => ?_) (fun h9 => ?_)
      · refine s_aload_n G dX2_goOn_22 rfl ?_
        refine gX2_58 G (by assumption) dX2_goOn_23 ?_
        rw [hS1.num (k := 10) (by decide) (by decide)]
        refine s_iload_n G dX2_goOn_26 rfl ?_
        refine s_isub G dX2_goOn_27 ?_
        refine s_iret G E9 hr dX2_goOn_28 ⟨rfl, hS1, hF1⟩
      · exact absurd (Int32.le_refl _) h9
    | succ n ih =>
      intro i hi M1 hS1 hF1
      refine s_iload_n G dX2_goOn_7 rfl ?_
      refine s_iload_n G dX2_goOn_8 rfl ?_
      refine s_icmp_ge G 22 dX2_goOn_9 (by decide) (fun h9 => ?_) (fun h9 => ?_)
      · exact absurd h9 (nI_ge (by omega) hk)
      refine s_aload_n G dX2_goOn_12 rfl ?_
      refine iX2_107 G (by assumption) (c_round hf hS1 (hI.rounds i)) (by decide) (Nat.le_of_ble_eq_true rfl) dX2_goOn_13 (fun r9 M9 hp9 => ?_)
      obtain ⟨rfl, hS2, hF2⟩ := hp9
      refine s_iinc G dX2_goOn_16 rfl (by decide) rfl (nI_1 i) ?_
      refine s_goto G 7 dX2_goOn_19 (by decide) ?_
      exact ih (i + 1) (by omega) _ hS2 (hF1.trans (by rw [← rounds_n (g := g) i]; exact hF2))
  refine s_aload_n G dX2_goOn_0 rfl ?_
  refine gX2_58 G (by assumption) dX2_goOn_1 ?_
  rw [hS.num (k := 10) (by decide) (by decide)]
  refine s_istore_n G dX2_goOn_4 (by decide) rfl ?_
  refine s_iconst (v := 0) G dX2_goOn_5 (by decide) ?_
  refine s_istore_n G dX2_goOn_6 (by decide) rfl ?_
  exact loop k 0 (by omega) M hS Fr.rf
end Rd
