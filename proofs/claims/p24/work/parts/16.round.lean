/-! ===== the end of an hour, a round, rounds ===== -/
section Cg
variable {f : Nat} {M : Mem} {g g' : GS}
theorem SimC.congr (h : SimC f M g) (hn : g'.2.2 = g.2.2) (hi : ∀ kd a k, g'.i kd a k = g.i kd a k) (hq : ∀ b, b < g.nb → g'.q b = g.q b) : SimC f M g' := by
  have e0 : g'.nb = g.nb := congrFun (congrArg Prod.fst hn) 0
  have e1 : g'.nh = g.nh := congrFun (congrArg Prod.fst hn) 1
  have e2 : g'.nv = g.nv := congrFun (congrArg Prod.fst hn) 2
  have e3 : g'.bd = g.bd := congrArg Prod.snd hn
  have e4 : ∀ b, wk g' b = wk g b := fun b => wk_congr b e1 (fun a _ => hi _ _ _)
  obtain ⟨⟨h1, h2, h3, h4⟩, h5, h6, h7, h8, h9⟩ := h
  refine ⟨⟨by rw [e0]; exact h1, by rw [e1]; exact h2, by rw [e2]; exact h3, fun k a b => by rw [hi]; exact h4 k a b⟩, fun b hb => ?_, fun a ha k hk => ?_, fun a ha => ⟨fun k hk => ?_, fun b hb => ?_⟩, by rw [e3]; exact h8, fun l y hy => h9 l y (by rw [← e3]; exact hy)⟩
  · rw [e0] at hb
    obtain ⟨a1, a2, a3, a4⟩ := h5 b hb
    rw [hq b hb, e4]
    exact ⟨fun k c d => by rw [hi]; exact a1 k c d, a2, a3, a4⟩
  · rw [e1] at ha; rw [hi]; exact h6 a ha k hk
  · rw [e2] at ha; rw [hi]; exact (h7 a ha).1 k hk
  · rw [e2] at ha; rw [hi]; exact (h7 a ha).2 b hb
theorem Inv.congr (h : Inv g) (hn : g'.2.2 = g.2.2) (hi : ∀ kd a k, g'.i kd a k = g.i kd a k) (hq : ∀ b, b < g.nb → g'.q b = g.q b) : Inv g' := by
  have e0 : g'.nb = g.nb := congrFun (congrArg Prod.fst hn) 0
  have e1 : g'.nh = g.nh := congrFun (congrArg Prod.fst hn) 1
  have e2 : g'.nv = g.nv := congrFun (congrArg Prod.fst hn) 2
  have e3 : g'.bd = g.bd := congrArg Prod.snd hn
  obtain ⟨a1, a2, a3, a4, a5, a6, a7⟩ := h
  refine ⟨by rw [e0, e1, e2]; exact a1, fun h hh => ?_, fun u hu => ?_, fun b hb => ?_, by rw [e3]; exact a5, by rw [e3, e2]; exact a6, by rw [e3]; exact a7⟩
  · rw [e1] at hh; simp only [hi, e0]; exact a2 h hh
  · rw [e2] at hu; simp only [hi, e0]; exact a3 u hu
  · rw [e0] at hb; rw [hq b hb]; simp only [hi, e2]; exact a4 b hb
end Cg
def mark1 (g : GS) (k : Nat) (x : Nat × Nat × Int32) : GS := (g.set 4 x.1 5 (g.i 4 x.1 5 + (3 - nI k))).set 4 x.1 0 (if k = 0 then g.i 4 x.1 0 + 5 else g.i 4 x.1 0)
theorem Inv.mark1 {g : GS} (h : Inv g) {k : Nat} {x : Nat × Nat × Int32} : Inv (mark1 g k x) := (h.v4 (by decide) (by decide)).v4 (by decide) (by decide)
def closedAt (g : GS) (u : Nat) : Bool := decide (∃ b, b < g.nb ∧ g.i 4 u 3 = nI b ∧ ¬ opn g b)
def clrN (g : GS) (n : Nat) : GS := (fun p q r => if p = 4 ∧ r = 3 ∧ q < n ∧ closedAt g q = true then -1 else g.1 p q r, fun b => (g.q b).filter (fun u => !(decide (u < n) && closedAt g u)), g.2.2)
theorem clrN_i {g : GS} {n p q r : Nat} : (clrN g n).i p q r = if p = 4 ∧ r = 3 ∧ q < n ∧ closedAt g q = true then -1 else g.i p q r := rfl
theorem clrN_0 {g : GS} : clrN g 0 = g := by
  unfold clrN
  refine Prod.ext ?_ (Prod.ext ?_ rfl)
  · funext p q r
    simp
  · funext b
    simp [GS.q]
theorem clrN_s {g : GS} {n : Nat} : clrN g (n + 1) = if closedAt g n = true then leaveQ (clrN g n) n else clrN g n := by
  by_cases hc : closedAt g n = true
  · rw [if_pos hc]
    refine Prod.ext ?_ (Prod.ext ?_ rfl)
    · funext p q r
      show (if p = 4 ∧ r = 3 ∧ q < n + 1 ∧ closedAt g q = true then -1 else g.1 p q r) = (if p = 4 ∧ q = n ∧ r = 3 then -1 else (if p = 4 ∧ r = 3 ∧ q < n ∧ closedAt g q = true then -1 else g.1 p q r))
      by_cases hq : q = n
      · subst hq
        by_cases h4 : p = 4 ∧ r = 3
        · rw [if_pos ⟨h4.1, h4.2, Nat.lt_succ_self q, hc⟩, if_pos ⟨h4.1, rfl, h4.2⟩]
        · rw [if_neg (fun z => h4 ⟨z.1, z.2.1⟩), if_neg (fun z => h4 ⟨z.1, z.2.2⟩), if_neg (fun z => h4 ⟨z.1, z.2.1⟩)]
      · rw [if_neg (c := p = 4 ∧ q = n ∧ r = 3) (fun z => hq z.2.1)]
        have : (q < n + 1) ↔ (q < n) := by omega
        simp only [this]
    · funext b
      show (g.q b).filter (fun u => !(decide (u < n + 1) && closedAt g u)) = ((g.q b).filter (fun u => !(decide (u < n) && closedAt g u))).filter (fun u => u != n)
      rw [List.filter_filter]
      congr 1
      funext u
      by_cases hu : u = n
      · subst hu
        simp [hc]
      · have : (u < n + 1) ↔ (u < n) := by omega
        simp [this, hu]
  · rw [if_neg hc]
    have hc : closedAt g n = false := by simpa using hc
    refine Prod.ext ?_ (Prod.ext ?_ rfl)
    · funext p q r
      show (if p = 4 ∧ r = 3 ∧ q < n + 1 ∧ closedAt g q = true then -1 else g.1 p q r) = (if p = 4 ∧ r = 3 ∧ q < n ∧ closedAt g q = true then -1 else g.1 p q r)
      by_cases hq : q = n
      · subst hq
        simp [hc]
      · have : (q < n + 1) ↔ (q < n) := by omega
        simp only [this]
    · funext b
      show (g.q b).filter (fun u => !(decide (u < n + 1) && closedAt g u)) = (g.q b).filter (fun u => !(decide (u < n) && closedAt g u))
      congr 1
      funext u
      by_cases hu : u = n
      · subst hu
        simp [hc]
      · have : (u < n + 1) ↔ (u < n) := by omega
        simp [this]
theorem Inv.clrN {g : GS} (h : Inv g) : ∀ n, Inv (clrN g n)
  | 0 => by rw [clrN_0]; exact h
  | n + 1 => by
    rw [clrN_s]
    split
    · exact (Inv.clrN h n).leave
    · exact Inv.clrN h n
theorem clr_q {g : GS} (h : Inv g) (b : Nat) (hb : b < g.nb) : (clear9 g).q b = (clrN g g.nv).q b := by
  show (if b < g.nb ∧ ¬ opn g b then [] else g.q b) = (g.q b).filter (fun u => !(decide (u < g.nv) && closedAt g u))
  have h8 := h.nb8
  have key : ∀ u, u ∈ g.q b → (u < g.nv ∧ (closedAt g u = true ↔ ¬ opn g b)) := by
    intro u hu
    have h1 := (h.qm hb).mp hu
    refine ⟨h1.1, ?_⟩
    unfold closedAt
    rw [decide_eq_true_eq]
    constructor
    · rintro ⟨c, hc, e, ho⟩
      have : c = b := nI_inj (by omega) (by omega) (e.symm.trans h1.2)
      rw [← this]; exact ho
    · intro ho
      exact ⟨b, hb, h1.2, ho⟩
  by_cases ho : opn g b
  · rw [if_neg (fun z => z.2 ho)]
    symm
    rw [List.filter_eq_self]
    intro u hu
    have := key u hu
    have hcf : closedAt g u = false := by
      cases hc : closedAt g u with
      | false => rfl
      | true => exact absurd ho (this.2.mp hc)
    simp [hcf]
  · rw [if_pos ⟨hb, ho⟩]
    symm
    rw [List.filter_eq_nil_iff]
    intro u hu
    have := key u hu
    simp [this.1, this.2.mpr ho]
theorem clr_i {g : GS} (p q r : Nat) : (clear9 g).i p q r = (clrN g g.nv).i p q r := by
  show (if p = 4 ∧ r = 3 ∧ q < g.nv ∧ (∃ b, b < g.nb ∧ g.i 4 q 3 = nI b ∧ ¬ opn g b) then (-1 : Int32) else g.1 p q r) = (if p = 4 ∧ r = 3 ∧ q < g.nv ∧ closedAt g q = true then -1 else g.1 p q r)
  simp only [closedAt, decide_eq_true_eq]
theorem Inv.clear {g : GS} (h : Inv g) : Inv (clear9 g) := (h.clrN g.nv).congr rfl (fun p q r => clr_i p q r) (fun b hb => clr_q h b hb)
theorem markN_n : ∀ (L : List (Nat × Nat × Int32)) (g : GS) (k : Nat), (markN g k L).2 = g.2
  | [], g, k => rfl
  | x :: L, g, k => by
    rw [markN, markN_n L]
    rfl
theorem Inv.markN {g : GS} (h : Inv g) : ∀ (L : List (Nat × Nat × Int32)) (k : Nat), Inv (markN g k L)
  | [], k => h
  | x :: L, k => Inv.markN (g := Jvm.Pilot.CFeteBoardLaw_law_r1289_786a2d.mark1 g k x) h.mark1 L (k + 1)
theorem Inv.endHour {g : GS} (h : Inv g) : Inv (endHour9 g) := ((h.markN g.bd 0).setbd (by simp) (fun x hx => by cases hx) List.Pairwise.nil).clear
section Eh
variable {E : EX} {M : Mem} {f : Nat} {g : GS}
theorem c_reward {l : Nat} {x : Nat × Nat × Int32} (hf : f < 2) (hS : SimC f M g) (hI : Inv g) (hx : g.bd[l]? = some x) : Ret E idsC yX2_rewardLine cX2_rewardLine 3 none 1 21 [.ref (E.ad (1, f, 0)), .int (nI l)] M (fun r M' => r = none ∧ SimC f M' (mark1 g l x) ∧ Fr f g.2.2.1 M M') := by
  have hl3 : l < 3 := by have := (List.getElem?_eq_some_iff.mp hx).1; have := hI.bd3; omega
  have hv : x.1 < g.nv := hI.bdv (List.mem_of_getElem? hx)
  have hv16 : x.1 < 16 := Nat.lt_of_lt_of_le hv hI.nv16
  refine Ret_of_V RX2 (by decide) rfl idsC_nd [some (.ref (E.ad (1, f, 0))), some (.int (nI l)), none] rfl (Nat.le_of_ble_eq_true rfl) (fun κ hE G E9 hr => ?_)
  subst hE
  refine s_aload_n G dX2_rewardLine_0 rfl ?_
  refine gX2_32 G (by assumption) dX2_rewardLine_1 ?_
  refine gX2_229 G (by assumption) dX2_rewardLine_4 ?_
  refine s_iload_n G dX2_rewardLine_7 rfl ?_
  refine al_11 G (by assumption) rfl (by first | assumption | omega) dX2_rewardLine_8 ?_
  rw [(hS.bde hx).1]
  refine s_istore_n G dX2_rewardLine_9 (by decide) rfl ?_
  refine s_aload_n G dX2_rewardLine_10 rfl ?_
  refine s_iload_n G dX2_rewardLine_11 rfl ?_
  refine iX2_96 G (by assumption) (c_isVisitor (n := g.nv) hf hS.nv (by have := hI.nv16; omega) (nI x.1)) (by decide) (Nat.le_of_ble_eq_true rfl) dX2_rewardLine_12 (fun r9 M9 hp9 => ?_)
  obtain ⟨rfl, ⟨j, hj, hjx, rfl⟩ | ⟨hno, rfl⟩⟩ := hp9
  rotate_left
  · exact absurd rfl (hno x.1 hv)
  clear hjx hj
  refine s_if_ne G 19 dX2_rewardLine_15 (by decide) (fun h15 => ?_) (fun h15 => ?_)
  rotate_left
  · exact absurd h15 (by decide)
  refine s_aload_n G dX2_rewardLine_19 rfl ?_
  refine gX2_25 G (by assumption) dX2_rewardLine_20 ?_
  refine s_iload_n G dX2_rewardLine_23 rfl ?_
  refine ar_8 G (by assumption) rfl (by first | assumption | omega) dX2_rewardLine_24 ?_
  refine s_dup G dX2_rewardLine_25 rfl ?_
  refine gX2_231 G (by assumption) (by assumption) dX2_rewardLine_26 ?_
  rw [hS.vi (k := 5) hv (by decide)]
  refine s_iconst (v := 3) G dX2_rewardLine_29 (by decide) ?_
  refine s_iload_n G dX2_rewardLine_30 rfl ?_
  refine s_isub G dX2_rewardLine_31 ?_
  refine s_iadd G dX2_rewardLine_32 ?_
  refine pX2_231 G (by assumption) (by assumption) dX2_rewardLine_33 ?_
  refine V.abs (fun M1 hM1 => ?_)
  obtain ⟨g1, hg1⟩ : ∃ g1, g1 = g.set 4 x.1 5 (g.i 4 x.1 5 + (3 - nI l)) := ⟨_, rfl⟩
  have hS1 : SimC f M1 g1 := by rw [hM1, hg1]; exact hS.v4
  have hF1 : Fr f g.2.2.1 M M1 := by rw [hM1]; exact Fr.v4 Fr.rf hv
  have hv1 : x.1 < g1.nv := by rw [hg1]; exact hv
  have e0 : g1.i 4 x.1 0 = g.i 4 x.1 0 := by rw [hg1]; simp [gi_set]
  clear hM1
  have hm : mark1 g l x = g1.set 4 x.1 0 (if l = 0 then g.i 4 x.1 0 + 5 else g.i 4 x.1 0) := by rw [hg1]; rfl
  refine s_iload_n G dX2_rewardLine_36 rfl ?_
  refine s_if_ne G 55 dX2_rewardLine_37 (by decide) (fun h37 => ?_) (fun h37 => ?_)
  · have hl0 : l ≠ 0 := fun q => h37 (by rw [q]; rfl)
    refine s_vret G E9 hr dX2_rewardLine_55 ⟨rfl, ?_, hF1⟩
    rw [hm, if_neg hl0]
    refine hS1.congr rfl (fun kd a k => ?_) (fun b hb => rfl)
    rw [gi_set]
    split
    · rename_i q; obtain ⟨rfl, rfl, rfl⟩ := q; exact e0.symm
    · rfl
  · have hl0 : l = 0 := nI_inj (b := 0) (by omega) (by decide) h37
    refine s_aload_n G dX2_rewardLine_40 rfl ?_
    refine gX2_25 G (by assumption) dX2_rewardLine_41 ?_
    refine s_iload_n G dX2_rewardLine_44 rfl ?_
    refine ar_8 G (by assumption) rfl (by first | assumption | omega) dX2_rewardLine_45 ?_
    refine s_dup G dX2_rewardLine_46 rfl ?_
    refine gX2_144 G (by assumption) (by assumption) dX2_rewardLine_47 ?_
    rw [hS1.vi (k := 0) hv1 (by decide), e0]
    refine s_iconst (v := 5) G dX2_rewardLine_50 (by decide) ?_
    refine s_iadd G dX2_rewardLine_51 ?_
    refine pX2_144 G (by assumption) (by assumption) dX2_rewardLine_52 ?_
    refine s_vret G E9 hr dX2_rewardLine_55 ⟨rfl, by rw [hm, if_pos hl0]; exact hS1.v4, Fr.v4 hF1 hv⟩
theorem c_endHour (hf : f < 2) (hS : SimC f M g) (hI : Inv g) : Ret E idsC yX2_endHour cX2_endHour 3 none 2 46 [.ref (E.ad (1, f, 0))] M (fun r M' => r = none ∧ SimC f M' (endHour9 g) ∧ Fr f g.2.2.1 M M') := by
  have hb8 := hI.nb8
  have hv16 := hI.nv16
  have hbd := hI.bd3
  refine Ret_of_V RX2 (by decide) rfl idsC_nd [some (.ref (E.ad (1, f, 0))), none, none] rfl (Nat.le_of_ble_eq_true rfl) (fun κ hE G E9 hr => ?_)
  subst hE
  obtain ⟨Gh, hG⟩ : ∃ Gh, Gh = (markN g 0 g.bd).setbd [] := ⟨_, rfl⟩
  have hIG : Inv Gh := by rw [hG]; exact (hI.markN g.bd 0).setbd (by simp) (fun x hx => by cases hx) List.Pairwise.nil
  have hnG : Gh.2.2.1 = g.2.2.1 := by
    rw [hG]
    exact congrArg (fun z => z.2.1) (markN_n g.bd g 0)
  have hvG := nv_of hnG
  have hbG := nb_of hnG
  have clr : ∀ n v, v + n = Gh.nv → ∀ M1 : Mem, SimC f M1 (clrN Gh v) → Fr f g.2.2.1 M M1 → V κ idsC 3 M1 [some (.ref (κ.E.ad (1, f, 0))), some (.int (nI v)), none] [] 39 := by
    intro n
    induction n with
    | zero =>
      intro v hv M1 hS1 hF1
      have hv : v = Gh.nv := by omega
      subst hv
      refine s_iload_n G dX2_endHour_39 rfl ?_
      refine s_aload_n G dX2_endHour_40 rfl ?_
      refine gX2_52 G (by assumption) dX2_endHour_41 ?_
      refine s_icmp_ge G 89 dX2_endHour_44 (by decide) (fun h44 => ?_) (fun h44 => ?_)
      · refine s_vret G E9 hr dX2_endHour_89 ⟨rfl, ?_, hF1⟩
        show SimC f M1 (clear9 ((markN g 0 g.bd).setbd []))
        rw [← hG]
        exact hS1.congr rfl (fun p q r => clr_i p q r) (fun b hb => clr_q hIG b hb)
      · rw [hS1.nv] at h44
        exact absurd (Int32.le_refl _) h44
    | succ n ih =>
      intro v hvn M1 hS1 hF1
      have hv : v < Gh.nv := by omega
      have hvc : v < (clrN Gh v).nv := hv
      have hv9 : v < 16 := by omega
      have hIc := hIG.clrN v
      have go : ∀ M2 : Mem, SimC f M2 (clrN Gh (v + 1)) → Fr f g.2.2.1 M M2 → ∀ x9 : Int32, V κ idsC 3 M2 [some (.ref (κ.E.ad (1, f, 0))), some (.int (nI v)), some (.int x9)] [] 83 := by
        intro M2 hS2 hF2 x9
        refine s_iinc G dX2_endHour_83 rfl (by decide) rfl (nI_1 v) ?_
        refine s_goto G 39 dX2_endHour_86 (by decide) ?_
        refine V.drop1 2 ?_
        exact ih (v + 1) (by omega) M2 hS2 hF2
      refine s_iload_n G dX2_endHour_39 rfl ?_
      refine s_aload_n G dX2_endHour_40 rfl ?_
      refine gX2_52 G (by assumption) dX2_endHour_41 ?_
      refine s_icmp_ge G 89 dX2_endHour_44 (by decide) (fun h44 => ?_) (fun h44 => ?_)
      · rw [hS1.nv] at h44
        exact absurd h44 (nI_ge hv (by show Gh.nv < _; omega))
      refine s_aload_n G dX2_endHour_47 rfl ?_
      refine gX2_25 G (by assumption) dX2_endHour_48 ?_
      refine s_iload_n G dX2_endHour_51 rfl ?_
      refine ar_8 G (by assumption) rfl (by first | assumption | omega) dX2_endHour_52 ?_
      refine gX2_99 G (by assumption) (by assumption) dX2_endHour_53 ?_
      have eat : (clrN Gh v).i 4 v 3 = Gh.i 4 v 3 := by rw [clrN_i, if_neg (by omega)]
      rw [hS1.vi (k := 3) hvc (by decide), eat]
      refine s_istore_n G dX2_endHour_56 (by decide) rfl ?_
      refine s_aload_n G dX2_endHour_57 rfl ?_
      refine s_iload_n G dX2_endHour_58 rfl ?_
      refine iX2_90 G (by assumption) (c_isBooth (n := (clrN Gh v).nb) hf hS1.nb (by show Gh.nb < _; omega) (Gh.i 4 v 3)) (by decide) (Nat.le_of_ble_eq_true rfl) dX2_endHour_59 (fun r9 M9 hp9 => ?_)
      obtain ⟨rfl, ⟨b, hb, hbx, rfl⟩ | ⟨hno, rfl⟩⟩ := hp9
      · refine s_if_eq G 83 dX2_endHour_62 (by decide) (fun h62 => ?_) (fun h62 => ?_)
        · exact absurd h62 (by decide)
        have hbG : b < Gh.nb := hb
        have hb9 : b < 8 := by omega
        have hop : opn (clrN Gh v) b ↔ opn Gh b := by
          unfold opn
          rw [clrN_i, if_neg (by omega), wk_congr (g := Gh) (g' := clrN Gh v) b rfl (fun a _ => by rw [clrN_i, if_neg (by omega)])]
        refine s_aload_n G dX2_endHour_65 rfl ?_
        refine gX2_11 G (by assumption) dX2_endHour_66 ?_
        refine s_iload_n G dX2_endHour_69 rfl ?_
        refine ar_6 G (by assumption) hbx hb9 dX2_endHour_70 ?_
        refine iX2_120 G (by assumption) (by assumption) (c_isOpenG hf hS1 hIc hb) (by decide) (Nat.le_of_ble_eq_true rfl) dX2_endHour_71 (fun r9 M9 hp9 => ?_)
        obtain ⟨rfl, rfl⟩ := hp9
        refine s_if_ne G 83 dX2_endHour_74 (by decide) (fun h74 => ?_) (fun h74 => ?_)
        · have ho : opn Gh b := Decidable.byContradiction (fun q => h74 (by rw [if_neg (fun z => q (hop.mp z))]))
          have hcf : ¬ closedAt Gh v = true := by
            unfold closedAt
            rw [decide_eq_true_eq]
            rintro ⟨c, hc, e, hoc⟩
            have : c = b := nI_inj (by omega) (by omega) (e.symm.trans hbx)
            exact hoc (by rw [this]; exact ho)
          exact go _ (by rw [clrN_s, if_neg hcf]; exact hS1) hF1 _
        · have ho : ¬ opn Gh b := fun q => by rw [if_pos (hop.mpr q)] at h74; exact absurd h74 (by decide)
          have hct : closedAt Gh v = true := by
            unfold closedAt
            rw [decide_eq_true_eq]
            exact ⟨b, hbG, hbx, ho⟩
          refine s_aload_n G dX2_endHour_77 rfl ?_
          refine s_iload_n G dX2_endHour_78 rfl ?_
          refine iX2_174 G (by assumption) (c_take hf hS1 hIc hvc) (by decide) (Nat.le_of_ble_eq_true rfl) dX2_endHour_79 (fun r9 M9 hp9 => ?_)
          obtain ⟨rfl, hS2, hF2⟩ := hp9
          refine s_pop G dX2_endHour_82 rfl ?_
          exact go _ (by rw [clrN_s, if_pos hct]; exact hS2) (hF1.trans (by rw [← hnG]; exact hF2)) _
      · refine s_if_eq G 83 dX2_endHour_62 (by decide) (fun h62 => ?_) (fun h62 => ?_)
        rotate_left
        · exact absurd rfl h62
        have hcf : ¬ closedAt Gh v = true := by
          unfold closedAt
          rw [decide_eq_true_eq]
          rintro ⟨c, hc, e, hoc⟩
          exact hno c hc e
        exact go _ (by rw [clrN_s, if_neg hcf]; exact hS1) hF1 _
  have mk : ∀ n l (g1 : GS) (M1 : Mem), l + n = g.bd.length → SimC f M1 g1 → Inv g1 → g1.2.2 = g.2.2 → Fr f g.2.2.1 M M1 → markN g1 l (g.bd.drop l) = markN g 0 g.bd → V κ idsC 3 M1 [some (.ref (κ.E.ad (1, f, 0))), some (.int (nI l)), none] [] 2 := by
    intro n
    induction n with
    | zero =>
      intro l g1 M1 hl hS1 hI1 hn1 hF1 hm
      have hl : l = g.bd.length := by omega
      subst hl
      have hlen : g1.bd = g.bd := congrArg Prod.snd hn1
      rw [List.drop_length] at hm
      have hm : g1 = markN g 0 g.bd := hm
      refine s_iload_n G dX2_endHour_2 rfl ?_
      refine s_aload_n G dX2_endHour_3 rfl ?_
      refine gX2_32 G (by assumption) dX2_endHour_4 ?_
      refine gX2_223 G (by assumption) dX2_endHour_7 ?_
      rw [hS1.bdl, hlen]
      refine s_icmp_ge G 29 dX2_endHour_10 (by decide) (fun h10 => ?_) (fun h10 => ?_)
      rotate_left
      · exact absurd (Int32.le_refl _) h10
      refine s_aload_n G dX2_endHour_29 rfl ?_
      refine gX2_32 G (by assumption) dX2_endHour_30 ?_
      refine s_iconst (v := 0) G dX2_endHour_33 (by decide) ?_
      refine pX2_223 G (by assumption) dX2_endHour_34 ?_
      refine V.abs (fun M2 hM2 => ?_)
      have hS2 : SimC f M2 Gh := by
        rw [hG, hM2, ← hm]
        refine hS1.setbd (fun kd a k h1 h2 h3 h4 => ?_) (by rw [up_at, if_pos rfl]; rfl) (fun l x hx => by simp at hx)
        by_cases h5 : kd = 5 ∧ a = 0
        · obtain ⟨rfl, rfl⟩ := h5
          rw [up_at, if_neg (fun q => h4 ⟨rfl, q⟩)]
        · rw [up_ne (by simpa using h5)]
      have hF2 : Fr f g.2.2.1 M M2 := by rw [hM2]; exact Fr.c5 hF1
      clear hM2
      refine s_iconst (v := 0) G dX2_endHour_37 (by decide) ?_
      refine s_istore_n G dX2_endHour_38 (by decide) rfl ?_
      exact clr Gh.nv 0 (by omega) M2 (by rw [clrN_0]; exact hS2) hF2
    | succ n ih =>
      intro l g1 M1 hl hS1 hI1 hn1 hF1 hm
      have hlen : g1.bd = g.bd := congrArg Prod.snd hn1
      have hl9 : l < g.bd.length := by omega
      rw [List.drop_eq_getElem_cons hl9] at hm
      have hx : g1.bd[l]? = some g.bd[l] := by rw [hlen]; exact List.getElem?_eq_getElem hl9
      refine s_iload_n G dX2_endHour_2 rfl ?_
      refine s_aload_n G dX2_endHour_3 rfl ?_
      refine gX2_32 G (by assumption) dX2_endHour_4 ?_
      refine gX2_223 G (by assumption) dX2_endHour_7 ?_
      rw [hS1.bdl, hlen]
      refine s_icmp_ge G 29 dX2_endHour_10 (by decide) (fun h10 => ?_) (fun h10 => ?_)
      · exact absurd h10 (nI_ge hl9 (by omega))
      refine s_iload_n G dX2_endHour_13 rfl ?_
      refine s_iconst (v := 3) G dX2_endHour_14 (by decide) ?_
      refine s_icmp_ge G 29 dX2_endHour_15 (by decide) (fun h15 => ?_) (fun h15 => ?_)
      · exact absurd h15 (nI_ge (b := 3) (by omega) (by decide))
      refine s_aload_n G dX2_endHour_18 rfl ?_
      refine s_iload_n G dX2_endHour_19 rfl ?_
      refine iX2_226 G (by assumption) (c_reward hf hS1 hI1 hx) (by decide) (Nat.le_of_ble_eq_true rfl) dX2_endHour_20 (fun r9 M9 hp9 => ?_)
      obtain ⟨rfl, hS2, hF2⟩ := hp9
      refine s_iinc G dX2_endHour_23 rfl (by decide) rfl (nI_1 l) ?_
      refine s_goto G 2 dX2_endHour_26 (by decide) ?_
      exact ih (l + 1) _ _ (by omega) hS2 hI1.mark1 hn1 (hF1.trans (by rw [show g.2.2.1 = g1.2.2.1 by rw [hn1]]; exact hF2)) hm
  refine s_iconst (v := 0) G dX2_endHour_0 (by decide) ?_
  refine s_istore_n G dX2_endHour_1 (by decide) rfl ?_
  exact mk g.bd.length 0 g M (by omega) hS hI rfl Fr.rf (by rw [List.drop_zero])
end Eh
