/-! ===== what law notes down before the pass ===== -/
def Ext (σ σ' : Sg) : Prop := ∀ a z, σ a = some z → σ' a = some z
theorem Ext.cls {E : EX} {σ σ' : Sg} {M : Mem} (h : Ext σ σ') (hC : ClsP E σ M) : ClsP E σ' M := fun i hi => h _ _ (hC i hi)
theorem Ext.lay {E : EX} {σ σ' : Sg} {ω : WS} (h : Ext σ σ') (hL : LayS E σ ω) : LayS E σ' ω := hL.kp (fun _ _ _ hs _ => h _ _ hs)
/-- what is in the map σ' was in σ, or is labelled so -/
def Lbl (σ σ' : Sg) (lo lr : Nat) : Prop := ∀ a i e, σ' a = some (i, e) → σ a = some (i, e) ∨ i.1 = lo ∨ i.1 = lr
def Tab (E : EX) (σ : Sg) (lo : Pid) (lr q : Nat) (r : Nat → Nat) (n k : Nat) (K : Nat → Nat → Prop) (F : Nat → Nat → Int32) : Prop :=
  (∃ f, σ q = some (lo, .inl (E.cy 5, pRefs n f)) ∧ ∀ i, i < n → f i = some (r i)) ∧ ∀ i, i < n → ∃ f, σ (r i) = some ((lr, i, 0), .inl (E.cy 0, pInts k f)) ∧ ∀ j, j < k → K i j → f j = F i j
theorem Tab.kp {E : EX} {σ σ' : Sg} {lo : Pid} {lr q : Nat} {r : Nat → Nat} {n k : Nat} {K : Nat → Nat → Prop} {F : Nat → Nat → Int32} (h : Tab E σ lo lr q r n k K F) (hlo : 50 ≤ lo.1) (hlr : 50 ≤ lr) (hk : ∀ a i e, σ a = some (i, e) → 50 ≤ i.1 → σ' a = some (i, e)) : Tab E σ' lo lr q r n k K F := by
  obtain ⟨⟨f, h1, h2⟩, h3⟩ := h
  refine ⟨⟨f, hk _ _ _ h1 hlo, h2⟩, fun i hi => ?_⟩
  obtain ⟨f2, h4, h5⟩ := h3 i hi
  exact ⟨f2, hk _ _ _ h4 hlr, h5⟩
theorem Tab.mono {E : EX} {σ : Sg} {lo : Pid} {lr q : Nat} {r : Nat → Nat} {n k : Nat} {K K' : Nat → Nat → Prop} {F : Nat → Nat → Int32} (h : Tab E σ lo lr q r n k K F) (hk : ∀ i j, i < n → j < k → K' i j → K i j) : Tab E σ lo lr q r n k K' F := by
  obtain ⟨h1, h3⟩ := h
  refine ⟨h1, fun i hi => ?_⟩
  obtain ⟨f2, h4, h5⟩ := h3 i hi
  exact ⟨f2, h4, fun j hj hK => h5 j hj (hk i j hi hj hK)⟩
theorem Tab.set {E : EX} {σ σ' : Sg} {lo : Pid} {lr q : Nat} {r : Nat → Nat} {n k : Nat} {K : Nat → Nat → Prop} {F : Nat → Nat → Int32} (h : Tab E σ lo lr q r n k K F) (hl : lo.1 ≠ lr) {i j : Nat} (hi : i < n) {f : Nat → Int32} (hf : σ (r i) = some ((lr, i, 0), .inl (E.cy 0, pInts k f))) (hfK : ∀ j, j < k → K i j → f j = F i j) (hs : σ' (r i) = some ((lr, i, 0), .inl (E.cy 0, pInts k (upd f j (F i j))))) (ho : ∀ b, b ≠ r i → σ' b = σ b) : Tab E σ' lo lr q r n k (fun a c => K a c ∨ (a = i ∧ c = j)) F := by
  obtain ⟨⟨f0, h1, h2⟩, h3⟩ := h
  refine ⟨⟨f0, (ho _ (fun z => ?_)).trans h1, h2⟩, fun a ha => ?_⟩
  · rw [z, hf] at h1
    exact hl (congrArg (fun z => z.1.1) (Option.some.inj h1)).symm
  · obtain ⟨f2, h4, h5⟩ := h3 a ha
    by_cases q : a = i
    · subst q
      refine ⟨upd f j (F a j), hs, fun c hc hK => ?_⟩
      by_cases qc : c = j
      · subst qc; simp [upd]
      · rcases hK with hK | hK
        · simp [upd, qc]
          exact hfK c hc hK
        · exact absurd hK.2 qc
    · refine ⟨f2, (ho _ (fun z => ?_)).trans h4, fun c hc hK => ?_⟩
      · rw [z, hf] at h4
        exact q (congrArg (fun z => z.1.2.1) (Option.some.inj h4)).symm
      · rcases hK with hK | hK
        · exact h5 c hc hK
        · exact absurd hK.1 q
theorem HV.sub {κ : KX} {nL : Nat} {σ σ' : Sg} {cN dN pc : Nat} {l : LSt} {st : List Value} (hs : ∀ a z, σ' a = some z → σ a = some z) (h : HV κ nL σ' cN dN l st pc) : HV κ nL σ cN dN l st pc := HV.see (fun H hP a i e hb => hP a i e (hs a _ hb)) h
def low (σ : Sg) : Sg := fun a => match σ a with
  | some z => if z.1.1 < 50 then some z else none
  | none => none
theorem low_some {σ : Sg} {a : Nat} {z : Pid × va_E} : low σ a = some z ↔ σ a = some z ∧ z.1.1 < 50 := by
  unfold low
  cases h : σ a with
  | none => simp
  | some y =>
    by_cases q : y.1.1 < 50
    · simp only [if_pos q, Option.some.injEq]
      exact ⟨fun e => ⟨e, by rw [← e]; exact q⟩, fun e => e.1⟩
    · simp only [if_neg q, Option.some.injEq]
      exact ⟨fun e => (by cases e), fun e => absurd (by rw [e.1]; exact e.2) q⟩
section Fi
variable {κ : KX} {σ : Sg} {g : GS} {M : Mem} {cN dN aS t q8 q9 : Nat} {x : Int32}
theorem p_fV (G : Gd κ cL_law 34 RL 7 164) (hc9 : cN + 17 ≤ κ.R.cells) (hd9 : dN + 150 ≤ κ.R.slots) (hC : ClsP κ.E σ M) (hI : CI M g) (hn : g.nv ≤ 16) (hlb : ∀ a i e, σ a = some (i, e) → i.1 ≠ 61) (K : ∀ σ' q r, Ext σ σ' → Lbl σ σ' 60 61 → Tab κ.E σ' (60, 0, 0) 61 q r g.nv 8 (fun _ _ => True) (fun v k => vfc g v k) → HV κ 34 σ' (cN + 17) (dN + 150) [some (.ref κ.E.sc.1), some (.ref (κ.E.ad (0, 0, 0))), some (.ref aS), some (.int (nI g.nb)), some (.int (nI g.nh)), some (.int (nI g.nv)), some (.int (nI t)), some (.int x), some (.ref q), none, none, none, none, none, none, none, none, none, none, none, none, none, none, none, none, none, none, none, none, none, none, none, none, none] [] 171) : HV κ 34 σ cN dN [some (.ref κ.E.sc.1), some (.ref (κ.E.ad (0, 0, 0))), some (.ref aS), some (.int (nI g.nb)), some (.int (nI g.nh)), some (.int (nI g.nv)), some (.int (nI t)), some (.int x), none, none, none, none, none, none, none, none, none, none, none, none, none, none, none, none, none, none, none, none, none, none, none, none, none, none] [] 113 := by
  refine h_iload G dL_law_113 rfl ?_
  refine h_bipush (v := 8) G dL_law_115 (by decide) ?_
  refine h_mna G (60, 0, 0) (fun i => (61, i, 0)) (n := g.nv) (k := 8) rfl rfl (by omega) (by decide) (by decide +kernel) (by decide +kernel) (by omega) (by omega) dL_law_117 (fun q r s0 hri hq fq fr kp ko => ?_)
  have hE0 : Ext σ s0 := kp
  have hT0 : Tab κ.E s0 (60, 0, 0) 61 q r g.nv 8 (fun a c => a < 0 ∨ (a = 0 ∧ c < 0)) (fun v k => vfc g v k) := ⟨⟨_, fq, fun i hi => if_pos hi⟩, fun i hi => ⟨_, fr i hi, fun j hj hK => absurd hK (by omega)⟩⟩
  have hri9 : ∀ i, i < g.nv → σ (r i) = none := fun i hi => by
    cases hz : σ (r i) with
    | none => rfl
    | some z =>
      have h8 := kp _ _ hz
      rw [fr i hi] at h8
      rw [← Option.some.inj h8] at hz
      exact absurd rfl (hlb _ _ _ hz)
  have hB0 : Lbl σ s0 60 61 := fun a i e hs => by
    by_cases h1 : a = q
    · rw [h1, fq] at hs
      exact Or.inr (Or.inl (congrArg (fun z => z.1.1) (Option.some.inj hs)).symm)
    · by_cases h2 : ∃ j, j < g.nv ∧ a = r j
      · obtain ⟨j, hj, h2⟩ := h2
        rw [h2, fr j hj] at hs
        exact Or.inr (Or.inr (congrArg (fun z => z.1.1) (Option.some.inj hs)).symm)
      · rw [ko a h1 (fun j hj z => h2 ⟨j, hj, z⟩)] at hs
        exact Or.inl hs
  clear fq fr kp ko hri
  refine HV.wid (c2 := cN + 17) (d2 := dN + 150) (by omega) (by omega) ?_
  refine h_astore G dL_law_121 (by decide) rfl ?_
  refine h_iconst (v := 0) G dL_law_123 (by decide) ?_
  refine h_istore G dL_law_124 (by decide) rfl ?_
  have loop : ∀ m v, v + m = g.nv → ∀ s1, Ext σ s1 → Lbl σ s1 60 61 → Tab κ.E s1 (60, 0, 0) 61 q r g.nv 8 (fun a c => a < v ∨ (a = v ∧ c < 0)) (fun v k => vfc g v k) → HV κ 34 s1 (cN + 17) (dN + 150) [some (.ref κ.E.sc.1), some (.ref (κ.E.ad (0, 0, 0))), some (.ref aS), some (.int (nI g.nb)), some (.int (nI g.nh)), some (.int (nI g.nv)), some (.int (nI t)), some (.int x), some (.ref q), some (.int (nI v)), none, none, none, none, none, none, none, none, none, none, none, none, none, none, none, none, none, none, none, none, none, none, none, none] [] 126 := by
    intro m
    induction m with
    | zero =>
      intro v hv s1 hE hB hT
      have hv : v = g.nv := by omega
      subst hv
      refine h_iload G dL_law_126 rfl ?_
      refine h_iload G dL_law_128 rfl ?_
      refine h_icmp_ge G 171 dL_law_130 (by decide) (fun h130 => ?_) (fun h130 => ?_)
      rotate_left
      · exact absurd (nI_le (Nat.le_refl _) (by omega)) h130
      exact HV.drop1 9 (K s1 q r hE hB (hT.mono (fun i j hi _ _ => Or.inl hi)))
    | succ m ih =>
      intro v hv s1 hE hB hT
      have hlt : v < g.nv := by omega
      refine h_iload G dL_law_126 rfl ?_
      refine h_iload G dL_law_128 rfl ?_
      refine h_icmp_ge G 171 dL_law_130 (by decide) (fun h130 => ?_) (fun h130 => ?_)
      · exact absurd h130 (nI_ge hlt (by omega))
      refine h_iconst (v := 0) G dL_law_133 (by decide) ?_
      refine h_istore G dL_law_134 (by decide) rfl ?_
      have lp : ∀ m j, j + m = 8 → ∀ s1, Ext σ s1 → Lbl σ s1 60 61 → Tab κ.E s1 (60, 0, 0) 61 q r g.nv 8 (fun a c => a < v ∨ (a = v ∧ c < j)) (fun v k => vfc g v k) → HV κ 34 s1 (cN + 17) (dN + 150) [some (.ref κ.E.sc.1), some (.ref (κ.E.ad (0, 0, 0))), some (.ref aS), some (.int (nI g.nb)), some (.int (nI g.nh)), some (.int (nI g.nv)), some (.int (nI t)), some (.int x), some (.ref q), some (.int (nI v)), some (.int (nI j)), none, none, none, none, none, none, none, none, none, none, none, none, none, none, none, none, none, none, none, none, none, none, none] [] 136 := by
        intro m
        induction m with
        | zero =>
          intro j hj s1 hE hB hT
          have hj : j = 8 := by omega
          subst hj
          refine h_iload G dL_law_136 rfl ?_
          refine h_bipush (v := 8) G dL_law_138 (by decide) ?_
          refine h_icmp_ge G 165 dL_law_140 (by decide) (fun h140 => ?_) (fun h140 => ?_)
          rotate_left
          · exact absurd (by decide) h140
          refine h_iinc G dL_law_165 rfl (by decide) rfl (nI_1 v) ?_
          refine h_goto G 126 dL_law_168 (by decide) ?_
          exact HV.drop1 10 (ih (v + 1) (by omega) s1 hE hB (hT.mono (fun i j _ hj hK => by omega)))
        | succ m ih2 =>
          intro j hj s1 hE hB hT
          have hlj : j < 8 := by omega
          refine h_iload G dL_law_136 rfl ?_
          refine h_bipush (v := 8) G dL_law_138 (by decide) ?_
          refine h_icmp_ge G 165 dL_law_140 (by decide) (fun h140 => ?_) (fun h140 => ?_)
          · exact absurd h140 (nI_ge (b := 8) hlj (by decide))
          refine h_aload G dL_law_143 rfl ?_
          refine h_iload G dL_law_145 rfl ?_
          obtain ⟨⟨f0, hq0, hf0⟩, hrow⟩ := hT
          refine h_aalA G hq0 rfl hlt (by omega) (hf0 v hlt) dL_law_147 ?_
          refine h_iload G dL_law_148 rfl ?_
          refine h_aload_n G dL_law_150 rfl ?_
          refine h_iload G dL_law_151 rfl ?_
          refine h_iload G dL_law_153 rfl ?_
          have hC1 := hE.cls hC
          have hC := hC1
          clear hC1
          refine wiL_99 G hC (f_visitor hI hlt hlj) (by decide) (Nat.le_of_ble_eq_true rfl) (by omega) (by omega) dL_law_155 (fun r9 M9 hp9 => ?_)
          obtain ⟨rfl, rfl⟩ := hp9
          rw [setC_self hC]
          obtain ⟨f1, h1, k1⟩ := hrow v hlt
          refine h_iast G h1 (j := j) rfl hlj (by decide) dL_law_158 ?_
          refine HV.abs (fun s2 f2 o2 => ?_)
          have hT2 := Tab.set ⟨⟨f0, hq0, hf0⟩, hrow⟩ (by decide) hlt (j := j) h1 k1 f2 o2
          have hE2 : Ext σ s2 := fun a z hz => (o2 a (fun w => by
            have h9 := hri9 v hlt
            rw [← w, hz] at h9
            cases h9)).trans (hE a z hz)
          refine h_iinc G dL_law_159 rfl (by decide) rfl (nI_1 j) ?_
          refine h_goto G 136 dL_law_162 (by decide) ?_
          have hB2 : Lbl σ s2 60 61 := fun a i e hs => by
            by_cases h3 : a = r v
            · rw [h3, f2] at hs
              exact Or.inr (Or.inr (congrArg (fun z => z.1.1) (Option.some.inj hs)).symm)
            · rw [o2 a h3] at hs
              exact hB a i e hs
          exact ih2 (j + 1) (by omega) s2 hE2 hB2 (hT2.mono (fun i c _ _ hK => by omega))
      exact lp 8 0 (by omega) s1 hE hB hT
  exact loop g.nv 0 (by omega) s0 hE0 hB0 hT0
theorem p_fB (G : Gd κ cL_law 34 RL 7 164) (hc9 : cN + 9 ≤ κ.R.cells) (hd9 : dN + 88 ≤ κ.R.slots) (hC : ClsP κ.E σ M) (hI : CI M g) (hn : g.nb ≤ 8) (hlb : ∀ a i e, σ a = some (i, e) → i.1 ≠ 63) (K : ∀ σ' q r, Ext σ σ' → Lbl σ σ' 62 63 → Tab κ.E σ' (62, 0, 0) 63 q r g.nb 10 (fun _ _ => True) (fun v k => bfc g v k) → HV κ 34 σ' (cN + 9) (dN + 88) [some (.ref κ.E.sc.1), some (.ref (κ.E.ad (0, 0, 0))), some (.ref aS), some (.int (nI g.nb)), some (.int (nI g.nh)), some (.int (nI g.nv)), some (.int (nI t)), some (.int x), some (.ref q8), some (.ref q), none, none, none, none, none, none, none, none, none, none, none, none, none, none, none, none, none, none, none, none, none, none, none, none] [] 227) : HV κ 34 σ cN dN [some (.ref κ.E.sc.1), some (.ref (κ.E.ad (0, 0, 0))), some (.ref aS), some (.int (nI g.nb)), some (.int (nI g.nh)), some (.int (nI g.nv)), some (.int (nI t)), some (.int x), some (.ref q8), none, none, none, none, none, none, none, none, none, none, none, none, none, none, none, none, none, none, none, none, none, none, none, none, none] [] 171 := by
  refine h_iload_n G dL_law_171 rfl ?_
  refine h_bipush (v := 10) G dL_law_172 (by decide) ?_
  refine h_mna G (62, 0, 0) (fun i => (63, i, 0)) (n := g.nb) (k := 10) rfl rfl (by omega) (by decide) (by decide +kernel) (by decide +kernel) (by omega) (by omega) dL_law_174 (fun q r s0 hri hq fq fr kp ko => ?_)
  have hE0 : Ext σ s0 := kp
  have hT0 : Tab κ.E s0 (62, 0, 0) 63 q r g.nb 10 (fun a c => a < 0 ∨ (a = 0 ∧ c < 0)) (fun v k => bfc g v k) := ⟨⟨_, fq, fun i hi => if_pos hi⟩, fun i hi => ⟨_, fr i hi, fun j hj hK => absurd hK (by omega)⟩⟩
  have hri9 : ∀ i, i < g.nb → σ (r i) = none := fun i hi => by
    cases hz : σ (r i) with
    | none => rfl
    | some z =>
      have h8 := kp _ _ hz
      rw [fr i hi] at h8
      rw [← Option.some.inj h8] at hz
      exact absurd rfl (hlb _ _ _ hz)
  have hB0 : Lbl σ s0 62 63 := fun a i e hs => by
    by_cases h1 : a = q
    · rw [h1, fq] at hs
      exact Or.inr (Or.inl (congrArg (fun z => z.1.1) (Option.some.inj hs)).symm)
    · by_cases h2 : ∃ j, j < g.nb ∧ a = r j
      · obtain ⟨j, hj, h2⟩ := h2
        rw [h2, fr j hj] at hs
        exact Or.inr (Or.inr (congrArg (fun z => z.1.1) (Option.some.inj hs)).symm)
      · rw [ko a h1 (fun j hj z => h2 ⟨j, hj, z⟩)] at hs
        exact Or.inl hs
  clear fq fr kp ko hri
  refine HV.wid (c2 := cN + 9) (d2 := dN + 88) (by omega) (by omega) ?_
  refine h_astore G dL_law_178 (by decide) rfl ?_
  refine h_iconst (v := 0) G dL_law_180 (by decide) ?_
  refine h_istore G dL_law_181 (by decide) rfl ?_
  have loop : ∀ m v, v + m = g.nb → ∀ s1, Ext σ s1 → Lbl σ s1 62 63 → Tab κ.E s1 (62, 0, 0) 63 q r g.nb 10 (fun a c => a < v ∨ (a = v ∧ c < 0)) (fun v k => bfc g v k) → HV κ 34 s1 (cN + 9) (dN + 88) [some (.ref κ.E.sc.1), some (.ref (κ.E.ad (0, 0, 0))), some (.ref aS), some (.int (nI g.nb)), some (.int (nI g.nh)), some (.int (nI g.nv)), some (.int (nI t)), some (.int x), some (.ref q8), some (.ref q), some (.int (nI v)), none, none, none, none, none, none, none, none, none, none, none, none, none, none, none, none, none, none, none, none, none, none, none] [] 183 := by
    intro m
    induction m with
    | zero =>
      intro v hv s1 hE hB hT
      have hv : v = g.nb := by omega
      subst hv
      refine h_iload G dL_law_183 rfl ?_
      refine h_iload_n G dL_law_185 rfl ?_
      refine h_icmp_ge G 227 dL_law_186 (by decide) (fun h186 => ?_) (fun h186 => ?_)
      rotate_left
      · exact absurd (nI_le (Nat.le_refl _) (by omega)) h186
      exact HV.drop1 10 (K s1 q r hE hB (hT.mono (fun i j hi _ _ => Or.inl hi)))
    | succ m ih =>
      intro v hv s1 hE hB hT
      have hlt : v < g.nb := by omega
      refine h_iload G dL_law_183 rfl ?_
      refine h_iload_n G dL_law_185 rfl ?_
      refine h_icmp_ge G 227 dL_law_186 (by decide) (fun h186 => ?_) (fun h186 => ?_)
      · exact absurd h186 (nI_ge hlt (by omega))
      refine h_iconst (v := 0) G dL_law_189 (by decide) ?_
      refine h_istore G dL_law_190 (by decide) rfl ?_
      have lp : ∀ m j, j + m = 10 → ∀ s1, Ext σ s1 → Lbl σ s1 62 63 → Tab κ.E s1 (62, 0, 0) 63 q r g.nb 10 (fun a c => a < v ∨ (a = v ∧ c < j)) (fun v k => bfc g v k) → HV κ 34 s1 (cN + 9) (dN + 88) [some (.ref κ.E.sc.1), some (.ref (κ.E.ad (0, 0, 0))), some (.ref aS), some (.int (nI g.nb)), some (.int (nI g.nh)), some (.int (nI g.nv)), some (.int (nI t)), some (.int x), some (.ref q8), some (.ref q), some (.int (nI v)), some (.int (nI j)), none, none, none, none, none, none, none, none, none, none, none, none, none, none, none, none, none, none, none, none, none, none] [] 192 := by
        intro m
        induction m with
        | zero =>
          intro j hj s1 hE hB hT
          have hj : j = 10 := by omega
          subst hj
          refine h_iload G dL_law_192 rfl ?_
          refine h_bipush (v := 10) G dL_law_194 (by decide) ?_
          refine h_icmp_ge G 221 dL_law_196 (by decide) (fun h196 => ?_) (fun h196 => ?_)
          rotate_left
          · exact absurd (by decide) h196
          refine h_iinc G dL_law_221 rfl (by decide) rfl (nI_1 v) ?_
          refine h_goto G 183 dL_law_224 (by decide) ?_
          exact HV.drop1 11 (ih (v + 1) (by omega) s1 hE hB (hT.mono (fun i j _ hj hK => by omega)))
        | succ m ih2 =>
          intro j hj s1 hE hB hT
          have hlj : j < 10 := by omega
          refine h_iload G dL_law_192 rfl ?_
          refine h_bipush (v := 10) G dL_law_194 (by decide) ?_
          refine h_icmp_ge G 221 dL_law_196 (by decide) (fun h196 => ?_) (fun h196 => ?_)
          · exact absurd h196 (nI_ge (b := 10) hlj (by decide))
          refine h_aload G dL_law_199 rfl ?_
          refine h_iload G dL_law_201 rfl ?_
          obtain ⟨⟨f0, hq0, hf0⟩, hrow⟩ := hT
          refine h_aalA G hq0 rfl hlt (by omega) (hf0 v hlt) dL_law_203 ?_
          refine h_iload G dL_law_204 rfl ?_
          refine h_aload_n G dL_law_206 rfl ?_
          refine h_iload G dL_law_207 rfl ?_
          refine h_iload G dL_law_209 rfl ?_
          have hC1 := hE.cls hC
          have hC := hC1
          clear hC1
          refine wiL_102 G hC (f_booth hI hlt hlj) (by decide) (Nat.le_of_ble_eq_true rfl) (by omega) (by omega) dL_law_211 (fun r9 M9 hp9 => ?_)
          obtain ⟨rfl, rfl⟩ := hp9
          rw [setC_self hC]
          obtain ⟨f1, h1, k1⟩ := hrow v hlt
          refine h_iast G h1 (j := j) rfl hlj (by decide) dL_law_214 ?_
          refine HV.abs (fun s2 f2 o2 => ?_)
          have hT2 := Tab.set ⟨⟨f0, hq0, hf0⟩, hrow⟩ (by decide) hlt (j := j) h1 k1 f2 o2
          have hE2 : Ext σ s2 := fun a z hz => (o2 a (fun w => by
            have h9 := hri9 v hlt
            rw [← w, hz] at h9
            cases h9)).trans (hE a z hz)
          refine h_iinc G dL_law_215 rfl (by decide) rfl (nI_1 j) ?_
          refine h_goto G 192 dL_law_218 (by decide) ?_
          have hB2 : Lbl σ s2 62 63 := fun a i e hs => by
            by_cases h3 : a = r v
            · rw [h3, f2] at hs
              exact Or.inr (Or.inr (congrArg (fun z => z.1.1) (Option.some.inj hs)).symm)
            · rw [o2 a h3] at hs
              exact hB a i e hs
          exact ih2 (j + 1) (by omega) s2 hE2 hB2 (hT2.mono (fun i c _ _ hK => by omega))
      exact lp 10 0 (by omega) s1 hE hB hT
  exact loop g.nb 0 (by omega) s0 hE0 hB0 hT0
theorem p_fH (G : Gd κ cL_law 34 RL 7 164) (hc9 : cN + 13 ≤ κ.R.cells) (hd9 : dN + 48 ≤ κ.R.slots) (hC : ClsP κ.E σ M) (hI : CI M g) (hn : g.nh ≤ 12) (hlb : ∀ a i e, σ a = some (i, e) → i.1 ≠ 65) (K : ∀ σ' q r, Ext σ σ' → Lbl σ σ' 64 65 → Tab κ.E σ' (64, 0, 0) 65 q r g.nh 3 (fun _ _ => True) (fun v k => g.i 3 v k) → HV κ 34 σ' (cN + 13) (dN + 48) [some (.ref κ.E.sc.1), some (.ref (κ.E.ad (0, 0, 0))), some (.ref aS), some (.int (nI g.nb)), some (.int (nI g.nh)), some (.int (nI g.nv)), some (.int (nI t)), some (.int x), some (.ref q8), some (.ref q9), some (.ref q), none, none, none, none, none, none, none, none, none, none, none, none, none, none, none, none, none, none, none, none, none, none, none] [] 283) : HV κ 34 σ cN dN [some (.ref κ.E.sc.1), some (.ref (κ.E.ad (0, 0, 0))), some (.ref aS), some (.int (nI g.nb)), some (.int (nI g.nh)), some (.int (nI g.nv)), some (.int (nI t)), some (.int x), some (.ref q8), some (.ref q9), none, none, none, none, none, none, none, none, none, none, none, none, none, none, none, none, none, none, none, none, none, none, none, none] [] 227 := by
  refine h_iload G dL_law_227 rfl ?_
  refine h_iconst (v := 3) G dL_law_229 (by decide) ?_
  refine h_mna G (64, 0, 0) (fun i => (65, i, 0)) (n := g.nh) (k := 3) rfl rfl (by omega) (by decide) (by decide +kernel) (by decide +kernel) (by omega) (by omega) dL_law_230 (fun q r s0 hri hq fq fr kp ko => ?_)
  have hE0 : Ext σ s0 := kp
  have hT0 : Tab κ.E s0 (64, 0, 0) 65 q r g.nh 3 (fun a c => a < 0 ∨ (a = 0 ∧ c < 0)) (fun v k => g.i 3 v k) := ⟨⟨_, fq, fun i hi => if_pos hi⟩, fun i hi => ⟨_, fr i hi, fun j hj hK => absurd hK (by omega)⟩⟩
  have hri9 : ∀ i, i < g.nh → σ (r i) = none := fun i hi => by
    cases hz : σ (r i) with
    | none => rfl
    | some z =>
      have h8 := kp _ _ hz
      rw [fr i hi] at h8
      rw [← Option.some.inj h8] at hz
      exact absurd rfl (hlb _ _ _ hz)
  have hB0 : Lbl σ s0 64 65 := fun a i e hs => by
    by_cases h1 : a = q
    · rw [h1, fq] at hs
      exact Or.inr (Or.inl (congrArg (fun z => z.1.1) (Option.some.inj hs)).symm)
    · by_cases h2 : ∃ j, j < g.nh ∧ a = r j
      · obtain ⟨j, hj, h2⟩ := h2
        rw [h2, fr j hj] at hs
        exact Or.inr (Or.inr (congrArg (fun z => z.1.1) (Option.some.inj hs)).symm)
      · rw [ko a h1 (fun j hj z => h2 ⟨j, hj, z⟩)] at hs
        exact Or.inl hs
  clear fq fr kp ko hri
  refine HV.wid (c2 := cN + 13) (d2 := dN + 48) (by omega) (by omega) ?_
  refine h_astore G dL_law_234 (by decide) rfl ?_
  refine h_iconst (v := 0) G dL_law_236 (by decide) ?_
  refine h_istore G dL_law_237 (by decide) rfl ?_
  have loop : ∀ m v, v + m = g.nh → ∀ s1, Ext σ s1 → Lbl σ s1 64 65 → Tab κ.E s1 (64, 0, 0) 65 q r g.nh 3 (fun a c => a < v ∨ (a = v ∧ c < 0)) (fun v k => g.i 3 v k) → HV κ 34 s1 (cN + 13) (dN + 48) [some (.ref κ.E.sc.1), some (.ref (κ.E.ad (0, 0, 0))), some (.ref aS), some (.int (nI g.nb)), some (.int (nI g.nh)), some (.int (nI g.nv)), some (.int (nI t)), some (.int x), some (.ref q8), some (.ref q9), some (.ref q), some (.int (nI v)), none, none, none, none, none, none, none, none, none, none, none, none, none, none, none, none, none, none, none, none, none, none] [] 239 := by
    intro m
    induction m with
    | zero =>
      intro v hv s1 hE hB hT
      have hv : v = g.nh := by omega
      subst hv
      refine h_iload G dL_law_239 rfl ?_
      refine h_iload G dL_law_241 rfl ?_
      refine h_icmp_ge G 283 dL_law_243 (by decide) (fun h243 => ?_) (fun h243 => ?_)
      rotate_left
      · exact absurd (nI_le (Nat.le_refl _) (by omega)) h243
      exact HV.drop1 11 (K s1 q r hE hB (hT.mono (fun i j hi _ _ => Or.inl hi)))
    | succ m ih =>
      intro v hv s1 hE hB hT
      have hlt : v < g.nh := by omega
      refine h_iload G dL_law_239 rfl ?_
      refine h_iload G dL_law_241 rfl ?_
      refine h_icmp_ge G 283 dL_law_243 (by decide) (fun h243 => ?_) (fun h243 => ?_)
      · exact absurd h243 (nI_ge hlt (by omega))
      refine h_iconst (v := 0) G dL_law_246 (by decide) ?_
      refine h_istore G dL_law_247 (by decide) rfl ?_
      have lp : ∀ m j, j + m = 3 → ∀ s1, Ext σ s1 → Lbl σ s1 64 65 → Tab κ.E s1 (64, 0, 0) 65 q r g.nh 3 (fun a c => a < v ∨ (a = v ∧ c < j)) (fun v k => g.i 3 v k) → HV κ 34 s1 (cN + 13) (dN + 48) [some (.ref κ.E.sc.1), some (.ref (κ.E.ad (0, 0, 0))), some (.ref aS), some (.int (nI g.nb)), some (.int (nI g.nh)), some (.int (nI g.nv)), some (.int (nI t)), some (.int x), some (.ref q8), some (.ref q9), some (.ref q), some (.int (nI v)), some (.int (nI j)), none, none, none, none, none, none, none, none, none, none, none, none, none, none, none, none, none, none, none, none, none] [] 249 := by
        intro m
        induction m with
        | zero =>
          intro j hj s1 hE hB hT
          have hj : j = 3 := by omega
          subst hj
          refine h_iload G dL_law_249 rfl ?_
          refine h_iconst (v := 3) G dL_law_251 (by decide) ?_
          refine h_icmp_ge G 277 dL_law_252 (by decide) (fun h252 => ?_) (fun h252 => ?_)
          rotate_left
          · exact absurd (by decide) h252
          refine h_iinc G dL_law_277 rfl (by decide) rfl (nI_1 v) ?_
          refine h_goto G 239 dL_law_280 (by decide) ?_
          exact HV.drop1 12 (ih (v + 1) (by omega) s1 hE hB (hT.mono (fun i j _ hj hK => by omega)))
        | succ m ih2 =>
          intro j hj s1 hE hB hT
          have hlj : j < 3 := by omega
          refine h_iload G dL_law_249 rfl ?_
          refine h_iconst (v := 3) G dL_law_251 (by decide) ?_
          refine h_icmp_ge G 277 dL_law_252 (by decide) (fun h252 => ?_) (fun h252 => ?_)
          · exact absurd h252 (nI_ge (b := 3) hlj (by decide))
          refine h_aload G dL_law_255 rfl ?_
          refine h_iload G dL_law_257 rfl ?_
          obtain ⟨⟨f0, hq0, hf0⟩, hrow⟩ := hT
          refine h_aalA G hq0 rfl hlt (by omega) (hf0 v hlt) dL_law_259 ?_
          refine h_iload G dL_law_260 rfl ?_
          refine h_aload_n G dL_law_262 rfl ?_
          refine h_iload G dL_law_263 rfl ?_
          refine h_iload G dL_law_265 rfl ?_
          have hC1 := hE.cls hC
          have hC := hC1
          clear hC1
          refine wiL_104 G hC (f_helper hI hlt hlj) (by decide) (Nat.le_of_ble_eq_true rfl) (by omega) (by omega) dL_law_267 (fun r9 M9 hp9 => ?_)
          obtain ⟨rfl, rfl⟩ := hp9
          rw [setC_self hC]
          obtain ⟨f1, h1, k1⟩ := hrow v hlt
          refine h_iast G h1 (j := j) rfl hlj (by decide) dL_law_270 ?_
          refine HV.abs (fun s2 f2 o2 => ?_)
          have hT2 := Tab.set ⟨⟨f0, hq0, hf0⟩, hrow⟩ (by decide) hlt (j := j) h1 k1 f2 o2
          have hE2 : Ext σ s2 := fun a z hz => (o2 a (fun w => by
            have h9 := hri9 v hlt
            rw [← w, hz] at h9
            cases h9)).trans (hE a z hz)
          refine h_iinc G dL_law_271 rfl (by decide) rfl (nI_1 j) ?_
          refine h_goto G 249 dL_law_274 (by decide) ?_
          have hB2 : Lbl σ s2 64 65 := fun a i e hs => by
            by_cases h3 : a = r v
            · rw [h3, f2] at hs
              exact Or.inr (Or.inr (congrArg (fun z => z.1.1) (Option.some.inj hs)).symm)
            · rw [o2 a h3] at hs
              exact hB a i e hs
          exact ih2 (j + 1) (by omega) s2 hE2 hB2 (hT2.mono (fun i c _ _ hK => by omega))
      exact lp 3 0 (by omega) s1 hE hB hT
  exact loop g.nh 0 (by omega) s0 hE0 hB0 hT0
end Fi
