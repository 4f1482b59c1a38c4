/-! ===== law's checks: the sums, the helpers and the board ===== -/
theorem mkd_1 {y : GS} {n m : Nat} (hn : n < 2 ^ 31) (hm : m < n) (e : y.i 1 0 9 = nI m) : mkd y n = 1 := by
  unfold mkd
  have e1 : sI (fun b => if nI b = y.i 1 0 9 then (1 : Int32) else 0) n = sI (fun b => if b = m then (1 : Int32) else 0) n := sI_congr _ (fun b hb => by
    rw [e]
    by_cases z : b = m
    · rw [if_pos z, if_pos (by rw [z])]
    · rw [if_neg z, if_neg (fun w => z (nI_inj (by omega) (by omega) w))])
  rw [e1, sI_upd (f := fun _ => 0) (a := m) (d := 1) n hm (fun j hj => if_neg hj) (by rw [if_pos rfl]; rfl), sI_0 _ (fun _ => rfl)]
  rfl
theorem sI_nI {f : Nat → Int32} {c : Nat → Nat} : ∀ n, (∀ a, a < n → f a = nI (c a)) → sI f n = nI (sN c n)
  | 0, _ => rfl
  | n + 1, h => by
    show sI f n + f n = nI (sN c n + c n)
    rw [sI_nI n (fun a ha => h a (by omega)), h n (by omega), nI_add]
section Kh
variable {κ : KX} {s1 : Sg} {g h : GS} {M : Mem} {cN dN aS t q8 q9 q10 q20 : Nat} {r10 : Nat → Nat} {x y15 y17 y21 y22 y23 y24 : Int32} {n : Nat → Nat}
theorem p_k0 (G : Gd κ cL_law 34 RL 7 164) (hc9 : cN ≤ κ.R.cells) (hd9 : dN ≤ κ.R.slots) (hC : ClsP κ.E s1 M) (hI : CI M h) (hb : h.nb = g.nb) (h7 : g.nb ≤ 7) (hm : ∃ m, m < g.nb ∧ h.i 1 0 9 = nI m) (K : HV κ 34 s1 cN dN [some (.ref κ.E.sc.1), some (.ref (κ.E.ad (0, 0, 0))), some (.ref aS), some (.int (nI g.nb)), some (.int (nI g.nh)), some (.int (nI g.nv)), some (.int (nI t)), some (.int x), some (.ref q8), some (.ref q9), some (.ref q10), none, none, none, none, some (.int (nI g.bd.length)), none, some (.int y17), none, some (.int (if t % 12 = 11 then 1 else 0)), some (.ref q20), some (.int (opsN h g.nb)), some (.int y22), some (.int y23), some (.int (mkd h g.nb)), none, none, none, none, none, none, none, none, none] [] 864) : HV κ 34 s1 cN dN [some (.ref κ.E.sc.1), some (.ref (κ.E.ad (0, 0, 0))), some (.ref aS), some (.int (nI g.nb)), some (.int (nI g.nh)), some (.int (nI g.nv)), some (.int (nI t)), some (.int x), some (.ref q8), some (.ref q9), some (.ref q10), none, none, none, none, some (.int (nI g.bd.length)), none, some (.int y17), none, some (.int (if t % 12 = 11 then 1 else 0)), some (.ref q20), some (.int (opsN h g.nb)), some (.int y22), some (.int y23), some (.int (mkd h g.nb)), none, none, none, none, none, none, none, none, none] [] 846 := by
  obtain ⟨m, hm1, hm2⟩ := hm
  refine h_iload G dL_law_846 rfl ?_
  refine h_iconst (v := 1) G dL_law_848 (by decide) ?_
  refine h_icmp_ne G 862 dL_law_849 (by decide) (fun h849 => ?_) (fun h849 => ?_)
  · exact absurd (mkd_1 (by omega) hm1 hm2) h849
  refine h_aload_n G dL_law_852 rfl ?_
  refine h_iconst (v := 4) G dL_law_853 (by decide) ?_
  refine wiL_111 G hC (f_count hI (k := 4) (by decide)) (by decide) (Nat.le_of_ble_eq_true rfl) (by omega) (by omega) dL_law_854 (fun r9 M9 hp9 => ?_)
  obtain ⟨rfl, rfl⟩ := hp9
  rw [setC_self hC, show tot h 4 = opsN h g.nb from by show opsN h h.nb = _; rw [hb]]
  refine h_iload G dL_law_857 rfl ?_
  refine h_icmp_eq G 864 dL_law_859 (by decide) (fun h859 => ?_) (fun h859 => ?_)
  · exact K
  · exact absurd rfl h859
theorem p_k3 (G : Gd κ cL_law 34 RL 7 164) (hc9 : cN ≤ κ.R.cells) (hd9 : dN ≤ κ.R.slots) {z25 z26 z27 z28 : Int32} {L N : Nat} (hL : g.bd.length = L) (hL3 : L ≤ 3) (hN : N ≤ 77) (e23 : y23 = nI N) (eT : z25 = y22 - (if t % 12 = 11 ∧ 0 < L + N then 5 else 0)) (eP : z26 = y23) (eZ : z28 = y17) (eM : z27 = if t % 12 = 11 then mkS (min 3 (L + N)) else 0) (K : HV κ 34 s1 cN dN [some (.ref κ.E.sc.1), some (.ref (κ.E.ad (0, 0, 0))), some (.ref aS), some (.int (nI g.nb)), some (.int (nI g.nh)), some (.int (nI g.nv)), some (.int (nI t)), some (.int x), some (.ref q8), some (.ref q9), some (.ref q10), none, none, none, none, some (.int (nI g.bd.length)), none, some (.int y17), none, some (.int (if t % 12 = 11 then 1 else 0)), some (.ref q20), some (.int y21), some (.int y22), some (.int y23), some (.int y24), none, none, none, none, none, none, none, none, none] [] 1232) : HV κ 34 s1 cN dN [some (.ref κ.E.sc.1), some (.ref (κ.E.ad (0, 0, 0))), some (.ref aS), some (.int (nI g.nb)), some (.int (nI g.nh)), some (.int (nI g.nv)), some (.int (nI t)), some (.int x), some (.ref q8), some (.ref q9), some (.ref q10), none, none, none, none, some (.int (nI g.bd.length)), none, some (.int y17), none, some (.int (if t % 12 = 11 then 1 else 0)), some (.ref q20), some (.int y21), some (.int y22), some (.int y23), some (.int y24), some (.int z25), some (.int z26), some (.int z27), some (.int z28), none, none, none, none, none] [] 1137 := by
  subst e23 eP eZ
  have Kend : ∀ z29 : Int32, HV κ 34 s1 cN dN [some (.ref κ.E.sc.1), some (.ref (κ.E.ad (0, 0, 0))), some (.ref aS), some (.int (nI g.nb)), some (.int (nI g.nh)), some (.int (nI g.nv)), some (.int (nI t)), some (.int x), some (.ref q8), some (.ref q9), some (.ref q10), none, none, none, none, some (.int (nI g.bd.length)), none, some (.int z28), none, some (.int (if t % 12 = 11 then 1 else 0)), some (.ref q20), some (.int y21), some (.int y22), some (.int (nI N)), some (.int y24), some (.int z25), some (.int (nI N)), some (.int z27), some (.int z28), some (.int z29), none, none, none, none] [] 1232 := fun z29 => HV.drop1 25 (HV.drop1 26 (HV.drop1 27 (HV.drop1 28 (HV.drop1 29 K))))
  have K1157 : ∀ z29 : Int32, z29 = (if t % 12 = 11 ∧ 0 < L + N then 1 else 0) → HV κ 34 s1 cN dN [some (.ref κ.E.sc.1), some (.ref (κ.E.ad (0, 0, 0))), some (.ref aS), some (.int (nI g.nb)), some (.int (nI g.nh)), some (.int (nI g.nv)), some (.int (nI t)), some (.int x), some (.ref q8), some (.ref q9), some (.ref q10), none, none, none, none, some (.int (nI g.bd.length)), none, some (.int z28), none, some (.int (if t % 12 = 11 then 1 else 0)), some (.ref q20), some (.int y21), some (.int y22), some (.int (nI N)), some (.int y24), some (.int z25), some (.int (nI N)), some (.int z27), some (.int z28), none, none, none, none, none] [.int z29] 1157 := fun z29 h29 => by
    by_cases hB : t % 12 = 11 ∧ 0 < L + N
    · rw [if_pos hB] at h29 eT
      rw [if_pos hB.1] at eM
      subst h29
      refine h_istore G dL_law_1157 (by decide) rfl ?_
      refine h_iload G dL_law_1159 rfl ?_
      refine h_iload G dL_law_1161 rfl ?_
      refine h_iload G dL_law_1163 rfl ?_
      refine h_if_eq G 1172 dL_law_1165 (by decide) (fun h1165 => ?_) (fun h1165 => ?_)
      · exact absurd h1165 (by decide)
      refine h_iconst (v := 5) G dL_law_1168 (by decide) ?_
      refine h_goto G 1173 dL_law_1169 (by decide) ?_
      refine h_isub G dL_law_1173 ?_
      refine h_icmp_ne G 1230 dL_law_1174 (by decide) (fun h1174 => ?_) (fun h1174 => ?_)
      · exact absurd eT h1174
      refine h_iload G dL_law_1177 rfl ?_
      refine h_iload G dL_law_1179 rfl ?_
      refine h_icmp_ne G 1230 dL_law_1181 (by decide) (fun h1181 => ?_) (fun h1181 => ?_)
      · exact absurd rfl h1181
      refine h_iload G dL_law_1184 rfl ?_
      refine h_iload G dL_law_1186 rfl ?_
      refine h_icmp_ne G 1230 dL_law_1188 (by decide) (fun h1188 => ?_) (fun h1188 => ?_)
      · exact absurd rfl h1188
      have e3 : z27 = 3 ∨ z27 = 5 ∨ z27 = 6 := by
        have q : min 3 (L + N) = 1 ∨ min 3 (L + N) = 2 ∨ min 3 (L + N) = 3 := by omega
        rcases q with q | q | q
        · rw [q] at eM; exact Or.inl eM
        · rw [q] at eM; exact Or.inr (Or.inl eM)
        · rw [q] at eM; exact Or.inr (Or.inr eM)
      refine h_iload G dL_law_1191 rfl ?_
      refine h_if_eq G 1200 dL_law_1193 (by decide) (fun h1193 => ?_) (fun h1193 => ?_)
      · rcases e3 with q | q | q
        · rw [q] at h1193; exact absurd h1193 (by decide)
        · rw [q] at h1193; exact absurd h1193 (by decide)
        · rw [q] at h1193; exact absurd h1193 (by decide)
      refine h_iconst (v := 1) G dL_law_1196 (by decide) ?_
      refine h_goto G 1201 dL_law_1197 (by decide) ?_
      refine h_iload G dL_law_1201 rfl ?_
      refine h_icmp_ne G 1230 dL_law_1203 (by decide) (fun h1203 => ?_) (fun h1203 => ?_)
      · exact absurd rfl h1203
      refine h_iload G dL_law_1206 rfl ?_
      refine h_if_eq G 1232 dL_law_1208 (by decide) (fun h1208 => ?_) (fun h1208 => ?_)
      · exact absurd h1208 (by decide)
      refine h_iload G dL_law_1211 rfl ?_
      refine h_iconst (v := 3) G dL_law_1213 (by decide) ?_
      refine h_icmp_eq G 1232 dL_law_1214 (by decide) (fun h1214 => ?_) (fun h1214 => ?_)
      · exact Kend 1
      refine h_iload G dL_law_1217 rfl ?_
      refine h_iconst (v := 5) G dL_law_1219 (by decide) ?_
      refine h_icmp_eq G 1232 dL_law_1220 (by decide) (fun h1220 => ?_) (fun h1220 => ?_)
      · exact Kend 1
      refine h_iload G dL_law_1223 rfl ?_
      refine h_bipush (v := 6) G dL_law_1225 (by decide) ?_
      refine h_icmp_eq G 1232 dL_law_1227 (by decide) (fun h1227 => ?_) (fun h1227 => ?_)
      · exact Kend 1
      · rcases e3 with q | q | q
        · exact absurd q h1214
        · exact absurd q h1220
        · exact absurd q h1227
    · rw [if_neg hB] at h29 eT
      have e0 : z27 = 0 := by
        rw [eM]
        by_cases q : t % 12 = 11
        · rw [if_pos q, show min 3 (L + N) = 0 by omega]; rfl
        · rw [if_neg q]
      subst h29 e0
      refine h_istore G dL_law_1157 (by decide) rfl ?_
      refine h_iload G dL_law_1159 rfl ?_
      refine h_iload G dL_law_1161 rfl ?_
      refine h_iload G dL_law_1163 rfl ?_
      refine h_if_eq G 1172 dL_law_1165 (by decide) (fun h1165 => ?_) (fun h1165 => ?_)
      rotate_left
      · exact absurd rfl h1165
      refine h_iconst (v := 0) G dL_law_1172 (by decide) ?_
      refine h_isub G dL_law_1173 ?_
      refine h_icmp_ne G 1230 dL_law_1174 (by decide) (fun h1174 => ?_) (fun h1174 => ?_)
      · exact absurd eT h1174
      refine h_iload G dL_law_1177 rfl ?_
      refine h_iload G dL_law_1179 rfl ?_
      refine h_icmp_ne G 1230 dL_law_1181 (by decide) (fun h1181 => ?_) (fun h1181 => ?_)
      · exact absurd rfl h1181
      refine h_iload G dL_law_1184 rfl ?_
      refine h_iload G dL_law_1186 rfl ?_
      refine h_icmp_ne G 1230 dL_law_1188 (by decide) (fun h1188 => ?_) (fun h1188 => ?_)
      · exact absurd rfl h1188
      refine h_iload G dL_law_1191 rfl ?_
      refine h_if_eq G 1200 dL_law_1193 (by decide) (fun h1193 => ?_) (fun h1193 => ?_)
      rotate_left
      · exact absurd rfl h1193
      refine h_iconst (v := 0) G dL_law_1200 (by decide) ?_
      refine h_iload G dL_law_1201 rfl ?_
      refine h_icmp_ne G 1230 dL_law_1203 (by decide) (fun h1203 => ?_) (fun h1203 => ?_)
      · exact absurd rfl h1203
      refine h_iload G dL_law_1206 rfl ?_
      refine h_if_eq G 1232 dL_law_1208 (by decide) (fun h1208 => ?_) (fun h1208 => ?_)
      · exact Kend 0
      · exact absurd rfl h1208
  refine h_iload G dL_law_1137 rfl ?_
  refine h_if_eq G 1156 dL_law_1139 (by decide) (fun h1139 => ?_) (fun h1139 => ?_)
  · refine h_iconst (v := 0) G dL_law_1156 (by decide) ?_
    exact K1157 0 (if_neg (fun z => absurd h1139 (by rw [if_pos z.1]; decide))).symm
  have hl : t % 12 = 11 := Decidable.byContradiction (fun z => h1139 (if_neg z))
  refine h_iload G dL_law_1142 rfl ?_
  rw [hL]
  refine h_if_gt G 1152 dL_law_1144 (by decide) (fun h1144 => ?_) (fun h1144 => ?_)
  · have hp : 0 < L := by
      rcases Nat.eq_zero_or_pos L with q | q
      · rw [q] at h1144; exact absurd h1144 (by decide)
      · exact q
    refine h_iconst (v := 1) G dL_law_1152 (by decide) ?_
    refine h_goto G 1157 dL_law_1153 (by decide) ?_
    rw [← hL]
    exact K1157 1 (if_pos ⟨hl, by omega⟩).symm
  have hz : L = 0 := by
    rcases Nat.eq_zero_or_pos L with q | q
    · exact q
    · exact absurd (nI_lee (show 1 ≤ L from q) (by omega)) (fun z => h1144 (by
        rw [Int32.lt_iff_toInt_lt, nI_toInt (by omega)]
        have : ((0 : Int32).toInt) = 0 := by decide
        omega))
  refine h_iload G dL_law_1147 rfl ?_
  refine h_if_le G 1156 dL_law_1149 (by decide) (fun h1149 => ?_) (fun h1149 => ?_)
  · have hp : N = 0 := by
      rw [Int32.le_iff_toInt_le, nI_toInt (by omega), show ((0 : Int32).toInt) = 0 by decide] at h1149
      omega
    refine h_iconst (v := 0) G dL_law_1156 (by decide) ?_
    rw [← hL]
    exact K1157 0 (if_neg (fun z => by omega)).symm
  · have hp : 0 < N := by
      rcases Nat.eq_zero_or_pos N with q | q
      · rw [q] at h1149; exact absurd (by decide) h1149
      · exact q
    refine h_iconst (v := 1) G dL_law_1152 (by decide) ?_
    refine h_goto G 1157 dL_law_1153 (by decide) ?_
    rw [← hL]
    exact K1157 1 (if_pos ⟨hl, by omega⟩).symm
end Kh
