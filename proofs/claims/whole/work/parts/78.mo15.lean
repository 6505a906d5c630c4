/-! The reference: record. -/
section Mo15
variable {E : tb_E} {M M1 : tb_M} {fs : Fs} {k : Nat} {tx : List Int32} {S : StV}
def rowT (S : StV) (x : TrV) (i : Nat) : TrV := if i < 24 then S.2 i else x
theorem lp_Mo_rot (hG : tb_G E) (hS : Sh M) {x : TrV} {d rc rs : Nat} {l1 l2 : tb_L} {Q : tb_O → tb_M → Prop} (hQ : ∀ M1, On M M1 (fun q => 198 ≤ q ∧ q < 208) → (∀ i, i < 24 → MTr M1 i (rowT S x (i + 1))) → Q (.inl none) (tb_sI M1 190 10 24)) : ∀ (m j : Nat), 24 - j = m → j ≤ 24 → ∀ M1, On M M1 (fun q => 198 ≤ q ∧ q < 208) → (∀ i, i < j → MTr M1 i (rowT S x (i + 1))) → (∀ i, j ≤ i → i ≤ 24 → MTr M1 i (rowT S x i)) → tb_Wp E m_Mo_record (d + 1) rc rs 240 [some (.inr 190), l1, l2, some (.inl (nI j))] [] M1 Q := by
  intro m
  induction m using Nat.strongRecOn with
  | ind m ih =>
    intro j hm hj M1 o1 h1 h2
    have hS1 := o1.sh hS
    refine tb_iload_3 d_Mo_record_240 rfl ?_
    refine tb_bipush (24) (by decide) d_Mo_record_241 rfl ?_
    refine tb_icmp_ge 260 d_Mo_record_243 (by decide) rfl (fun h243 => ?_) (fun h243 => ?_)
    · have hje : 24 ≤ j := (nI_leI (a := 24) (b := j) (by decide) (by omega)).mp h243
      refine tb_aload_0 d_Mo_record_260 rfl ?_
      refine tb_bipush (24) (by decide) d_Mo_record_261 rfl ?_
      refine p_Mo_176 d_Mo_record_263 rfl rfl (by first | exact hS1.k rfl) ?_
      refine tb_vreturn d_Mo_record_266 rfl ?_
      exact hQ M1 o1 (fun i hi => h1 i (by omega))
    · have hlt : j < 24 := Nat.lt_of_not_le (fun q => h243 ((nI_leI (a := 24) (b := j) (by omega) (by omega)).mpr q))
      refine tb_aload_0 d_Mo_record_246 rfl ?_
      refine tb_iload_3 d_Mo_record_247 rfl ?_
      refine tb_iconst (1) (by decide) d_Mo_record_248 rfl ?_
      refine tb_iadd d_Mo_record_249 rfl ?_
      rw [nI_1]
      refine tb_iload_3 d_Mo_record_250 rfl ?_
      refine tb_callVq c_Mo_188 d_Mo_record_251 rfl rfl rfl (Nat.le_of_ble_eq_true rfl) (by first | exact hS1.k rfl) (ok_Mo_copy hG hS1 (fr := j + 1) (to := j) (by omega) (by omega) d) (fun v2 M2 hP => ?_)
      obtain ⟨rfl, hP⟩ := hP
      refine tb_iinc_3 (1) d_Mo_record_254 rfl (by decide) (by decide) ?_
      refine tb_goto 240 d_Mo_record_257 (by decide) ?_
      rw [nI_1]
      refine ih (24 - (j + 1)) (by omega) (j + 1) rfl (by omega) _ (o1.trans hP.1) (fun i hi => ?_) (fun i q1 q2 => hP.ne (by omega) (h2 i (by omega) q2))
      by_cases c : i = j
      · rw [c]; exact hP.at (h2 (j + 1) (by omega) (by omega))
      · exact hP.ne c (h1 i (by omega))
theorem ok_Mo_record (hG : tb_G E) (hS : Sh M) (hSt : MSt M S) (hK : TxM M k tx) (hF : MFs M fs) (h21 : tb_I M 190 21 = tRd (craftV tx fs)) (h22 : tb_I M 190 22 = tAk (craftV tx fs)) (h23 : tb_I M 190 23 = tWr (craftV tx fs)) (hmk : ¬ tWr (craftV tx fs) = -1 → MkV M (tRs (craftV tx fs))) (d : Nat) : tb_Rel E m_Mo_record (d + 1) [.inr (.inl 190), .inl (nI k)] M (fun v M2 => v = none ∧ On M M2 (fun q => q = 190 ∨ (198 ≤ q ∧ q < 208)) ∧ (∀ j, j ≠ 10 → tb_I M2 190 j = tb_I M 190 j) ∧ MSt M2 (appS S (craftV tx fs))) := by
  have hk := hK.1
  have h12 := hK.2.2.1
  have hc := hSt.2.1
  have hxT : tT (craftV tx fs) = tx := rfl
  have hxF : tF (craftV tx fs) = fs := rfl
  have hwf := craftV_wf tx fs
  generalize craftV tx fs = x at h21 h22 h23 hmk hxT hxF hwf ⊢
  generalize hcS : S.1 = c at hc
  have hc1 := hSt.1
  rw [hcS] at hc1
  refine tb_okOf hG (by decide) rfl (Nat.le_of_ble_eq_true rfl) rfl ?_
  refine tb_aload_0 d_Mo_record_0 rfl ?_
  refine g_Mo_176 d_Mo_record_1 rfl rfl (by first | exact hS.k rfl) ?_
  refine tb_topI hc1 ?_
  refine tb_istore_2 d_Mo_record_4 rfl (by decide) ?_
  refine tb_aload_0 d_Mo_record_5 rfl ?_
  refine g_Mo_31 d_Mo_record_6 rfl rfl (by first | exact hS.k rfl) ?_
  refine tb_topR (y := 198) (hS.mr 11 (by decide)) ?_
  refine tb_iload_2 d_Mo_record_9 rfl ?_
  refine tb_aload_0 d_Mo_record_10 rfl ?_
  refine g_Mo_25 d_Mo_record_11 rfl rfl (by first | exact hS.k rfl) ?_
  refine tb_topR (y := 196) (hS.mr 8 (by decide)) ?_
  refine tb_iload_1 d_Mo_record_14 rfl ?_
  refine tb_iaload d_Mo_record_15 rfl (by first | exact hS.k rfl) (by first | exact mo_in hS (c := 12) rfl (by omega) (by decide) | exact mo_in hS (c := 10) rfl (by omega) (by decide) | exact mo_in hS (c := 25) rfl (by omega) (by decide) | exact mo_in hS (c := 6) rfl (by omega) (by decide) | exact mo_in hS (c := 72) rfl (by omega) (by decide) | exact mo_in hS (c := 120) rfl (by omega) (by decide) | exact mo_in hS (c := 300) rfl (by omega) (by decide) | exact mo_in hS (c := 150) rfl (by omega) (by decide) | exact mo_in hS (c := 1800) rfl (by omega) (by decide)) ?_
  refine tb_topI (y := nI tx.length) (by rw [nI_clamp (show k < 2 ^ 31 by omega)]; exact hK.2.1) ?_
  refine tb_iastore d_Mo_record_16 rfl (by first | exact hS.k rfl) (by first | exact mo_in hS (c := 12) rfl (by omega) (by decide) | exact mo_in hS (c := 10) rfl (by omega) (by decide) | exact mo_in hS (c := 25) rfl (by omega) (by decide) | exact mo_in hS (c := 6) rfl (by omega) (by decide) | exact mo_in hS (c := 72) rfl (by omega) (by decide) | exact mo_in hS (c := 120) rfl (by omega) (by decide) | exact mo_in hS (c := 300) rfl (by omega) (by decide) | exact mo_in hS (c := 150) rfl (by omega) (by decide) | exact mo_in hS (c := 1800) rfl (by omega) (by decide)) ?_
  rw [nI_clamp (show c < 2 ^ 31 by omega)]
  refine tb_iconst (0) (by decide) d_Mo_record_17 rfl ?_
  refine tb_istore_3 d_Mo_record_18 rfl (by decide) ?_
  have oA : On M (tb_sI M 198 c (nI tx.length)) (fun q => q = 198) := On.sI rfl
  have vA : tb_I (tb_sI M 198 c (nI tx.length)) 198 = va_up (tb_I M 198) c (nI tx.length) := sI_at _ _ _ _
  generalize tb_sI M 198 c (nI tx.length) = MA at oA vA
  have hSA := oA.sh hS
  refine lp_Mo_rc199 hSA hk (t := c) (by omega) (fun MB l3 oB vB => ?_) 12 0 rfl (by omega) MA On.rf (sg2_0 _ _ _ _ _)
  have hSB := oB.sh hSA
  have iB : ∀ q, ¬ (q = 198 ∨ q = 199) → tb_I MB q = tb_I M q := fun q hq => by rw [oB.i (by omega), oA.i (by omega)]
  refine tb_aload_0 d_Mo_record_53 rfl ?_
  refine g_Mo_37 d_Mo_record_54 rfl rfl (by first | exact hSB.k rfl) ?_
  refine tb_topR (y := 200) (hSB.mr 13 (by decide)) ?_
  refine tb_iload_2 d_Mo_record_57 rfl ?_
  refine tb_aload_0 d_Mo_record_58 rfl ?_
  refine g_Mo_135 d_Mo_record_59 rfl rfl (by first | exact hSB.k rfl) ?_
  refine tb_topI (y := tRd x) (by rw [iB 190 (by omega)]; exact h21) ?_
  refine tb_iastore d_Mo_record_62 rfl (by first | exact hSB.k rfl) (by first | exact mo_in hSB (c := 12) rfl (by omega) (by decide) | exact mo_in hSB (c := 10) rfl (by omega) (by decide) | exact mo_in hSB (c := 25) rfl (by omega) (by decide) | exact mo_in hSB (c := 6) rfl (by omega) (by decide) | exact mo_in hSB (c := 72) rfl (by omega) (by decide) | exact mo_in hSB (c := 120) rfl (by omega) (by decide) | exact mo_in hSB (c := 300) rfl (by omega) (by decide) | exact mo_in hSB (c := 150) rfl (by omega) (by decide) | exact mo_in hSB (c := 1800) rfl (by omega) (by decide)) ?_
  rw [nI_clamp (show c < 2 ^ 31 by omega)]
  refine tb_aload_0 d_Mo_record_63 rfl ?_
  refine g_Mo_40 d_Mo_record_64 rfl rfl (by first | exact hSB.k rfl) ?_
  refine tb_topR (y := 201) (hSB.mr 14 (by decide)) ?_
  refine tb_iload_2 d_Mo_record_67 rfl ?_
  refine tb_aload_0 d_Mo_record_68 rfl ?_
  refine g_Mo_144 d_Mo_record_69 rfl rfl (by first | exact hSB.k rfl) ?_
  refine tb_topI (y := tAk x) (by rw [sI_of _ _ _ (by decide), iB 190 (by omega)]; exact h22) ?_
  refine tb_iastore d_Mo_record_72 rfl (by first | exact hSB.k rfl) (by first | exact mo_in hSB (c := 12) rfl (by omega) (by decide) | exact mo_in hSB (c := 10) rfl (by omega) (by decide) | exact mo_in hSB (c := 25) rfl (by omega) (by decide) | exact mo_in hSB (c := 6) rfl (by omega) (by decide) | exact mo_in hSB (c := 72) rfl (by omega) (by decide) | exact mo_in hSB (c := 120) rfl (by omega) (by decide) | exact mo_in hSB (c := 300) rfl (by omega) (by decide) | exact mo_in hSB (c := 150) rfl (by omega) (by decide) | exact mo_in hSB (c := 1800) rfl (by omega) (by decide)) ?_
  rw [nI_clamp (show c < 2 ^ 31 by omega)]
  refine tb_aload_0 d_Mo_record_73 rfl ?_
  refine g_Mo_43 d_Mo_record_74 rfl rfl (by first | exact hSB.k rfl) ?_
  refine tb_topR (y := 202) (hSB.mr 15 (by decide)) ?_
  refine tb_iload_2 d_Mo_record_77 rfl ?_
  refine tb_iconst (0) (by decide) d_Mo_record_78 rfl ?_
  refine tb_iastore d_Mo_record_79 rfl (by first | exact hSB.k rfl) (by first | exact mo_in hSB (c := 12) rfl (by omega) (by decide) | exact mo_in hSB (c := 10) rfl (by omega) (by decide) | exact mo_in hSB (c := 25) rfl (by omega) (by decide) | exact mo_in hSB (c := 6) rfl (by omega) (by decide) | exact mo_in hSB (c := 72) rfl (by omega) (by decide) | exact mo_in hSB (c := 120) rfl (by omega) (by decide) | exact mo_in hSB (c := 300) rfl (by omega) (by decide) | exact mo_in hSB (c := 150) rfl (by omega) (by decide) | exact mo_in hSB (c := 1800) rfl (by omega) (by decide)) ?_
  rw [nI_clamp (show c < 2 ^ 31 by omega)]
  refine tb_iconst (0) (by decide) d_Mo_record_80 rfl ?_
  refine tb_istore_3 d_Mo_record_81 rfl (by decide) ?_
  have oC : On MB (tb_sI (tb_sI (tb_sI MB 200 c (tRd x)) 201 c (tAk x)) 202 c 0) (fun q => q = 200 ∨ q = 201 ∨ q = 202) := by
    refine ((On.sI ?_).trans (On.sI ?_)).trans (On.sI ?_) <;> simp
  have v0 : tb_I (tb_sI (tb_sI (tb_sI MB 200 c (tRd x)) 201 c (tAk x)) 202 c 0) 200 = va_up (tb_I M 200) c (tRd x) := by rw [sI_of _ _ _ (by decide), sI_of _ _ _ (by decide), sI_at, iB 200 (by omega)]
  have v1 : tb_I (tb_sI (tb_sI (tb_sI MB 200 c (tRd x)) 201 c (tAk x)) 202 c 0) 201 = va_up (tb_I M 201) c (tAk x) := by rw [sI_of _ _ _ (by decide), sI_at, sI_of _ _ _ (by decide), iB 201 (by omega)]
  have v2 : tb_I (tb_sI (tb_sI (tb_sI MB 200 c (tRd x)) 201 c (tAk x)) 202 c 0) 202 = va_up (tb_I M 202) c 0 := by rw [sI_at, sI_of _ _ _ (by decide), sI_of _ _ _ (by decide), iB 202 (by omega)]
  generalize (tb_sI (tb_sI (tb_sI MB 200 c (tRd x)) 201 c (tAk x)) 202 c 0) = MC at oC v0 v1 v2
  have hSC := oC.sh hSB
  have iC : ∀ q, ¬ (198 ≤ q ∧ q < 203) → tb_I MC q = tb_I M q := fun q hq => by rw [oC.i (by omega), iB q (by omega)]
  have hFC := hF.of (M1 := MC) (iC _ (by omega)) (iC _ (by omega))
  refine lp_Mo_rc203 hSC hFC hk (t := c) (by omega) (fun MD l3 oD vD3 vD2 => ?_) 12 0 rfl (by omega) MC On.rf (sg2_0 _ _ _ _ _) (by
    rw [v2]
    funext p
    unfold va_up
    by_cases e : p = c
    · rw [if_pos e, if_pos e]; rfl
    · rw [if_neg e, if_neg e])
  have hSD := oD.sh hSC
  refine tb_iconst (0) (by decide) d_Mo_record_136 rfl ?_
  refine tb_istore_3 d_Mo_record_137 rfl (by decide) ?_
  refine lp_Mo_rc204 hSD hk (t := c) (by omega) (fun ME l3 oE vE => ?_) 72 0 rfl (by omega) MD On.rf (sg2_0 _ _ _ _ _)
  have hSE := oE.sh hSD
  have iE : ∀ q, ¬ (198 ≤ q ∧ q < 205) → tb_I ME q = tb_I M q := fun q hq => by rw [oE.i (by omega), oD.i (by omega), iC q (by omega)]
  refine tb_aload_0 d_Mo_record_167 rfl ?_
  refine g_Mo_52 d_Mo_record_168 rfl rfl (by first | exact hSE.k rfl) ?_
  refine tb_topR (y := 205) (hSE.mr 18 (by decide)) ?_
  refine tb_iload_2 d_Mo_record_171 rfl ?_
  refine tb_aload_0 d_Mo_record_172 rfl ?_
  refine g_Mo_147 d_Mo_record_173 rfl rfl (by first | exact hSE.k rfl) ?_
  refine tb_topI (y := tWr x) (by rw [iE 190 (by omega)]; exact h23) ?_
  refine tb_iastore d_Mo_record_176 rfl (by first | exact hSE.k rfl) (by first | exact mo_in hSE (c := 12) rfl (by omega) (by decide) | exact mo_in hSE (c := 10) rfl (by omega) (by decide) | exact mo_in hSE (c := 25) rfl (by omega) (by decide) | exact mo_in hSE (c := 6) rfl (by omega) (by decide) | exact mo_in hSE (c := 72) rfl (by omega) (by decide) | exact mo_in hSE (c := 120) rfl (by omega) (by decide) | exact mo_in hSE (c := 300) rfl (by omega) (by decide) | exact mo_in hSE (c := 150) rfl (by omega) (by decide) | exact mo_in hSE (c := 1800) rfl (by omega) (by decide)) ?_
  rw [nI_clamp (show c < 2 ^ 31 by omega)]
  refine tb_aload_0 d_Mo_record_177 rfl ?_
  refine g_Mo_55 d_Mo_record_178 rfl rfl (by first | exact hSE.k rfl) ?_
  refine tb_topR (y := 206) (hSE.mr 19 (by decide)) ?_
  refine tb_iload_2 d_Mo_record_181 rfl ?_
  refine tb_aload_0 d_Mo_record_182 rfl ?_
  refine g_Mo_132 d_Mo_record_183 rfl rfl (by first | exact hSE.k rfl) ?_
  refine tb_topI (y := tb_I M 190 24) (by rw [sI_of _ _ _ (by decide), iE 190 (by omega)]) ?_
  refine tb_iastore d_Mo_record_186 rfl (by first | exact hSE.k rfl) (by first | exact mo_in hSE (c := 12) rfl (by omega) (by decide) | exact mo_in hSE (c := 10) rfl (by omega) (by decide) | exact mo_in hSE (c := 25) rfl (by omega) (by decide) | exact mo_in hSE (c := 6) rfl (by omega) (by decide) | exact mo_in hSE (c := 72) rfl (by omega) (by decide) | exact mo_in hSE (c := 120) rfl (by omega) (by decide) | exact mo_in hSE (c := 300) rfl (by omega) (by decide) | exact mo_in hSE (c := 150) rfl (by omega) (by decide) | exact mo_in hSE (c := 1800) rfl (by omega) (by decide)) ?_
  rw [nI_clamp (show c < 2 ^ 31 by omega)]
  refine tb_iconst (0) (by decide) d_Mo_record_187 rfl ?_
  refine tb_istore_3 d_Mo_record_188 rfl (by decide) ?_
  have oF : On ME (tb_sI (tb_sI ME 205 c (tWr x)) 206 c (tb_I M 190 24)) (fun q => q = 205 ∨ q = 206) := (On.sI (A := fun q => q = 205 ∨ q = 206) (Or.inl rfl)).trans (On.sI (A := fun q => q = 205 ∨ q = 206) (Or.inr rfl))
  have v5 : tb_I (tb_sI (tb_sI ME 205 c (tWr x)) 206 c (tb_I M 190 24)) 205 = va_up (tb_I M 205) c (tWr x) := by rw [sI_of _ _ _ (by decide), sI_at, iE 205 (by omega)]
  have v6 : tb_I (tb_sI (tb_sI ME 205 c (tWr x)) 206 c (tb_I M 190 24)) 206 = va_up (tb_I M 206) c (tb_I M 190 24) := by rw [sI_at, sI_of _ _ _ (by decide), iE 206 (by omega)]
  generalize (tb_sI (tb_sI ME 205 c (tWr x)) 206 c (tb_I M 190 24)) = MF at oF v5 v6
  have hSF := oF.sh hSE
  have iF : ∀ q, ¬ (198 ≤ q ∧ q < 207) → tb_I MF q = tb_I M q := fun q hq => by rw [oF.i (by omega), iE q (by omega)]
  refine lp_Mo_rc207 hSF hk (t := c) (by omega) (fun MG l3 oG vG => ?_) 6 0 rfl (by omega) MF On.rf (sg2_0 _ _ _ _ _)
  have hSG := oG.sh hSF
  have iG : ∀ q, ¬ (198 ≤ q ∧ q < 208) → tb_I MG q = tb_I M q := fun q hq => by rw [oG.i (by omega), iF q (by omega)]
  have onG : On M MG (fun q => 198 ≤ q ∧ q < 208) := ((((((oA.mono (fun q hq => by omega)).trans (oB.mono (fun q hq => by omega))).trans (oC.mono (fun q hq => by omega))).trans (oD.mono (fun q hq => by omega))).trans (oE.mono (fun q hq => by omega))).trans (oF.mono (fun q hq => by omega))).trans (oG.mono (fun q hq => by omega))
  have w198 : tb_I MG 198 = va_up (tb_I M 198) c (nI tx.length) := by rw [oG.i (by omega), oF.i (by omega), oE.i (by omega), oD.i (by omega), oC.i (by omega), oB.i (by omega), vA]
  have w199 : tb_I MG 199 = sg2 12 (tb_I M 199) (tb_I M 197) c (12 * k) 12 := by rw [oG.i (by omega), oF.i (by omega), oE.i (by omega), oD.i (by omega), oC.i (by omega), vB, oA.i (by omega), oA.i (by omega)]
  have w200 : tb_I MG 200 = va_up (tb_I M 200) c (tRd x) := by rw [oG.i (by omega), oF.i (by omega), oE.i (by omega), oD.i (by omega), v0]
  have w201 : tb_I MG 201 = va_up (tb_I M 201) c (tAk x) := by rw [oG.i (by omega), oF.i (by omega), oE.i (by omega), oD.i (by omega), v1]
  have w202 : ∀ t, tb_I MG 202 t = if t = c then msk (fun f => fs f ≠ none) 12 else tb_I M 202 t := fun t => by
    rw [oG.i (by omega), oF.i (by omega), oE.i (by omega), vD2, v2]
    unfold va_up
    by_cases e : t = c
    · rw [if_pos e, if_pos e]
    · rw [if_neg e, if_neg e, if_neg e]
  have w203 : tb_I MG 203 = sg2 12 (tb_I M 203) (tb_I M 191) c 0 12 := by rw [oG.i (by omega), oF.i (by omega), oE.i (by omega), vD3, iC 203 (by omega), iC 191 (by omega)]
  have w204 : tb_I MG 204 = sg2 72 (tb_I M 204) (tb_I M 192) c 0 72 := by rw [oG.i (by omega), oF.i (by omega), vE, oD.i (by omega), oD.i (by omega), iC 204 (by omega), iC 192 (by omega)]
  have w205 : tb_I MG 205 = va_up (tb_I M 205) c (tWr x) := by rw [oG.i (by omega), v5]
  have w206 : tb_I MG 206 = va_up (tb_I M 206) c (tb_I M 190 24) := by rw [oG.i (by omega), v6]
  have w207 : tb_I MG 207 = sg2 6 (tb_I M 207) (tb_I M 208) c 0 6 := by rw [vG, iF 207 (by omega), iF 208 (by omega)]
  have hOld : ∀ t y, t ≠ c → MTr M t y → MTr MG t y := fun t y hne hT => hT.cong (fun q hq => by
      rcases hq with rfl | rfl | rfl | rfl | rfl | rfl
      · rw [w198]; simp [va_up, hne]
      · rw [w200]; simp [va_up, hne]
      · rw [w201]; simp [va_up, hne]
      · rw [w202, if_neg hne]
      · rw [w205]; simp [va_up, hne]
      · rw [w206]; simp [va_up, hne]) (fun i hi => by rw [w199]; exact sg2_out12 _ _ _ _ hi hne) (fun f hf => by rw [w203]; exact sg2_out12 _ _ _ _ hf hne) (fun i hi => by rw [w204]; exact sg2_out72 _ _ _ _ hi hne) (fun i hi => by rw [w207]; exact sg2_out6 _ _ _ _ hi hne)
  have hNew : MTr MG c x := by
    have e3 : ∀ f, f < 12 → tb_I MG 203 (12 * c + f) = tb_I M 191 f := fun f hf => by rw [w203, sg2_in12 _ _ _ _ hf, Nat.zero_add]
    refine ⟨⟨by rw [w198, hxT]; simp [va_up], by rw [hxT]; exact h12, fun i hi => ?_⟩, by rw [w200]; simp [va_up], by rw [w201]; simp [va_up], fun f hf => ?_, fun f hf => ⟨by rw [e3 f hf]; exact hF.1 f hf, ?_⟩, by rw [w205]; simp [va_up], hwf, fun z => ?_⟩
    · rw [hxT] at hi ⊢
      rw [w199, sg2_in12 _ _ _ _ (by omega)]
      exact hK.2.2.2 i hi
    · rw [w202, if_pos rfl, gb_msk _ 12 (Nat.le_refl _) f, hxF]
      exact ⟨fun q => q.2, fun q => ⟨hf, q⟩⟩
    · rw [hxF, ← hF.2 f hf]
      refine pl_eq (M' := M) (s := 202) (s' := 190) (e3 f hf) (fun i hi => ?_) (by rw [show tb_I MG (202 + 1) (12 * c + f) = _ from e3 f hf]; exact hF.1 f hf)
      show tb_I MG 204 (6 * (12 * c + f) + i) = tb_I M 192 (6 * f + i)
      rw [w204, show 6 * (12 * c + f) + i = 72 * c + (6 * f + i) by omega, sg2_in72 _ _ _ _ (by omega), Nat.zero_add]
    · have hm := hmk z
      have e6 : tb_I MG 206 c = tb_I M 190 24 := by rw [w206]; simp [va_up]
      cases hv : tRs x with
      | none =>
        rw [hv] at hm
        have hm' : tb_I M 190 24 = -1 := hm
        exact ⟨by rw [e6, hm']; exact Or.inl rfl, pl_none (by show tb_I MG 206 c = -1; rw [e6, hm'])⟩
      | some l =>
        rw [hv] at hm
        obtain ⟨m1, m2, m3⟩ := hm
        refine ⟨by rw [e6, m1]; exact Or.inr ⟨l.length, m2, rfl⟩, ?_⟩
        rw [pl_some (M := MG) (s := 205) m2 (show tb_I MG 206 c = nI l.length by rw [e6, m1])]
        congr 1
        apply List.ext_getElem?
        intro i
        by_cases hi : i < l.length
        · rw [List.getElem?_map, List.getElem?_range hi, List.getElem?_eq_getElem hi]
          show some (tb_I MG 207 (6 * c + i)) = some l[i]
          rw [w207, sg2_in6 _ _ _ _ (by omega), Nat.zero_add, m3 i hi]
        · rw [List.getElem?_eq_none (by rw [List.length_map, List.length_range]; omega), List.getElem?_eq_none (by omega)]
  refine tb_aload_0 d_Mo_record_218 rfl ?_
  refine tb_dup d_Mo_record_219 rfl ?_
  refine g_Mo_176 d_Mo_record_220 rfl rfl (by first | exact hSG.k rfl) ?_
  refine tb_topI (y := nI c) (by rw [iG 190 (by omega)]; exact hc1) ?_
  refine tb_iconst (1) (by decide) d_Mo_record_223 rfl ?_
  refine tb_iadd d_Mo_record_224 rfl ?_
  rw [nI_1]
  refine p_Mo_176 d_Mo_record_225 rfl rfl (by first | exact hSG.k rfl) ?_
  refine tb_aload_0 d_Mo_record_228 rfl ?_
  refine g_Mo_176 d_Mo_record_229 rfl rfl (by first | exact hSG.k rfl) ?_
  refine tb_topI (y := nI (c + 1)) (by rw [sI_at]; simp [va_up]) ?_
  refine tb_bipush (24) (by decide) d_Mo_record_232 rfl ?_
  refine tb_icmp_gt 238 d_Mo_record_234 (by decide) rfl (fun h234 => ?_) (fun h234 => ?_)
  · have h24 : c = 24 := by
      have : ¬ c + 1 ≤ 24 := fun z => Int32.not_lt.mpr (nI_le (b := 24) z (by decide)) h234
      omega
    refine tb_iconst (0) (by decide) d_Mo_record_238 rfl ?_
    refine tb_istore_3 d_Mo_record_239 rfl (by decide) ?_
    have oH : On MG (tb_sI MG 190 10 (nI (c + 1))) (fun q => q = 190) := On.sI rfl
    have eH : tb_I (tb_sI MG 190 10 (nI (c + 1))) 190 = va_up (tb_I M 190) 10 (nI (c + 1)) := by rw [sI_at, iG 190 (by omega)]
    have tH : ∀ t y, MTr MG t y → MTr (tb_sI MG 190 10 (nI (c + 1))) t y := fun t y hT => hT.of (fun q _ _ => oH.i (by omega))
    generalize tb_sI MG 190 10 (nI (c + 1)) = MH at oH eH tH
    have hSH := oH.sh hSG
    refine lp_Mo_rot (S := S) (x := x) hG hSH (fun MI oI hI => ?_) 24 0 rfl (by omega) MH On.rf (fun i hi => absurd hi (Nat.not_lt_zero _)) (fun i _ hi => ?_)
    · have oJ : On MI (tb_sI MI 190 10 24) (fun q => q = 190) := On.sI rfl
      refine ⟨none, rfl, rfl, (((onG.mono (fun q hq => Or.inr hq)).trans (oH.mono (fun q hq => Or.inl hq))).trans (oI.mono (fun q hq => Or.inr hq))).trans (oJ.mono (fun q hq => Or.inl hq)), fun j hj => by rw [sI_at, oI.i (by omega), eH]; simp [va_up, hj], ?_⟩
      unfold appS
      rw [hcS, if_neg (by omega)]
      refine ⟨by rw [sI_at]; simp [va_up]; rfl, by show 24 ≤ 24; omega, fun t ht => ?_⟩
      have ht' : t < 24 := ht
      show MTr _ t (if t < 23 then S.2 (t + 1) else x)
      have := (hI t ht').of (M1 := tb_sI MI 190 10 24) (fun q _ _ => oJ.i (by omega))
      unfold rowT at this
      by_cases e : t < 23
      · rw [if_pos e]; rw [if_pos (by omega)] at this; exact this
      · rw [if_neg e]; rw [if_neg (by omega)] at this; exact this
    · by_cases e : i = 24
      · rw [e]
        unfold rowT
        rw [if_neg (by omega)]
        have := tH c x hNew
        rw [h24] at this
        exact this
      · unfold rowT
        rw [if_pos (by omega)]
        exact tH i _ (hOld i _ (by omega) (hSt.2.2 i (by omega)))
  · have h24 : c < 24 := by
      have : c + 1 ≤ 24 := Nat.le_of_not_lt (fun z => h234 (nI_lt (a := 24) z (by omega)))
      omega
    refine tb_vreturn d_Mo_record_237 rfl ?_
    have oH : On MG (tb_sI MG 190 10 (nI (c + 1))) (fun q => q = 190) := On.sI rfl
    refine ⟨none, rfl, rfl, (onG.mono (fun q hq => Or.inr hq)).trans (oH.mono (fun q hq => Or.inl hq)), fun j hj => by rw [sI_at, iG 190 (by omega)]; simp [va_up, hj], ?_⟩
    unfold appS
    rw [hcS, if_pos h24]
    refine ⟨by rw [sI_at]; simp [va_up], by show c + 1 ≤ 24; omega, fun t ht => ?_⟩
    have ht' : t < c + 1 := ht
    show MTr _ t (if t = c then x else S.2 t)
    by_cases e : t = c
    · rw [if_pos e, e]; exact hNew.of (fun q _ _ => oH.i (by omega))
    · rw [if_neg e]; exact (hOld t _ e (hSt.2.2 t (by omega))).of (fun q _ _ => oH.i (by omega))
end Mo15
