/-! The law: its loop. -/
theorem lg_self (x : Int64) : lg_cmp x x = 0 := by
  unfold lg_cmp
  simp
theorem law_le {L i : Nat} (hL : L < 2 ^ 30) (hi : i < 2 ^ 30) : nI L - 3 < nI i ↔ L < i + 3 := by
  by_cases c : 3 ≤ L
  · rw [show (3 : Int32) = nI 3 from rfl, nI_subN c]
    constructor
    · intro h
      refine Nat.lt_of_not_le (fun z => ?_)
      exact absurd h (Int32.not_lt.mpr (nI_le (by omega) (by omega)))
    · intro h
      exact nI_lt (by omega) (by omega)
  · have h0 : nI L - 3 < 0 := by
      rcases (show L = 0 ∨ L = 1 ∨ L = 2 by omega) with rfl | rfl | rfl <;> decide
    constructor
    · intro _; omega
    · intro _
      exact Int32.lt_of_lt_of_le h0 (nI_pos' (by omega))
theorem nar_c (x : Int32) : narrow .char (.int (x.toUInt32 % 65536).toInt32) = .int (x.toUInt32 % 65536).toInt32 := by
  have h1 : ((x.toUInt32 % 65536).toInt32).toUInt32 = x.toUInt32 % 65536 := by simp
  show Value.int (x.toUInt32 % 65536).toInt32.toUInt32.toUInt16.toUInt32.toInt32 = _
  rw [h1]
  congr 2
  apply UInt32.toNat.inj
  simp
theorem nar_s (x : Int32) : narrow .short (.int x.toInt16.toInt32) = .int x.toInt16.toInt32 := by
  exact s16_nar x
section Law3
variable {X : Nat × Nat × (Nat → Int32)} {E : tb_E} {M : tb_M} {g : Sg}
theorem CIs.short (h : CIs M g) : ∀ f, f < 12 → ∀ i, narrow .short (.int ((cl (g.2.2.1.1 f)).getD i 0)) = .int ((cl (g.2.2.1.1 f)).getD i 0) := by
  intro f hf i
  have hF := h.2.2.2.1
  rw [← hF.2 f hf]
  by_cases c : i < (cl (pl M 26 f)).length
  · have h27 : f < gL 27 := hf
    have e := pl_at hF.1 h27 c
    rw [List.getD_eq_getElem?_getD, List.getElem?_eq_getElem c]
    show narrow .short (.int (cl (pl M 26 f))[i]) = .int (cl (pl M 26 f))[i]
    rw [← e]
    have hl : (cl (pl M 26 f)).length ≤ 6 := ln_le hF.1 h27
    exact hF.1.2.2 _ (by show 6 * f + i < 72; omega)
  · rw [List.getD_eq_getElem?_getD, List.getElem?_eq_none (by omega)]
    rfl

theorem law_type (hG : tb_G E) (hC : CIs M g) (hM : MIs M g) {i w : Nat} {l5 l6 : tb_L} {Q : tb_O → tb_M → Prop} (hX : X.2.1 < 2 ^ 31) (hi : i + 3 ≤ X.2.1) (hnext : ∀ m g2, CIs m g2 → MIs m g2 → ∀ l5 l6, tb_Wl X E m_La_law 10 (2 * w) (12 * w) 700 [none, some (.inr 1), some (.inr 190), some (.inr 217), some (.inl (nI i)), l5, l6] [] m Q) : tb_Wl X E m_La_law 10 (2 * (w + 1)) (12 * (w + 1)) 124 [none, some (.inr 1), some (.inr 190), some (.inr 217), some (.inl (nI i)), l5, l6] [] M Q := by
  refine tl_aload_1 d_La_law_124 rfl ?_
  refine tl_scr1 (i := i) (a := 1) d_La_law_125 d_La_law_126 d_La_law_128 d_La_law_129 d_La_law_130 rfl rfl (by decide) (by omega) hX ?_
  refine tl_i2c d_La_law_131 rfl ?_
  refine tl_callV c_La_42 d_La_law_132 rfl rfl rfl (Nat.le_of_ble_eq_true rfl) (by exact hC.1.k rfl) (by omega) (Nat.zero_le _) (Nat.zero_le _) (ok_TB_type hG hC (nar_c _) 0) (fun v m hP => ?_) (fun xx m hP => absurd (Ans_r hP.1).2 (fun z => z rfl))
  obtain ⟨hv, hC1, hcf⟩ := hP
  obtain ⟨-, rfl⟩ := Ans_l hv
  have hM1 := hM.cf hC1.1 hcf.2.2
  refine tl_aload_2 d_La_law_135 rfl ?_
  refine tl_scr1 (i := i) (a := 1) d_La_law_136 d_La_law_137 d_La_law_139 d_La_law_140 d_La_law_141 rfl rfl (by decide) (by omega) hX ?_
  refine tl_i2c d_La_law_142 rfl ?_
  refine tl_callV c_La_46 d_La_law_143 rfl rfl rfl (Nat.le_of_ble_eq_true rfl) (by exact hC1.1.k rfl) (by omega) (Nat.zero_le _) (Nat.zero_le _) (ok_Mo_type hG hM1 0) (fun v m2 hP => ?_) (fun xx m2 hP => by obtain ⟨_, q, -⟩ := hP; cases q)
  obtain ⟨v2, hv2, rfl, hM2, oM2, -⟩ := hP
  cases hv2
  have hC2 := hC1.on oM2
  refine tl_icmp_eq 700 d_La_law_146 (by decide) rfl (fun h146 => ?_) (fun h146 => ?_)
  · exact tl_room (by omega) (by omega) (hnext m2 _ hC2 hM2 _ _)
  · exact absurd rfl h146
theorem law_command (hG : tb_G E) (hC : CIs M g) (hM : MIs M g) {i w : Nat} {l5 l6 : tb_L} {Q : tb_O → tb_M → Prop} (hX : X.2.1 < 2 ^ 31) (hi : i + 3 ≤ X.2.1) (hnext : ∀ m g2, CIs m g2 → MIs m g2 → ∀ l5 l6, tb_Wl X E m_La_law 10 (2 * w) (12 * w) 700 [none, some (.inr 1), some (.inr 190), some (.inr 217), some (.inl (nI i)), l5, l6] [] m Q) : tb_Wl X E m_La_law 10 (2 * (w + 1)) (12 * (w + 1)) 151 [none, some (.inr 1), some (.inr 190), some (.inr 217), some (.inl (nI i)), l5, l6] [] M Q := by
  have hcb : tCmd g < 2 ^ 31 := by have := tCmd_v g; omega
  refine tl_aload_1 d_La_law_151 rfl ?_
  refine tl_aload_3 d_La_law_152 rfl ?_
  refine tl_callS c_La_47 d_La_law_153 rfl rfl rfl (Nat.le_of_ble_eq_true rfl) (by omega) (by omega) (by omega) (ok_La_command hG hC 0) (fun v m hP => ?_) (fun xx m hP => by cases hP.1)
  obtain ⟨hv, hC1, hI1, hJ1⟩ := hP
  cases hv
  have hM1 := hM.cf hC1.1 hI1
  refine tl_istore_5 d_La_law_156 rfl (by decide) ?_
  refine tl_aload_2 d_La_law_158 rfl ?_
  refine tl_callV c_La_52 d_La_law_159 rfl rfl rfl (Nat.le_of_ble_eq_true rfl) (by exact hC1.1.k rfl) (by omega) (Nat.zero_le _) (Nat.zero_le _) (ok_Mo_command hG hM1 0) (fun v m2 hP => ?_) (fun xx m2 hP => by obtain ⟨_, q, -⟩ := hP; cases q)
  obtain ⟨v2, hv2, ha, ⟨a2, rfl⟩, hM2, oM2, hc2⟩ := hP
  cases hv2
  have hC2 := hC1.on oM2
  refine tl_istore_6 d_La_law_162 rfl (by decide) ?_
  refine tl_aload_2 d_La_law_164 rfl ?_
  refine tl_callV c_La_53 d_La_law_165 rfl rfl rfl (Nat.le_of_ble_eq_true rfl) (by exact hC2.1.k rfl) (by omega) (Nat.zero_le _) (Nat.zero_le _) (ok_Mo_thrown hG hC2.1 0) (fun v m3 hP => ?_) (fun xx m3 hP => by cases hP.1)
  obtain ⟨hv, rfl⟩ := hP
  cases hv
  refine tl_topI (y := nI (tCmd g)) hc2 ?_
  refine tl_iload_5 d_La_law_168 rfl ?_
  refine tl_icmp_eq 175 d_La_law_170 (by decide) rfl (fun h170 => ?_) (fun h170 => ?_)
  · refine tl_iload_5 d_La_law_175 rfl ?_
    refine tl_if_ne 192 d_La_law_177 (by decide) rfl (fun h177 => ?_) (fun h177 => ?_)
    · refine tl_goto 700 d_La_law_192 (by decide) ?_
      exact tl_room (by omega) (by omega) (hnext _ _ hC2 hM2 _ _)
    · have hz : (tCmd g) = 0 := (nI_eq (by have := hcb; omega) (by omega)).mp (show nI (tCmd g) = nI 0 from h177)
      have ha2 := ha hz
      cases ha2
      refine tl_aload_3 d_La_law_180 rfl ?_
      refine tl_iconst (0) (by decide) d_La_law_181 rfl ?_
      refine tl_laload d_La_law_182 rfl (by exact hC2.1.k rfl) (by rw [hC2.1.l rfl]; show vp_in (nI 0) 1; exact vp_in_nI (by omega) (by omega)) ?_
      refine tl_iload_6 d_La_law_183 rfl ?_
      refine tl_i2l d_La_law_185 rfl ?_
      refine tl_lcmp d_La_law_186 rfl ?_
      refine tl_topI (y := 0) (by
        have e1 : tb_J m3 217 (0 : Int32).toNatClampNeg = (nI g.2.1.1).toInt64 := by rw [oM2.j]; exact hJ1 hz _ rfl
        rw [e1]; exact lg_self _) ?_
      refine tl_if_eq 192 d_La_law_187 (by decide) rfl (fun h187 => ?_) (fun h187 => ?_)
      · refine tl_goto 700 d_La_law_192 (by decide) ?_
        exact tl_room (by omega) (by omega) (hnext _ _ hC2 hM2 _ _)
      · exact absurd rfl h187
  · exact absurd rfl h170
theorem law_edit (hG : tb_G E) (hC : CIs M g) (hM : MIs M g) {i w : Nat} {l5 l6 : tb_L} {Q : tb_O → tb_M → Prop} (hX : X.2.1 < 2 ^ 31) (hi : i + 3 ≤ X.2.1) (hnext : ∀ m g2, CIs m g2 → MIs m g2 → ∀ l5 l6, tb_Wl X E m_La_law 10 (2 * w) (12 * w) 700 [none, some (.inr 1), some (.inr 190), some (.inr 217), some (.inl (nI i)), l5, l6] [] m Q) : tb_Wl X E m_La_law 10 (2 * (w + 1)) (12 * (w + 1)) 195 [none, some (.inr 1), some (.inr 190), some (.inr 217), some (.inl (nI i)), l5, l6] [] M Q := by
  refine tl_aload_1 d_La_law_195 rfl ?_
  refine tl_scr1 (i := i) (a := 1) d_La_law_196 d_La_law_197 d_La_law_199 d_La_law_200 d_La_law_201 rfl rfl (by decide) (by omega) hX ?_
  refine tl_callS c_La_56 d_La_law_202 rfl rfl rfl (Nat.le_of_ble_eq_true rfl) (by omega) (by omega) (by omega) (ok_La_edit hG hC 0) (fun v m hP => ?_) (fun xx m hP => by cases hP.1)
  obtain ⟨hv, hC1, hI1, hJ1⟩ := hP
  cases hv
  have hM1 := hM.cf hC1.1 hI1
  refine tl_istore_5 d_La_law_205 rfl (by decide) ?_
  refine tl_aload_2 d_La_law_207 rfl ?_
  refine tl_scr1 (i := i) (a := 1) d_La_law_208 d_La_law_209 d_La_law_211 d_La_law_212 d_La_law_213 rfl rfl (by decide) (by omega) hX ?_
  refine tl_callV c_La_59 d_La_law_214 rfl rfl rfl (Nat.le_of_ble_eq_true rfl) (by exact hC1.1.k rfl) (by omega) (Nat.zero_le _) (Nat.zero_le _) (ok_Mo_edit hG hM1 0) (fun v m2 hP => ?_) (fun xx m2 hP => by obtain ⟨_, q, -⟩ := hP; cases q)
  obtain ⟨v2, hv2, rfl, hM2, oM2, hc2⟩ := hP
  cases hv2
  have hC2 := hC1.on oM2
  refine tl_aload_2 d_La_law_217 rfl ?_
  refine tl_callV c_La_53 d_La_law_218 rfl rfl rfl (Nat.le_of_ble_eq_true rfl) (by exact hC2.1.k rfl) (by omega) (Nat.zero_le _) (Nat.zero_le _) (ok_Mo_thrown hG hC2.1 0) (fun v m3 hP => ?_) (fun xx m3 hP => by cases hP.1)
  obtain ⟨hv, rfl⟩ := hP
  cases hv
  refine tl_topI (y := nI (cEdi g (X.2.2 (i + 1)))) hc2 ?_
  refine tl_iload_5 d_La_law_221 rfl ?_
  refine tl_icmp_eq 228 d_La_law_223 (by decide) rfl (fun h223 => ?_) (fun h223 => ?_)
  · refine tl_goto 700 d_La_law_228 (by decide) ?_
    exact tl_room (by omega) (by omega) (hnext _ _ hC2 hM2 _ _)
  · exact absurd rfl h223
theorem law_drop (hG : tb_G E) (hC : CIs M g) (hM : MIs M g) {i w : Nat} {l5 l6 : tb_L} {Q : tb_O → tb_M → Prop} (hX : X.2.1 < 2 ^ 31) (hi : i + 3 ≤ X.2.1) (hnext : ∀ m g2, CIs m g2 → MIs m g2 → ∀ l5 l6, tb_Wl X E m_La_law 10 (2 * w) (12 * w) 700 [none, some (.inr 1), some (.inr 190), some (.inr 217), some (.inl (nI i)), l5, l6] [] m Q) : tb_Wl X E m_La_law 10 (2 * (w + 1)) (12 * (w + 1)) 231 [none, some (.inr 1), some (.inr 190), some (.inr 217), some (.inl (nI i)), l5, l6] [] M Q := by
  refine tl_aload_1 d_La_law_231 rfl ?_
  refine tl_scr1 (i := i) (a := 1) d_La_law_232 d_La_law_233 d_La_law_235 d_La_law_236 d_La_law_237 rfl rfl (by decide) (by omega) hX ?_
  refine tl_callS c_La_60 d_La_law_238 rfl rfl rfl (Nat.le_of_ble_eq_true rfl) (by omega) (by omega) (by omega) (ok_La_drop hG hC 0) (fun v m hP => ?_) (fun xx m hP => by cases hP.1)
  obtain ⟨hv, hC1, hI1, hJ1⟩ := hP
  cases hv
  have hM1 := hM.cf hC1.1 hI1
  refine tl_istore_5 d_La_law_241 rfl (by decide) ?_
  refine tl_aload_2 d_La_law_243 rfl ?_
  refine tl_scr1 (i := i) (a := 1) d_La_law_244 d_La_law_245 d_La_law_247 d_La_law_248 d_La_law_249 rfl rfl (by decide) (by omega) hX ?_
  refine tl_callV c_La_62 d_La_law_250 rfl rfl rfl (Nat.le_of_ble_eq_true rfl) (by exact hC1.1.k rfl) (by omega) (Nat.zero_le _) (Nat.zero_le _) (ok_Mo_drop hG hM1 0) (fun v m2 hP => ?_) (fun xx m2 hP => by obtain ⟨_, q, -⟩ := hP; cases q)
  obtain ⟨v2, hv2, rfl, hM2, oM2, hc2⟩ := hP
  cases hv2
  have hC2 := hC1.on oM2
  refine tl_aload_2 d_La_law_253 rfl ?_
  refine tl_callV c_La_53 d_La_law_254 rfl rfl rfl (Nat.le_of_ble_eq_true rfl) (by exact hC2.1.k rfl) (by omega) (Nat.zero_le _) (Nat.zero_le _) (ok_Mo_thrown hG hC2.1 0) (fun v m3 hP => ?_) (fun xx m3 hP => by cases hP.1)
  obtain ⟨hv, rfl⟩ := hP
  cases hv
  refine tl_topI (y := nI (cDro g (X.2.2 (i + 1)))) hc2 ?_
  refine tl_iload_5 d_La_law_257 rfl ?_
  refine tl_icmp_eq 264 d_La_law_259 (by decide) rfl (fun h259 => ?_) (fun h259 => ?_)
  · refine tl_goto 700 d_La_law_264 (by decide) ?_
    exact tl_room (by omega) (by omega) (hnext _ _ hC2 hM2 _ _)
  · exact absurd rfl h259
theorem law_commands (hG : tb_G E) (hC : CIs M g) (hM : MIs M g) {i w : Nat} {l5 l6 : tb_L} {Q : tb_O → tb_M → Prop} (hX : X.2.1 < 2 ^ 31) (hi : i + 3 ≤ X.2.1) (hnext : ∀ m g2, CIs m g2 → MIs m g2 → ∀ l5 l6, tb_Wl X E m_La_law 10 (2 * w) (12 * w) 700 [none, some (.inr 1), some (.inr 190), some (.inr 217), some (.inl (nI i)), l5, l6] [] m Q) : tb_Wl X E m_La_law 10 (2 * (w + 1)) (12 * (w + 1)) 267 [none, some (.inr 1), some (.inr 190), some (.inr 217), some (.inl (nI i)), l5, l6] [] M Q := by
  refine tl_aload_1 d_La_law_267 rfl ?_
  refine tl_callV c_La_63 d_La_law_268 rfl rfl rfl (Nat.le_of_ble_eq_true rfl) (by exact hC.1.k rfl) (by omega) (Nat.zero_le _) (Nat.zero_le _) (ok_TB_commands hG hC 0) (fun v m hP => ?_) (fun xx m hP => absurd (Ans_r hP.1).2 (fun z => z rfl))
  obtain ⟨hv, hC1, hcf⟩ := hP
  obtain ⟨-, rfl⟩ := Ans_l hv
  have hM1 := hM.cf hC1.1 hcf.2.2
  refine tl_aload_2 d_La_law_271 rfl ?_
  refine tl_callV c_La_66 d_La_law_272 rfl rfl rfl (Nat.le_of_ble_eq_true rfl) (by exact hC1.1.k rfl) (by omega) (Nat.zero_le _) (Nat.zero_le _) (ok_Mo_commands hG hM1 0) (fun v m2 hP => ?_) (fun xx m2 hP => by obtain ⟨_, q, -⟩ := hP; cases q)
  obtain ⟨v2, hv2, rfl, hM2, oM2, -⟩ := hP
  cases hv2
  have hC2 := hC1.on oM2
  refine tl_icmp_eq 700 d_La_law_275 (by decide) rfl (fun h275 => ?_) (fun h275 => ?_)
  · exact tl_room (by omega) (by omega) (hnext m2 _ hC2 hM2 _ _)
  · exact absurd rfl h275
theorem law_put (hG : tb_G E) (hC : CIs M g) (hM : MIs M g) {i w : Nat} {l5 l6 : tb_L} {Q : tb_O → tb_M → Prop} (hX : X.2.1 < 2 ^ 31) (hi : i + 3 ≤ X.2.1) (hnext : ∀ m g2, CIs m g2 → MIs m g2 → ∀ l5 l6, tb_Wl X E m_La_law 10 (2 * w) (12 * w) 700 [none, some (.inr 1), some (.inr 190), some (.inr 217), some (.inl (nI i)), l5, l6] [] m Q) : tb_Wl X E m_La_law 10 (2 * (w + 1)) (12 * (w + 1)) 280 [none, some (.inr 1), some (.inr 190), some (.inr 217), some (.inl (nI i)), l5, l6] [] M Q := by
  refine tl_aload_1 d_La_law_280 rfl ?_
  refine tl_scr1 (i := i) (a := 1) d_La_law_281 d_La_law_282 d_La_law_284 d_La_law_285 d_La_law_286 rfl rfl (by decide) (by omega) hX ?_
  refine tl_scr1 (i := i) (a := 2) d_La_law_287 d_La_law_288 d_La_law_290 d_La_law_291 d_La_law_292 rfl rfl (by decide) (by omega) hX ?_
  refine tl_i2s d_La_law_293 rfl ?_
  refine tl_callV c_La_67 d_La_law_294 rfl rfl rfl (Nat.le_of_ble_eq_true rfl) (by exact hC.1.k rfl) (by omega) (Nat.zero_le _) (Nat.zero_le _) (ok_TB_put hG hC (nar_s _) 0) (fun v m hP => ?_) (fun xx m hP => absurd (Ans_r hP.1).2 (fun z => z rfl))
  obtain ⟨hv, hC1, hcf⟩ := hP
  obtain ⟨-, rfl⟩ := Ans_l hv
  have hM1 := hM.cf hC1.1 hcf.2.2
  refine tl_aload_2 d_La_law_297 rfl ?_
  refine tl_scr1 (i := i) (a := 1) d_La_law_298 d_La_law_299 d_La_law_301 d_La_law_302 d_La_law_303 rfl rfl (by decide) (by omega) hX ?_
  refine tl_scr1 (i := i) (a := 2) d_La_law_304 d_La_law_305 d_La_law_307 d_La_law_308 d_La_law_309 rfl rfl (by decide) (by omega) hX ?_
  refine tl_i2s d_La_law_310 rfl ?_
  refine tl_callV c_La_71 d_La_law_311 rfl rfl rfl (Nat.le_of_ble_eq_true rfl) (by exact hC1.1.k rfl) (by omega) (Nat.zero_le _) (Nat.zero_le _) (ok_Mo_put hG hM1 0) (fun v m2 hP => ?_) (fun xx m2 hP => by obtain ⟨_, q, -⟩ := hP; cases q)
  obtain ⟨v2, hv2, rfl, hM2, oM2, -⟩ := hP
  cases hv2
  have hC2 := hC1.on oM2
  refine tl_icmp_eq 700 d_La_law_314 (by decide) rfl (fun h314 => ?_) (fun h314 => ?_)
  · exact tl_room (by omega) (by omega) (hnext m2 _ hC2 hM2 _ _)
  · exact absurd rfl h314
theorem law_remove (hG : tb_G E) (hC : CIs M g) (hM : MIs M g) {i w : Nat} {l5 l6 : tb_L} {Q : tb_O → tb_M → Prop} (hX : X.2.1 < 2 ^ 31) (hi : i + 3 ≤ X.2.1) (hnext : ∀ m g2, CIs m g2 → MIs m g2 → ∀ l5 l6, tb_Wl X E m_La_law 10 (2 * w) (12 * w) 700 [none, some (.inr 1), some (.inr 190), some (.inr 217), some (.inl (nI i)), l5, l6] [] m Q) : tb_Wl X E m_La_law 10 (2 * (w + 1)) (12 * (w + 1)) 319 [none, some (.inr 1), some (.inr 190), some (.inr 217), some (.inl (nI i)), l5, l6] [] M Q := by
  refine tl_aload_1 d_La_law_319 rfl ?_
  refine tl_scr1 (i := i) (a := 1) d_La_law_320 d_La_law_321 d_La_law_323 d_La_law_324 d_La_law_325 rfl rfl (by decide) (by omega) hX ?_
  refine tl_callV c_La_72 d_La_law_326 rfl rfl rfl (Nat.le_of_ble_eq_true rfl) (by exact hC.1.k rfl) (by omega) (Nat.zero_le _) (Nat.zero_le _) (ok_TB_remove hG hC 0) (fun v m hP => ?_) (fun xx m hP => absurd (Ans_r hP.1).2 (fun z => z rfl))
  obtain ⟨hv, hC1, hcf⟩ := hP
  obtain ⟨-, rfl⟩ := Ans_l hv
  have hM1 := hM.cf hC1.1 hcf.2.2
  refine tl_aload_2 d_La_law_329 rfl ?_
  refine tl_scr1 (i := i) (a := 1) d_La_law_330 d_La_law_331 d_La_law_333 d_La_law_334 d_La_law_335 rfl rfl (by decide) (by omega) hX ?_
  refine tl_callV c_La_76 d_La_law_336 rfl rfl rfl (Nat.le_of_ble_eq_true rfl) (by exact hC1.1.k rfl) (by omega) (Nat.zero_le _) (Nat.zero_le _) (ok_Mo_remove hG hM1 0) (fun v m2 hP => ?_) (fun xx m2 hP => by obtain ⟨_, q, -⟩ := hP; cases q)
  obtain ⟨v2, hv2, rfl, hM2, oM2, -⟩ := hP
  cases hv2
  have hC2 := hC1.on oM2
  refine tl_icmp_eq 700 d_La_law_339 (by decide) rfl (fun h339 => ?_) (fun h339 => ?_)
  · exact tl_room (by omega) (by omega) (hnext m2 _ hC2 hM2 _ _)
  · exact absurd rfl h339
theorem law_run (hG : tb_G E) (hC : CIs M g) (hM : MIs M g) {i w : Nat} {l5 l6 : tb_L} {Q : tb_O → tb_M → Prop} (hX : X.2.1 < 2 ^ 31) (hi : i + 3 ≤ X.2.1) (hnext : ∀ m g2, CIs m g2 → MIs m g2 → ∀ l5 l6, tb_Wl X E m_La_law 10 (2 * w) (12 * w) 700 [none, some (.inr 1), some (.inr 190), some (.inr 217), some (.inl (nI i)), l5, l6] [] m Q) : tb_Wl X E m_La_law 10 (2 * (w + 1)) (12 * (w + 1)) 344 [none, some (.inr 1), some (.inr 190), some (.inr 217), some (.inl (nI i)), l5, l6] [] M Q := by
  have hcb : tRun g (X.2.2 (i + 1)) < 2 ^ 31 := by have := tRun_v g (X.2.2 (i + 1)); omega
  refine tl_aload_1 d_La_law_344 rfl ?_
  refine tl_scr1 (i := i) (a := 1) d_La_law_345 d_La_law_346 d_La_law_348 d_La_law_349 d_La_law_350 rfl rfl (by decide) (by omega) hX ?_
  refine tl_aload_3 d_La_law_351 rfl ?_
  refine tl_callS c_La_77 d_La_law_352 rfl rfl rfl (Nat.le_of_ble_eq_true rfl) (by omega) (by omega) (by omega) (ok_La_run hG hC 0) (fun v m hP => ?_) (fun xx m hP => by cases hP.1)
  obtain ⟨hv, hC1, hI1, hJ1⟩ := hP
  cases hv
  have hM1 := hM.cf hC1.1 hI1
  refine tl_istore_5 d_La_law_355 rfl (by decide) ?_
  refine tl_aload_2 d_La_law_357 rfl ?_
  refine tl_scr1 (i := i) (a := 1) d_La_law_358 d_La_law_359 d_La_law_361 d_La_law_362 d_La_law_363 rfl rfl (by decide) (by omega) hX ?_
  refine tl_callV c_La_80 d_La_law_364 rfl rfl rfl (Nat.le_of_ble_eq_true rfl) (by exact hC1.1.k rfl) (by omega) (Nat.zero_le _) (Nat.zero_le _) (ok_Mo_run hG hM1 0) (fun v m2 hP => ?_) (fun xx m2 hP => by obtain ⟨_, q, -⟩ := hP; cases q)
  obtain ⟨v2, hv2, ha, ⟨a2, rfl⟩, hM2, oM2, hc2⟩ := hP
  cases hv2
  have hC2 := hC1.on oM2
  refine tl_istore_6 d_La_law_367 rfl (by decide) ?_
  refine tl_aload_2 d_La_law_369 rfl ?_
  refine tl_callV c_La_53 d_La_law_370 rfl rfl rfl (Nat.le_of_ble_eq_true rfl) (by exact hC2.1.k rfl) (by omega) (Nat.zero_le _) (Nat.zero_le _) (ok_Mo_thrown hG hC2.1 0) (fun v m3 hP => ?_) (fun xx m3 hP => by cases hP.1)
  obtain ⟨hv, rfl⟩ := hP
  cases hv
  refine tl_topI (y := nI (tRun g (X.2.2 (i + 1)))) hc2 ?_
  refine tl_iload_5 d_La_law_373 rfl ?_
  refine tl_icmp_eq 380 d_La_law_375 (by decide) rfl (fun h375 => ?_) (fun h375 => ?_)
  · refine tl_iload_5 d_La_law_380 rfl ?_
    refine tl_if_ne 397 d_La_law_382 (by decide) rfl (fun h382 => ?_) (fun h382 => ?_)
    · refine tl_goto 700 d_La_law_397 (by decide) ?_
      exact tl_room (by omega) (by omega) (hnext _ _ hC2 hM2 _ _)
    · have hz : (tRun g (X.2.2 (i + 1))) = 0 := (nI_eq (by have := hcb; omega) (by omega)).mp (show nI (tRun g (X.2.2 (i + 1))) = nI 0 from h382)
      have ha2 := ha hz
      cases ha2
      refine tl_aload_3 d_La_law_385 rfl ?_
      refine tl_iconst (0) (by decide) d_La_law_386 rfl ?_
      refine tl_laload d_La_law_387 rfl (by exact hC2.1.k rfl) (by rw [hC2.1.l rfl]; show vp_in (nI 0) 1; exact vp_in_nI (by omega) (by omega)) ?_
      refine tl_iload_6 d_La_law_388 rfl ?_
      refine tl_i2l d_La_law_390 rfl ?_
      refine tl_lcmp d_La_law_391 rfl ?_
      refine tl_topI (y := 0) (by
        have e1 : tb_J m3 217 (0 : Int32).toNatClampNeg = (aRun g (X.2.2 (i + 1))).toInt64 := by rw [oM2.j]; exact hJ1 hz _ rfl
        rw [e1]; exact lg_self _) ?_
      refine tl_if_eq 397 d_La_law_392 (by decide) rfl (fun h392 => ?_) (fun h392 => ?_)
      · refine tl_goto 700 d_La_law_397 (by decide) ?_
        exact tl_room (by omega) (by omega) (hnext _ _ hC2 hM2 _ _)
      · exact absurd rfl h392
  · exact absurd rfl h375
theorem law_did (hG : tb_G E) (hC : CIs M g) (hM : MIs M g) {i w : Nat} {l5 l6 : tb_L} {Q : tb_O → tb_M → Prop} (hX : X.2.1 < 2 ^ 31) (hi : i + 3 ≤ X.2.1) (hnext : ∀ m g2, CIs m g2 → MIs m g2 → ∀ l5 l6, tb_Wl X E m_La_law 10 (2 * w) (12 * w) 700 [none, some (.inr 1), some (.inr 190), some (.inr 217), some (.inl (nI i)), l5, l6] [] m Q) : tb_Wl X E m_La_law 10 (2 * (w + 1)) (12 * (w + 1)) 400 [none, some (.inr 1), some (.inr 190), some (.inr 217), some (.inl (nI i)), l5, l6] [] M Q := by
  refine tl_aload_1 d_La_law_400 rfl ?_
  refine tl_scr1 (i := i) (a := 1) d_La_law_401 d_La_law_402 d_La_law_404 d_La_law_405 d_La_law_406 rfl rfl (by decide) (by omega) hX ?_
  refine tl_callV c_La_81 d_La_law_407 rfl rfl rfl (Nat.le_of_ble_eq_true rfl) (by exact hC.1.k rfl) (by omega) (Nat.zero_le _) (Nat.zero_le _) (ok_TB_did hG hC 0) (fun v m hP => ?_) (fun xx m hP => absurd (Ans_r hP.1).2 (fun z => z rfl))
  obtain ⟨hv, hC1, hcf⟩ := hP
  obtain ⟨-, rfl⟩ := Ans_l hv
  have hM1 := hM.cf hC1.1 hcf.2.2
  refine tl_aload_2 d_La_law_410 rfl ?_
  refine tl_scr1 (i := i) (a := 1) d_La_law_411 d_La_law_412 d_La_law_414 d_La_law_415 d_La_law_416 rfl rfl (by decide) (by omega) hX ?_
  refine tl_callV c_La_84 d_La_law_417 rfl rfl rfl (Nat.le_of_ble_eq_true rfl) (by exact hC1.1.k rfl) (by omega) (Nat.zero_le _) (Nat.zero_le _) (ok_Mo_did hG hM1 0) (fun v m2 hP => ?_) (fun xx m2 hP => by obtain ⟨_, q, -⟩ := hP; cases q)
  obtain ⟨v2, hv2, rfl, hM2, oM2, -⟩ := hP
  cases hv2
  have hC2 := hC1.on oM2
  refine tl_icmp_eq 700 d_La_law_420 (by decide) rfl (fun h420 => ?_) (fun h420 => ?_)
  · exact tl_room (by omega) (by omega) (hnext m2 _ hC2 hM2 _ _)
  · exact absurd rfl h420
theorem law_why (hG : tb_G E) (hC : CIs M g) (hM : MIs M g) {i w : Nat} {l5 l6 : tb_L} {Q : tb_O → tb_M → Prop} (hX : X.2.1 < 2 ^ 31) (hi : i + 3 ≤ X.2.1) (hnext : ∀ m g2, CIs m g2 → MIs m g2 → ∀ l5 l6, tb_Wl X E m_La_law 10 (2 * w) (12 * w) 700 [none, some (.inr 1), some (.inr 190), some (.inr 217), some (.inl (nI i)), l5, l6] [] m Q) : tb_Wl X E m_La_law 10 (2 * (w + 1)) (12 * (w + 1)) 425 [none, some (.inr 1), some (.inr 190), some (.inr 217), some (.inl (nI i)), l5, l6] [] M Q := by
  refine tl_aload_1 d_La_law_425 rfl ?_
  refine tl_scr1 (i := i) (a := 1) d_La_law_426 d_La_law_427 d_La_law_429 d_La_law_430 d_La_law_431 rfl rfl (by decide) (by omega) hX ?_
  refine tl_callV c_La_85 d_La_law_432 rfl rfl rfl (Nat.le_of_ble_eq_true rfl) (by exact hC.1.k rfl) (by omega) (Nat.zero_le _) (Nat.zero_le _) (ok_TB_why hG hC 0) (fun v m hP => ?_) (fun xx m hP => absurd (Ans_r hP.1).2 (fun z => z rfl))
  obtain ⟨hv, hC1, hcf⟩ := hP
  obtain ⟨-, rfl⟩ := Ans_l hv
  have hM1 := hM.cf hC1.1 hcf.2.2
  refine tl_aload_2 d_La_law_435 rfl ?_
  refine tl_scr1 (i := i) (a := 1) d_La_law_436 d_La_law_437 d_La_law_439 d_La_law_440 d_La_law_441 rfl rfl (by decide) (by omega) hX ?_
  refine tl_callV c_La_88 d_La_law_442 rfl rfl rfl (Nat.le_of_ble_eq_true rfl) (by exact hC1.1.k rfl) (by omega) (Nat.zero_le _) (Nat.zero_le _) (ok_Mo_why hG hM1 0) (fun v m2 hP => ?_) (fun xx m2 hP => by obtain ⟨_, q, -⟩ := hP; cases q)
  obtain ⟨v2, hv2, rfl, hM2, oM2, -⟩ := hP
  cases hv2
  have hC2 := hC1.on oM2
  refine tl_icmp_eq 700 d_La_law_445 (by decide) rfl (fun h445 => ?_) (fun h445 => ?_)
  · exact tl_room (by omega) (by omega) (hnext m2 _ hC2 hM2 _ _)
  · exact absurd rfl h445
theorem law_hazard (hG : tb_G E) (hC : CIs M g) (hM : MIs M g) {i w : Nat} {l5 l6 : tb_L} {Q : tb_O → tb_M → Prop} (hX : X.2.1 < 2 ^ 31) (hi : i + 3 ≤ X.2.1) (hnext : ∀ m g2, CIs m g2 → MIs m g2 → ∀ l5 l6, tb_Wl X E m_La_law 10 (2 * w) (12 * w) 700 [none, some (.inr 1), some (.inr 190), some (.inr 217), some (.inl (nI i)), l5, l6] [] m Q) : tb_Wl X E m_La_law 10 (2 * (w + 1)) (12 * (w + 1)) 450 [none, some (.inr 1), some (.inr 190), some (.inr 217), some (.inl (nI i)), l5, l6] [] M Q := by
  refine tl_aload_1 d_La_law_450 rfl ?_
  refine tl_scr1 (i := i) (a := 1) d_La_law_451 d_La_law_452 d_La_law_454 d_La_law_455 d_La_law_456 rfl rfl (by decide) (by omega) hX ?_
  refine tl_callV c_La_89 d_La_law_457 rfl rfl rfl (Nat.le_of_ble_eq_true rfl) (by exact hC.1.k rfl) (by omega) (Nat.zero_le _) (Nat.zero_le _) (ok_TB_hazard hG hC 0) (fun v m hP => ?_) (fun xx m hP => absurd (Ans_r hP.1).2 (fun z => z rfl))
  obtain ⟨hv, hC1, hcf⟩ := hP
  obtain ⟨-, rfl⟩ := Ans_l hv
  have hM1 := hM.cf hC1.1 hcf.2.2
  refine tl_aload_2 d_La_law_460 rfl ?_
  refine tl_scr1 (i := i) (a := 1) d_La_law_461 d_La_law_462 d_La_law_464 d_La_law_465 d_La_law_466 rfl rfl (by decide) (by omega) hX ?_
  refine tl_callV c_La_92 d_La_law_467 rfl rfl rfl (Nat.le_of_ble_eq_true rfl) (by exact hC1.1.k rfl) (by omega) (Nat.zero_le _) (Nat.zero_le _) (ok_Mo_hazard hG hM1 0) (fun v m2 hP => ?_) (fun xx m2 hP => by obtain ⟨_, q, -⟩ := hP; cases q)
  obtain ⟨v2, hv2, rfl, hM2, oM2, -⟩ := hP
  cases hv2
  have hC2 := hC1.on oM2
  refine tl_icmp_eq 700 d_La_law_470 (by decide) rfl (fun h470 => ?_) (fun h470 => ?_)
  · exact tl_room (by omega) (by omega) (hnext m2 _ hC2 hM2 _ _)
  · exact absurd rfl h470
theorem law_again (hG : tb_G E) (hC : CIs M g) (hM : MIs M g) {i w : Nat} {l5 l6 : tb_L} {Q : tb_O → tb_M → Prop} (hX : X.2.1 < 2 ^ 31) (hi : i + 3 ≤ X.2.1) (hnext : ∀ m g2, CIs m g2 → MIs m g2 → ∀ l5 l6, tb_Wl X E m_La_law 10 (2 * w) (12 * w) 700 [none, some (.inr 1), some (.inr 190), some (.inr 217), some (.inl (nI i)), l5, l6] [] m Q) : tb_Wl X E m_La_law 10 (2 * (w + 1)) (12 * (w + 1)) 475 [none, some (.inr 1), some (.inr 190), some (.inr 217), some (.inl (nI i)), l5, l6] [] M Q := by
  refine tl_aload_1 d_La_law_475 rfl ?_
  refine tl_callV c_La_93 d_La_law_476 rfl rfl rfl (Nat.le_of_ble_eq_true rfl) (by exact hC.1.k rfl) (by omega) (Nat.zero_le _) (Nat.zero_le _) (ok_TB_again hG hC 0) (fun v m hP => ?_) (fun xx m hP => absurd (Ans_r hP.1).2 (fun z => z rfl))
  obtain ⟨hv, hC1, hcf⟩ := hP
  obtain ⟨-, rfl⟩ := Ans_l hv
  have hM1 := hM.cf hC1.1 hcf.2.2
  refine tl_aload_2 d_La_law_479 rfl ?_
  refine tl_callV c_La_96 d_La_law_480 rfl rfl rfl (Nat.le_of_ble_eq_true rfl) (by exact hC1.1.k rfl) (by omega) (Nat.zero_le _) (Nat.zero_le _) (ok_Mo_again hG hM1 0) (fun v m2 hP => ?_) (fun xx m2 hP => by obtain ⟨_, q, -⟩ := hP; cases q)
  obtain ⟨v2, hv2, rfl, hM2, oM2, -⟩ := hP
  cases hv2
  have hC2 := hC1.on oM2
  refine tl_icmp_eq 700 d_La_law_483 (by decide) rfl (fun h483 => ?_) (fun h483 => ?_)
  · exact tl_room (by omega) (by omega) (hnext m2 _ hC2 hM2 _ _)
  · exact absurd rfl h483
theorem law_traces (hG : tb_G E) (hC : CIs M g) (hM : MIs M g) {i w : Nat} {l5 l6 : tb_L} {Q : tb_O → tb_M → Prop} (hX : X.2.1 < 2 ^ 31) (hi : i + 3 ≤ X.2.1) (hnext : ∀ m g2, CIs m g2 → MIs m g2 → ∀ l5 l6, tb_Wl X E m_La_law 10 (2 * w) (12 * w) 700 [none, some (.inr 1), some (.inr 190), some (.inr 217), some (.inl (nI i)), l5, l6] [] m Q) : tb_Wl X E m_La_law 10 (2 * (w + 1)) (12 * (w + 1)) 488 [none, some (.inr 1), some (.inr 190), some (.inr 217), some (.inl (nI i)), l5, l6] [] M Q := by
  refine tl_aload_1 d_La_law_488 rfl ?_
  refine tl_callV c_La_97 d_La_law_489 rfl rfl rfl (Nat.le_of_ble_eq_true rfl) (by exact hC.1.k rfl) (by omega) (Nat.zero_le _) (Nat.zero_le _) (ok_TB_traces hG hC 0) (fun v m hP => ?_) (fun xx m hP => absurd (Ans_r hP.1).2 (fun z => z rfl))
  obtain ⟨hv, hC1, hcf⟩ := hP
  obtain ⟨-, rfl⟩ := Ans_l hv
  have hM1 := hM.cf hC1.1 hcf.2.2
  refine tl_aload_2 d_La_law_492 rfl ?_
  refine tl_callV c_La_100 d_La_law_493 rfl rfl rfl (Nat.le_of_ble_eq_true rfl) (by exact hC1.1.k rfl) (by omega) (Nat.zero_le _) (Nat.zero_le _) (ok_Mo_traces hG hM1 0) (fun v m2 hP => ?_) (fun xx m2 hP => by obtain ⟨_, q, -⟩ := hP; cases q)
  obtain ⟨v2, hv2, rfl, hM2, oM2, -⟩ := hP
  cases hv2
  have hC2 := hC1.on oM2
  refine tl_icmp_eq 700 d_La_law_496 (by decide) rfl (fun h496 => ?_) (fun h496 => ?_)
  · exact tl_room (by omega) (by omega) (hnext m2 _ hC2 hM2 _ _)
  · exact absurd rfl h496
theorem law_trace (hG : tb_G E) (hC : CIs M g) (hM : MIs M g) {i w : Nat} {l5 l6 : tb_L} {Q : tb_O → tb_M → Prop} (hX : X.2.1 < 2 ^ 31) (hi : i + 3 ≤ X.2.1) (hnext : ∀ m g2, CIs m g2 → MIs m g2 → ∀ l5 l6, tb_Wl X E m_La_law 10 (2 * w) (12 * w) 700 [none, some (.inr 1), some (.inr 190), some (.inr 217), some (.inl (nI i)), l5, l6] [] m Q) : tb_Wl X E m_La_law 10 (2 * (w + 1)) (12 * (w + 1)) 501 [none, some (.inr 1), some (.inr 190), some (.inr 217), some (.inl (nI i)), l5, l6] [] M Q := by
  have hcb : (if tTra g (X.2.2 (i + 1)) = 0 then 0 else 1) < 2 ^ 31 := by split <;> omega
  refine tl_aload_1 d_La_law_501 rfl ?_
  refine tl_scr1 (i := i) (a := 1) d_La_law_502 d_La_law_503 d_La_law_505 d_La_law_506 d_La_law_507 rfl rfl (by decide) (by omega) hX ?_
  refine tl_scr1 (i := i) (a := 2) d_La_law_508 d_La_law_509 d_La_law_511 d_La_law_512 d_La_law_513 rfl rfl (by decide) (by omega) hX ?_
  refine tl_aload_3 d_La_law_514 rfl ?_
  refine tl_callS c_La_101 d_La_law_515 rfl rfl rfl (Nat.le_of_ble_eq_true rfl) (by omega) (by omega) (by omega) (ok_La_trace hG hC 0) (fun v m hP => ?_) (fun xx m hP => by cases hP.1)
  obtain ⟨hv, hC1, hI1, hJ1⟩ := hP
  cases hv
  have hM1 := hM.cf hC1.1 hI1
  refine tl_istore_5 d_La_law_518 rfl (by decide) ?_
  refine tl_aload_2 d_La_law_520 rfl ?_
  refine tl_scr1 (i := i) (a := 1) d_La_law_521 d_La_law_522 d_La_law_524 d_La_law_525 d_La_law_526 rfl rfl (by decide) (by omega) hX ?_
  refine tl_scr1 (i := i) (a := 2) d_La_law_527 d_La_law_528 d_La_law_530 d_La_law_531 d_La_law_532 rfl rfl (by decide) (by omega) hX ?_
  refine tl_callV c_La_104 d_La_law_533 rfl rfl rfl (Nat.le_of_ble_eq_true rfl) (by exact hC1.1.k rfl) (by omega) (Nat.zero_le _) (Nat.zero_le _) (ok_Mo_trace hG hM1 0) (fun v m2 hP => ?_) (fun xx m2 hP => by obtain ⟨_, q, -⟩ := hP; cases q)
  obtain ⟨v2, hv2, ha, ⟨a2, rfl⟩, hM2, oM2, hc2⟩ := hP
  cases hv2
  have hC2 := hC1.on oM2
  refine tl_istore_6 d_La_law_536 rfl (by decide) ?_
  refine tl_aload_2 d_La_law_538 rfl ?_
  refine tl_callV c_La_53 d_La_law_539 rfl rfl rfl (Nat.le_of_ble_eq_true rfl) (by exact hC2.1.k rfl) (by omega) (Nat.zero_le _) (Nat.zero_le _) (ok_Mo_thrown hG hC2.1 0) (fun v m3 hP => ?_) (fun xx m3 hP => by cases hP.1)
  obtain ⟨hv, rfl⟩ := hP
  cases hv
  refine tl_topI (y := nI (if tTra g (X.2.2 (i + 1)) = 0 then 0 else 1)) hc2 ?_
  refine tl_iload_5 d_La_law_542 rfl ?_
  refine tl_icmp_eq 549 d_La_law_544 (by decide) rfl (fun h544 => ?_) (fun h544 => ?_)
  · refine tl_iload_5 d_La_law_549 rfl ?_
    refine tl_if_ne 566 d_La_law_551 (by decide) rfl (fun h551 => ?_) (fun h551 => ?_)
    · refine tl_goto 700 d_La_law_566 (by decide) ?_
      exact tl_room (by omega) (by omega) (hnext _ _ hC2 hM2 _ _)
    · have hz : (if tTra g (X.2.2 (i + 1)) = 0 then 0 else 1) = 0 := (nI_eq (by have := hcb; omega) (by omega)).mp (show nI (if tTra g (X.2.2 (i + 1)) = 0 then 0 else 1) = nI 0 from h551)
      have ha2 := ha (Classical.byContradiction (fun z => by rw [if_neg z] at hz; exact absurd hz (by decide)))
      cases ha2
      refine tl_aload_3 d_La_law_554 rfl ?_
      refine tl_iconst (0) (by decide) d_La_law_555 rfl ?_
      refine tl_laload d_La_law_556 rfl (by exact hC2.1.k rfl) (by rw [hC2.1.l rfl]; show vp_in (nI 0) 1; exact vp_in_nI (by omega) (by omega)) ?_
      refine tl_iload_6 d_La_law_557 rfl ?_
      refine tl_i2l d_La_law_559 rfl ?_
      refine tl_lcmp d_La_law_560 rfl ?_
      refine tl_topI (y := 0) (by
        have e1 : tb_J m3 217 (0 : Int32).toNatClampNeg = (aTra g (X.2.2 (i + 1)) (X.2.2 (i + 2))).toInt64 := by rw [oM2.j]; exact hJ1 hz _ rfl
        rw [e1]; exact lg_self _) ?_
      refine tl_if_eq 566 d_La_law_561 (by decide) rfl (fun h561 => ?_) (fun h561 => ?_)
      · refine tl_goto 700 d_La_law_566 (by decide) ?_
        exact tl_room (by omega) (by omega) (hnext _ _ hC2 hM2 _ _)
      · exact absurd rfl h561
  · exact absurd rfl h544
theorem law_tear (hG : tb_G E) (hC : CIs M g) (hM : MIs M g) {i w : Nat} {l5 l6 : tb_L} {Q : tb_O → tb_M → Prop} (hX : X.2.1 < 2 ^ 31) (hi : i + 3 ≤ X.2.1) (hnext : ∀ m g2, CIs m g2 → MIs m g2 → ∀ l5 l6, tb_Wl X E m_La_law 10 (2 * w) (12 * w) 700 [none, some (.inr 1), some (.inr 190), some (.inr 217), some (.inl (nI i)), l5, l6] [] m Q) : tb_Wl X E m_La_law 10 (2 * (w + 1)) (12 * (w + 1)) 569 [none, some (.inr 1), some (.inr 190), some (.inr 217), some (.inl (nI i)), l5, l6] [] M Q := by
  refine tl_aload_1 d_La_law_569 rfl ?_
  refine tl_scr1 (i := i) (a := 1) d_La_law_570 d_La_law_571 d_La_law_573 d_La_law_574 d_La_law_575 rfl rfl (by decide) (by omega) hX ?_
  refine tl_callV c_La_105 d_La_law_576 rfl rfl rfl (Nat.le_of_ble_eq_true rfl) (by exact hC.1.k rfl) (by omega) (Nat.zero_le _) (Nat.zero_le _) (ok_TB_tear hG hC 0) (fun v m hP => ?_) (fun xx m hP => absurd (Ans_r hP.1).2 (fun z => z rfl))
  obtain ⟨hv, hC1, hcf⟩ := hP
  obtain ⟨-, rfl⟩ := Ans_l hv
  have hM1 := hM.cf hC1.1 hcf.2.2
  refine tl_aload_2 d_La_law_579 rfl ?_
  refine tl_scr1 (i := i) (a := 1) d_La_law_580 d_La_law_581 d_La_law_583 d_La_law_584 d_La_law_585 rfl rfl (by decide) (by omega) hX ?_
  refine tl_callV c_La_108 d_La_law_586 rfl rfl rfl (Nat.le_of_ble_eq_true rfl) (by exact hC1.1.k rfl) (by omega) (Nat.zero_le _) (Nat.zero_le _) (ok_Mo_tear hG hM1 0) (fun v m2 hP => ?_) (fun xx m2 hP => by obtain ⟨_, q, -⟩ := hP; cases q)
  obtain ⟨v2, hv2, rfl, hM2, oM2, -⟩ := hP
  cases hv2
  have hC2 := hC1.on oM2
  refine tl_icmp_eq 700 d_La_law_589 (by decide) rfl (fun h589 => ?_) (fun h589 => ?_)
  · exact tl_room (by omega) (by omega) (hnext m2 _ hC2 hM2 _ _)
  · exact absurd rfl h589
theorem law_compact (hG : tb_G E) (hC : CIs M g) (hM : MIs M g) {i w : Nat} {l5 l6 : tb_L} {Q : tb_O → tb_M → Prop} (hX : X.2.1 < 2 ^ 31) (hi : i + 3 ≤ X.2.1) (hnext : ∀ m g2, CIs m g2 → MIs m g2 → ∀ l5 l6, tb_Wl X E m_La_law 10 (2 * w) (12 * w) 700 [none, some (.inr 1), some (.inr 190), some (.inr 217), some (.inl (nI i)), l5, l6] [] m Q) : tb_Wl X E m_La_law 10 (2 * (w + 1)) (12 * (w + 1)) 594 [none, some (.inr 1), some (.inr 190), some (.inr 217), some (.inl (nI i)), l5, l6] [] M Q := by
  refine tl_aload_1 d_La_law_594 rfl ?_
  refine tl_callV c_La_109 d_La_law_595 rfl rfl rfl (Nat.le_of_ble_eq_true rfl) (by exact hC.1.k rfl) (by omega) (Nat.zero_le _) (Nat.zero_le _) (ok_TB_compact hG hC 0) (fun v m hP => ?_) (fun xx m hP => absurd (Ans_r hP.1).2 (fun z => z rfl))
  obtain ⟨hv, hC1, hcf⟩ := hP
  obtain ⟨-, rfl⟩ := Ans_l hv
  have hM1 := hM.cf hC1.1 hcf.2.2
  refine tl_aload_2 d_La_law_598 rfl ?_
  refine tl_callV c_La_112 d_La_law_599 rfl rfl rfl (Nat.le_of_ble_eq_true rfl) (by exact hC1.1.k rfl) (by omega) (Nat.zero_le _) (Nat.zero_le _) (ok_Mo_compact hG hM1 0) (fun v m2 hP => ?_) (fun xx m2 hP => by obtain ⟨_, q, -⟩ := hP; cases q)
  obtain ⟨v2, hv2, rfl, hM2, oM2, -⟩ := hP
  cases hv2
  have hC2 := hC1.on oM2
  refine tl_icmp_eq 700 d_La_law_602 (by decide) rfl (fun h602 => ?_) (fun h602 => ?_)
  · exact tl_room (by omega) (by omega) (hnext m2 _ hC2 hM2 _ _)
  · exact absurd rfl h602
theorem law_size (hG : tb_G E) (hC : CIs M g) (hM : MIs M g) {i w : Nat} {l5 l6 : tb_L} {Q : tb_O → tb_M → Prop} (hX : X.2.1 < 2 ^ 31) (hi : i + 3 ≤ X.2.1) (hnext : ∀ m g2, CIs m g2 → MIs m g2 → ∀ l5 l6, tb_Wl X E m_La_law 10 (2 * w) (12 * w) 700 [none, some (.inr 1), some (.inr 190), some (.inr 217), some (.inl (nI i)), l5, l6] [] m Q) : tb_Wl X E m_La_law 10 (2 * (w + 1)) (12 * (w + 1)) 607 [none, some (.inr 1), some (.inr 190), some (.inr 217), some (.inl (nI i)), l5, l6] [] M Q := by
  refine tl_aload_1 d_La_law_607 rfl ?_
  refine tl_scr1 (i := i) (a := 1) d_La_law_608 d_La_law_609 d_La_law_611 d_La_law_612 d_La_law_613 rfl rfl (by decide) (by omega) hX ?_
  refine tl_callV c_La_113 d_La_law_614 rfl rfl rfl (Nat.le_of_ble_eq_true rfl) (by exact hC.1.k rfl) (by omega) (Nat.zero_le _) (Nat.zero_le _) (ok_TB_size hG hC 0) (fun v m hP => ?_) (fun xx m hP => absurd (Ans_r hP.1).2 (fun z => z rfl))
  obtain ⟨hv, hC1, hcf⟩ := hP
  obtain ⟨-, rfl⟩ := Ans_l hv
  have hM1 := hM.cf hC1.1 hcf.2.2
  refine tl_aload_2 d_La_law_617 rfl ?_
  refine tl_scr1 (i := i) (a := 1) d_La_law_618 d_La_law_619 d_La_law_621 d_La_law_622 d_La_law_623 rfl rfl (by decide) (by omega) hX ?_
  refine tl_callV c_La_116 d_La_law_624 rfl rfl rfl (Nat.le_of_ble_eq_true rfl) (by exact hC1.1.k rfl) (by omega) (Nat.zero_le _) (Nat.zero_le _) (ok_Mo_size hG hM1 0) (fun v m2 hP => ?_) (fun xx m2 hP => by obtain ⟨_, q, -⟩ := hP; cases q)
  obtain ⟨v2, hv2, rfl, hM2, oM2, -⟩ := hP
  cases hv2
  have hC2 := hC1.on oM2
  refine tl_icmp_eq 700 d_La_law_627 (by decide) rfl (fun h627 => ?_) (fun h627 => ?_)
  · exact tl_room (by omega) (by omega) (hnext m2 _ hC2 hM2 _ _)
  · exact absurd rfl h627
theorem law_number (hG : tb_G E) (hC : CIs M g) (hM : MIs M g) {i w : Nat} {l5 l6 : tb_L} {Q : tb_O → tb_M → Prop} (hX : X.2.1 < 2 ^ 31) (hi : i + 3 ≤ X.2.1) (hnext : ∀ m g2, CIs m g2 → MIs m g2 → ∀ l5 l6, tb_Wl X E m_La_law 10 (2 * w) (12 * w) 700 [none, some (.inr 1), some (.inr 190), some (.inr 217), some (.inl (nI i)), l5, l6] [] m Q) : tb_Wl X E m_La_law 10 (2 * (w + 1)) (12 * (w + 1)) 632 [none, some (.inr 1), some (.inr 190), some (.inr 217), some (.inl (nI i)), l5, l6] [] M Q := by
  have hcb : (if tNum g (X.2.2 (i + 1)) (X.2.2 (i + 2)) = 0 then 0 else 1) < 2 ^ 31 := by split <;> omega
  refine tl_aload_1 d_La_law_632 rfl ?_
  refine tl_scr1 (i := i) (a := 1) d_La_law_633 d_La_law_634 d_La_law_636 d_La_law_637 d_La_law_638 rfl rfl (by decide) (by omega) hX ?_
  refine tl_scr1 (i := i) (a := 2) d_La_law_639 d_La_law_640 d_La_law_642 d_La_law_643 d_La_law_644 rfl rfl (by decide) (by omega) hX ?_
  refine tl_aload_3 d_La_law_645 rfl ?_
  refine tl_callS c_La_117 d_La_law_646 rfl rfl rfl (Nat.le_of_ble_eq_true rfl) (by omega) (by omega) (by omega) (ok_La_number hG hC 0) (fun v m hP => ?_) (fun xx m hP => by cases hP.1)
  obtain ⟨hv, hC1, hI1, hJ1⟩ := hP
  cases hv
  have hM1 := hM.cf hC1.1 hI1
  refine tl_istore_5 d_La_law_649 rfl (by decide) ?_
  refine tl_aload_2 d_La_law_651 rfl ?_
  refine tl_scr1 (i := i) (a := 1) d_La_law_652 d_La_law_653 d_La_law_655 d_La_law_656 d_La_law_657 rfl rfl (by decide) (by omega) hX ?_
  refine tl_scr1 (i := i) (a := 2) d_La_law_658 d_La_law_659 d_La_law_661 d_La_law_662 d_La_law_663 rfl rfl (by decide) (by omega) hX ?_
  refine tl_callV c_La_119 d_La_law_664 rfl rfl rfl (Nat.le_of_ble_eq_true rfl) (by exact hC1.1.k rfl) (by omega) (Nat.zero_le _) (Nat.zero_le _) (ok_Mo_number hG hM1 hC.short 0) (fun v m2 hP => ?_) (fun xx m2 hP => by obtain ⟨_, q, -⟩ := hP; cases q)
  obtain ⟨v2, hv2, ha, ⟨a2, rfl⟩, hM2, oM2, hc2⟩ := hP
  cases hv2
  have hC2 := hC1.on oM2
  refine tl_istore_6 d_La_law_667 rfl (by decide) ?_
  refine tl_aload_2 d_La_law_669 rfl ?_
  refine tl_callV c_La_53 d_La_law_670 rfl rfl rfl (Nat.le_of_ble_eq_true rfl) (by exact hC2.1.k rfl) (by omega) (Nat.zero_le _) (Nat.zero_le _) (ok_Mo_thrown hG hC2.1 0) (fun v m3 hP => ?_) (fun xx m3 hP => by cases hP.1)
  obtain ⟨hv, rfl⟩ := hP
  cases hv
  refine tl_topI (y := nI (if tNum g (X.2.2 (i + 1)) (X.2.2 (i + 2)) = 0 then 0 else 1)) hc2 ?_
  refine tl_iload_5 d_La_law_673 rfl ?_
  refine tl_icmp_eq 680 d_La_law_675 (by decide) rfl (fun h675 => ?_) (fun h675 => ?_)
  · refine tl_iload_5 d_La_law_680 rfl ?_
    refine tl_if_ne 697 d_La_law_682 (by decide) rfl (fun h682 => ?_) (fun h682 => ?_)
    · refine tl_goto 700 d_La_law_697 (by decide) ?_
      exact tl_room (by omega) (by omega) (hnext _ _ hC2 hM2 _ _)
    · have hz : (if tNum g (X.2.2 (i + 1)) (X.2.2 (i + 2)) = 0 then 0 else 1) = 0 := (nI_eq (by have := hcb; omega) (by omega)).mp (show nI (if tNum g (X.2.2 (i + 1)) (X.2.2 (i + 2)) = 0 then 0 else 1) = nI 0 from h682)
      have ha2 := ha (Classical.byContradiction (fun z => by rw [if_neg z] at hz; exact absurd hz (by decide)))
      cases ha2
      refine tl_aload_3 d_La_law_685 rfl ?_
      refine tl_iconst (0) (by decide) d_La_law_686 rfl ?_
      refine tl_laload d_La_law_687 rfl (by exact hC2.1.k rfl) (by rw [hC2.1.l rfl]; show vp_in (nI 0) 1; exact vp_in_nI (by omega) (by omega)) ?_
      refine tl_iload_6 d_La_law_688 rfl ?_
      refine tl_i2l d_La_law_690 rfl ?_
      refine tl_lcmp d_La_law_691 rfl ?_
      refine tl_topI (y := 0) (by
        have e1 : tb_J m3 217 (0 : Int32).toNatClampNeg = (aNum g (X.2.2 (i + 1)) (X.2.2 (i + 2))).toInt64 := by rw [oM2.j]; exact hJ1 hz _ rfl
        rw [e1]; exact lg_self _) ?_
      refine tl_if_eq 697 d_La_law_692 (by decide) rfl (fun h692 => ?_) (fun h692 => ?_)
      · refine tl_goto 700 d_La_law_697 (by decide) ?_
        exact tl_room (by omega) (by omega) (hnext _ _ hC2 hM2 _ _)
      · exact absurd rfl h692
  · exact absurd rfl h675
end Law3
