/-! The law: all of its calls. -/
section Law4
variable {X : Nat × Nat × (Nat → Int32)} {E : tb_E}
theorem lp_law (hG : tb_G E) (hX : X.2.1 < 2 ^ 29) {Q : tb_O → tb_M → Prop} (hQ : ∀ m, Q (.inl (some (.inl 1))) m) : ∀ (w i : Nat) (M : tb_M) (g : Sg) (l5 l6 : tb_L), i ≤ X.2.1 + 3 → X.2.1 ≤ i + 3 * w + 2 → CIs M g → MIs M g → tb_Wl X E m_La_law 10 (2 * w) (12 * w) 23 [none, some (.inr 1), some (.inr 190), some (.inr 217), some (.inl (nI i)), l5, l6] [] M Q := by
  intro w
  induction w with
  | zero =>
    intro i M g l5 l6 hi hw hC hM
    refine tl_iload_4 d_La_law_23 rfl ?_
    refine tl_slen d_La_law_25 d_La_law_26 rfl ?_
    refine tl_iconst (3) (by decide) d_La_law_27 rfl ?_
    refine tl_isub d_La_law_28 rfl ?_
    refine tl_icmp_gt 706 d_La_law_29 (by decide) rfl (fun h29 => ?_) (fun h29 => ?_)
    · refine tl_iconst (1) (by decide) d_La_law_706 rfl ?_
      refine tl_ireturn d_La_law_707 rfl (by first | rfl | assumption) ?_
      exact hQ M
    · exact absurd ((law_le (by omega) (by omega)).mpr (by omega)) h29
  | succ w ih =>
    intro i M g l5 l6 hi hw hC hM
    have hX31 : X.2.1 < 2 ^ 31 := by omega
    refine tl_iload_4 d_La_law_23 rfl ?_
    refine tl_slen d_La_law_25 d_La_law_26 rfl ?_
    refine tl_iconst (3) (by decide) d_La_law_27 rfl ?_
    refine tl_isub d_La_law_28 rfl ?_
    refine tl_icmp_gt 706 d_La_law_29 (by decide) rfl (fun h29 => ?_) (fun h29 => ?_)
    · refine tl_iconst (1) (by decide) d_La_law_706 rfl ?_
      refine tl_ireturn d_La_law_707 rfl (by first | rfl | assumption) ?_
      exact hQ M
    · have hlt : i + 3 ≤ X.2.1 := Nat.le_of_not_lt (fun z => h29 ((law_le (by omega) (by omega)).mpr z))
      have hnext : ∀ m g2, CIs m g2 → MIs m g2 → ∀ l5 l6, tb_Wl X E m_La_law 10 (2 * w) (12 * w) 700 [none, some (.inr 1), some (.inr 190), some (.inr 217), some (.inl (nI i)), l5, l6] [] m Q := by
        intro m g2 hC2 hM2 l5 l6
        refine tl_iinc_4 (3) d_La_law_700 rfl (by decide) (by decide) ?_
        refine tl_goto 23 d_La_law_703 (by decide) ?_
        rw [show nI i + 3 = nI (i + 3) from nI_add i 3]
        exact ih (i + 3) m g2 l5 l6 (by omega) (by omega) hC2 hM2
      refine tl_scr0 (i := i) d_La_law_32 d_La_law_33 d_La_law_35 rfl rfl (by omega) hX31 ?_
      refine tl_bipush (31) (by decide) d_La_law_36 rfl ?_
      refine tl_iand d_La_law_38 rfl ?_
      by_cases e0 : (X.2.2 i &&& 31) = 0
      · refine tl_tableIn (85) 124 d_La_law_39 (by rw [e0]; decide +kernel) (by rw [e0]; decide +kernel) (by rw [e0]; decide +kernel) (by decide) ?_
        exact law_type hG hC hM hX31 hlt hnext
      by_cases e1 : (X.2.2 i &&& 31) = 1
      · refine tl_tableIn (112) 151 d_La_law_39 (by rw [e1]; decide +kernel) (by rw [e1]; decide +kernel) (by rw [e1]; decide +kernel) (by decide) ?_
        exact law_command hG hC hM hX31 hlt hnext
      by_cases e2 : (X.2.2 i &&& 31) = 2
      · refine tl_tableIn (156) 195 d_La_law_39 (by rw [e2]; decide +kernel) (by rw [e2]; decide +kernel) (by rw [e2]; decide +kernel) (by decide) ?_
        exact law_edit hG hC hM hX31 hlt hnext
      by_cases e3 : (X.2.2 i &&& 31) = 3
      · refine tl_tableIn (192) 231 d_La_law_39 (by rw [e3]; decide +kernel) (by rw [e3]; decide +kernel) (by rw [e3]; decide +kernel) (by decide) ?_
        exact law_drop hG hC hM hX31 hlt hnext
      by_cases e4 : (X.2.2 i &&& 31) = 4
      · refine tl_tableIn (228) 267 d_La_law_39 (by rw [e4]; decide +kernel) (by rw [e4]; decide +kernel) (by rw [e4]; decide +kernel) (by decide) ?_
        exact law_commands hG hC hM hX31 hlt hnext
      by_cases e5 : (X.2.2 i &&& 31) = 5
      · refine tl_tableIn (241) 280 d_La_law_39 (by rw [e5]; decide +kernel) (by rw [e5]; decide +kernel) (by rw [e5]; decide +kernel) (by decide) ?_
        exact law_put hG hC hM hX31 hlt hnext
      by_cases e6 : (X.2.2 i &&& 31) = 6
      · refine tl_tableIn (280) 319 d_La_law_39 (by rw [e6]; decide +kernel) (by rw [e6]; decide +kernel) (by rw [e6]; decide +kernel) (by decide) ?_
        exact law_remove hG hC hM hX31 hlt hnext
      by_cases e7 : (X.2.2 i &&& 31) = 7
      · refine tl_tableIn (305) 344 d_La_law_39 (by rw [e7]; decide +kernel) (by rw [e7]; decide +kernel) (by rw [e7]; decide +kernel) (by decide) ?_
        exact law_run hG hC hM hX31 hlt hnext
      by_cases e8 : (X.2.2 i &&& 31) = 8
      · refine tl_tableIn (361) 400 d_La_law_39 (by rw [e8]; decide +kernel) (by rw [e8]; decide +kernel) (by rw [e8]; decide +kernel) (by decide) ?_
        exact law_did hG hC hM hX31 hlt hnext
      by_cases e9 : (X.2.2 i &&& 31) = 9
      · refine tl_tableIn (386) 425 d_La_law_39 (by rw [e9]; decide +kernel) (by rw [e9]; decide +kernel) (by rw [e9]; decide +kernel) (by decide) ?_
        exact law_why hG hC hM hX31 hlt hnext
      by_cases e10 : (X.2.2 i &&& 31) = 10
      · refine tl_tableIn (411) 450 d_La_law_39 (by rw [e10]; decide +kernel) (by rw [e10]; decide +kernel) (by rw [e10]; decide +kernel) (by decide) ?_
        exact law_hazard hG hC hM hX31 hlt hnext
      by_cases e11 : (X.2.2 i &&& 31) = 11
      · refine tl_tableIn (436) 475 d_La_law_39 (by rw [e11]; decide +kernel) (by rw [e11]; decide +kernel) (by rw [e11]; decide +kernel) (by decide) ?_
        exact law_again hG hC hM hX31 hlt hnext
      by_cases e12 : (X.2.2 i &&& 31) = 12
      · refine tl_tableIn (449) 488 d_La_law_39 (by rw [e12]; decide +kernel) (by rw [e12]; decide +kernel) (by rw [e12]; decide +kernel) (by decide) ?_
        exact law_traces hG hC hM hX31 hlt hnext
      by_cases e13 : (X.2.2 i &&& 31) = 13
      · refine tl_tableIn (462) 501 d_La_law_39 (by rw [e13]; decide +kernel) (by rw [e13]; decide +kernel) (by rw [e13]; decide +kernel) (by decide) ?_
        exact law_trace hG hC hM hX31 hlt hnext
      by_cases e14 : (X.2.2 i &&& 31) = 14
      · refine tl_tableIn (530) 569 d_La_law_39 (by rw [e14]; decide +kernel) (by rw [e14]; decide +kernel) (by rw [e14]; decide +kernel) (by decide) ?_
        exact law_tear hG hC hM hX31 hlt hnext
      by_cases e15 : (X.2.2 i &&& 31) = 15
      · refine tl_tableIn (555) 594 d_La_law_39 (by rw [e15]; decide +kernel) (by rw [e15]; decide +kernel) (by rw [e15]; decide +kernel) (by decide) ?_
        exact law_compact hG hC hM hX31 hlt hnext
      by_cases e16 : (X.2.2 i &&& 31) = 16
      · refine tl_tableIn (568) 607 d_La_law_39 (by rw [e16]; decide +kernel) (by rw [e16]; decide +kernel) (by rw [e16]; decide +kernel) (by decide) ?_
        exact law_size hG hC hM hX31 hlt hnext
      by_cases e17 : (X.2.2 i &&& 31) = 17
      · refine tl_tableIn (593) 632 d_La_law_39 (by rw [e17]; decide +kernel) (by rw [e17]; decide +kernel) (by rw [e17]; decide +kernel) (by decide) ?_
        exact law_number hG hC hM hX31 hlt hnext
      refine tl_tableOut 700 d_La_law_39 (by have z0 := lv_neT e0 (a := 0) (by decide); have z1 := lv_neT e1 (a := 1) (by decide); have z2 := lv_neT e2 (a := 2) (by decide); have z3 := lv_neT e3 (a := 3) (by decide); have z4 := lv_neT e4 (a := 4) (by decide); have z5 := lv_neT e5 (a := 5) (by decide); have z6 := lv_neT e6 (a := 6) (by decide); have z7 := lv_neT e7 (a := 7) (by decide); have z8 := lv_neT e8 (a := 8) (by decide); have z9 := lv_neT e9 (a := 9) (by decide); have z10 := lv_neT e10 (a := 10) (by decide); have z11 := lv_neT e11 (a := 11) (by decide); have z12 := lv_neT e12 (a := 12) (by decide); have z13 := lv_neT e13 (a := 13) (by decide); have z14 := lv_neT e14 (a := 14) (by decide); have z15 := lv_neT e15 (a := 15) (by decide); have z16 := lv_neT e16 (a := 16) (by decide); have z17 := lv_neT e17 (a := 17) (by decide); omega) (by decide) ?_
      exact tl_room (by omega) (by omega) (hnext M g hC hM _ _)
theorem law_start (hG : tb_G E) (hX : X.2.1 ≤ 1536) {Q : tb_O → tb_M → Prop} (hQ : ∀ m, Q (.inl (some (.inl 1))) m) : tb_Wl X E m_La_law 10 10000 100000 0 [none, none, none, none, none, none, none] [] M0 Q := by
  have o0 : Opn M0 M0 1 1 1 0 := Opn.rf rfl rfl
  refine tl_newO (C0 := n_TB) (T := T_TB) (N := 8) (ci := 7) d_La_law_0 rfl rfl (by decide) in_TB y_TB ty_TB (df_TB E) wn_La_8 (tb_ix 76 (by decide +kernel) rfl) (tb_ix 58 (by decide +kernel) rfl) (show tb_u M0 = true from rfl) (by omega) (by omega) ?_
  obtain ⟨o1, c1, s1⟩ := o0.new (kd := 8) (l := 0) 1 (by omega) (by omega) rfl
  refine tl_topR (y := 1) rfl ?_
  generalize tb_new M0 8 0 = m1 at o1 c1 s1
  refine tl_dup d_La_law_3 rfl ?_
  refine tl_callI c_La_38 d_La_law_4 rfl rfl rfl (Nat.le_of_ble_eq_true rfl) (by rw [cel_k c1]; show (8 : Nat) ≠ 0; decide) (show 4 + 1 ≤ 10 by omega) (by omega) (by omega) (ok_TB_init hG o1.1 o1.2.1 c1 0) (fun v m2 h2 => ?_) (fun x m h => by cases h.1)
  obtain ⟨hv, h2⟩ := h2
  cases hv
  refine tl_astore_1 d_La_law_7 rfl (by decide) ?_
  have o2 : Opn m2 m2 190 190 190 189 := Opn.rf h2.1 h2.2.1
  refine tl_newO (C0 := n_Mo) (T := T_Mo) (N := 40) (ci := 8) d_La_law_8 rfl rfl (by decide) in_Mo y_Mo ty_Mo (df_Mo E) wn_La_39 (tb_ix 792 (by decide +kernel) rfl) (tb_ix 66 (by decide +kernel) rfl) h2.2.1 (by omega) (by omega) ?_
  obtain ⟨o3, c3, s3⟩ := o2.new (kd := 9) (l := 0) 190 (by omega) (by omega) rfl
  refine tl_topR (y := 190) (by rw [h2.1]) ?_
  generalize tb_new m2 9 0 = m3 at o3 c3 s3
  refine tl_dup d_La_law_11 rfl ?_
  refine tl_callI c_La_41 d_La_law_12 rfl rfl rfl (Nat.le_of_ble_eq_true rfl) (by rw [cel_k c3]; show (9 : Nat) ≠ 0; decide) (show 1 + 1 ≤ 10 by omega) (by omega) (by omega) (ok_Mo_init hG o3.1 o3.2.1 c3 0) (fun v m4 h4 => ?_) (fun x m h => by cases h.1)
  obtain ⟨hv, h4⟩ := h4
  cases hv
  refine tl_astore_2 d_La_law_15 rfl (by decide) ?_
  refine tl_iconst (1) (by decide) d_La_law_16 rfl ?_
  have hJ : tb_J (tb_new m4 104 1) 217 = fun _ => 0 := by
    have e := h4.1
    show va_up (tb_J m4) (tb_n m4 + 1) (fun _ => 0) 217 = _
    rw [e]
    simp [va_up]
  have o4 : Opn m4 m4 217 217 217 216 := Opn.rf h4.1 h4.2.1
  refine tl_newA (ty := .long) (t := 4) (N := 1) d_La_law_17 rfl rfl (fun C h => by cases h) rfl (by decide) (by decide) (by decide) (tb_ix 1154 (by decide +kernel) rfl) tb_enJ h4.2.1 (by omega) (by omega) ?_
  obtain ⟨o5, c5, s5⟩ := o4.new (kd := 104) (l := 1) 217 (by omega) (by omega) rfl
  refine tl_topR (y := 217) (by rw [h4.1]) ?_
  have hu5 : tb_u (tb_new m4 (100 + 4) 1) = true := h4.2.1
  have hall : ∀ o, 1 ≤ o → o ≤ 217 → cel (tb_new m4 104 1) o = gC o := by
    intro o p q
    by_cases e : o = 217
    · rw [e, c5]; rfl
    · rw [s5 o (by omega)]
      by_cases e2 : o < 190
      · rw [h4.2.2.1 o e2, s3 o e2]
        exact h2.2.2.2 o p (by omega)
      · exact h4.2.2.2 o (by omega) (by omega)
  refine tl_astore_3 d_La_law_19 rfl (by decide) ?_
  refine tl_iconst (0) (by decide) d_La_law_20 rfl ?_
  refine tl_istore_4 d_La_law_21 rfl (by decide) ?_
  refine tl_mem (M' := Mst) (fun H hH => HR_st o5.1 hu5 hall hJ hH) ?_
  exact tl_room (rc' := 2 * 512) (rs' := 12 * 512) (by omega) (by omega) (lp_law hG (by omega) hQ 512 0 Mst g0 _ _ (by omega) (by omega) st_CIs st_MIs)
end Law4
