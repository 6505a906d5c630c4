/-! Constructors: Text, Deed, Shelf, Trace. -/
section Init2
variable {E : tb_E} {M : tb_M} {t : Nat}
theorem gC_de (h : gK t = 1) : gC t = (1, 0, zI, zR) := by simp [gC, gI, gR, h]
theorem ok_De_init (hG : tb_G E) (hn : tb_n M = t) (hu : tb_u M = true) (hk : gK t = 1) (hc : cel M t = (1, 0, zI, zR)) (d : Nat) : tb_Ok E m_De_init (d + 1) 0 0 [.inr (.inl t)] M (fun o m => o = .inl none ∧ Opn M m t t (t + 1) t) := by
  refine tb_okOf hG (by decide) rfl (Nat.le_of_ble_eq_true rfl) rfl ?_
  refine tb_aload_0 d_De_init_0 rfl ?_
  refine oi_De d_De_init_1 rfl rfl (by rw [cel_k hc]; show (1 : Nat) ≠ 0; decide) (by omega) (Nat.le_of_ble_eq_true rfl) ?_
  refine tb_vreturn d_De_init_4 rfl ?_
  refine ⟨rfl, hn, hu, fun _ _ => rfl, fun q p z => ?_⟩
  obtain rfl := (show q = t by omega)
  rw [hc, gC_de hk]
theorem ok_Tx_init (hG : tb_G E) (hn : tb_n M = t) (hu : tb_u M = true) (hk : gK t = 6) (hc : cel M t = (6, 0, zI, zR)) (d : Nat) : tb_Ok E m_Tx_init (d + 1) 1 12 [.inr (.inl t)] M (fun o m => o = .inl none ∧ Opn M m t t (t + 1 + 1) (t + 1)) := by
  have o0 : Opn M M t t t t := Opn.rf hn hu
  refine tb_okOf hG (by decide) rfl (Nat.le_of_ble_eq_true rfl) rfl ?_
  refine tb_aload_0 d_Tx_init_0 rfl ?_
  refine oi_Tx d_Tx_init_1 rfl rfl (by rw [cel_k hc]; show (6 : Nat) ≠ 0; decide) (by omega) (Nat.le_of_ble_eq_true rfl) ?_
  refine tb_aload_0 d_Tx_init_4 rfl ?_
  refine tb_bipush (12) (by decide) d_Tx_init_5 rfl ?_
  refine ny_char (N := 12) d_Tx_init_7 rfl (by decide) (by decide) (by omega) o0.2.1 (by omega) (by omega) ?_
  obtain ⟨o1, c1, s1⟩ := o0.new (kd := 102) (l := (12)) (t + 1) (by omega) (by omega) (by omega)
  refine tb_topR (y := t + 1) (by have := o0.1; omega) ?_
  have f1_0 := (s1 (t) (by omega)).trans hc
  generalize tb_new M 102 (12) = m1 at o1 c1 s1 f1_0
  refine p_Tx_9 d_Tx_init_9 rfl rfl rfl (by exact cel_k f1_0) ?_
  have o2 := o1.sR (o := t) (k := 0) (r := t + 1) (by omega)
  have f2_0 := cel_sR (k := 0) (r := t + 1) f1_0
  have f2_1 := (cel_sRn (m := m1) (o := t) (k := 0) (r := t + 1) (show t + 1 ≠ t by omega)).trans c1
  generalize tb_sR m1 (t) 0 (t + 1) = m2 at o2 f2_0 f2_1
  refine tb_aload_0 d_Tx_init_12 rfl ?_
  refine tb_iconst (0) (by decide) d_Tx_init_13 rfl ?_
  refine p_Tx_15 d_Tx_init_14 rfl rfl (by exact cel_k f2_0) ?_
  have o3 := o2.sI (o := t) (k := 1) (r := 0) (by omega)
  have f3_0 := cel_sI (k := 1) (r := 0) f2_0
  have f3_1 := (cel_sIn (m := m2) (o := t) (k := 1) (r := 0) (show t + 1 ≠ t by omega)).trans f2_1
  generalize tb_sI m2 (t) 1 (0) = m3 at o3 f3_0 f3_1
  refine tb_vreturn d_Tx_init_17 rfl ?_
  refine ⟨rfl, o3.1, o3.2.1, o3.2.2.1, fun q p z => ?_⟩
  rcases (show q = t ∨ q = t + 1 by omega) with e | e
  · rw [e, (gC_tx hk).1, f3_0, va_z]
  · rw [e, (gC_tx hk).2, f3_1]
theorem lp_Sh_fill {n : Nat} (hn13 : n ≤ 13) {d rc rs : Nat} {Q : tb_O → tb_M → Prop} (hQ : ∀ m l2, Opn M m t t t (t + 1) → cel m t = (4, 0, zI, va_up zR 0 (t + 1)) → cel m (t + 1) = (100, n, fl1 n, zR) → tb_Wp E m_Sh_init d rc rs 31 [some (.inr t), some (.inl (nI n)), l2] [] m Q) : ∀ (w j : Nat), n - j = w → j ≤ n → ∀ m, Opn M m t t t (t + 1) → cel m t = (4, 0, zI, va_up zR 0 (t + 1)) → cel m (t + 1) = (100, n, fl1 j, zR) → tb_Wp E m_Sh_init d rc rs 13 [some (.inr t), some (.inl (nI n)), some (.inl (nI j))] [] m Q := by
  intro w
  induction w with
  | zero =>
    intro j hw hj m o0 f0 f1
    have e : j = n := by omega
    subst e
    refine tb_iload_2 d_Sh_init_13 rfl ?_
    refine tb_iload_1 d_Sh_init_14 rfl ?_
    refine tb_icmp_ge 31 d_Sh_init_15 (by decide) rfl (fun h15 => ?_) (fun h15 => ?_)
    · exact hQ m _ o0 f0 f1
    · exact absurd (nI_leI (a := j) (b := j) (by omega) (by omega) |>.mpr (Nat.le_refl _)) h15
  | succ w ih =>
    intro j hw hj m o0 f0 f1
    refine tb_iload_2 d_Sh_init_13 rfl ?_
    refine tb_iload_1 d_Sh_init_14 rfl ?_
    refine tb_icmp_ge 31 d_Sh_init_15 (by decide) rfl (fun h15 => ?_) (fun h15 => ?_)
    · exact absurd (nI_leI (a := n) (b := j) (by omega) (by omega) |>.mp h15) (by omega)
    · refine tb_aload_0 d_Sh_init_18 rfl ?_
      refine g_Sh_9 d_Sh_init_19 rfl rfl (by exact cel_k f0) ?_
      refine tb_topR (y := t + 1) (by rw [cel_r f0]; rfl) ?_
      refine tb_iload_2 d_Sh_init_22 rfl ?_
      refine tb_iconst (-1) (by decide) d_Sh_init_23 rfl ?_
      refine tb_iastore d_Sh_init_24 rfl (by exact cel_k f1) (by rw [cel_l f1]; show vp_in (nI j) n; exact vp_in_nI (by omega) (by omega)) ?_
      rw [nI_clamp (show j < 2 ^ 31 by omega)]
      have o1 := o0.sI (o := t + 1) (k := j) (r := -1) (by omega)
      have f1_0 := (cel_sIn (m := m) (o := t + 1) (k := j) (r := -1) (show t ≠ t + 1 by omega)).trans f0
      have f1_1 := cel_sI (k := j) (r := -1) f1
      generalize tb_sI m (t + 1) j (-1) = m1 at o1 f1_0 f1_1
      rw [fl1_st] at f1_1
      refine tb_iinc_2 (1) d_Sh_init_25 rfl (by decide) (by decide) ?_
      refine tb_goto 13 d_Sh_init_28 (by decide) ?_
      rw [nI_1]
      exact ih (j + 1) (by omega) (by omega) _ o1 f1_0 f1_1
theorem ok_Sh_init (hG : tb_G E) {n : Nat} (hn : tb_n M = t) (hu : tb_u M = true) (hk : gK t = 4) (ht : t < 178) (hL : gL (t + 1) = n) (hc : cel M t = (4, 0, zI, zR)) (d : Nat) : tb_Ok E m_Sh_init (d + 1) 2 100 [.inr (.inl t), .inl (nI n)] M (fun o m => o = .inl none ∧ Opn M m t t (t + 2 + 1) (t + 2)) := by
  have o0 : Opn M M t t t t := Opn.rf hn hu
  obtain ⟨-, -, -, h13, hL2⟩ := gK_sh t (gK_lt (by omega)) hk
  obtain ⟨g1, g2, g3⟩ := gC_sh hk ht
  rw [hL] at h13 hL2 g2
  rw [hL2] at g3
  refine tb_okOf hG (by decide) rfl (Nat.le_of_ble_eq_true rfl) rfl ?_
  refine tb_aload_0 d_Sh_init_0 rfl ?_
  refine oi_Sh d_Sh_init_1 rfl rfl (by rw [cel_k hc]; show (4 : Nat) ≠ 0; decide) (by omega) (Nat.le_of_ble_eq_true rfl) ?_
  refine tb_aload_0 d_Sh_init_4 rfl ?_
  refine tb_iload_1 d_Sh_init_5 rfl ?_
  refine ny_int (N := n) d_Sh_init_6 rfl (nI_clamp (by omega)) (nI_pos (by omega)) (by omega) o0.2.1 (by omega) (by omega) ?_
  obtain ⟨o1, c1, s1⟩ := o0.new (kd := 100) (l := (n)) (t + 1) (by omega) (by omega) (by omega)
  refine tb_topR (y := t + 1) (by have := o0.1; omega) ?_
  have f1_0 := (s1 (t) (by omega)).trans hc
  generalize tb_new M 100 (n) = m1 at o1 c1 s1 f1_0
  refine p_Sh_9 d_Sh_init_8 rfl rfl rfl (by exact cel_k f1_0) ?_
  have o2 := o1.sR (o := t) (k := 0) (r := t + 1) (by omega)
  have f2_0 := cel_sR (k := 0) (r := t + 1) f1_0
  have f2_1 := (cel_sRn (m := m1) (o := t) (k := 0) (r := t + 1) (show t + 1 ≠ t by omega)).trans c1
  generalize tb_sR m1 (t) 0 (t + 1) = m2 at o2 f2_0 f2_1
  refine tb_iconst (0) (by decide) d_Sh_init_11 rfl ?_
  refine tb_istore_2 d_Sh_init_12 rfl (by decide) ?_
  refine lp_Sh_fill h13 (fun m l2 o0 f0 f1 => ?_) n 0 (by omega) (by omega) _ o2 f2_0 f2_1
  refine tb_aload_0 d_Sh_init_31 rfl ?_
  refine tb_iload_1 d_Sh_init_32 rfl ?_
  refine tb_bipush (6) (by decide) d_Sh_init_33 rfl ?_
  refine tb_imul d_Sh_init_35 rfl ?_
  rw [nI_mul6]
  refine ny_short (N := 6 * n) d_Sh_init_36 rfl (nI_clamp (by omega)) (nI_pos (by omega)) (by omega) o0.2.1 (by omega) (by omega) ?_
  obtain ⟨o1, c1, s1⟩ := o0.new (kd := 101) (l := (6 * n)) (t + 2) (by omega) (by omega) (by omega)
  refine tb_topR (y := t + 2) (by have := o0.1; omega) ?_
  have f1_0 := (s1 (t) (by omega)).trans f0
  have f1_1 := (s1 (t + 1) (by omega)).trans f1
  generalize tb_new m 101 (6 * n) = m1 at o1 c1 s1 f1_0 f1_1
  refine p_Sh_15 d_Sh_init_38 rfl rfl rfl (by exact cel_k f1_0) ?_
  have o2 := o1.sR (o := t) (k := 1) (r := t + 2) (by omega)
  have f2_0 := cel_sR (k := 1) (r := t + 2) f1_0
  have f2_1 := (cel_sRn (m := m1) (o := t) (k := 1) (r := t + 2) (show t + 1 ≠ t by omega)).trans f1_1
  have f2_2 := (cel_sRn (m := m1) (o := t) (k := 1) (r := t + 2) (show t + 2 ≠ t by omega)).trans c1
  generalize tb_sR m1 (t) 1 (t + 2) = m2 at o2 f2_0 f2_1 f2_2
  refine tb_vreturn d_Sh_init_41 rfl ?_
  refine ⟨rfl, o2.1, o2.2.1, o2.2.2.1, fun q p z => ?_⟩
  rcases (show q = t ∨ q = t + 1 ∨ q = t + 2 by omega) with e | e | e
  · rw [e, g1, f2_0]
  · rw [e, g2, f2_1]
  · rw [e, g3, f2_2]
theorem gK_tr5 : ∀ t, t < 218 → gK t = 7 → t + 5 < 178 := by decide +kernel
theorem ok_Tr_init (hG : tb_G E) (hn : tb_n M = t) (hu : tb_u M = true) (hk : gK t = 7) (hc : cel M t = (7, 0, zI, zR)) (d : Nat) : tb_Ok E m_Tr_init (d + 2) 5 116 [.inr (.inl t)] M (fun o m => o = .inl none ∧ Opn M m t t (t + 5 + 1) (t + 5)) := by
  have o0 : Opn M M t (t + 1) (t + 1) t := Opn.rf hn hu
  obtain ⟨hk1, hk3, hL4, -⟩ := gK_tr t (gK_lt (by omega)) hk
  have h178 := gK_tr5 t (gK_lt (by omega)) hk
  refine tb_okOf hG (by decide) rfl (Nat.le_of_ble_eq_true rfl) rfl ?_
  refine tb_aload_0 d_Tr_init_0 rfl ?_
  refine oi_Tr d_Tr_init_1 rfl rfl (by rw [cel_k hc]; show (7 : Nat) ≠ 0; decide) (by omega) (Nat.le_of_ble_eq_true rfl) ?_
  refine tb_aload_0 d_Tr_init_4 rfl ?_
  refine nw_Tr_9 d_Tr_init_5 rfl rfl o0.2.1 (by omega) (by omega) ?_
  obtain ⟨o1, c1, s1⟩ := o0.new (kd := 6) (l := 0) (t + 1) (by omega) (by omega) (by omega)
  refine tb_topR (y := t + 1) (by have := o0.1; omega) ?_
  have f1_0 := (s1 (t) (by omega)).trans hc
  generalize tb_new M 6 0 = m1 at o1 c1 s1 f1_0
  refine tb_dup d_Tr_init_8 rfl ?_
  refine tb_callI c_Tr_11 d_Tr_init_9 rfl rfl rfl (Nat.le_of_ble_eq_true rfl) (by rw [cel_k c1]; show (6 : Nat) ≠ 0; decide) (Nat.le_refl _) (by omega) (by omega) (ok_Tx_init hG o1.1 o1.2.1 hk1 c1 d) (fun v m2 h2 => ?_) (fun x m h => by cases h.1)
  obtain ⟨hv, h2⟩ := h2
  cases hv
  have o2 := o1.call (c := t + 2) h2 (by omega) (by omega) (by omega)
  have f2_0 := (h2.2.2.1 (t) (by omega)).trans f1_0
  refine p_Tr_12 d_Tr_init_12 rfl rfl rfl (by exact cel_k f2_0) ?_
  have o3 := o2.sR (o := t) (k := 0) (r := t + 1) (by omega)
  have f3_0 := cel_sR (k := 0) (r := t + 1) f2_0
  generalize tb_sR m2 (t) 0 (t + 1) = m3 at o3 f3_0
  refine tb_aload_0 d_Tr_init_15 rfl ?_
  refine nw_Tr_18 d_Tr_init_16 rfl rfl o3.2.1 (by omega) (by omega) ?_
  obtain ⟨o4, c4, s4⟩ := o3.new (kd := 4) (l := 0) (t + 3) (by omega) (by omega) (by omega)
  refine tb_topR (y := t + 3) (by have := o3.1; omega) ?_
  have f4_0 := (s4 (t) (by omega)).trans f3_0
  generalize tb_new m3 4 0 = m4 at o4 c4 s4 f4_0
  refine tb_dup d_Tr_init_19 rfl ?_
  refine tb_bipush (13) (by decide) d_Tr_init_20 rfl ?_
  refine tb_topI (y := nI 13) rfl ?_
  refine tb_callI c_Tr_20 d_Tr_init_22 rfl rfl rfl (Nat.le_of_ble_eq_true rfl) (by rw [cel_k c4]; show (4 : Nat) ≠ 0; decide) (Nat.le_refl _) (by omega) (by omega) (ok_Sh_init hG (n := 13) o4.1 o4.2.1 hk3 (by omega) hL4 c4 d) (fun v m5 h5 => ?_) (fun x m h => by cases h.1)
  obtain ⟨hv, h5⟩ := h5
  cases hv
  have o5 := o4.call (c := t + 5) h5 (by omega) (by omega) (by omega)
  have f5_0 := (h5.2.2.1 (t) (by omega)).trans f4_0
  refine p_Tr_23 d_Tr_init_25 rfl rfl rfl (by exact cel_k f5_0) ?_
  have o6 := o5.sR (o := t) (k := 1) (r := t + 3) (by omega)
  have f6_0 := cel_sR (k := 1) (r := t + 3) f5_0
  generalize tb_sR m5 (t) 1 (t + 3) = m6 at o6 f6_0
  refine tb_aload_0 d_Tr_init_28 rfl ?_
  refine tb_iconst (0) (by decide) d_Tr_init_29 rfl ?_
  refine p_Tr_27 d_Tr_init_30 rfl rfl (by exact cel_k f6_0) ?_
  have o7 := o6.sI (o := t) (k := 2) (r := 0) (by omega)
  have f7_0 := cel_sI (k := 2) (r := 0) f6_0
  generalize tb_sI m6 (t) 2 (0) = m7 at o7 f7_0
  refine tb_aload_0 d_Tr_init_33 rfl ?_
  refine tb_iconst (0) (by decide) d_Tr_init_34 rfl ?_
  refine p_Tr_31 d_Tr_init_35 rfl rfl (by exact cel_k f7_0) ?_
  have o8 := o7.sI (o := t) (k := 3) (r := 0) (by omega)
  have f8_0 := cel_sI (k := 3) (r := 0) f7_0
  generalize tb_sI m7 (t) 3 (0) = m8 at o8 f8_0
  refine tb_aload_0 d_Tr_init_38 rfl ?_
  refine tb_iconst (-1) (by decide) d_Tr_init_39 rfl ?_
  refine p_Tr_34 d_Tr_init_40 rfl rfl (by exact cel_k f8_0) ?_
  have o9 := o8.sI (o := t) (k := 4) (r := -1) (by omega)
  have f9_0 := cel_sI (k := 4) (r := -1) f8_0
  generalize tb_sI m8 (t) 4 (-1) = m9 at o9 f9_0
  refine tb_vreturn d_Tr_init_43 rfl ?_
  refine ⟨rfl, o9.1, o9.2.1, o9.2.2.1, fun q p z => ?_⟩
  by_cases e : q = t
  · rw [e, gC_tr hk, f9_0, va_z, va_z]
  · exact o9.2.2.2 q (by omega) z
end Init2
