/-! Constructors: Script, Store, Log, TracedBuild, the reference. -/
section Init3
variable {E : tb_E} {M : tb_M}
theorem gK_Scr : ∀ k, k < 10 → gK (6 + 2 * k) = 6 := by decide +kernel
theorem lp_Sc_fill (hG : tb_G E) {d : Nat} {Q : tb_O → tb_M → Prop} (hQ : ∀ m l1, Opn M m 4 6 (5 + 2 * 10 + 1) (5 + 2 * 10) → cel m 4 = (3, 0, zI, va_up zR 0 5) → cel m 5 = (105, 10, zI, rwf 6 2 10) → tb_Wp E m_Sc_init (d + 2) 0 0 40 [some (.inr 4), l1] [] m Q) : ∀ (w k : Nat), 10 - k = w → k ≤ 10 → ∀ m, Opn M m 4 6 (5 + 2 * k + 1) (5 + 2 * k) → cel m 4 = (3, 0, zI, va_up zR 0 5) → cel m 5 = (105, 10, zI, rwf 6 2 k) → tb_Wp E m_Sc_init (d + 2) (2 * w) (14 * w) 15 [some (.inr 4), some (.inl (nI k))] [] m Q := by
  intro w
  induction w with
  | zero =>
    intro k hw hk m o0 f0 f1
    have e : k = 10 := by omega
    subst e
    refine tb_iload_1 d_Sc_init_15 rfl ?_
    refine tb_bipush (10) (by decide) d_Sc_init_16 rfl ?_
    refine tb_icmp_ge 40 d_Sc_init_18 (by decide) rfl (fun h18 => ?_) (fun h18 => ?_)
    · exact hQ m _ o0 f0 f1
    · exact absurd (nI_leI (a := 10) (b := 10) (by omega) (by omega) |>.mpr (Nat.le_refl _)) h18
  | succ w ih =>
    intro k hw hk m o0 f0 f1
    refine tb_iload_1 d_Sc_init_15 rfl ?_
    refine tb_bipush (10) (by decide) d_Sc_init_16 rfl ?_
    refine tb_icmp_ge 40 d_Sc_init_18 (by decide) rfl (fun h18 => ?_) (fun h18 => ?_)
    · exact absurd (nI_leI (a := 10) (b := k) (by omega) (by omega) |>.mp h18) (by omega)
    · refine tb_aload_0 d_Sc_init_21 rfl ?_
      refine g_Sc_11 d_Sc_init_22 rfl rfl (by exact cel_k f0) ?_
      refine tb_topR (y := 5) (by rw [cel_r f0]; rfl) ?_
      refine tb_iload_1 d_Sc_init_25 rfl ?_
      refine nw_Sc_9 d_Sc_init_26 rfl rfl o0.2.1 (by omega) (by omega) ?_
      obtain ⟨o1, c1, s1⟩ := o0.new (kd := 6) (l := 0) (6 + 2 * k) (by omega) (by omega) (by omega)
      refine tb_topR (y := 6 + 2 * k) (by have := o0.1; omega) ?_
      have f1_0 := (s1 (4) (by omega)).trans f0
      have f1_1 := (s1 (5) (by omega)).trans f1
      generalize tb_new m 6 0 = m1 at o1 c1 s1 f1_0 f1_1
      refine tb_dup d_Sc_init_29 rfl ?_
      refine tb_callI c_Sc_17 d_Sc_init_30 rfl rfl rfl (Nat.le_of_ble_eq_true rfl) (by rw [cel_k c1]; show (6 : Nat) ≠ 0; decide) (Nat.le_refl _) (by omega) (by omega) (ok_Tx_init hG o1.1 o1.2.1 (gK_Scr k (by omega)) c1 d) (fun v m2 h2 => ?_) (fun x m h => by cases h.1)
      obtain ⟨hv, h2⟩ := h2
      cases hv
      have o2 := o1.call (c := 5 + 2 * (k + 1)) h2 (by omega) (by omega) (by omega)
      have f2_0 := (h2.2.2.1 (4) (by omega)).trans f1_0
      have f2_1 := (h2.2.2.1 (5) (by omega)).trans f1_1
      refine tb_aastore (ci := 5) (t := 5) d_Sc_init_33 rfl (by decide) rfl rfl (by decide) (by exact cel_k f2_1) (by rw [cel_k (o2.2.2.2 (6 + 2 * k) (by omega) (by omega))]; exact gK_Scr k (by omega)) (by rw [cel_l f2_1]; show vp_in (nI k) 10; exact vp_in_nI (by omega) (by omega)) ?_
      rw [nI_clamp (show k < 2 ^ 31 by omega)]
      have o3 := o2.sR (o := 5) (k := k) (r := 6 + 2 * k) (by omega)
      have f3_0 := (cel_sRn (m := m2) (o := 5) (k := k) (r := 6 + 2 * k) (show 4 ≠ 5 by omega)).trans f2_0
      have f3_1 := cel_sR (k := k) (r := 6 + 2 * k) f2_1
      generalize tb_sR m2 (5) k (6 + 2 * k) = m3 at o3 f3_0 f3_1
      rw [rwf_st] at f3_1
      refine tb_iinc_1 (1) d_Sc_init_34 rfl (by decide) (by decide) ?_
      refine tb_goto 15 d_Sc_init_37 (by decide) ?_
      rw [nI_1]
      exact tb_room (by omega) (by omega) (ih (k + 1) (by omega) (by omega) _ o3 f3_0 f3_1)
theorem ok_Sc_init (hG : tb_G E) (hn : tb_n M = 4) (hu : tb_u M = true) (hc : cel M 4 = (3, 0, zI, zR)) (d : Nat) : tb_Ok E m_Sc_init (d + 2) 21 150 [.inr (.inl 4)] M (fun o m => o = .inl none ∧ Opn M m 4 4 (25 + 1) 25) := by
  have o0 : Opn M M 4 6 6 4 := Opn.rf hn hu
  refine tb_okOf hG (by decide) rfl (Nat.le_of_ble_eq_true rfl) rfl ?_
  refine tb_aload_0 d_Sc_init_0 rfl ?_
  refine oi_Sc d_Sc_init_1 rfl rfl (by rw [cel_k hc]; show (3 : Nat) ≠ 0; decide) (by omega) (Nat.le_of_ble_eq_true rfl) ?_
  refine tb_aload_0 d_Sc_init_4 rfl ?_
  refine tb_bipush (10) (by decide) d_Sc_init_5 rfl ?_
  refine na_Sc_9 (N := 10) d_Sc_init_7 rfl rfl (by decide) (by decide) (by decide) o0.2.1 (by omega) (by omega) ?_
  obtain ⟨o1, c1, s1⟩ := o0.new (kd := 105) (l := 10) (5) (by omega) (by omega) (by omega)
  refine tb_topR (y := 5) (by have := o0.1; omega) ?_
  have f1_0 := (s1 (4) (by omega)).trans hc
  generalize tb_new M 105 10 = m1 at o1 c1 s1 f1_0
  refine p_Sc_11 d_Sc_init_10 rfl rfl rfl (by exact cel_k f1_0) ?_
  have o2 := o1.sR (o := 4) (k := 0) (r := 5) (by omega)
  have f2_0 := cel_sR (k := 0) (r := 5) f1_0
  have f2_1 := (cel_sRn (m := m1) (o := 4) (k := 0) (r := 5) (show 5 ≠ 4 by omega)).trans c1
  generalize tb_sR m1 (4) 0 (5) = m2 at o2 f2_0 f2_1
  refine tb_iconst (0) (by decide) d_Sc_init_13 rfl ?_
  refine tb_istore_1 d_Sc_init_14 rfl (by decide) ?_
  refine tb_room (rc' := 2 * 10) (rs' := 14 * 10) (by omega) (by omega) (lp_Sc_fill hG (fun m l1 o0 f0 f1 => ?_) 10 0 (by omega) (by omega) _ o2 f2_0 f2_1)
  refine tb_aload_0 d_Sc_init_40 rfl ?_
  refine tb_iconst (0) (by decide) d_Sc_init_41 rfl ?_
  refine p_Sc_18 d_Sc_init_42 rfl rfl (by exact cel_k f0) ?_
  have o1 := o0.sI (o := 4) (k := 1) (r := 0) (by omega)
  have f1_0 := cel_sI (k := 1) (r := 0) f0
  have f1_1 := (cel_sIn (m := m) (o := 4) (k := 1) (r := 0) (show 5 ≠ 4 by omega)).trans f1
  generalize tb_sI m (4) 1 (0) = m1 at o1 f1_0 f1_1
  refine tb_vreturn d_Sc_init_45 rfl ?_
  refine ⟨rfl, o1.1, o1.2.1, o1.2.2.1, fun q p z => ?_⟩
  by_cases e : q = 4
  · rw [e, show gC 4 = (3, 0, gI 4, gR 4) from rfl, f1_0]
    refine Prod.ext rfl (Prod.ext rfl (Prod.ext ?_ rfl))
    show va_up zI 1 0 = gI 4
    rw [va_z]
    rfl
  · by_cases e2 : q = 5
    · rw [e2, f1_1]
      rfl
    · exact o1.2.2.2 q (by omega) (by omega)
theorem gK_Str : ∀ k, k < 24 → gK (34 + 6 * k) = 7 := by decide +kernel
theorem lp_St_fill (hG : tb_G E) {d : Nat} {Q : tb_O → tb_M → Prop} (hQ : ∀ m l1, Opn M m 32 34 (33 + 6 * 24 + 1) (33 + 6 * 24) → cel m 32 = (5, 0, zI, va_up zR 0 33) → cel m 33 = (106, 24, zI, rwf 34 6 24) → tb_Wp E m_St_init (d + 3) 0 0 40 [some (.inr 32), l1] [] m Q) : ∀ (w k : Nat), 24 - k = w → k ≤ 24 → ∀ m, Opn M m 32 34 (33 + 6 * k + 1) (33 + 6 * k) → cel m 32 = (5, 0, zI, va_up zR 0 33) → cel m 33 = (106, 24, zI, rwf 34 6 k) → tb_Wp E m_St_init (d + 3) (6 * w) (121 * w) 15 [some (.inr 32), some (.inl (nI k))] [] m Q := by
  intro w
  induction w with
  | zero =>
    intro k hw hk m o0 f0 f1
    have e : k = 24 := by omega
    subst e
    refine tb_iload_1 d_St_init_15 rfl ?_
    refine tb_bipush (24) (by decide) d_St_init_16 rfl ?_
    refine tb_icmp_ge 40 d_St_init_18 (by decide) rfl (fun h18 => ?_) (fun h18 => ?_)
    · exact hQ m _ o0 f0 f1
    · exact absurd (nI_leI (a := 24) (b := 24) (by omega) (by omega) |>.mpr (Nat.le_refl _)) h18
  | succ w ih =>
    intro k hw hk m o0 f0 f1
    refine tb_iload_1 d_St_init_15 rfl ?_
    refine tb_bipush (24) (by decide) d_St_init_16 rfl ?_
    refine tb_icmp_ge 40 d_St_init_18 (by decide) rfl (fun h18 => ?_) (fun h18 => ?_)
    · exact absurd (nI_leI (a := 24) (b := k) (by omega) (by omega) |>.mp h18) (by omega)
    · refine tb_aload_0 d_St_init_21 rfl ?_
      refine g_St_11 d_St_init_22 rfl rfl (by exact cel_k f0) ?_
      refine tb_topR (y := 33) (by rw [cel_r f0]; rfl) ?_
      refine tb_iload_1 d_St_init_25 rfl ?_
      refine nw_St_9 d_St_init_26 rfl rfl o0.2.1 (by omega) (by omega) ?_
      obtain ⟨o1, c1, s1⟩ := o0.new (kd := 7) (l := 0) (34 + 6 * k) (by omega) (by omega) (by omega)
      refine tb_topR (y := 34 + 6 * k) (by have := o0.1; omega) ?_
      have f1_0 := (s1 (32) (by omega)).trans f0
      have f1_1 := (s1 (33) (by omega)).trans f1
      generalize tb_new m 7 0 = m1 at o1 c1 s1 f1_0 f1_1
      refine tb_dup d_St_init_29 rfl ?_
      refine tb_callI c_St_17 d_St_init_30 rfl rfl rfl (Nat.le_of_ble_eq_true rfl) (by rw [cel_k c1]; show (7 : Nat) ≠ 0; decide) (Nat.le_refl _) (by omega) (by omega) (ok_Tr_init hG o1.1 o1.2.1 (gK_Str k (by omega)) c1 d) (fun v m2 h2 => ?_) (fun x m h => by cases h.1)
      obtain ⟨hv, h2⟩ := h2
      cases hv
      have o2 := o1.call (c := 33 + 6 * (k + 1)) h2 (by omega) (by omega) (by omega)
      have f2_0 := (h2.2.2.1 (32) (by omega)).trans f1_0
      have f2_1 := (h2.2.2.1 (33) (by omega)).trans f1_1
      refine tb_aastore (ci := 6) (t := 6) d_St_init_33 rfl (by decide) rfl rfl (by decide) (by exact cel_k f2_1) (by rw [cel_k (o2.2.2.2 (34 + 6 * k) (by omega) (by omega))]; exact gK_Str k (by omega)) (by rw [cel_l f2_1]; show vp_in (nI k) 24; exact vp_in_nI (by omega) (by omega)) ?_
      rw [nI_clamp (show k < 2 ^ 31 by omega)]
      have o3 := o2.sR (o := 33) (k := k) (r := 34 + 6 * k) (by omega)
      have f3_0 := (cel_sRn (m := m2) (o := 33) (k := k) (r := 34 + 6 * k) (show 32 ≠ 33 by omega)).trans f2_0
      have f3_1 := cel_sR (k := k) (r := 34 + 6 * k) f2_1
      generalize tb_sR m2 (33) k (34 + 6 * k) = m3 at o3 f3_0 f3_1
      rw [rwf_st] at f3_1
      refine tb_iinc_1 (1) d_St_init_34 rfl (by decide) (by decide) ?_
      refine tb_goto 15 d_St_init_37 (by decide) ?_
      rw [nI_1]
      exact tb_room (by omega) (by omega) (ih (k + 1) (by omega) (by omega) _ o3 f3_0 f3_1)
theorem ok_St_init (hG : tb_G E) (hn : tb_n M = 32) (hu : tb_u M = true) (hc : cel M 32 = (5, 0, zI, zR)) (d : Nat) : tb_Ok E m_St_init (d + 3) 145 2928 [.inr (.inl 32)] M (fun o m => o = .inl none ∧ Opn M m 32 32 (177 + 1) 177) := by
  have o0 : Opn M M 32 34 34 32 := Opn.rf hn hu
  refine tb_okOf hG (by decide) rfl (Nat.le_of_ble_eq_true rfl) rfl ?_
  refine tb_aload_0 d_St_init_0 rfl ?_
  refine oi_St d_St_init_1 rfl rfl (by rw [cel_k hc]; show (5 : Nat) ≠ 0; decide) (by omega) (Nat.le_of_ble_eq_true rfl) ?_
  refine tb_aload_0 d_St_init_4 rfl ?_
  refine tb_bipush (24) (by decide) d_St_init_5 rfl ?_
  refine na_St_9 (N := 24) d_St_init_7 rfl rfl (by decide) (by decide) (by decide) o0.2.1 (by omega) (by omega) ?_
  obtain ⟨o1, c1, s1⟩ := o0.new (kd := 106) (l := 24) (33) (by omega) (by omega) (by omega)
  refine tb_topR (y := 33) (by have := o0.1; omega) ?_
  have f1_0 := (s1 (32) (by omega)).trans hc
  generalize tb_new M 106 24 = m1 at o1 c1 s1 f1_0
  refine p_St_11 d_St_init_10 rfl rfl rfl (by exact cel_k f1_0) ?_
  have o2 := o1.sR (o := 32) (k := 0) (r := 33) (by omega)
  have f2_0 := cel_sR (k := 0) (r := 33) f1_0
  have f2_1 := (cel_sRn (m := m1) (o := 32) (k := 0) (r := 33) (show 33 ≠ 32 by omega)).trans c1
  generalize tb_sR m1 (32) 0 (33) = m2 at o2 f2_0 f2_1
  refine tb_iconst (0) (by decide) d_St_init_13 rfl ?_
  refine tb_istore_1 d_St_init_14 rfl (by decide) ?_
  refine tb_room (rc' := 6 * 24) (rs' := 121 * 24) (by omega) (by omega) (lp_St_fill hG (fun m l1 o0 f0 f1 => ?_) 24 0 (by omega) (by omega) _ o2 f2_0 f2_1)
  refine tb_aload_0 d_St_init_40 rfl ?_
  refine tb_iconst (0) (by decide) d_St_init_41 rfl ?_
  refine p_St_18 d_St_init_42 rfl rfl (by exact cel_k f0) ?_
  have o1 := o0.sI (o := 32) (k := 1) (r := 0) (by omega)
  have f1_0 := cel_sI (k := 1) (r := 0) f0
  have f1_1 := (cel_sIn (m := m) (o := 32) (k := 1) (r := 0) (show 33 ≠ 32 by omega)).trans f1
  generalize tb_sI m (32) 1 (0) = m1 at o1 f1_0 f1_1
  refine tb_vreturn d_St_init_45 rfl ?_
  refine ⟨rfl, o1.1, o1.2.1, o1.2.2.1, fun q p z => ?_⟩
  by_cases e : q = 32
  · rw [e, show gC 32 = (5, 0, gI 32, gR 32) from rfl, f1_0]
    refine Prod.ext rfl (Prod.ext rfl (Prod.ext ?_ rfl))
    show va_up zI 1 0 = gI 32
    rw [va_z]
    rfl
  · by_cases e2 : q = 33
    · rw [e2, f1_1]
      rfl
    · exact o1.2.2.2 q (by omega) (by omega)
theorem gK_Lgr : ∀ k, k < 10 → gK (180 + 1 * k) = 1 := by decide +kernel
theorem lp_Lg_fill (hG : tb_G E) {d : Nat} {Q : tb_O → tb_M → Prop} (hQ : ∀ m l1, Opn M m 178 180 (179 + 1 * 10 + 1) (179 + 1 * 10) → cel m 178 = (2, 0, zI, va_up zR 0 179) → cel m 179 = (107, 10, zI, rwf 180 1 10) → tb_Wp E m_Lg_init (d + 2) 0 0 40 [some (.inr 178), l1] [] m Q) : ∀ (w k : Nat), 10 - k = w → k ≤ 10 → ∀ m, Opn M m 178 180 (179 + 1 * k + 1) (179 + 1 * k) → cel m 178 = (2, 0, zI, va_up zR 0 179) → cel m 179 = (107, 10, zI, rwf 180 1 k) → tb_Wp E m_Lg_init (d + 2) (1 * w) (7 * w) 15 [some (.inr 178), some (.inl (nI k))] [] m Q := by
  intro w
  induction w with
  | zero =>
    intro k hw hk m o0 f0 f1
    have e : k = 10 := by omega
    subst e
    refine tb_iload_1 d_Lg_init_15 rfl ?_
    refine tb_bipush (10) (by decide) d_Lg_init_16 rfl ?_
    refine tb_icmp_ge 40 d_Lg_init_18 (by decide) rfl (fun h18 => ?_) (fun h18 => ?_)
    · exact hQ m _ o0 f0 f1
    · exact absurd (nI_leI (a := 10) (b := 10) (by omega) (by omega) |>.mpr (Nat.le_refl _)) h18
  | succ w ih =>
    intro k hw hk m o0 f0 f1
    refine tb_iload_1 d_Lg_init_15 rfl ?_
    refine tb_bipush (10) (by decide) d_Lg_init_16 rfl ?_
    refine tb_icmp_ge 40 d_Lg_init_18 (by decide) rfl (fun h18 => ?_) (fun h18 => ?_)
    · exact absurd (nI_leI (a := 10) (b := k) (by omega) (by omega) |>.mp h18) (by omega)
    · refine tb_aload_0 d_Lg_init_21 rfl ?_
      refine g_Lg_11 d_Lg_init_22 rfl rfl (by exact cel_k f0) ?_
      refine tb_topR (y := 179) (by rw [cel_r f0]; rfl) ?_
      refine tb_iload_1 d_Lg_init_25 rfl ?_
      refine nw_Lg_9 d_Lg_init_26 rfl rfl o0.2.1 (by omega) (by omega) ?_
      obtain ⟨o1, c1, s1⟩ := o0.new (kd := 1) (l := 0) (180 + 1 * k) (by omega) (by omega) (by omega)
      refine tb_topR (y := 180 + 1 * k) (by have := o0.1; omega) ?_
      have f1_0 := (s1 (178) (by omega)).trans f0
      have f1_1 := (s1 (179) (by omega)).trans f1
      generalize tb_new m 1 0 = m1 at o1 c1 s1 f1_0 f1_1
      refine tb_dup d_Lg_init_29 rfl ?_
      refine tb_callIN c_Lg_17 d_Lg_init_30 rfl rfl rfl (Nat.le_of_ble_eq_true rfl) (by rw [cel_k c1]; show (1 : Nat) ≠ 0; decide) (Nat.le_refl _) (by omega) (by omega) (ok_De_init hG o1.1 o1.2.1 (gK_Lgr k (by omega)) c1 d) (fun v m2 h2 => ?_) (fun x m h => by cases h.1)
      obtain ⟨hv, h2⟩ := h2
      cases hv
      have o2 := o1.call (c := 179 + 1 * (k + 1)) h2 (by omega) (by omega) (by omega)
      have f2_0 := (h2.2.2.1 (178) (by omega)).trans f1_0
      have f2_1 := (h2.2.2.1 (179) (by omega)).trans f1_1
      refine tb_aastore (ci := 0) (t := 7) d_Lg_init_33 rfl (by decide) rfl rfl (by decide) (by exact cel_k f2_1) (by rw [cel_k (o2.2.2.2 (180 + 1 * k) (by omega) (by omega))]; exact gK_Lgr k (by omega)) (by rw [cel_l f2_1]; show vp_in (nI k) 10; exact vp_in_nI (by omega) (by omega)) ?_
      rw [nI_clamp (show k < 2 ^ 31 by omega)]
      have o3 := o2.sR (o := 179) (k := k) (r := 180 + 1 * k) (by omega)
      have f3_0 := (cel_sRn (m := m2) (o := 179) (k := k) (r := 180 + 1 * k) (show 178 ≠ 179 by omega)).trans f2_0
      have f3_1 := cel_sR (k := k) (r := 180 + 1 * k) f2_1
      generalize tb_sR m2 (179) k (180 + 1 * k) = m3 at o3 f3_0 f3_1
      rw [rwf_st] at f3_1
      refine tb_iinc_1 (1) d_Lg_init_34 rfl (by decide) (by decide) ?_
      refine tb_goto 15 d_Lg_init_37 (by decide) ?_
      rw [nI_1]
      exact tb_room (by omega) (by omega) (ih (k + 1) (by omega) (by omega) _ o3 f3_0 f3_1)
theorem ok_Lg_init (hG : tb_G E) (hn : tb_n M = 178) (hu : tb_u M = true) (hc : cel M 178 = (2, 0, zI, zR)) (d : Nat) : tb_Ok E m_Lg_init (d + 2) 11 80 [.inr (.inl 178)] M (fun o m => o = .inl none ∧ Opn M m 178 178 (189 + 1) 189) := by
  have o0 : Opn M M 178 180 180 178 := Opn.rf hn hu
  refine tb_okOf hG (by decide) rfl (Nat.le_of_ble_eq_true rfl) rfl ?_
  refine tb_aload_0 d_Lg_init_0 rfl ?_
  refine oi_Lg d_Lg_init_1 rfl rfl (by rw [cel_k hc]; show (2 : Nat) ≠ 0; decide) (by omega) (Nat.le_of_ble_eq_true rfl) ?_
  refine tb_aload_0 d_Lg_init_4 rfl ?_
  refine tb_bipush (10) (by decide) d_Lg_init_5 rfl ?_
  refine na_Lg_9 (N := 10) d_Lg_init_7 rfl rfl (by decide) (by decide) (by decide) o0.2.1 (by omega) (by omega) ?_
  obtain ⟨o1, c1, s1⟩ := o0.new (kd := 107) (l := 10) (179) (by omega) (by omega) (by omega)
  refine tb_topR (y := 179) (by have := o0.1; omega) ?_
  have f1_0 := (s1 (178) (by omega)).trans hc
  generalize tb_new M 107 10 = m1 at o1 c1 s1 f1_0
  refine p_Lg_11 d_Lg_init_10 rfl rfl rfl (by exact cel_k f1_0) ?_
  have o2 := o1.sR (o := 178) (k := 0) (r := 179) (by omega)
  have f2_0 := cel_sR (k := 0) (r := 179) f1_0
  have f2_1 := (cel_sRn (m := m1) (o := 178) (k := 0) (r := 179) (show 179 ≠ 178 by omega)).trans c1
  generalize tb_sR m1 (178) 0 (179) = m2 at o2 f2_0 f2_1
  refine tb_iconst (0) (by decide) d_Lg_init_13 rfl ?_
  refine tb_istore_1 d_Lg_init_14 rfl (by decide) ?_
  refine tb_room (rc' := 1 * 10) (rs' := 7 * 10) (by omega) (by omega) (lp_Lg_fill hG (fun m l1 o0 f0 f1 => ?_) 10 0 (by omega) (by omega) _ o2 f2_0 f2_1)
  refine tb_aload_0 d_Lg_init_40 rfl ?_
  refine tb_iconst (0) (by decide) d_Lg_init_41 rfl ?_
  refine p_Lg_18 d_Lg_init_42 rfl rfl (by exact cel_k f0) ?_
  have o1 := o0.sI (o := 178) (k := 1) (r := 0) (by omega)
  have f1_0 := cel_sI (k := 1) (r := 0) f0
  have f1_1 := (cel_sIn (m := m) (o := 178) (k := 1) (r := 0) (show 179 ≠ 178 by omega)).trans f1
  generalize tb_sI m (178) 1 (0) = m1 at o1 f1_0 f1_1
  refine tb_aload_0 d_Lg_init_45 rfl ?_
  refine tb_iconst (-1) (by decide) d_Lg_init_46 rfl ?_
  refine p_Lg_22 d_Lg_init_47 rfl rfl (by exact cel_k f1_0) ?_
  have o2 := o1.sI (o := 178) (k := 2) (r := -1) (by omega)
  have f2_0 := cel_sI (k := 2) (r := -1) f1_0
  have f2_1 := (cel_sIn (m := m1) (o := 178) (k := 2) (r := -1) (show 179 ≠ 178 by omega)).trans f1_1
  generalize tb_sI m1 (178) 2 (-1) = m2 at o2 f2_0 f2_1
  refine tb_vreturn d_Lg_init_50 rfl ?_
  refine ⟨rfl, o2.1, o2.2.1, o2.2.2.1, fun q p z => ?_⟩
  by_cases e : q = 178
  · rw [e, show gC 178 = (2, 0, gI 178, gR 178) from rfl, f2_0]
    refine Prod.ext rfl (Prod.ext rfl (Prod.ext ?_ rfl))
    show va_up (va_up zI 1 0) 2 (-1) = gI 178
    rw [va_z]
    rfl
  · by_cases e2 : q = 179
    · rw [e2, f2_1]
      rfl
    · exact o2.2.2.2 q (by omega) (by omega)
theorem ok_TB_init (hG : tb_G E) (hn : tb_n M = 1) (hu : tb_u M = true) (hc : cel M 1 = (8, 0, zI, zR)) (d : Nat) : tb_Ok E m_TB_init (d + 4) 188 3387 [.inr (.inl 1)] M (fun o m => o = .inl none ∧ Opn M m 1 1 (189 + 1) 189) := by
  have o0 : Opn M M 1 2 2 1 := Opn.rf hn hu
  refine tb_okOf hG (by decide) rfl (Nat.le_of_ble_eq_true rfl) rfl ?_
  refine tb_aload_0 d_TB_init_0 rfl ?_
  refine oi_TB d_TB_init_1 rfl rfl (by rw [cel_k hc]; show (8 : Nat) ≠ 0; decide) (by omega) (Nat.le_of_ble_eq_true rfl) ?_
  refine tb_aload_0 d_TB_init_4 rfl ?_
  refine nw_TB_7 d_TB_init_5 rfl rfl o0.2.1 (by omega) (by omega) ?_
  obtain ⟨o1, c1, s1⟩ := o0.new (kd := 6) (l := 0) (2) (by omega) (by omega) (by omega)
  refine tb_topR (y := 2) (by have := o0.1; omega) ?_
  have f1_0 := (s1 (1) (by omega)).trans hc
  generalize tb_new M 6 0 = m1 at o1 c1 s1 f1_0
  refine tb_dup d_TB_init_8 rfl ?_
  refine tb_callI c_TB_9 d_TB_init_9 rfl rfl rfl (Nat.le_of_ble_eq_true rfl) (by rw [cel_k c1]; show (6 : Nat) ≠ 0; decide) (Nat.le_refl _) (by omega) (by omega) (ok_Tx_init hG o1.1 o1.2.1 rfl c1 (d + 2)) (fun v m2 h2 => ?_) (fun x m h => by cases h.1)
  obtain ⟨hv, h2⟩ := h2
  cases hv
  have o2 := o1.call (c := 3) h2 (by omega) (by omega) (by omega)
  have f2_0 := (h2.2.2.1 (1) (by omega)).trans f1_0
  refine p_TB_10 d_TB_init_12 rfl rfl rfl (by exact cel_k f2_0) ?_
  have o3 := o2.sR (o := 1) (k := 0) (r := 2) (by omega)
  have f3_0 := cel_sR (k := 0) (r := 2) f2_0
  generalize tb_sR m2 (1) 0 (2) = m3 at o3 f3_0
  refine tb_aload_0 d_TB_init_15 rfl ?_
  refine nw_TB_16 d_TB_init_16 rfl rfl o3.2.1 (by omega) (by omega) ?_
  obtain ⟨o4, c4, s4⟩ := o3.new (kd := 3) (l := 0) (4) (by omega) (by omega) (by omega)
  refine tb_topR (y := 4) (by have := o3.1; omega) ?_
  have f4_0 := (s4 (1) (by omega)).trans f3_0
  generalize tb_new m3 3 0 = m4 at o4 c4 s4 f4_0
  refine tb_dup d_TB_init_19 rfl ?_
  refine tb_callI c_TB_18 d_TB_init_20 rfl rfl rfl (Nat.le_of_ble_eq_true rfl) (by rw [cel_k c4]; show (3 : Nat) ≠ 0; decide) (Nat.le_refl _) (by omega) (by omega) (ok_Sc_init hG o4.1 o4.2.1 c4 (d + 1)) (fun v m5 h5 => ?_) (fun x m h => by cases h.1)
  obtain ⟨hv, h5⟩ := h5
  cases hv
  have o5 := o4.call (c := 25) h5 (by omega) (by omega) (by omega)
  have f5_0 := (h5.2.2.1 (1) (by omega)).trans f4_0
  refine p_TB_19 d_TB_init_23 rfl rfl rfl (by exact cel_k f5_0) ?_
  have o6 := o5.sR (o := 1) (k := 1) (r := 4) (by omega)
  have f6_0 := cel_sR (k := 1) (r := 4) f5_0
  generalize tb_sR m5 (1) 1 (4) = m6 at o6 f6_0
  refine tb_aload_0 d_TB_init_26 rfl ?_
  refine nw_TB_23 d_TB_init_27 rfl rfl o6.2.1 (by omega) (by omega) ?_
  obtain ⟨o7, c7, s7⟩ := o6.new (kd := 4) (l := 0) (26) (by omega) (by omega) (by omega)
  refine tb_topR (y := 26) (by have := o6.1; omega) ?_
  have f7_0 := (s7 (1) (by omega)).trans f6_0
  generalize tb_new m6 4 0 = m7 at o7 c7 s7 f7_0
  refine tb_dup d_TB_init_30 rfl ?_
  refine tb_bipush (12) (by decide) d_TB_init_31 rfl ?_
  refine tb_topI (y := nI 12) rfl ?_
  refine tb_callI c_TB_25 d_TB_init_33 rfl rfl rfl (Nat.le_of_ble_eq_true rfl) (by rw [cel_k c7]; show (4 : Nat) ≠ 0; decide) (Nat.le_refl _) (by omega) (by omega) (ok_Sh_init hG (n := 12) o7.1 o7.2.1 rfl (by decide) rfl c7 (d + 2)) (fun v m8 h8 => ?_) (fun x m h => by cases h.1)
  obtain ⟨hv, h8⟩ := h8
  cases hv
  have o8 := o7.call (c := 28) h8 (by omega) (by omega) (by omega)
  have f8_0 := (h8.2.2.1 (1) (by omega)).trans f7_0
  refine p_TB_28 d_TB_init_36 rfl rfl rfl (by exact cel_k f8_0) ?_
  have o9 := o8.sR (o := 1) (k := 2) (r := 26) (by omega)
  have f9_0 := cel_sR (k := 2) (r := 26) f8_0
  generalize tb_sR m8 (1) 2 (26) = m9 at o9 f9_0
  refine tb_aload_0 d_TB_init_39 rfl ?_
  refine nw_TB_23 d_TB_init_40 rfl rfl o9.2.1 (by omega) (by omega) ?_
  obtain ⟨o10, c10, s10⟩ := o9.new (kd := 4) (l := 0) (29) (by omega) (by omega) (by omega)
  refine tb_topR (y := 29) (by have := o9.1; omega) ?_
  have f10_0 := (s10 (1) (by omega)).trans f9_0
  generalize tb_new m9 4 0 = m10 at o10 c10 s10 f10_0
  refine tb_dup d_TB_init_43 rfl ?_
  refine tb_bipush (12) (by decide) d_TB_init_44 rfl ?_
  refine tb_topI (y := nI 12) rfl ?_
  refine tb_callI c_TB_25 d_TB_init_46 rfl rfl rfl (Nat.le_of_ble_eq_true rfl) (by rw [cel_k c10]; show (4 : Nat) ≠ 0; decide) (Nat.le_refl _) (by omega) (by omega) (ok_Sh_init hG (n := 12) o10.1 o10.2.1 rfl (by decide) rfl c10 (d + 2)) (fun v m11 h11 => ?_) (fun x m h => by cases h.1)
  obtain ⟨hv, h11⟩ := h11
  cases hv
  have o11 := o10.call (c := 31) h11 (by omega) (by omega) (by omega)
  have f11_0 := (h11.2.2.1 (1) (by omega)).trans f10_0
  refine p_TB_32 d_TB_init_49 rfl rfl rfl (by exact cel_k f11_0) ?_
  have o12 := o11.sR (o := 1) (k := 3) (r := 29) (by omega)
  have f12_0 := cel_sR (k := 3) (r := 29) f11_0
  generalize tb_sR m11 (1) 3 (29) = m12 at o12 f12_0
  refine tb_aload_0 d_TB_init_52 rfl ?_
  refine nw_TB_35 d_TB_init_53 rfl rfl o12.2.1 (by omega) (by omega) ?_
  obtain ⟨o13, c13, s13⟩ := o12.new (kd := 5) (l := 0) (32) (by omega) (by omega) (by omega)
  refine tb_topR (y := 32) (by have := o12.1; omega) ?_
  have f13_0 := (s13 (1) (by omega)).trans f12_0
  generalize tb_new m12 5 0 = m13 at o13 c13 s13 f13_0
  refine tb_dup d_TB_init_56 rfl ?_
  refine tb_callI c_TB_37 d_TB_init_57 rfl rfl rfl (Nat.le_of_ble_eq_true rfl) (by rw [cel_k c13]; show (5 : Nat) ≠ 0; decide) (Nat.le_refl _) (by omega) (by omega) (ok_St_init hG o13.1 o13.2.1 c13 d) (fun v m14 h14 => ?_) (fun x m h => by cases h.1)
  obtain ⟨hv, h14⟩ := h14
  cases hv
  have o14 := o13.call (c := 177) h14 (by omega) (by omega) (by omega)
  have f14_0 := (h14.2.2.1 (1) (by omega)).trans f13_0
  refine p_TB_38 d_TB_init_60 rfl rfl rfl (by exact cel_k f14_0) ?_
  have o15 := o14.sR (o := 1) (k := 4) (r := 32) (by omega)
  have f15_0 := cel_sR (k := 4) (r := 32) f14_0
  generalize tb_sR m14 (1) 4 (32) = m15 at o15 f15_0
  refine tb_aload_0 d_TB_init_63 rfl ?_
  refine nw_TB_42 d_TB_init_64 rfl rfl o15.2.1 (by omega) (by omega) ?_
  obtain ⟨o16, c16, s16⟩ := o15.new (kd := 2) (l := 0) (178) (by omega) (by omega) (by omega)
  refine tb_topR (y := 178) (by have := o15.1; omega) ?_
  have f16_0 := (s16 (1) (by omega)).trans f15_0
  generalize tb_new m15 2 0 = m16 at o16 c16 s16 f16_0
  refine tb_dup d_TB_init_67 rfl ?_
  refine tb_callI c_TB_44 d_TB_init_68 rfl rfl rfl (Nat.le_of_ble_eq_true rfl) (by rw [cel_k c16]; show (2 : Nat) ≠ 0; decide) (Nat.le_refl _) (by omega) (by omega) (ok_Lg_init hG o16.1 o16.2.1 c16 (d + 1)) (fun v m17 h17 => ?_) (fun x m h => by cases h.1)
  obtain ⟨hv, h17⟩ := h17
  cases hv
  have o17 := o16.call (c := 189) h17 (by omega) (by omega) (by omega)
  have f17_0 := (h17.2.2.1 (1) (by omega)).trans f16_0
  refine p_TB_45 d_TB_init_71 rfl rfl rfl (by exact cel_k f17_0) ?_
  have o18 := o17.sR (o := 1) (k := 5) (r := 178) (by omega)
  have f18_0 := cel_sR (k := 5) (r := 178) f17_0
  generalize tb_sR m17 (1) 5 (178) = m18 at o18 f18_0
  refine tb_aload_0 d_TB_init_74 rfl ?_
  refine tb_iconst (0) (by decide) d_TB_init_75 rfl ?_
  refine p_TB_49 d_TB_init_76 rfl rfl (by exact cel_k f18_0) (by first | exact Or.inl rfl | exact Or.inr rfl | assumption) ?_
  have o19 := o18.sI (o := 1) (k := 6) (r := 0) (by omega)
  have f19_0 := cel_sI (k := 6) (r := 0) f18_0
  generalize tb_sI m18 (1) 6 (0) = m19 at o19 f19_0
  refine tb_aload_0 d_TB_init_79 rfl ?_
  refine tb_iconst (0) (by decide) d_TB_init_80 rfl ?_
  refine p_TB_53 d_TB_init_81 rfl rfl (by exact cel_k f19_0) ?_
  have o20 := o19.sI (o := 1) (k := 7) (r := 0) (by omega)
  have f20_0 := cel_sI (k := 7) (r := 0) f19_0
  generalize tb_sI m19 (1) 7 (0) = m20 at o20 f20_0
  refine tb_vreturn d_TB_init_84 rfl ?_
  refine ⟨rfl, o20.1, o20.2.1, o20.2.2.1, fun q p z => ?_⟩
  by_cases e : q = 1
  · rw [e, f20_0, va_z, va_z]
    rfl
  · exact o20.2.2.2 q (by omega) (by omega)
theorem lp_Mo_fill {d rc rs : Nat} {Q : tb_O → tb_M → Prop} {c3 : Nat → Int32} {c4 : Nat → Nat} (h4 : c4 1 = 191) (hQ : ∀ m l1, Opn M m 190 191 191 216 → cel m 190 = (9, 0, c3, c4) → cel m 191 = (100, 12, fl1 12, zR) → (∀ o, 192 ≤ o → o ≤ 216 → cel m o = gC o) → tb_Wp E m_Mo_init d rc rs 237 [some (.inr 190), l1] [] m Q) : ∀ (w j : Nat), 12 - j = w → j ≤ 12 → ∀ m, Opn M m 190 191 191 216 → cel m 190 = (9, 0, c3, c4) → cel m 191 = (100, 12, fl1 j, zR) → (∀ o, 192 ≤ o → o ≤ 216 → cel m o = gC o) → tb_Wp E m_Mo_init d rc rs 218 [some (.inr 190), some (.inl (nI j))] [] m Q := by
  intro w
  induction w with
  | zero =>
    intro j hw hj m o0 f0 f1 f2
    have e : j = 12 := by omega
    subst e
    refine tb_iload_1 d_Mo_init_218 rfl ?_
    refine tb_bipush (12) (by decide) d_Mo_init_219 rfl ?_
    refine tb_icmp_ge 237 d_Mo_init_221 (by decide) rfl (fun h221 => ?_) (fun h221 => ?_)
    · exact hQ m _ o0 f0 f1 f2
    · exact absurd (nI_leI (a := 12) (b := 12) (by omega) (by omega) |>.mpr (Nat.le_refl _)) h221
  | succ w ih =>
    intro j hw hj m o0 f0 f1 f2
    refine tb_iload_1 d_Mo_init_218 rfl ?_
    refine tb_bipush (12) (by decide) d_Mo_init_219 rfl ?_
    refine tb_icmp_ge 237 d_Mo_init_221 (by decide) rfl (fun h221 => ?_) (fun h221 => ?_)
    · exact absurd (nI_leI (a := 12) (b := j) (by omega) (by omega) |>.mp h221) (by omega)
    · refine tb_aload_0 d_Mo_init_224 rfl ?_
      refine g_Mo_7 d_Mo_init_225 rfl rfl (by exact cel_k f0) ?_
      refine tb_topR (y := 191) (by rw [cel_r f0]; exact h4) ?_
      refine tb_iload_1 d_Mo_init_228 rfl ?_
      refine tb_iconst (-1) (by decide) d_Mo_init_229 rfl ?_
      refine tb_iastore d_Mo_init_230 rfl (by exact cel_k f1) (by rw [cel_l f1]; show vp_in (nI j) 12; exact vp_in_nI (by omega) (by omega)) ?_
      rw [nI_clamp (show j < 2 ^ 31 by omega)]
      have f3 : ∀ o, 192 ≤ o → o ≤ 216 → cel (tb_sI m 191 j (-1)) o = gC o := fun o p q => (cel_sIn (by omega)).trans (f2 o p q)
      have o1 := o0.sI (o := 191) (k := j) (r := -1) (by omega)
      have f1_0 := (cel_sIn (m := m) (o := 191) (k := j) (r := -1) (show 190 ≠ 191 by omega)).trans f0
      have f1_1 := cel_sI (k := j) (r := -1) f1
      generalize tb_sI m (191) j (-1) = m1 at f3 o1 f1_0 f1_1
      rw [fl1_st] at f1_1
      refine tb_iinc_1 (1) d_Mo_init_231 rfl (by decide) (by decide) ?_
      refine tb_goto 218 d_Mo_init_234 (by decide) ?_
      rw [nI_1]
      exact ih (j + 1) (by omega) (by omega) _ o1 f1_0 f1_1 f3
theorem ok_Mo_init (hG : tb_G E) (hn : tb_n M = 190) (hu : tb_u M = true) (hc : cel M 190 = (9, 0, zI, zR)) (d : Nat) : tb_Ok E m_Mo_init (d + 1) 26 3096 [.inr (.inl 190)] M (fun o m => o = .inl none ∧ Opn M m 190 190 (216 + 1) 216) := by
  have o0 : Opn M M 190 191 191 190 := Opn.rf hn hu
  refine tb_okOf hG (by decide) rfl (Nat.le_of_ble_eq_true rfl) rfl ?_
  refine tb_aload_0 d_Mo_init_0 rfl ?_
  refine oi_Mo d_Mo_init_1 rfl rfl (by rw [cel_k hc]; show (9 : Nat) ≠ 0; decide) (by omega) (Nat.le_of_ble_eq_true rfl) ?_
  refine tb_aload_0 d_Mo_init_4 rfl ?_
  refine tb_bipush (12) (by decide) d_Mo_init_5 rfl ?_
  refine ny_int (N := 12) d_Mo_init_7 rfl (by decide) (by decide) (by omega) o0.2.1 (by omega) (by omega) ?_
  obtain ⟨o1, c1, s1⟩ := o0.new (kd := 100) (l := (12)) (191) (by omega) (by omega) (by omega)
  refine tb_topR (y := 191) (by have := o0.1; omega) ?_
  have f1_0 := (s1 (190) (by omega)).trans hc
  generalize tb_new M 100 (12) = m1 at o1 c1 s1 f1_0
  refine p_Mo_7 d_Mo_init_9 rfl rfl rfl (by exact cel_k f1_0) ?_
  have o2 := o1.sR (o := 190) (k := 1) (r := 191) (by omega)
  have f2_0 := cel_sR (k := 1) (r := 191) f1_0
  have f2_1 := (cel_sRn (m := m1) (o := 190) (k := 1) (r := 191) (show 191 ≠ 190 by omega)).trans c1
  generalize tb_sR m1 (190) 1 (191) = m2 at o2 f2_0 f2_1
  refine tb_aload_0 d_Mo_init_12 rfl ?_
  refine tb_bipush (72) (by decide) d_Mo_init_13 rfl ?_
  refine ny_int (N := 72) d_Mo_init_15 rfl (by decide) (by decide) (by omega) o2.2.1 (by omega) (by omega) ?_
  obtain ⟨o3, c3, s3⟩ := o2.new (kd := 100) (l := (72)) (192) (by omega) (by omega) (by omega)
  refine tb_topR (y := 192) (by have := o2.1; omega) ?_
  have f3_0 := (s3 (190) (by omega)).trans f2_0
  have f3_1 := (s3 (191) (by omega)).trans f2_1
  generalize tb_new m2 100 (72) = m3 at o3 c3 s3 f3_0 f3_1
  refine p_Mo_13 d_Mo_init_17 rfl rfl rfl (by exact cel_k f3_0) ?_
  have o4 := o3.sR (o := 190) (k := 2) (r := 192) (by omega)
  have f4_0 := cel_sR (k := 2) (r := 192) f3_0
  have f4_1 := (cel_sRn (m := m3) (o := 190) (k := 2) (r := 192) (show 191 ≠ 190 by omega)).trans f3_1
  have f4_2 := (cel_sRn (m := m3) (o := 190) (k := 2) (r := 192) (show 192 ≠ 190 by omega)).trans c3
  generalize tb_sR m3 (190) 2 (192) = m4 at o4 f4_0 f4_1 f4_2
  refine tb_aload_0 d_Mo_init_20 rfl ?_
  refine tb_bipush (12) (by decide) d_Mo_init_21 rfl ?_
  refine ny_int (N := 12) d_Mo_init_23 rfl (by decide) (by decide) (by omega) o4.2.1 (by omega) (by omega) ?_
  obtain ⟨o5, c5, s5⟩ := o4.new (kd := 100) (l := (12)) (193) (by omega) (by omega) (by omega)
  refine tb_topR (y := 193) (by have := o4.1; omega) ?_
  have f5_0 := (s5 (190) (by omega)).trans f4_0
  have f5_1 := (s5 (191) (by omega)).trans f4_1
  have f5_2 := (s5 (192) (by omega)).trans f4_2
  generalize tb_new m4 100 (12) = m5 at o5 c5 s5 f5_0 f5_1 f5_2
  refine p_Mo_16 d_Mo_init_25 rfl rfl rfl (by exact cel_k f5_0) ?_
  have o6 := o5.sR (o := 190) (k := 3) (r := 193) (by omega)
  have f6_0 := cel_sR (k := 3) (r := 193) f5_0
  have f6_1 := (cel_sRn (m := m5) (o := 190) (k := 3) (r := 193) (show 191 ≠ 190 by omega)).trans f5_1
  have f6_2 := (cel_sRn (m := m5) (o := 190) (k := 3) (r := 193) (show 192 ≠ 190 by omega)).trans f5_2
  have f6_3 := (cel_sRn (m := m5) (o := 190) (k := 3) (r := 193) (show 193 ≠ 190 by omega)).trans c5
  generalize tb_sR m5 (190) 3 (193) = m6 at o6 f6_0 f6_1 f6_2 f6_3
  refine tb_aload_0 d_Mo_init_28 rfl ?_
  refine tb_bipush (72) (by decide) d_Mo_init_29 rfl ?_
  refine ny_int (N := 72) d_Mo_init_31 rfl (by decide) (by decide) (by omega) o6.2.1 (by omega) (by omega) ?_
  obtain ⟨o7, c7, s7⟩ := o6.new (kd := 100) (l := (72)) (194) (by omega) (by omega) (by omega)
  refine tb_topR (y := 194) (by have := o6.1; omega) ?_
  have f7_0 := (s7 (190) (by omega)).trans f6_0
  have f7_1 := (s7 (191) (by omega)).trans f6_1
  have f7_2 := (s7 (192) (by omega)).trans f6_2
  have f7_3 := (s7 (193) (by omega)).trans f6_3
  generalize tb_new m6 100 (72) = m7 at o7 c7 s7 f7_0 f7_1 f7_2 f7_3
  refine p_Mo_19 d_Mo_init_33 rfl rfl rfl (by exact cel_k f7_0) ?_
  have o8 := o7.sR (o := 190) (k := 4) (r := 194) (by omega)
  have f8_0 := cel_sR (k := 4) (r := 194) f7_0
  have f8_1 := (cel_sRn (m := m7) (o := 190) (k := 4) (r := 194) (show 191 ≠ 190 by omega)).trans f7_1
  have f8_2 := (cel_sRn (m := m7) (o := 190) (k := 4) (r := 194) (show 192 ≠ 190 by omega)).trans f7_2
  have f8_3 := (cel_sRn (m := m7) (o := 190) (k := 4) (r := 194) (show 193 ≠ 190 by omega)).trans f7_3
  have f8_4 := (cel_sRn (m := m7) (o := 190) (k := 4) (r := 194) (show 194 ≠ 190 by omega)).trans c7
  generalize tb_sR m7 (190) 4 (194) = m8 at o8 f8_0 f8_1 f8_2 f8_3 f8_4
  refine tb_aload_0 d_Mo_init_36 rfl ?_
  refine tb_bipush (12) (by decide) d_Mo_init_37 rfl ?_
  refine ny_int (N := 12) d_Mo_init_39 rfl (by decide) (by decide) (by omega) o8.2.1 (by omega) (by omega) ?_
  obtain ⟨o9, c9, s9⟩ := o8.new (kd := 100) (l := (12)) (195) (by omega) (by omega) (by omega)
  refine tb_topR (y := 195) (by have := o8.1; omega) ?_
  have f9_0 := (s9 (190) (by omega)).trans f8_0
  have f9_1 := (s9 (191) (by omega)).trans f8_1
  have f9_2 := (s9 (192) (by omega)).trans f8_2
  have f9_3 := (s9 (193) (by omega)).trans f8_3
  have f9_4 := (s9 (194) (by omega)).trans f8_4
  generalize tb_new m8 100 (12) = m9 at o9 c9 s9 f9_0 f9_1 f9_2 f9_3 f9_4
  refine p_Mo_22 d_Mo_init_41 rfl rfl rfl (by exact cel_k f9_0) ?_
  have o10 := o9.sR (o := 190) (k := 6) (r := 195) (by omega)
  have f10_0 := cel_sR (k := 6) (r := 195) f9_0
  have f10_1 := (cel_sRn (m := m9) (o := 190) (k := 6) (r := 195) (show 191 ≠ 190 by omega)).trans f9_1
  have f10_2 := (cel_sRn (m := m9) (o := 190) (k := 6) (r := 195) (show 192 ≠ 190 by omega)).trans f9_2
  have f10_3 := (cel_sRn (m := m9) (o := 190) (k := 6) (r := 195) (show 193 ≠ 190 by omega)).trans f9_3
  have f10_4 := (cel_sRn (m := m9) (o := 190) (k := 6) (r := 195) (show 194 ≠ 190 by omega)).trans f9_4
  have f10_5 := (cel_sRn (m := m9) (o := 190) (k := 6) (r := 195) (show 195 ≠ 190 by omega)).trans c9
  generalize tb_sR m9 (190) 6 (195) = m10 at o10 f10_0 f10_1 f10_2 f10_3 f10_4 f10_5
  refine tb_aload_0 d_Mo_init_44 rfl ?_
  refine tb_bipush (10) (by decide) d_Mo_init_45 rfl ?_
  refine ny_int (N := 10) d_Mo_init_47 rfl (by decide) (by decide) (by omega) o10.2.1 (by omega) (by omega) ?_
  obtain ⟨o11, c11, s11⟩ := o10.new (kd := 100) (l := (10)) (196) (by omega) (by omega) (by omega)
  refine tb_topR (y := 196) (by have := o10.1; omega) ?_
  have f11_0 := (s11 (190) (by omega)).trans f10_0
  have f11_1 := (s11 (191) (by omega)).trans f10_1
  have f11_2 := (s11 (192) (by omega)).trans f10_2
  have f11_3 := (s11 (193) (by omega)).trans f10_3
  have f11_4 := (s11 (194) (by omega)).trans f10_4
  have f11_5 := (s11 (195) (by omega)).trans f10_5
  generalize tb_new m10 100 (10) = m11 at o11 c11 s11 f11_0 f11_1 f11_2 f11_3 f11_4 f11_5
  refine p_Mo_25 d_Mo_init_49 rfl rfl rfl (by exact cel_k f11_0) ?_
  have o12 := o11.sR (o := 190) (k := 8) (r := 196) (by omega)
  have f12_0 := cel_sR (k := 8) (r := 196) f11_0
  have f12_1 := (cel_sRn (m := m11) (o := 190) (k := 8) (r := 196) (show 191 ≠ 190 by omega)).trans f11_1
  have f12_2 := (cel_sRn (m := m11) (o := 190) (k := 8) (r := 196) (show 192 ≠ 190 by omega)).trans f11_2
  have f12_3 := (cel_sRn (m := m11) (o := 190) (k := 8) (r := 196) (show 193 ≠ 190 by omega)).trans f11_3
  have f12_4 := (cel_sRn (m := m11) (o := 190) (k := 8) (r := 196) (show 194 ≠ 190 by omega)).trans f11_4
  have f12_5 := (cel_sRn (m := m11) (o := 190) (k := 8) (r := 196) (show 195 ≠ 190 by omega)).trans f11_5
  have f12_6 := (cel_sRn (m := m11) (o := 190) (k := 8) (r := 196) (show 196 ≠ 190 by omega)).trans c11
  generalize tb_sR m11 (190) 8 (196) = m12 at o12 f12_0 f12_1 f12_2 f12_3 f12_4 f12_5 f12_6
  refine tb_aload_0 d_Mo_init_52 rfl ?_
  refine tb_bipush (120) (by decide) d_Mo_init_53 rfl ?_
  refine ny_int (N := 120) d_Mo_init_55 rfl (by decide) (by decide) (by omega) o12.2.1 (by omega) (by omega) ?_
  obtain ⟨o13, c13, s13⟩ := o12.new (kd := 100) (l := (120)) (197) (by omega) (by omega) (by omega)
  refine tb_topR (y := 197) (by have := o12.1; omega) ?_
  have f13_0 := (s13 (190) (by omega)).trans f12_0
  have f13_1 := (s13 (191) (by omega)).trans f12_1
  have f13_2 := (s13 (192) (by omega)).trans f12_2
  have f13_3 := (s13 (193) (by omega)).trans f12_3
  have f13_4 := (s13 (194) (by omega)).trans f12_4
  have f13_5 := (s13 (195) (by omega)).trans f12_5
  have f13_6 := (s13 (196) (by omega)).trans f12_6
  generalize tb_new m12 100 (120) = m13 at o13 c13 s13 f13_0 f13_1 f13_2 f13_3 f13_4 f13_5 f13_6
  refine p_Mo_28 d_Mo_init_57 rfl rfl rfl (by exact cel_k f13_0) ?_
  have o14 := o13.sR (o := 190) (k := 9) (r := 197) (by omega)
  have f14_0 := cel_sR (k := 9) (r := 197) f13_0
  have f14_1 := (cel_sRn (m := m13) (o := 190) (k := 9) (r := 197) (show 191 ≠ 190 by omega)).trans f13_1
  have f14_2 := (cel_sRn (m := m13) (o := 190) (k := 9) (r := 197) (show 192 ≠ 190 by omega)).trans f13_2
  have f14_3 := (cel_sRn (m := m13) (o := 190) (k := 9) (r := 197) (show 193 ≠ 190 by omega)).trans f13_3
  have f14_4 := (cel_sRn (m := m13) (o := 190) (k := 9) (r := 197) (show 194 ≠ 190 by omega)).trans f13_4
  have f14_5 := (cel_sRn (m := m13) (o := 190) (k := 9) (r := 197) (show 195 ≠ 190 by omega)).trans f13_5
  have f14_6 := (cel_sRn (m := m13) (o := 190) (k := 9) (r := 197) (show 196 ≠ 190 by omega)).trans f13_6
  have f14_7 := (cel_sRn (m := m13) (o := 190) (k := 9) (r := 197) (show 197 ≠ 190 by omega)).trans c13
  generalize tb_sR m13 (190) 9 (197) = m14 at o14 f14_0 f14_1 f14_2 f14_3 f14_4 f14_5 f14_6 f14_7
  refine tb_aload_0 d_Mo_init_60 rfl ?_
  refine tb_bipush (25) (by decide) d_Mo_init_61 rfl ?_
  refine ny_int (N := 25) d_Mo_init_63 rfl (by decide) (by decide) (by omega) o14.2.1 (by omega) (by omega) ?_
  obtain ⟨o15, c15, s15⟩ := o14.new (kd := 100) (l := (25)) (198) (by omega) (by omega) (by omega)
  refine tb_topR (y := 198) (by have := o14.1; omega) ?_
  have f15_0 := (s15 (190) (by omega)).trans f14_0
  have f15_1 := (s15 (191) (by omega)).trans f14_1
  have f15_2 := (s15 (192) (by omega)).trans f14_2
  have f15_3 := (s15 (193) (by omega)).trans f14_3
  have f15_4 := (s15 (194) (by omega)).trans f14_4
  have f15_5 := (s15 (195) (by omega)).trans f14_5
  have f15_6 := (s15 (196) (by omega)).trans f14_6
  have f15_7 := (s15 (197) (by omega)).trans f14_7
  generalize tb_new m14 100 (25) = m15 at o15 c15 s15 f15_0 f15_1 f15_2 f15_3 f15_4 f15_5 f15_6 f15_7
  refine p_Mo_31 d_Mo_init_65 rfl rfl rfl (by exact cel_k f15_0) ?_
  have o16 := o15.sR (o := 190) (k := 11) (r := 198) (by omega)
  have f16_0 := cel_sR (k := 11) (r := 198) f15_0
  have f16_1 := (cel_sRn (m := m15) (o := 190) (k := 11) (r := 198) (show 191 ≠ 190 by omega)).trans f15_1
  have f16_2 := (cel_sRn (m := m15) (o := 190) (k := 11) (r := 198) (show 192 ≠ 190 by omega)).trans f15_2
  have f16_3 := (cel_sRn (m := m15) (o := 190) (k := 11) (r := 198) (show 193 ≠ 190 by omega)).trans f15_3
  have f16_4 := (cel_sRn (m := m15) (o := 190) (k := 11) (r := 198) (show 194 ≠ 190 by omega)).trans f15_4
  have f16_5 := (cel_sRn (m := m15) (o := 190) (k := 11) (r := 198) (show 195 ≠ 190 by omega)).trans f15_5
  have f16_6 := (cel_sRn (m := m15) (o := 190) (k := 11) (r := 198) (show 196 ≠ 190 by omega)).trans f15_6
  have f16_7 := (cel_sRn (m := m15) (o := 190) (k := 11) (r := 198) (show 197 ≠ 190 by omega)).trans f15_7
  have f16_8 := (cel_sRn (m := m15) (o := 190) (k := 11) (r := 198) (show 198 ≠ 190 by omega)).trans c15
  generalize tb_sR m15 (190) 11 (198) = m16 at o16 f16_0 f16_1 f16_2 f16_3 f16_4 f16_5 f16_6 f16_7 f16_8
  refine tb_aload_0 d_Mo_init_68 rfl ?_
  refine tb_sipush (300) (by decide) d_Mo_init_69 rfl ?_
  refine ny_int (N := 300) d_Mo_init_72 rfl (by decide) (by decide) (by omega) o16.2.1 (by omega) (by omega) ?_
  obtain ⟨o17, c17, s17⟩ := o16.new (kd := 100) (l := (300)) (199) (by omega) (by omega) (by omega)
  refine tb_topR (y := 199) (by have := o16.1; omega) ?_
  have f17_0 := (s17 (190) (by omega)).trans f16_0
  have f17_1 := (s17 (191) (by omega)).trans f16_1
  have f17_2 := (s17 (192) (by omega)).trans f16_2
  have f17_3 := (s17 (193) (by omega)).trans f16_3
  have f17_4 := (s17 (194) (by omega)).trans f16_4
  have f17_5 := (s17 (195) (by omega)).trans f16_5
  have f17_6 := (s17 (196) (by omega)).trans f16_6
  have f17_7 := (s17 (197) (by omega)).trans f16_7
  have f17_8 := (s17 (198) (by omega)).trans f16_8
  generalize tb_new m16 100 (300) = m17 at o17 c17 s17 f17_0 f17_1 f17_2 f17_3 f17_4 f17_5 f17_6 f17_7 f17_8
  refine p_Mo_34 d_Mo_init_74 rfl rfl rfl (by exact cel_k f17_0) ?_
  have o18 := o17.sR (o := 190) (k := 12) (r := 199) (by omega)
  have f18_0 := cel_sR (k := 12) (r := 199) f17_0
  have f18_1 := (cel_sRn (m := m17) (o := 190) (k := 12) (r := 199) (show 191 ≠ 190 by omega)).trans f17_1
  have f18_2 := (cel_sRn (m := m17) (o := 190) (k := 12) (r := 199) (show 192 ≠ 190 by omega)).trans f17_2
  have f18_3 := (cel_sRn (m := m17) (o := 190) (k := 12) (r := 199) (show 193 ≠ 190 by omega)).trans f17_3
  have f18_4 := (cel_sRn (m := m17) (o := 190) (k := 12) (r := 199) (show 194 ≠ 190 by omega)).trans f17_4
  have f18_5 := (cel_sRn (m := m17) (o := 190) (k := 12) (r := 199) (show 195 ≠ 190 by omega)).trans f17_5
  have f18_6 := (cel_sRn (m := m17) (o := 190) (k := 12) (r := 199) (show 196 ≠ 190 by omega)).trans f17_6
  have f18_7 := (cel_sRn (m := m17) (o := 190) (k := 12) (r := 199) (show 197 ≠ 190 by omega)).trans f17_7
  have f18_8 := (cel_sRn (m := m17) (o := 190) (k := 12) (r := 199) (show 198 ≠ 190 by omega)).trans f17_8
  have f18_9 := (cel_sRn (m := m17) (o := 190) (k := 12) (r := 199) (show 199 ≠ 190 by omega)).trans c17
  generalize tb_sR m17 (190) 12 (199) = m18 at o18 f18_0 f18_1 f18_2 f18_3 f18_4 f18_5 f18_6 f18_7 f18_8 f18_9
  refine tb_aload_0 d_Mo_init_77 rfl ?_
  refine tb_bipush (25) (by decide) d_Mo_init_78 rfl ?_
  refine ny_int (N := 25) d_Mo_init_80 rfl (by decide) (by decide) (by omega) o18.2.1 (by omega) (by omega) ?_
  obtain ⟨o19, c19, s19⟩ := o18.new (kd := 100) (l := (25)) (200) (by omega) (by omega) (by omega)
  refine tb_topR (y := 200) (by have := o18.1; omega) ?_
  have f19_0 := (s19 (190) (by omega)).trans f18_0
  have f19_1 := (s19 (191) (by omega)).trans f18_1
  have f19_2 := (s19 (192) (by omega)).trans f18_2
  have f19_3 := (s19 (193) (by omega)).trans f18_3
  have f19_4 := (s19 (194) (by omega)).trans f18_4
  have f19_5 := (s19 (195) (by omega)).trans f18_5
  have f19_6 := (s19 (196) (by omega)).trans f18_6
  have f19_7 := (s19 (197) (by omega)).trans f18_7
  have f19_8 := (s19 (198) (by omega)).trans f18_8
  have f19_9 := (s19 (199) (by omega)).trans f18_9
  generalize tb_new m18 100 (25) = m19 at o19 c19 s19 f19_0 f19_1 f19_2 f19_3 f19_4 f19_5 f19_6 f19_7 f19_8 f19_9
  refine p_Mo_37 d_Mo_init_82 rfl rfl rfl (by exact cel_k f19_0) ?_
  have o20 := o19.sR (o := 190) (k := 13) (r := 200) (by omega)
  have f20_0 := cel_sR (k := 13) (r := 200) f19_0
  have f20_1 := (cel_sRn (m := m19) (o := 190) (k := 13) (r := 200) (show 191 ≠ 190 by omega)).trans f19_1
  have f20_2 := (cel_sRn (m := m19) (o := 190) (k := 13) (r := 200) (show 192 ≠ 190 by omega)).trans f19_2
  have f20_3 := (cel_sRn (m := m19) (o := 190) (k := 13) (r := 200) (show 193 ≠ 190 by omega)).trans f19_3
  have f20_4 := (cel_sRn (m := m19) (o := 190) (k := 13) (r := 200) (show 194 ≠ 190 by omega)).trans f19_4
  have f20_5 := (cel_sRn (m := m19) (o := 190) (k := 13) (r := 200) (show 195 ≠ 190 by omega)).trans f19_5
  have f20_6 := (cel_sRn (m := m19) (o := 190) (k := 13) (r := 200) (show 196 ≠ 190 by omega)).trans f19_6
  have f20_7 := (cel_sRn (m := m19) (o := 190) (k := 13) (r := 200) (show 197 ≠ 190 by omega)).trans f19_7
  have f20_8 := (cel_sRn (m := m19) (o := 190) (k := 13) (r := 200) (show 198 ≠ 190 by omega)).trans f19_8
  have f20_9 := (cel_sRn (m := m19) (o := 190) (k := 13) (r := 200) (show 199 ≠ 190 by omega)).trans f19_9
  have f20_10 := (cel_sRn (m := m19) (o := 190) (k := 13) (r := 200) (show 200 ≠ 190 by omega)).trans c19
  generalize tb_sR m19 (190) 13 (200) = m20 at o20 f20_0 f20_1 f20_2 f20_3 f20_4 f20_5 f20_6 f20_7 f20_8 f20_9 f20_10
  refine tb_aload_0 d_Mo_init_85 rfl ?_
  refine tb_bipush (25) (by decide) d_Mo_init_86 rfl ?_
  refine ny_int (N := 25) d_Mo_init_88 rfl (by decide) (by decide) (by omega) o20.2.1 (by omega) (by omega) ?_
  obtain ⟨o21, c21, s21⟩ := o20.new (kd := 100) (l := (25)) (201) (by omega) (by omega) (by omega)
  refine tb_topR (y := 201) (by have := o20.1; omega) ?_
  have f21_0 := (s21 (190) (by omega)).trans f20_0
  have f21_1 := (s21 (191) (by omega)).trans f20_1
  have f21_2 := (s21 (192) (by omega)).trans f20_2
  have f21_3 := (s21 (193) (by omega)).trans f20_3
  have f21_4 := (s21 (194) (by omega)).trans f20_4
  have f21_5 := (s21 (195) (by omega)).trans f20_5
  have f21_6 := (s21 (196) (by omega)).trans f20_6
  have f21_7 := (s21 (197) (by omega)).trans f20_7
  have f21_8 := (s21 (198) (by omega)).trans f20_8
  have f21_9 := (s21 (199) (by omega)).trans f20_9
  have f21_10 := (s21 (200) (by omega)).trans f20_10
  generalize tb_new m20 100 (25) = m21 at o21 c21 s21 f21_0 f21_1 f21_2 f21_3 f21_4 f21_5 f21_6 f21_7 f21_8 f21_9 f21_10
  refine p_Mo_40 d_Mo_init_90 rfl rfl rfl (by exact cel_k f21_0) ?_
  have o22 := o21.sR (o := 190) (k := 14) (r := 201) (by omega)
  have f22_0 := cel_sR (k := 14) (r := 201) f21_0
  have f22_1 := (cel_sRn (m := m21) (o := 190) (k := 14) (r := 201) (show 191 ≠ 190 by omega)).trans f21_1
  have f22_2 := (cel_sRn (m := m21) (o := 190) (k := 14) (r := 201) (show 192 ≠ 190 by omega)).trans f21_2
  have f22_3 := (cel_sRn (m := m21) (o := 190) (k := 14) (r := 201) (show 193 ≠ 190 by omega)).trans f21_3
  have f22_4 := (cel_sRn (m := m21) (o := 190) (k := 14) (r := 201) (show 194 ≠ 190 by omega)).trans f21_4
  have f22_5 := (cel_sRn (m := m21) (o := 190) (k := 14) (r := 201) (show 195 ≠ 190 by omega)).trans f21_5
  have f22_6 := (cel_sRn (m := m21) (o := 190) (k := 14) (r := 201) (show 196 ≠ 190 by omega)).trans f21_6
  have f22_7 := (cel_sRn (m := m21) (o := 190) (k := 14) (r := 201) (show 197 ≠ 190 by omega)).trans f21_7
  have f22_8 := (cel_sRn (m := m21) (o := 190) (k := 14) (r := 201) (show 198 ≠ 190 by omega)).trans f21_8
  have f22_9 := (cel_sRn (m := m21) (o := 190) (k := 14) (r := 201) (show 199 ≠ 190 by omega)).trans f21_9
  have f22_10 := (cel_sRn (m := m21) (o := 190) (k := 14) (r := 201) (show 200 ≠ 190 by omega)).trans f21_10
  have f22_11 := (cel_sRn (m := m21) (o := 190) (k := 14) (r := 201) (show 201 ≠ 190 by omega)).trans c21
  generalize tb_sR m21 (190) 14 (201) = m22 at o22 f22_0 f22_1 f22_2 f22_3 f22_4 f22_5 f22_6 f22_7 f22_8 f22_9 f22_10 f22_11
  refine tb_aload_0 d_Mo_init_93 rfl ?_
  refine tb_bipush (25) (by decide) d_Mo_init_94 rfl ?_
  refine ny_int (N := 25) d_Mo_init_96 rfl (by decide) (by decide) (by omega) o22.2.1 (by omega) (by omega) ?_
  obtain ⟨o23, c23, s23⟩ := o22.new (kd := 100) (l := (25)) (202) (by omega) (by omega) (by omega)
  refine tb_topR (y := 202) (by have := o22.1; omega) ?_
  have f23_0 := (s23 (190) (by omega)).trans f22_0
  have f23_1 := (s23 (191) (by omega)).trans f22_1
  have f23_2 := (s23 (192) (by omega)).trans f22_2
  have f23_3 := (s23 (193) (by omega)).trans f22_3
  have f23_4 := (s23 (194) (by omega)).trans f22_4
  have f23_5 := (s23 (195) (by omega)).trans f22_5
  have f23_6 := (s23 (196) (by omega)).trans f22_6
  have f23_7 := (s23 (197) (by omega)).trans f22_7
  have f23_8 := (s23 (198) (by omega)).trans f22_8
  have f23_9 := (s23 (199) (by omega)).trans f22_9
  have f23_10 := (s23 (200) (by omega)).trans f22_10
  have f23_11 := (s23 (201) (by omega)).trans f22_11
  generalize tb_new m22 100 (25) = m23 at o23 c23 s23 f23_0 f23_1 f23_2 f23_3 f23_4 f23_5 f23_6 f23_7 f23_8 f23_9 f23_10 f23_11
  refine p_Mo_43 d_Mo_init_98 rfl rfl rfl (by exact cel_k f23_0) ?_
  have o24 := o23.sR (o := 190) (k := 15) (r := 202) (by omega)
  have f24_0 := cel_sR (k := 15) (r := 202) f23_0
  have f24_1 := (cel_sRn (m := m23) (o := 190) (k := 15) (r := 202) (show 191 ≠ 190 by omega)).trans f23_1
  have f24_2 := (cel_sRn (m := m23) (o := 190) (k := 15) (r := 202) (show 192 ≠ 190 by omega)).trans f23_2
  have f24_3 := (cel_sRn (m := m23) (o := 190) (k := 15) (r := 202) (show 193 ≠ 190 by omega)).trans f23_3
  have f24_4 := (cel_sRn (m := m23) (o := 190) (k := 15) (r := 202) (show 194 ≠ 190 by omega)).trans f23_4
  have f24_5 := (cel_sRn (m := m23) (o := 190) (k := 15) (r := 202) (show 195 ≠ 190 by omega)).trans f23_5
  have f24_6 := (cel_sRn (m := m23) (o := 190) (k := 15) (r := 202) (show 196 ≠ 190 by omega)).trans f23_6
  have f24_7 := (cel_sRn (m := m23) (o := 190) (k := 15) (r := 202) (show 197 ≠ 190 by omega)).trans f23_7
  have f24_8 := (cel_sRn (m := m23) (o := 190) (k := 15) (r := 202) (show 198 ≠ 190 by omega)).trans f23_8
  have f24_9 := (cel_sRn (m := m23) (o := 190) (k := 15) (r := 202) (show 199 ≠ 190 by omega)).trans f23_9
  have f24_10 := (cel_sRn (m := m23) (o := 190) (k := 15) (r := 202) (show 200 ≠ 190 by omega)).trans f23_10
  have f24_11 := (cel_sRn (m := m23) (o := 190) (k := 15) (r := 202) (show 201 ≠ 190 by omega)).trans f23_11
  have f24_12 := (cel_sRn (m := m23) (o := 190) (k := 15) (r := 202) (show 202 ≠ 190 by omega)).trans c23
  generalize tb_sR m23 (190) 15 (202) = m24 at o24 f24_0 f24_1 f24_2 f24_3 f24_4 f24_5 f24_6 f24_7 f24_8 f24_9 f24_10 f24_11 f24_12
  refine tb_aload_0 d_Mo_init_101 rfl ?_
  refine tb_sipush (300) (by decide) d_Mo_init_102 rfl ?_
  refine ny_int (N := 300) d_Mo_init_105 rfl (by decide) (by decide) (by omega) o24.2.1 (by omega) (by omega) ?_
  obtain ⟨o25, c25, s25⟩ := o24.new (kd := 100) (l := (300)) (203) (by omega) (by omega) (by omega)
  refine tb_topR (y := 203) (by have := o24.1; omega) ?_
  have f25_0 := (s25 (190) (by omega)).trans f24_0
  have f25_1 := (s25 (191) (by omega)).trans f24_1
  have f25_2 := (s25 (192) (by omega)).trans f24_2
  have f25_3 := (s25 (193) (by omega)).trans f24_3
  have f25_4 := (s25 (194) (by omega)).trans f24_4
  have f25_5 := (s25 (195) (by omega)).trans f24_5
  have f25_6 := (s25 (196) (by omega)).trans f24_6
  have f25_7 := (s25 (197) (by omega)).trans f24_7
  have f25_8 := (s25 (198) (by omega)).trans f24_8
  have f25_9 := (s25 (199) (by omega)).trans f24_9
  have f25_10 := (s25 (200) (by omega)).trans f24_10
  have f25_11 := (s25 (201) (by omega)).trans f24_11
  have f25_12 := (s25 (202) (by omega)).trans f24_12
  generalize tb_new m24 100 (300) = m25 at o25 c25 s25 f25_0 f25_1 f25_2 f25_3 f25_4 f25_5 f25_6 f25_7 f25_8 f25_9 f25_10 f25_11 f25_12
  refine p_Mo_46 d_Mo_init_107 rfl rfl rfl (by exact cel_k f25_0) ?_
  have o26 := o25.sR (o := 190) (k := 16) (r := 203) (by omega)
  have f26_0 := cel_sR (k := 16) (r := 203) f25_0
  have f26_1 := (cel_sRn (m := m25) (o := 190) (k := 16) (r := 203) (show 191 ≠ 190 by omega)).trans f25_1
  have f26_2 := (cel_sRn (m := m25) (o := 190) (k := 16) (r := 203) (show 192 ≠ 190 by omega)).trans f25_2
  have f26_3 := (cel_sRn (m := m25) (o := 190) (k := 16) (r := 203) (show 193 ≠ 190 by omega)).trans f25_3
  have f26_4 := (cel_sRn (m := m25) (o := 190) (k := 16) (r := 203) (show 194 ≠ 190 by omega)).trans f25_4
  have f26_5 := (cel_sRn (m := m25) (o := 190) (k := 16) (r := 203) (show 195 ≠ 190 by omega)).trans f25_5
  have f26_6 := (cel_sRn (m := m25) (o := 190) (k := 16) (r := 203) (show 196 ≠ 190 by omega)).trans f25_6
  have f26_7 := (cel_sRn (m := m25) (o := 190) (k := 16) (r := 203) (show 197 ≠ 190 by omega)).trans f25_7
  have f26_8 := (cel_sRn (m := m25) (o := 190) (k := 16) (r := 203) (show 198 ≠ 190 by omega)).trans f25_8
  have f26_9 := (cel_sRn (m := m25) (o := 190) (k := 16) (r := 203) (show 199 ≠ 190 by omega)).trans f25_9
  have f26_10 := (cel_sRn (m := m25) (o := 190) (k := 16) (r := 203) (show 200 ≠ 190 by omega)).trans f25_10
  have f26_11 := (cel_sRn (m := m25) (o := 190) (k := 16) (r := 203) (show 201 ≠ 190 by omega)).trans f25_11
  have f26_12 := (cel_sRn (m := m25) (o := 190) (k := 16) (r := 203) (show 202 ≠ 190 by omega)).trans f25_12
  have f26_13 := (cel_sRn (m := m25) (o := 190) (k := 16) (r := 203) (show 203 ≠ 190 by omega)).trans c25
  generalize tb_sR m25 (190) 16 (203) = m26 at o26 f26_0 f26_1 f26_2 f26_3 f26_4 f26_5 f26_6 f26_7 f26_8 f26_9 f26_10 f26_11 f26_12 f26_13
  refine tb_aload_0 d_Mo_init_110 rfl ?_
  refine tb_sipush (1800) (by decide) d_Mo_init_111 rfl ?_
  refine ny_int (N := 1800) d_Mo_init_114 rfl (by decide) (by decide) (by omega) o26.2.1 (by omega) (by omega) ?_
  obtain ⟨o27, c27, s27⟩ := o26.new (kd := 100) (l := (1800)) (204) (by omega) (by omega) (by omega)
  refine tb_topR (y := 204) (by have := o26.1; omega) ?_
  have f27_0 := (s27 (190) (by omega)).trans f26_0
  have f27_1 := (s27 (191) (by omega)).trans f26_1
  have f27_2 := (s27 (192) (by omega)).trans f26_2
  have f27_3 := (s27 (193) (by omega)).trans f26_3
  have f27_4 := (s27 (194) (by omega)).trans f26_4
  have f27_5 := (s27 (195) (by omega)).trans f26_5
  have f27_6 := (s27 (196) (by omega)).trans f26_6
  have f27_7 := (s27 (197) (by omega)).trans f26_7
  have f27_8 := (s27 (198) (by omega)).trans f26_8
  have f27_9 := (s27 (199) (by omega)).trans f26_9
  have f27_10 := (s27 (200) (by omega)).trans f26_10
  have f27_11 := (s27 (201) (by omega)).trans f26_11
  have f27_12 := (s27 (202) (by omega)).trans f26_12
  have f27_13 := (s27 (203) (by omega)).trans f26_13
  generalize tb_new m26 100 (1800) = m27 at o27 c27 s27 f27_0 f27_1 f27_2 f27_3 f27_4 f27_5 f27_6 f27_7 f27_8 f27_9 f27_10 f27_11 f27_12 f27_13
  refine p_Mo_49 d_Mo_init_116 rfl rfl rfl (by exact cel_k f27_0) ?_
  have o28 := o27.sR (o := 190) (k := 17) (r := 204) (by omega)
  have f28_0 := cel_sR (k := 17) (r := 204) f27_0
  have f28_1 := (cel_sRn (m := m27) (o := 190) (k := 17) (r := 204) (show 191 ≠ 190 by omega)).trans f27_1
  have f28_2 := (cel_sRn (m := m27) (o := 190) (k := 17) (r := 204) (show 192 ≠ 190 by omega)).trans f27_2
  have f28_3 := (cel_sRn (m := m27) (o := 190) (k := 17) (r := 204) (show 193 ≠ 190 by omega)).trans f27_3
  have f28_4 := (cel_sRn (m := m27) (o := 190) (k := 17) (r := 204) (show 194 ≠ 190 by omega)).trans f27_4
  have f28_5 := (cel_sRn (m := m27) (o := 190) (k := 17) (r := 204) (show 195 ≠ 190 by omega)).trans f27_5
  have f28_6 := (cel_sRn (m := m27) (o := 190) (k := 17) (r := 204) (show 196 ≠ 190 by omega)).trans f27_6
  have f28_7 := (cel_sRn (m := m27) (o := 190) (k := 17) (r := 204) (show 197 ≠ 190 by omega)).trans f27_7
  have f28_8 := (cel_sRn (m := m27) (o := 190) (k := 17) (r := 204) (show 198 ≠ 190 by omega)).trans f27_8
  have f28_9 := (cel_sRn (m := m27) (o := 190) (k := 17) (r := 204) (show 199 ≠ 190 by omega)).trans f27_9
  have f28_10 := (cel_sRn (m := m27) (o := 190) (k := 17) (r := 204) (show 200 ≠ 190 by omega)).trans f27_10
  have f28_11 := (cel_sRn (m := m27) (o := 190) (k := 17) (r := 204) (show 201 ≠ 190 by omega)).trans f27_11
  have f28_12 := (cel_sRn (m := m27) (o := 190) (k := 17) (r := 204) (show 202 ≠ 190 by omega)).trans f27_12
  have f28_13 := (cel_sRn (m := m27) (o := 190) (k := 17) (r := 204) (show 203 ≠ 190 by omega)).trans f27_13
  have f28_14 := (cel_sRn (m := m27) (o := 190) (k := 17) (r := 204) (show 204 ≠ 190 by omega)).trans c27
  generalize tb_sR m27 (190) 17 (204) = m28 at o28 f28_0 f28_1 f28_2 f28_3 f28_4 f28_5 f28_6 f28_7 f28_8 f28_9 f28_10 f28_11 f28_12 f28_13 f28_14
  refine tb_aload_0 d_Mo_init_119 rfl ?_
  refine tb_bipush (25) (by decide) d_Mo_init_120 rfl ?_
  refine ny_int (N := 25) d_Mo_init_122 rfl (by decide) (by decide) (by omega) o28.2.1 (by omega) (by omega) ?_
  obtain ⟨o29, c29, s29⟩ := o28.new (kd := 100) (l := (25)) (205) (by omega) (by omega) (by omega)
  refine tb_topR (y := 205) (by have := o28.1; omega) ?_
  have f29_0 := (s29 (190) (by omega)).trans f28_0
  have f29_1 := (s29 (191) (by omega)).trans f28_1
  have f29_2 := (s29 (192) (by omega)).trans f28_2
  have f29_3 := (s29 (193) (by omega)).trans f28_3
  have f29_4 := (s29 (194) (by omega)).trans f28_4
  have f29_5 := (s29 (195) (by omega)).trans f28_5
  have f29_6 := (s29 (196) (by omega)).trans f28_6
  have f29_7 := (s29 (197) (by omega)).trans f28_7
  have f29_8 := (s29 (198) (by omega)).trans f28_8
  have f29_9 := (s29 (199) (by omega)).trans f28_9
  have f29_10 := (s29 (200) (by omega)).trans f28_10
  have f29_11 := (s29 (201) (by omega)).trans f28_11
  have f29_12 := (s29 (202) (by omega)).trans f28_12
  have f29_13 := (s29 (203) (by omega)).trans f28_13
  have f29_14 := (s29 (204) (by omega)).trans f28_14
  generalize tb_new m28 100 (25) = m29 at o29 c29 s29 f29_0 f29_1 f29_2 f29_3 f29_4 f29_5 f29_6 f29_7 f29_8 f29_9 f29_10 f29_11 f29_12 f29_13 f29_14
  refine p_Mo_52 d_Mo_init_124 rfl rfl rfl (by exact cel_k f29_0) ?_
  have o30 := o29.sR (o := 190) (k := 18) (r := 205) (by omega)
  have f30_0 := cel_sR (k := 18) (r := 205) f29_0
  have f30_1 := (cel_sRn (m := m29) (o := 190) (k := 18) (r := 205) (show 191 ≠ 190 by omega)).trans f29_1
  have f30_2 := (cel_sRn (m := m29) (o := 190) (k := 18) (r := 205) (show 192 ≠ 190 by omega)).trans f29_2
  have f30_3 := (cel_sRn (m := m29) (o := 190) (k := 18) (r := 205) (show 193 ≠ 190 by omega)).trans f29_3
  have f30_4 := (cel_sRn (m := m29) (o := 190) (k := 18) (r := 205) (show 194 ≠ 190 by omega)).trans f29_4
  have f30_5 := (cel_sRn (m := m29) (o := 190) (k := 18) (r := 205) (show 195 ≠ 190 by omega)).trans f29_5
  have f30_6 := (cel_sRn (m := m29) (o := 190) (k := 18) (r := 205) (show 196 ≠ 190 by omega)).trans f29_6
  have f30_7 := (cel_sRn (m := m29) (o := 190) (k := 18) (r := 205) (show 197 ≠ 190 by omega)).trans f29_7
  have f30_8 := (cel_sRn (m := m29) (o := 190) (k := 18) (r := 205) (show 198 ≠ 190 by omega)).trans f29_8
  have f30_9 := (cel_sRn (m := m29) (o := 190) (k := 18) (r := 205) (show 199 ≠ 190 by omega)).trans f29_9
  have f30_10 := (cel_sRn (m := m29) (o := 190) (k := 18) (r := 205) (show 200 ≠ 190 by omega)).trans f29_10
  have f30_11 := (cel_sRn (m := m29) (o := 190) (k := 18) (r := 205) (show 201 ≠ 190 by omega)).trans f29_11
  have f30_12 := (cel_sRn (m := m29) (o := 190) (k := 18) (r := 205) (show 202 ≠ 190 by omega)).trans f29_12
  have f30_13 := (cel_sRn (m := m29) (o := 190) (k := 18) (r := 205) (show 203 ≠ 190 by omega)).trans f29_13
  have f30_14 := (cel_sRn (m := m29) (o := 190) (k := 18) (r := 205) (show 204 ≠ 190 by omega)).trans f29_14
  have f30_15 := (cel_sRn (m := m29) (o := 190) (k := 18) (r := 205) (show 205 ≠ 190 by omega)).trans c29
  generalize tb_sR m29 (190) 18 (205) = m30 at o30 f30_0 f30_1 f30_2 f30_3 f30_4 f30_5 f30_6 f30_7 f30_8 f30_9 f30_10 f30_11 f30_12 f30_13 f30_14 f30_15
  refine tb_aload_0 d_Mo_init_127 rfl ?_
  refine tb_bipush (25) (by decide) d_Mo_init_128 rfl ?_
  refine ny_int (N := 25) d_Mo_init_130 rfl (by decide) (by decide) (by omega) o30.2.1 (by omega) (by omega) ?_
  obtain ⟨o31, c31, s31⟩ := o30.new (kd := 100) (l := (25)) (206) (by omega) (by omega) (by omega)
  refine tb_topR (y := 206) (by have := o30.1; omega) ?_
  have f31_0 := (s31 (190) (by omega)).trans f30_0
  have f31_1 := (s31 (191) (by omega)).trans f30_1
  have f31_2 := (s31 (192) (by omega)).trans f30_2
  have f31_3 := (s31 (193) (by omega)).trans f30_3
  have f31_4 := (s31 (194) (by omega)).trans f30_4
  have f31_5 := (s31 (195) (by omega)).trans f30_5
  have f31_6 := (s31 (196) (by omega)).trans f30_6
  have f31_7 := (s31 (197) (by omega)).trans f30_7
  have f31_8 := (s31 (198) (by omega)).trans f30_8
  have f31_9 := (s31 (199) (by omega)).trans f30_9
  have f31_10 := (s31 (200) (by omega)).trans f30_10
  have f31_11 := (s31 (201) (by omega)).trans f30_11
  have f31_12 := (s31 (202) (by omega)).trans f30_12
  have f31_13 := (s31 (203) (by omega)).trans f30_13
  have f31_14 := (s31 (204) (by omega)).trans f30_14
  have f31_15 := (s31 (205) (by omega)).trans f30_15
  generalize tb_new m30 100 (25) = m31 at o31 c31 s31 f31_0 f31_1 f31_2 f31_3 f31_4 f31_5 f31_6 f31_7 f31_8 f31_9 f31_10 f31_11 f31_12 f31_13 f31_14 f31_15
  refine p_Mo_55 d_Mo_init_132 rfl rfl rfl (by exact cel_k f31_0) ?_
  have o32 := o31.sR (o := 190) (k := 19) (r := 206) (by omega)
  have f32_0 := cel_sR (k := 19) (r := 206) f31_0
  have f32_1 := (cel_sRn (m := m31) (o := 190) (k := 19) (r := 206) (show 191 ≠ 190 by omega)).trans f31_1
  have f32_2 := (cel_sRn (m := m31) (o := 190) (k := 19) (r := 206) (show 192 ≠ 190 by omega)).trans f31_2
  have f32_3 := (cel_sRn (m := m31) (o := 190) (k := 19) (r := 206) (show 193 ≠ 190 by omega)).trans f31_3
  have f32_4 := (cel_sRn (m := m31) (o := 190) (k := 19) (r := 206) (show 194 ≠ 190 by omega)).trans f31_4
  have f32_5 := (cel_sRn (m := m31) (o := 190) (k := 19) (r := 206) (show 195 ≠ 190 by omega)).trans f31_5
  have f32_6 := (cel_sRn (m := m31) (o := 190) (k := 19) (r := 206) (show 196 ≠ 190 by omega)).trans f31_6
  have f32_7 := (cel_sRn (m := m31) (o := 190) (k := 19) (r := 206) (show 197 ≠ 190 by omega)).trans f31_7
  have f32_8 := (cel_sRn (m := m31) (o := 190) (k := 19) (r := 206) (show 198 ≠ 190 by omega)).trans f31_8
  have f32_9 := (cel_sRn (m := m31) (o := 190) (k := 19) (r := 206) (show 199 ≠ 190 by omega)).trans f31_9
  have f32_10 := (cel_sRn (m := m31) (o := 190) (k := 19) (r := 206) (show 200 ≠ 190 by omega)).trans f31_10
  have f32_11 := (cel_sRn (m := m31) (o := 190) (k := 19) (r := 206) (show 201 ≠ 190 by omega)).trans f31_11
  have f32_12 := (cel_sRn (m := m31) (o := 190) (k := 19) (r := 206) (show 202 ≠ 190 by omega)).trans f31_12
  have f32_13 := (cel_sRn (m := m31) (o := 190) (k := 19) (r := 206) (show 203 ≠ 190 by omega)).trans f31_13
  have f32_14 := (cel_sRn (m := m31) (o := 190) (k := 19) (r := 206) (show 204 ≠ 190 by omega)).trans f31_14
  have f32_15 := (cel_sRn (m := m31) (o := 190) (k := 19) (r := 206) (show 205 ≠ 190 by omega)).trans f31_15
  have f32_16 := (cel_sRn (m := m31) (o := 190) (k := 19) (r := 206) (show 206 ≠ 190 by omega)).trans c31
  generalize tb_sR m31 (190) 19 (206) = m32 at o32 f32_0 f32_1 f32_2 f32_3 f32_4 f32_5 f32_6 f32_7 f32_8 f32_9 f32_10 f32_11 f32_12 f32_13 f32_14 f32_15 f32_16
  refine tb_aload_0 d_Mo_init_135 rfl ?_
  refine tb_sipush (150) (by decide) d_Mo_init_136 rfl ?_
  refine ny_int (N := 150) d_Mo_init_139 rfl (by decide) (by decide) (by omega) o32.2.1 (by omega) (by omega) ?_
  obtain ⟨o33, c33, s33⟩ := o32.new (kd := 100) (l := (150)) (207) (by omega) (by omega) (by omega)
  refine tb_topR (y := 207) (by have := o32.1; omega) ?_
  have f33_0 := (s33 (190) (by omega)).trans f32_0
  have f33_1 := (s33 (191) (by omega)).trans f32_1
  have f33_2 := (s33 (192) (by omega)).trans f32_2
  have f33_3 := (s33 (193) (by omega)).trans f32_3
  have f33_4 := (s33 (194) (by omega)).trans f32_4
  have f33_5 := (s33 (195) (by omega)).trans f32_5
  have f33_6 := (s33 (196) (by omega)).trans f32_6
  have f33_7 := (s33 (197) (by omega)).trans f32_7
  have f33_8 := (s33 (198) (by omega)).trans f32_8
  have f33_9 := (s33 (199) (by omega)).trans f32_9
  have f33_10 := (s33 (200) (by omega)).trans f32_10
  have f33_11 := (s33 (201) (by omega)).trans f32_11
  have f33_12 := (s33 (202) (by omega)).trans f32_12
  have f33_13 := (s33 (203) (by omega)).trans f32_13
  have f33_14 := (s33 (204) (by omega)).trans f32_14
  have f33_15 := (s33 (205) (by omega)).trans f32_15
  have f33_16 := (s33 (206) (by omega)).trans f32_16
  generalize tb_new m32 100 (150) = m33 at o33 c33 s33 f33_0 f33_1 f33_2 f33_3 f33_4 f33_5 f33_6 f33_7 f33_8 f33_9 f33_10 f33_11 f33_12 f33_13 f33_14 f33_15 f33_16
  refine p_Mo_58 d_Mo_init_141 rfl rfl rfl (by exact cel_k f33_0) ?_
  have o34 := o33.sR (o := 190) (k := 20) (r := 207) (by omega)
  have f34_0 := cel_sR (k := 20) (r := 207) f33_0
  have f34_1 := (cel_sRn (m := m33) (o := 190) (k := 20) (r := 207) (show 191 ≠ 190 by omega)).trans f33_1
  have f34_2 := (cel_sRn (m := m33) (o := 190) (k := 20) (r := 207) (show 192 ≠ 190 by omega)).trans f33_2
  have f34_3 := (cel_sRn (m := m33) (o := 190) (k := 20) (r := 207) (show 193 ≠ 190 by omega)).trans f33_3
  have f34_4 := (cel_sRn (m := m33) (o := 190) (k := 20) (r := 207) (show 194 ≠ 190 by omega)).trans f33_4
  have f34_5 := (cel_sRn (m := m33) (o := 190) (k := 20) (r := 207) (show 195 ≠ 190 by omega)).trans f33_5
  have f34_6 := (cel_sRn (m := m33) (o := 190) (k := 20) (r := 207) (show 196 ≠ 190 by omega)).trans f33_6
  have f34_7 := (cel_sRn (m := m33) (o := 190) (k := 20) (r := 207) (show 197 ≠ 190 by omega)).trans f33_7
  have f34_8 := (cel_sRn (m := m33) (o := 190) (k := 20) (r := 207) (show 198 ≠ 190 by omega)).trans f33_8
  have f34_9 := (cel_sRn (m := m33) (o := 190) (k := 20) (r := 207) (show 199 ≠ 190 by omega)).trans f33_9
  have f34_10 := (cel_sRn (m := m33) (o := 190) (k := 20) (r := 207) (show 200 ≠ 190 by omega)).trans f33_10
  have f34_11 := (cel_sRn (m := m33) (o := 190) (k := 20) (r := 207) (show 201 ≠ 190 by omega)).trans f33_11
  have f34_12 := (cel_sRn (m := m33) (o := 190) (k := 20) (r := 207) (show 202 ≠ 190 by omega)).trans f33_12
  have f34_13 := (cel_sRn (m := m33) (o := 190) (k := 20) (r := 207) (show 203 ≠ 190 by omega)).trans f33_13
  have f34_14 := (cel_sRn (m := m33) (o := 190) (k := 20) (r := 207) (show 204 ≠ 190 by omega)).trans f33_14
  have f34_15 := (cel_sRn (m := m33) (o := 190) (k := 20) (r := 207) (show 205 ≠ 190 by omega)).trans f33_15
  have f34_16 := (cel_sRn (m := m33) (o := 190) (k := 20) (r := 207) (show 206 ≠ 190 by omega)).trans f33_16
  have f34_17 := (cel_sRn (m := m33) (o := 190) (k := 20) (r := 207) (show 207 ≠ 190 by omega)).trans c33
  generalize tb_sR m33 (190) 20 (207) = m34 at o34 f34_0 f34_1 f34_2 f34_3 f34_4 f34_5 f34_6 f34_7 f34_8 f34_9 f34_10 f34_11 f34_12 f34_13 f34_14 f34_15 f34_16 f34_17
  refine tb_aload_0 d_Mo_init_144 rfl ?_
  refine tb_bipush (6) (by decide) d_Mo_init_145 rfl ?_
  refine ny_int (N := 6) d_Mo_init_147 rfl (by decide) (by decide) (by omega) o34.2.1 (by omega) (by omega) ?_
  obtain ⟨o35, c35, s35⟩ := o34.new (kd := 100) (l := (6)) (208) (by omega) (by omega) (by omega)
  refine tb_topR (y := 208) (by have := o34.1; omega) ?_
  have f35_0 := (s35 (190) (by omega)).trans f34_0
  have f35_1 := (s35 (191) (by omega)).trans f34_1
  have f35_2 := (s35 (192) (by omega)).trans f34_2
  have f35_3 := (s35 (193) (by omega)).trans f34_3
  have f35_4 := (s35 (194) (by omega)).trans f34_4
  have f35_5 := (s35 (195) (by omega)).trans f34_5
  have f35_6 := (s35 (196) (by omega)).trans f34_6
  have f35_7 := (s35 (197) (by omega)).trans f34_7
  have f35_8 := (s35 (198) (by omega)).trans f34_8
  have f35_9 := (s35 (199) (by omega)).trans f34_9
  have f35_10 := (s35 (200) (by omega)).trans f34_10
  have f35_11 := (s35 (201) (by omega)).trans f34_11
  have f35_12 := (s35 (202) (by omega)).trans f34_12
  have f35_13 := (s35 (203) (by omega)).trans f34_13
  have f35_14 := (s35 (204) (by omega)).trans f34_14
  have f35_15 := (s35 (205) (by omega)).trans f34_15
  have f35_16 := (s35 (206) (by omega)).trans f34_16
  have f35_17 := (s35 (207) (by omega)).trans f34_17
  generalize tb_new m34 100 (6) = m35 at o35 c35 s35 f35_0 f35_1 f35_2 f35_3 f35_4 f35_5 f35_6 f35_7 f35_8 f35_9 f35_10 f35_11 f35_12 f35_13 f35_14 f35_15 f35_16 f35_17
  refine p_Mo_61 d_Mo_init_149 rfl rfl rfl (by exact cel_k f35_0) ?_
  have o36 := o35.sR (o := 190) (k := 25) (r := 208) (by omega)
  have f36_0 := cel_sR (k := 25) (r := 208) f35_0
  have f36_1 := (cel_sRn (m := m35) (o := 190) (k := 25) (r := 208) (show 191 ≠ 190 by omega)).trans f35_1
  have f36_2 := (cel_sRn (m := m35) (o := 190) (k := 25) (r := 208) (show 192 ≠ 190 by omega)).trans f35_2
  have f36_3 := (cel_sRn (m := m35) (o := 190) (k := 25) (r := 208) (show 193 ≠ 190 by omega)).trans f35_3
  have f36_4 := (cel_sRn (m := m35) (o := 190) (k := 25) (r := 208) (show 194 ≠ 190 by omega)).trans f35_4
  have f36_5 := (cel_sRn (m := m35) (o := 190) (k := 25) (r := 208) (show 195 ≠ 190 by omega)).trans f35_5
  have f36_6 := (cel_sRn (m := m35) (o := 190) (k := 25) (r := 208) (show 196 ≠ 190 by omega)).trans f35_6
  have f36_7 := (cel_sRn (m := m35) (o := 190) (k := 25) (r := 208) (show 197 ≠ 190 by omega)).trans f35_7
  have f36_8 := (cel_sRn (m := m35) (o := 190) (k := 25) (r := 208) (show 198 ≠ 190 by omega)).trans f35_8
  have f36_9 := (cel_sRn (m := m35) (o := 190) (k := 25) (r := 208) (show 199 ≠ 190 by omega)).trans f35_9
  have f36_10 := (cel_sRn (m := m35) (o := 190) (k := 25) (r := 208) (show 200 ≠ 190 by omega)).trans f35_10
  have f36_11 := (cel_sRn (m := m35) (o := 190) (k := 25) (r := 208) (show 201 ≠ 190 by omega)).trans f35_11
  have f36_12 := (cel_sRn (m := m35) (o := 190) (k := 25) (r := 208) (show 202 ≠ 190 by omega)).trans f35_12
  have f36_13 := (cel_sRn (m := m35) (o := 190) (k := 25) (r := 208) (show 203 ≠ 190 by omega)).trans f35_13
  have f36_14 := (cel_sRn (m := m35) (o := 190) (k := 25) (r := 208) (show 204 ≠ 190 by omega)).trans f35_14
  have f36_15 := (cel_sRn (m := m35) (o := 190) (k := 25) (r := 208) (show 205 ≠ 190 by omega)).trans f35_15
  have f36_16 := (cel_sRn (m := m35) (o := 190) (k := 25) (r := 208) (show 206 ≠ 190 by omega)).trans f35_16
  have f36_17 := (cel_sRn (m := m35) (o := 190) (k := 25) (r := 208) (show 207 ≠ 190 by omega)).trans f35_17
  have f36_18 := (cel_sRn (m := m35) (o := 190) (k := 25) (r := 208) (show 208 ≠ 190 by omega)).trans c35
  generalize tb_sR m35 (190) 25 (208) = m36 at o36 f36_0 f36_1 f36_2 f36_3 f36_4 f36_5 f36_6 f36_7 f36_8 f36_9 f36_10 f36_11 f36_12 f36_13 f36_14 f36_15 f36_16 f36_17 f36_18
  refine tb_aload_0 d_Mo_init_152 rfl ?_
  refine tb_bipush (10) (by decide) d_Mo_init_153 rfl ?_
  refine ny_boolean (N := 10) d_Mo_init_155 rfl (by decide) (by decide) (by omega) o36.2.1 (by omega) (by omega) ?_
  obtain ⟨o37, c37, s37⟩ := o36.new (kd := 103) (l := (10)) (209) (by omega) (by omega) (by omega)
  refine tb_topR (y := 209) (by have := o36.1; omega) ?_
  have f37_0 := (s37 (190) (by omega)).trans f36_0
  have f37_1 := (s37 (191) (by omega)).trans f36_1
  have f37_2 := (s37 (192) (by omega)).trans f36_2
  have f37_3 := (s37 (193) (by omega)).trans f36_3
  have f37_4 := (s37 (194) (by omega)).trans f36_4
  have f37_5 := (s37 (195) (by omega)).trans f36_5
  have f37_6 := (s37 (196) (by omega)).trans f36_6
  have f37_7 := (s37 (197) (by omega)).trans f36_7
  have f37_8 := (s37 (198) (by omega)).trans f36_8
  have f37_9 := (s37 (199) (by omega)).trans f36_9
  have f37_10 := (s37 (200) (by omega)).trans f36_10
  have f37_11 := (s37 (201) (by omega)).trans f36_11
  have f37_12 := (s37 (202) (by omega)).trans f36_12
  have f37_13 := (s37 (203) (by omega)).trans f36_13
  have f37_14 := (s37 (204) (by omega)).trans f36_14
  have f37_15 := (s37 (205) (by omega)).trans f36_15
  have f37_16 := (s37 (206) (by omega)).trans f36_16
  have f37_17 := (s37 (207) (by omega)).trans f36_17
  have f37_18 := (s37 (208) (by omega)).trans f36_18
  generalize tb_new m36 103 (10) = m37 at o37 c37 s37 f37_0 f37_1 f37_2 f37_3 f37_4 f37_5 f37_6 f37_7 f37_8 f37_9 f37_10 f37_11 f37_12 f37_13 f37_14 f37_15 f37_16 f37_17 f37_18
  refine p_Mo_64 d_Mo_init_157 rfl rfl rfl (by exact cel_k f37_0) ?_
  have o38 := o37.sR (o := 190) (k := 27) (r := 209) (by omega)
  have f38_0 := cel_sR (k := 27) (r := 209) f37_0
  have f38_1 := (cel_sRn (m := m37) (o := 190) (k := 27) (r := 209) (show 191 ≠ 190 by omega)).trans f37_1
  have f38_2 := (cel_sRn (m := m37) (o := 190) (k := 27) (r := 209) (show 192 ≠ 190 by omega)).trans f37_2
  have f38_3 := (cel_sRn (m := m37) (o := 190) (k := 27) (r := 209) (show 193 ≠ 190 by omega)).trans f37_3
  have f38_4 := (cel_sRn (m := m37) (o := 190) (k := 27) (r := 209) (show 194 ≠ 190 by omega)).trans f37_4
  have f38_5 := (cel_sRn (m := m37) (o := 190) (k := 27) (r := 209) (show 195 ≠ 190 by omega)).trans f37_5
  have f38_6 := (cel_sRn (m := m37) (o := 190) (k := 27) (r := 209) (show 196 ≠ 190 by omega)).trans f37_6
  have f38_7 := (cel_sRn (m := m37) (o := 190) (k := 27) (r := 209) (show 197 ≠ 190 by omega)).trans f37_7
  have f38_8 := (cel_sRn (m := m37) (o := 190) (k := 27) (r := 209) (show 198 ≠ 190 by omega)).trans f37_8
  have f38_9 := (cel_sRn (m := m37) (o := 190) (k := 27) (r := 209) (show 199 ≠ 190 by omega)).trans f37_9
  have f38_10 := (cel_sRn (m := m37) (o := 190) (k := 27) (r := 209) (show 200 ≠ 190 by omega)).trans f37_10
  have f38_11 := (cel_sRn (m := m37) (o := 190) (k := 27) (r := 209) (show 201 ≠ 190 by omega)).trans f37_11
  have f38_12 := (cel_sRn (m := m37) (o := 190) (k := 27) (r := 209) (show 202 ≠ 190 by omega)).trans f37_12
  have f38_13 := (cel_sRn (m := m37) (o := 190) (k := 27) (r := 209) (show 203 ≠ 190 by omega)).trans f37_13
  have f38_14 := (cel_sRn (m := m37) (o := 190) (k := 27) (r := 209) (show 204 ≠ 190 by omega)).trans f37_14
  have f38_15 := (cel_sRn (m := m37) (o := 190) (k := 27) (r := 209) (show 205 ≠ 190 by omega)).trans f37_15
  have f38_16 := (cel_sRn (m := m37) (o := 190) (k := 27) (r := 209) (show 206 ≠ 190 by omega)).trans f37_16
  have f38_17 := (cel_sRn (m := m37) (o := 190) (k := 27) (r := 209) (show 207 ≠ 190 by omega)).trans f37_17
  have f38_18 := (cel_sRn (m := m37) (o := 190) (k := 27) (r := 209) (show 208 ≠ 190 by omega)).trans f37_18
  have f38_19 := (cel_sRn (m := m37) (o := 190) (k := 27) (r := 209) (show 209 ≠ 190 by omega)).trans c37
  generalize tb_sR m37 (190) 27 (209) = m38 at o38 f38_0 f38_1 f38_2 f38_3 f38_4 f38_5 f38_6 f38_7 f38_8 f38_9 f38_10 f38_11 f38_12 f38_13 f38_14 f38_15 f38_16 f38_17 f38_18 f38_19
  refine tb_aload_0 d_Mo_init_160 rfl ?_
  refine tb_bipush (10) (by decide) d_Mo_init_161 rfl ?_
  refine ny_boolean (N := 10) d_Mo_init_163 rfl (by decide) (by decide) (by omega) o38.2.1 (by omega) (by omega) ?_
  obtain ⟨o39, c39, s39⟩ := o38.new (kd := 103) (l := (10)) (210) (by omega) (by omega) (by omega)
  refine tb_topR (y := 210) (by have := o38.1; omega) ?_
  have f39_0 := (s39 (190) (by omega)).trans f38_0
  have f39_1 := (s39 (191) (by omega)).trans f38_1
  have f39_2 := (s39 (192) (by omega)).trans f38_2
  have f39_3 := (s39 (193) (by omega)).trans f38_3
  have f39_4 := (s39 (194) (by omega)).trans f38_4
  have f39_5 := (s39 (195) (by omega)).trans f38_5
  have f39_6 := (s39 (196) (by omega)).trans f38_6
  have f39_7 := (s39 (197) (by omega)).trans f38_7
  have f39_8 := (s39 (198) (by omega)).trans f38_8
  have f39_9 := (s39 (199) (by omega)).trans f38_9
  have f39_10 := (s39 (200) (by omega)).trans f38_10
  have f39_11 := (s39 (201) (by omega)).trans f38_11
  have f39_12 := (s39 (202) (by omega)).trans f38_12
  have f39_13 := (s39 (203) (by omega)).trans f38_13
  have f39_14 := (s39 (204) (by omega)).trans f38_14
  have f39_15 := (s39 (205) (by omega)).trans f38_15
  have f39_16 := (s39 (206) (by omega)).trans f38_16
  have f39_17 := (s39 (207) (by omega)).trans f38_17
  have f39_18 := (s39 (208) (by omega)).trans f38_18
  have f39_19 := (s39 (209) (by omega)).trans f38_19
  generalize tb_new m38 103 (10) = m39 at o39 c39 s39 f39_0 f39_1 f39_2 f39_3 f39_4 f39_5 f39_6 f39_7 f39_8 f39_9 f39_10 f39_11 f39_12 f39_13 f39_14 f39_15 f39_16 f39_17 f39_18 f39_19
  refine p_Mo_68 d_Mo_init_165 rfl rfl rfl (by exact cel_k f39_0) ?_
  have o40 := o39.sR (o := 190) (k := 28) (r := 210) (by omega)
  have f40_0 := cel_sR (k := 28) (r := 210) f39_0
  have f40_1 := (cel_sRn (m := m39) (o := 190) (k := 28) (r := 210) (show 191 ≠ 190 by omega)).trans f39_1
  have f40_2 := (cel_sRn (m := m39) (o := 190) (k := 28) (r := 210) (show 192 ≠ 190 by omega)).trans f39_2
  have f40_3 := (cel_sRn (m := m39) (o := 190) (k := 28) (r := 210) (show 193 ≠ 190 by omega)).trans f39_3
  have f40_4 := (cel_sRn (m := m39) (o := 190) (k := 28) (r := 210) (show 194 ≠ 190 by omega)).trans f39_4
  have f40_5 := (cel_sRn (m := m39) (o := 190) (k := 28) (r := 210) (show 195 ≠ 190 by omega)).trans f39_5
  have f40_6 := (cel_sRn (m := m39) (o := 190) (k := 28) (r := 210) (show 196 ≠ 190 by omega)).trans f39_6
  have f40_7 := (cel_sRn (m := m39) (o := 190) (k := 28) (r := 210) (show 197 ≠ 190 by omega)).trans f39_7
  have f40_8 := (cel_sRn (m := m39) (o := 190) (k := 28) (r := 210) (show 198 ≠ 190 by omega)).trans f39_8
  have f40_9 := (cel_sRn (m := m39) (o := 190) (k := 28) (r := 210) (show 199 ≠ 190 by omega)).trans f39_9
  have f40_10 := (cel_sRn (m := m39) (o := 190) (k := 28) (r := 210) (show 200 ≠ 190 by omega)).trans f39_10
  have f40_11 := (cel_sRn (m := m39) (o := 190) (k := 28) (r := 210) (show 201 ≠ 190 by omega)).trans f39_11
  have f40_12 := (cel_sRn (m := m39) (o := 190) (k := 28) (r := 210) (show 202 ≠ 190 by omega)).trans f39_12
  have f40_13 := (cel_sRn (m := m39) (o := 190) (k := 28) (r := 210) (show 203 ≠ 190 by omega)).trans f39_13
  have f40_14 := (cel_sRn (m := m39) (o := 190) (k := 28) (r := 210) (show 204 ≠ 190 by omega)).trans f39_14
  have f40_15 := (cel_sRn (m := m39) (o := 190) (k := 28) (r := 210) (show 205 ≠ 190 by omega)).trans f39_15
  have f40_16 := (cel_sRn (m := m39) (o := 190) (k := 28) (r := 210) (show 206 ≠ 190 by omega)).trans f39_16
  have f40_17 := (cel_sRn (m := m39) (o := 190) (k := 28) (r := 210) (show 207 ≠ 190 by omega)).trans f39_17
  have f40_18 := (cel_sRn (m := m39) (o := 190) (k := 28) (r := 210) (show 208 ≠ 190 by omega)).trans f39_18
  have f40_19 := (cel_sRn (m := m39) (o := 190) (k := 28) (r := 210) (show 209 ≠ 190 by omega)).trans f39_19
  have f40_20 := (cel_sRn (m := m39) (o := 190) (k := 28) (r := 210) (show 210 ≠ 190 by omega)).trans c39
  generalize tb_sR m39 (190) 28 (210) = m40 at o40 f40_0 f40_1 f40_2 f40_3 f40_4 f40_5 f40_6 f40_7 f40_8 f40_9 f40_10 f40_11 f40_12 f40_13 f40_14 f40_15 f40_16 f40_17 f40_18 f40_19 f40_20
  refine tb_aload_0 d_Mo_init_168 rfl ?_
  refine tb_bipush (10) (by decide) d_Mo_init_169 rfl ?_
  refine ny_int (N := 10) d_Mo_init_171 rfl (by decide) (by decide) (by omega) o40.2.1 (by omega) (by omega) ?_
  obtain ⟨o41, c41, s41⟩ := o40.new (kd := 100) (l := (10)) (211) (by omega) (by omega) (by omega)
  refine tb_topR (y := 211) (by have := o40.1; omega) ?_
  have f41_0 := (s41 (190) (by omega)).trans f40_0
  have f41_1 := (s41 (191) (by omega)).trans f40_1
  have f41_2 := (s41 (192) (by omega)).trans f40_2
  have f41_3 := (s41 (193) (by omega)).trans f40_3
  have f41_4 := (s41 (194) (by omega)).trans f40_4
  have f41_5 := (s41 (195) (by omega)).trans f40_5
  have f41_6 := (s41 (196) (by omega)).trans f40_6
  have f41_7 := (s41 (197) (by omega)).trans f40_7
  have f41_8 := (s41 (198) (by omega)).trans f40_8
  have f41_9 := (s41 (199) (by omega)).trans f40_9
  have f41_10 := (s41 (200) (by omega)).trans f40_10
  have f41_11 := (s41 (201) (by omega)).trans f40_11
  have f41_12 := (s41 (202) (by omega)).trans f40_12
  have f41_13 := (s41 (203) (by omega)).trans f40_13
  have f41_14 := (s41 (204) (by omega)).trans f40_14
  have f41_15 := (s41 (205) (by omega)).trans f40_15
  have f41_16 := (s41 (206) (by omega)).trans f40_16
  have f41_17 := (s41 (207) (by omega)).trans f40_17
  have f41_18 := (s41 (208) (by omega)).trans f40_18
  have f41_19 := (s41 (209) (by omega)).trans f40_19
  have f41_20 := (s41 (210) (by omega)).trans f40_20
  generalize tb_new m40 100 (10) = m41 at o41 c41 s41 f41_0 f41_1 f41_2 f41_3 f41_4 f41_5 f41_6 f41_7 f41_8 f41_9 f41_10 f41_11 f41_12 f41_13 f41_14 f41_15 f41_16 f41_17 f41_18 f41_19 f41_20
  refine p_Mo_71 d_Mo_init_173 rfl rfl rfl (by exact cel_k f41_0) ?_
  have o42 := o41.sR (o := 190) (k := 29) (r := 211) (by omega)
  have f42_0 := cel_sR (k := 29) (r := 211) f41_0
  have f42_1 := (cel_sRn (m := m41) (o := 190) (k := 29) (r := 211) (show 191 ≠ 190 by omega)).trans f41_1
  have f42_2 := (cel_sRn (m := m41) (o := 190) (k := 29) (r := 211) (show 192 ≠ 190 by omega)).trans f41_2
  have f42_3 := (cel_sRn (m := m41) (o := 190) (k := 29) (r := 211) (show 193 ≠ 190 by omega)).trans f41_3
  have f42_4 := (cel_sRn (m := m41) (o := 190) (k := 29) (r := 211) (show 194 ≠ 190 by omega)).trans f41_4
  have f42_5 := (cel_sRn (m := m41) (o := 190) (k := 29) (r := 211) (show 195 ≠ 190 by omega)).trans f41_5
  have f42_6 := (cel_sRn (m := m41) (o := 190) (k := 29) (r := 211) (show 196 ≠ 190 by omega)).trans f41_6
  have f42_7 := (cel_sRn (m := m41) (o := 190) (k := 29) (r := 211) (show 197 ≠ 190 by omega)).trans f41_7
  have f42_8 := (cel_sRn (m := m41) (o := 190) (k := 29) (r := 211) (show 198 ≠ 190 by omega)).trans f41_8
  have f42_9 := (cel_sRn (m := m41) (o := 190) (k := 29) (r := 211) (show 199 ≠ 190 by omega)).trans f41_9
  have f42_10 := (cel_sRn (m := m41) (o := 190) (k := 29) (r := 211) (show 200 ≠ 190 by omega)).trans f41_10
  have f42_11 := (cel_sRn (m := m41) (o := 190) (k := 29) (r := 211) (show 201 ≠ 190 by omega)).trans f41_11
  have f42_12 := (cel_sRn (m := m41) (o := 190) (k := 29) (r := 211) (show 202 ≠ 190 by omega)).trans f41_12
  have f42_13 := (cel_sRn (m := m41) (o := 190) (k := 29) (r := 211) (show 203 ≠ 190 by omega)).trans f41_13
  have f42_14 := (cel_sRn (m := m41) (o := 190) (k := 29) (r := 211) (show 204 ≠ 190 by omega)).trans f41_14
  have f42_15 := (cel_sRn (m := m41) (o := 190) (k := 29) (r := 211) (show 205 ≠ 190 by omega)).trans f41_15
  have f42_16 := (cel_sRn (m := m41) (o := 190) (k := 29) (r := 211) (show 206 ≠ 190 by omega)).trans f41_16
  have f42_17 := (cel_sRn (m := m41) (o := 190) (k := 29) (r := 211) (show 207 ≠ 190 by omega)).trans f41_17
  have f42_18 := (cel_sRn (m := m41) (o := 190) (k := 29) (r := 211) (show 208 ≠ 190 by omega)).trans f41_18
  have f42_19 := (cel_sRn (m := m41) (o := 190) (k := 29) (r := 211) (show 209 ≠ 190 by omega)).trans f41_19
  have f42_20 := (cel_sRn (m := m41) (o := 190) (k := 29) (r := 211) (show 210 ≠ 190 by omega)).trans f41_20
  have f42_21 := (cel_sRn (m := m41) (o := 190) (k := 29) (r := 211) (show 211 ≠ 190 by omega)).trans c41
  generalize tb_sR m41 (190) 29 (211) = m42 at o42 f42_0 f42_1 f42_2 f42_3 f42_4 f42_5 f42_6 f42_7 f42_8 f42_9 f42_10 f42_11 f42_12 f42_13 f42_14 f42_15 f42_16 f42_17 f42_18 f42_19 f42_20 f42_21
  refine tb_aload_0 d_Mo_init_176 rfl ?_
  refine tb_bipush (10) (by decide) d_Mo_init_177 rfl ?_
  refine ny_int (N := 10) d_Mo_init_179 rfl (by decide) (by decide) (by omega) o42.2.1 (by omega) (by omega) ?_
  obtain ⟨o43, c43, s43⟩ := o42.new (kd := 100) (l := (10)) (212) (by omega) (by omega) (by omega)
  refine tb_topR (y := 212) (by have := o42.1; omega) ?_
  have f43_0 := (s43 (190) (by omega)).trans f42_0
  have f43_1 := (s43 (191) (by omega)).trans f42_1
  have f43_2 := (s43 (192) (by omega)).trans f42_2
  have f43_3 := (s43 (193) (by omega)).trans f42_3
  have f43_4 := (s43 (194) (by omega)).trans f42_4
  have f43_5 := (s43 (195) (by omega)).trans f42_5
  have f43_6 := (s43 (196) (by omega)).trans f42_6
  have f43_7 := (s43 (197) (by omega)).trans f42_7
  have f43_8 := (s43 (198) (by omega)).trans f42_8
  have f43_9 := (s43 (199) (by omega)).trans f42_9
  have f43_10 := (s43 (200) (by omega)).trans f42_10
  have f43_11 := (s43 (201) (by omega)).trans f42_11
  have f43_12 := (s43 (202) (by omega)).trans f42_12
  have f43_13 := (s43 (203) (by omega)).trans f42_13
  have f43_14 := (s43 (204) (by omega)).trans f42_14
  have f43_15 := (s43 (205) (by omega)).trans f42_15
  have f43_16 := (s43 (206) (by omega)).trans f42_16
  have f43_17 := (s43 (207) (by omega)).trans f42_17
  have f43_18 := (s43 (208) (by omega)).trans f42_18
  have f43_19 := (s43 (209) (by omega)).trans f42_19
  have f43_20 := (s43 (210) (by omega)).trans f42_20
  have f43_21 := (s43 (211) (by omega)).trans f42_21
  generalize tb_new m42 100 (10) = m43 at o43 c43 s43 f43_0 f43_1 f43_2 f43_3 f43_4 f43_5 f43_6 f43_7 f43_8 f43_9 f43_10 f43_11 f43_12 f43_13 f43_14 f43_15 f43_16 f43_17 f43_18 f43_19 f43_20 f43_21
  refine p_Mo_74 d_Mo_init_181 rfl rfl rfl (by exact cel_k f43_0) ?_
  have o44 := o43.sR (o := 190) (k := 30) (r := 212) (by omega)
  have f44_0 := cel_sR (k := 30) (r := 212) f43_0
  have f44_1 := (cel_sRn (m := m43) (o := 190) (k := 30) (r := 212) (show 191 ≠ 190 by omega)).trans f43_1
  have f44_2 := (cel_sRn (m := m43) (o := 190) (k := 30) (r := 212) (show 192 ≠ 190 by omega)).trans f43_2
  have f44_3 := (cel_sRn (m := m43) (o := 190) (k := 30) (r := 212) (show 193 ≠ 190 by omega)).trans f43_3
  have f44_4 := (cel_sRn (m := m43) (o := 190) (k := 30) (r := 212) (show 194 ≠ 190 by omega)).trans f43_4
  have f44_5 := (cel_sRn (m := m43) (o := 190) (k := 30) (r := 212) (show 195 ≠ 190 by omega)).trans f43_5
  have f44_6 := (cel_sRn (m := m43) (o := 190) (k := 30) (r := 212) (show 196 ≠ 190 by omega)).trans f43_6
  have f44_7 := (cel_sRn (m := m43) (o := 190) (k := 30) (r := 212) (show 197 ≠ 190 by omega)).trans f43_7
  have f44_8 := (cel_sRn (m := m43) (o := 190) (k := 30) (r := 212) (show 198 ≠ 190 by omega)).trans f43_8
  have f44_9 := (cel_sRn (m := m43) (o := 190) (k := 30) (r := 212) (show 199 ≠ 190 by omega)).trans f43_9
  have f44_10 := (cel_sRn (m := m43) (o := 190) (k := 30) (r := 212) (show 200 ≠ 190 by omega)).trans f43_10
  have f44_11 := (cel_sRn (m := m43) (o := 190) (k := 30) (r := 212) (show 201 ≠ 190 by omega)).trans f43_11
  have f44_12 := (cel_sRn (m := m43) (o := 190) (k := 30) (r := 212) (show 202 ≠ 190 by omega)).trans f43_12
  have f44_13 := (cel_sRn (m := m43) (o := 190) (k := 30) (r := 212) (show 203 ≠ 190 by omega)).trans f43_13
  have f44_14 := (cel_sRn (m := m43) (o := 190) (k := 30) (r := 212) (show 204 ≠ 190 by omega)).trans f43_14
  have f44_15 := (cel_sRn (m := m43) (o := 190) (k := 30) (r := 212) (show 205 ≠ 190 by omega)).trans f43_15
  have f44_16 := (cel_sRn (m := m43) (o := 190) (k := 30) (r := 212) (show 206 ≠ 190 by omega)).trans f43_16
  have f44_17 := (cel_sRn (m := m43) (o := 190) (k := 30) (r := 212) (show 207 ≠ 190 by omega)).trans f43_17
  have f44_18 := (cel_sRn (m := m43) (o := 190) (k := 30) (r := 212) (show 208 ≠ 190 by omega)).trans f43_18
  have f44_19 := (cel_sRn (m := m43) (o := 190) (k := 30) (r := 212) (show 209 ≠ 190 by omega)).trans f43_19
  have f44_20 := (cel_sRn (m := m43) (o := 190) (k := 30) (r := 212) (show 210 ≠ 190 by omega)).trans f43_20
  have f44_21 := (cel_sRn (m := m43) (o := 190) (k := 30) (r := 212) (show 211 ≠ 190 by omega)).trans f43_21
  have f44_22 := (cel_sRn (m := m43) (o := 190) (k := 30) (r := 212) (show 212 ≠ 190 by omega)).trans c43
  generalize tb_sR m43 (190) 30 (212) = m44 at o44 f44_0 f44_1 f44_2 f44_3 f44_4 f44_5 f44_6 f44_7 f44_8 f44_9 f44_10 f44_11 f44_12 f44_13 f44_14 f44_15 f44_16 f44_17 f44_18 f44_19 f44_20 f44_21 f44_22
  refine tb_aload_0 d_Mo_init_184 rfl ?_
  refine tb_bipush (10) (by decide) d_Mo_init_185 rfl ?_
  refine ny_int (N := 10) d_Mo_init_187 rfl (by decide) (by decide) (by omega) o44.2.1 (by omega) (by omega) ?_
  obtain ⟨o45, c45, s45⟩ := o44.new (kd := 100) (l := (10)) (213) (by omega) (by omega) (by omega)
  refine tb_topR (y := 213) (by have := o44.1; omega) ?_
  have f45_0 := (s45 (190) (by omega)).trans f44_0
  have f45_1 := (s45 (191) (by omega)).trans f44_1
  have f45_2 := (s45 (192) (by omega)).trans f44_2
  have f45_3 := (s45 (193) (by omega)).trans f44_3
  have f45_4 := (s45 (194) (by omega)).trans f44_4
  have f45_5 := (s45 (195) (by omega)).trans f44_5
  have f45_6 := (s45 (196) (by omega)).trans f44_6
  have f45_7 := (s45 (197) (by omega)).trans f44_7
  have f45_8 := (s45 (198) (by omega)).trans f44_8
  have f45_9 := (s45 (199) (by omega)).trans f44_9
  have f45_10 := (s45 (200) (by omega)).trans f44_10
  have f45_11 := (s45 (201) (by omega)).trans f44_11
  have f45_12 := (s45 (202) (by omega)).trans f44_12
  have f45_13 := (s45 (203) (by omega)).trans f44_13
  have f45_14 := (s45 (204) (by omega)).trans f44_14
  have f45_15 := (s45 (205) (by omega)).trans f44_15
  have f45_16 := (s45 (206) (by omega)).trans f44_16
  have f45_17 := (s45 (207) (by omega)).trans f44_17
  have f45_18 := (s45 (208) (by omega)).trans f44_18
  have f45_19 := (s45 (209) (by omega)).trans f44_19
  have f45_20 := (s45 (210) (by omega)).trans f44_20
  have f45_21 := (s45 (211) (by omega)).trans f44_21
  have f45_22 := (s45 (212) (by omega)).trans f44_22
  generalize tb_new m44 100 (10) = m45 at o45 c45 s45 f45_0 f45_1 f45_2 f45_3 f45_4 f45_5 f45_6 f45_7 f45_8 f45_9 f45_10 f45_11 f45_12 f45_13 f45_14 f45_15 f45_16 f45_17 f45_18 f45_19 f45_20 f45_21 f45_22
  refine p_Mo_77 d_Mo_init_189 rfl rfl rfl (by exact cel_k f45_0) ?_
  have o46 := o45.sR (o := 190) (k := 31) (r := 213) (by omega)
  have f46_0 := cel_sR (k := 31) (r := 213) f45_0
  have f46_1 := (cel_sRn (m := m45) (o := 190) (k := 31) (r := 213) (show 191 ≠ 190 by omega)).trans f45_1
  have f46_2 := (cel_sRn (m := m45) (o := 190) (k := 31) (r := 213) (show 192 ≠ 190 by omega)).trans f45_2
  have f46_3 := (cel_sRn (m := m45) (o := 190) (k := 31) (r := 213) (show 193 ≠ 190 by omega)).trans f45_3
  have f46_4 := (cel_sRn (m := m45) (o := 190) (k := 31) (r := 213) (show 194 ≠ 190 by omega)).trans f45_4
  have f46_5 := (cel_sRn (m := m45) (o := 190) (k := 31) (r := 213) (show 195 ≠ 190 by omega)).trans f45_5
  have f46_6 := (cel_sRn (m := m45) (o := 190) (k := 31) (r := 213) (show 196 ≠ 190 by omega)).trans f45_6
  have f46_7 := (cel_sRn (m := m45) (o := 190) (k := 31) (r := 213) (show 197 ≠ 190 by omega)).trans f45_7
  have f46_8 := (cel_sRn (m := m45) (o := 190) (k := 31) (r := 213) (show 198 ≠ 190 by omega)).trans f45_8
  have f46_9 := (cel_sRn (m := m45) (o := 190) (k := 31) (r := 213) (show 199 ≠ 190 by omega)).trans f45_9
  have f46_10 := (cel_sRn (m := m45) (o := 190) (k := 31) (r := 213) (show 200 ≠ 190 by omega)).trans f45_10
  have f46_11 := (cel_sRn (m := m45) (o := 190) (k := 31) (r := 213) (show 201 ≠ 190 by omega)).trans f45_11
  have f46_12 := (cel_sRn (m := m45) (o := 190) (k := 31) (r := 213) (show 202 ≠ 190 by omega)).trans f45_12
  have f46_13 := (cel_sRn (m := m45) (o := 190) (k := 31) (r := 213) (show 203 ≠ 190 by omega)).trans f45_13
  have f46_14 := (cel_sRn (m := m45) (o := 190) (k := 31) (r := 213) (show 204 ≠ 190 by omega)).trans f45_14
  have f46_15 := (cel_sRn (m := m45) (o := 190) (k := 31) (r := 213) (show 205 ≠ 190 by omega)).trans f45_15
  have f46_16 := (cel_sRn (m := m45) (o := 190) (k := 31) (r := 213) (show 206 ≠ 190 by omega)).trans f45_16
  have f46_17 := (cel_sRn (m := m45) (o := 190) (k := 31) (r := 213) (show 207 ≠ 190 by omega)).trans f45_17
  have f46_18 := (cel_sRn (m := m45) (o := 190) (k := 31) (r := 213) (show 208 ≠ 190 by omega)).trans f45_18
  have f46_19 := (cel_sRn (m := m45) (o := 190) (k := 31) (r := 213) (show 209 ≠ 190 by omega)).trans f45_19
  have f46_20 := (cel_sRn (m := m45) (o := 190) (k := 31) (r := 213) (show 210 ≠ 190 by omega)).trans f45_20
  have f46_21 := (cel_sRn (m := m45) (o := 190) (k := 31) (r := 213) (show 211 ≠ 190 by omega)).trans f45_21
  have f46_22 := (cel_sRn (m := m45) (o := 190) (k := 31) (r := 213) (show 212 ≠ 190 by omega)).trans f45_22
  have f46_23 := (cel_sRn (m := m45) (o := 190) (k := 31) (r := 213) (show 213 ≠ 190 by omega)).trans c45
  generalize tb_sR m45 (190) 31 (213) = m46 at o46 f46_0 f46_1 f46_2 f46_3 f46_4 f46_5 f46_6 f46_7 f46_8 f46_9 f46_10 f46_11 f46_12 f46_13 f46_14 f46_15 f46_16 f46_17 f46_18 f46_19 f46_20 f46_21 f46_22 f46_23
  refine tb_aload_0 d_Mo_init_192 rfl ?_
  refine tb_bipush (10) (by decide) d_Mo_init_193 rfl ?_
  refine ny_int (N := 10) d_Mo_init_195 rfl (by decide) (by decide) (by omega) o46.2.1 (by omega) (by omega) ?_
  obtain ⟨o47, c47, s47⟩ := o46.new (kd := 100) (l := (10)) (214) (by omega) (by omega) (by omega)
  refine tb_topR (y := 214) (by have := o46.1; omega) ?_
  have f47_0 := (s47 (190) (by omega)).trans f46_0
  have f47_1 := (s47 (191) (by omega)).trans f46_1
  have f47_2 := (s47 (192) (by omega)).trans f46_2
  have f47_3 := (s47 (193) (by omega)).trans f46_3
  have f47_4 := (s47 (194) (by omega)).trans f46_4
  have f47_5 := (s47 (195) (by omega)).trans f46_5
  have f47_6 := (s47 (196) (by omega)).trans f46_6
  have f47_7 := (s47 (197) (by omega)).trans f46_7
  have f47_8 := (s47 (198) (by omega)).trans f46_8
  have f47_9 := (s47 (199) (by omega)).trans f46_9
  have f47_10 := (s47 (200) (by omega)).trans f46_10
  have f47_11 := (s47 (201) (by omega)).trans f46_11
  have f47_12 := (s47 (202) (by omega)).trans f46_12
  have f47_13 := (s47 (203) (by omega)).trans f46_13
  have f47_14 := (s47 (204) (by omega)).trans f46_14
  have f47_15 := (s47 (205) (by omega)).trans f46_15
  have f47_16 := (s47 (206) (by omega)).trans f46_16
  have f47_17 := (s47 (207) (by omega)).trans f46_17
  have f47_18 := (s47 (208) (by omega)).trans f46_18
  have f47_19 := (s47 (209) (by omega)).trans f46_19
  have f47_20 := (s47 (210) (by omega)).trans f46_20
  have f47_21 := (s47 (211) (by omega)).trans f46_21
  have f47_22 := (s47 (212) (by omega)).trans f46_22
  have f47_23 := (s47 (213) (by omega)).trans f46_23
  generalize tb_new m46 100 (10) = m47 at o47 c47 s47 f47_0 f47_1 f47_2 f47_3 f47_4 f47_5 f47_6 f47_7 f47_8 f47_9 f47_10 f47_11 f47_12 f47_13 f47_14 f47_15 f47_16 f47_17 f47_18 f47_19 f47_20 f47_21 f47_22 f47_23
  refine p_Mo_80 d_Mo_init_197 rfl rfl rfl (by exact cel_k f47_0) ?_
  have o48 := o47.sR (o := 190) (k := 32) (r := 214) (by omega)
  have f48_0 := cel_sR (k := 32) (r := 214) f47_0
  have f48_1 := (cel_sRn (m := m47) (o := 190) (k := 32) (r := 214) (show 191 ≠ 190 by omega)).trans f47_1
  have f48_2 := (cel_sRn (m := m47) (o := 190) (k := 32) (r := 214) (show 192 ≠ 190 by omega)).trans f47_2
  have f48_3 := (cel_sRn (m := m47) (o := 190) (k := 32) (r := 214) (show 193 ≠ 190 by omega)).trans f47_3
  have f48_4 := (cel_sRn (m := m47) (o := 190) (k := 32) (r := 214) (show 194 ≠ 190 by omega)).trans f47_4
  have f48_5 := (cel_sRn (m := m47) (o := 190) (k := 32) (r := 214) (show 195 ≠ 190 by omega)).trans f47_5
  have f48_6 := (cel_sRn (m := m47) (o := 190) (k := 32) (r := 214) (show 196 ≠ 190 by omega)).trans f47_6
  have f48_7 := (cel_sRn (m := m47) (o := 190) (k := 32) (r := 214) (show 197 ≠ 190 by omega)).trans f47_7
  have f48_8 := (cel_sRn (m := m47) (o := 190) (k := 32) (r := 214) (show 198 ≠ 190 by omega)).trans f47_8
  have f48_9 := (cel_sRn (m := m47) (o := 190) (k := 32) (r := 214) (show 199 ≠ 190 by omega)).trans f47_9
  have f48_10 := (cel_sRn (m := m47) (o := 190) (k := 32) (r := 214) (show 200 ≠ 190 by omega)).trans f47_10
  have f48_11 := (cel_sRn (m := m47) (o := 190) (k := 32) (r := 214) (show 201 ≠ 190 by omega)).trans f47_11
  have f48_12 := (cel_sRn (m := m47) (o := 190) (k := 32) (r := 214) (show 202 ≠ 190 by omega)).trans f47_12
  have f48_13 := (cel_sRn (m := m47) (o := 190) (k := 32) (r := 214) (show 203 ≠ 190 by omega)).trans f47_13
  have f48_14 := (cel_sRn (m := m47) (o := 190) (k := 32) (r := 214) (show 204 ≠ 190 by omega)).trans f47_14
  have f48_15 := (cel_sRn (m := m47) (o := 190) (k := 32) (r := 214) (show 205 ≠ 190 by omega)).trans f47_15
  have f48_16 := (cel_sRn (m := m47) (o := 190) (k := 32) (r := 214) (show 206 ≠ 190 by omega)).trans f47_16
  have f48_17 := (cel_sRn (m := m47) (o := 190) (k := 32) (r := 214) (show 207 ≠ 190 by omega)).trans f47_17
  have f48_18 := (cel_sRn (m := m47) (o := 190) (k := 32) (r := 214) (show 208 ≠ 190 by omega)).trans f47_18
  have f48_19 := (cel_sRn (m := m47) (o := 190) (k := 32) (r := 214) (show 209 ≠ 190 by omega)).trans f47_19
  have f48_20 := (cel_sRn (m := m47) (o := 190) (k := 32) (r := 214) (show 210 ≠ 190 by omega)).trans f47_20
  have f48_21 := (cel_sRn (m := m47) (o := 190) (k := 32) (r := 214) (show 211 ≠ 190 by omega)).trans f47_21
  have f48_22 := (cel_sRn (m := m47) (o := 190) (k := 32) (r := 214) (show 212 ≠ 190 by omega)).trans f47_22
  have f48_23 := (cel_sRn (m := m47) (o := 190) (k := 32) (r := 214) (show 213 ≠ 190 by omega)).trans f47_23
  have f48_24 := (cel_sRn (m := m47) (o := 190) (k := 32) (r := 214) (show 214 ≠ 190 by omega)).trans c47
  generalize tb_sR m47 (190) 32 (214) = m48 at o48 f48_0 f48_1 f48_2 f48_3 f48_4 f48_5 f48_6 f48_7 f48_8 f48_9 f48_10 f48_11 f48_12 f48_13 f48_14 f48_15 f48_16 f48_17 f48_18 f48_19 f48_20 f48_21 f48_22 f48_23 f48_24
  refine tb_aload_0 d_Mo_init_200 rfl ?_
  refine tb_bipush (10) (by decide) d_Mo_init_201 rfl ?_
  refine ny_int (N := 10) d_Mo_init_203 rfl (by decide) (by decide) (by omega) o48.2.1 (by omega) (by omega) ?_
  obtain ⟨o49, c49, s49⟩ := o48.new (kd := 100) (l := (10)) (215) (by omega) (by omega) (by omega)
  refine tb_topR (y := 215) (by have := o48.1; omega) ?_
  have f49_0 := (s49 (190) (by omega)).trans f48_0
  have f49_1 := (s49 (191) (by omega)).trans f48_1
  have f49_2 := (s49 (192) (by omega)).trans f48_2
  have f49_3 := (s49 (193) (by omega)).trans f48_3
  have f49_4 := (s49 (194) (by omega)).trans f48_4
  have f49_5 := (s49 (195) (by omega)).trans f48_5
  have f49_6 := (s49 (196) (by omega)).trans f48_6
  have f49_7 := (s49 (197) (by omega)).trans f48_7
  have f49_8 := (s49 (198) (by omega)).trans f48_8
  have f49_9 := (s49 (199) (by omega)).trans f48_9
  have f49_10 := (s49 (200) (by omega)).trans f48_10
  have f49_11 := (s49 (201) (by omega)).trans f48_11
  have f49_12 := (s49 (202) (by omega)).trans f48_12
  have f49_13 := (s49 (203) (by omega)).trans f48_13
  have f49_14 := (s49 (204) (by omega)).trans f48_14
  have f49_15 := (s49 (205) (by omega)).trans f48_15
  have f49_16 := (s49 (206) (by omega)).trans f48_16
  have f49_17 := (s49 (207) (by omega)).trans f48_17
  have f49_18 := (s49 (208) (by omega)).trans f48_18
  have f49_19 := (s49 (209) (by omega)).trans f48_19
  have f49_20 := (s49 (210) (by omega)).trans f48_20
  have f49_21 := (s49 (211) (by omega)).trans f48_21
  have f49_22 := (s49 (212) (by omega)).trans f48_22
  have f49_23 := (s49 (213) (by omega)).trans f48_23
  have f49_24 := (s49 (214) (by omega)).trans f48_24
  generalize tb_new m48 100 (10) = m49 at o49 c49 s49 f49_0 f49_1 f49_2 f49_3 f49_4 f49_5 f49_6 f49_7 f49_8 f49_9 f49_10 f49_11 f49_12 f49_13 f49_14 f49_15 f49_16 f49_17 f49_18 f49_19 f49_20 f49_21 f49_22 f49_23 f49_24
  refine p_Mo_83 d_Mo_init_205 rfl rfl rfl (by exact cel_k f49_0) ?_
  have o50 := o49.sR (o := 190) (k := 33) (r := 215) (by omega)
  have f50_0 := cel_sR (k := 33) (r := 215) f49_0
  have f50_1 := (cel_sRn (m := m49) (o := 190) (k := 33) (r := 215) (show 191 ≠ 190 by omega)).trans f49_1
  have f50_2 := (cel_sRn (m := m49) (o := 190) (k := 33) (r := 215) (show 192 ≠ 190 by omega)).trans f49_2
  have f50_3 := (cel_sRn (m := m49) (o := 190) (k := 33) (r := 215) (show 193 ≠ 190 by omega)).trans f49_3
  have f50_4 := (cel_sRn (m := m49) (o := 190) (k := 33) (r := 215) (show 194 ≠ 190 by omega)).trans f49_4
  have f50_5 := (cel_sRn (m := m49) (o := 190) (k := 33) (r := 215) (show 195 ≠ 190 by omega)).trans f49_5
  have f50_6 := (cel_sRn (m := m49) (o := 190) (k := 33) (r := 215) (show 196 ≠ 190 by omega)).trans f49_6
  have f50_7 := (cel_sRn (m := m49) (o := 190) (k := 33) (r := 215) (show 197 ≠ 190 by omega)).trans f49_7
  have f50_8 := (cel_sRn (m := m49) (o := 190) (k := 33) (r := 215) (show 198 ≠ 190 by omega)).trans f49_8
  have f50_9 := (cel_sRn (m := m49) (o := 190) (k := 33) (r := 215) (show 199 ≠ 190 by omega)).trans f49_9
  have f50_10 := (cel_sRn (m := m49) (o := 190) (k := 33) (r := 215) (show 200 ≠ 190 by omega)).trans f49_10
  have f50_11 := (cel_sRn (m := m49) (o := 190) (k := 33) (r := 215) (show 201 ≠ 190 by omega)).trans f49_11
  have f50_12 := (cel_sRn (m := m49) (o := 190) (k := 33) (r := 215) (show 202 ≠ 190 by omega)).trans f49_12
  have f50_13 := (cel_sRn (m := m49) (o := 190) (k := 33) (r := 215) (show 203 ≠ 190 by omega)).trans f49_13
  have f50_14 := (cel_sRn (m := m49) (o := 190) (k := 33) (r := 215) (show 204 ≠ 190 by omega)).trans f49_14
  have f50_15 := (cel_sRn (m := m49) (o := 190) (k := 33) (r := 215) (show 205 ≠ 190 by omega)).trans f49_15
  have f50_16 := (cel_sRn (m := m49) (o := 190) (k := 33) (r := 215) (show 206 ≠ 190 by omega)).trans f49_16
  have f50_17 := (cel_sRn (m := m49) (o := 190) (k := 33) (r := 215) (show 207 ≠ 190 by omega)).trans f49_17
  have f50_18 := (cel_sRn (m := m49) (o := 190) (k := 33) (r := 215) (show 208 ≠ 190 by omega)).trans f49_18
  have f50_19 := (cel_sRn (m := m49) (o := 190) (k := 33) (r := 215) (show 209 ≠ 190 by omega)).trans f49_19
  have f50_20 := (cel_sRn (m := m49) (o := 190) (k := 33) (r := 215) (show 210 ≠ 190 by omega)).trans f49_20
  have f50_21 := (cel_sRn (m := m49) (o := 190) (k := 33) (r := 215) (show 211 ≠ 190 by omega)).trans f49_21
  have f50_22 := (cel_sRn (m := m49) (o := 190) (k := 33) (r := 215) (show 212 ≠ 190 by omega)).trans f49_22
  have f50_23 := (cel_sRn (m := m49) (o := 190) (k := 33) (r := 215) (show 213 ≠ 190 by omega)).trans f49_23
  have f50_24 := (cel_sRn (m := m49) (o := 190) (k := 33) (r := 215) (show 214 ≠ 190 by omega)).trans f49_24
  have f50_25 := (cel_sRn (m := m49) (o := 190) (k := 33) (r := 215) (show 215 ≠ 190 by omega)).trans c49
  generalize tb_sR m49 (190) 33 (215) = m50 at o50 f50_0 f50_1 f50_2 f50_3 f50_4 f50_5 f50_6 f50_7 f50_8 f50_9 f50_10 f50_11 f50_12 f50_13 f50_14 f50_15 f50_16 f50_17 f50_18 f50_19 f50_20 f50_21 f50_22 f50_23 f50_24 f50_25
  refine tb_aload_0 d_Mo_init_208 rfl ?_
  refine tb_bipush (10) (by decide) d_Mo_init_209 rfl ?_
  refine ny_boolean (N := 10) d_Mo_init_211 rfl (by decide) (by decide) (by omega) o50.2.1 (by omega) (by omega) ?_
  obtain ⟨o51, c51, s51⟩ := o50.new (kd := 103) (l := (10)) (216) (by omega) (by omega) (by omega)
  refine tb_topR (y := 216) (by have := o50.1; omega) ?_
  have f51_0 := (s51 (190) (by omega)).trans f50_0
  have f51_1 := (s51 (191) (by omega)).trans f50_1
  have f51_2 := (s51 (192) (by omega)).trans f50_2
  have f51_3 := (s51 (193) (by omega)).trans f50_3
  have f51_4 := (s51 (194) (by omega)).trans f50_4
  have f51_5 := (s51 (195) (by omega)).trans f50_5
  have f51_6 := (s51 (196) (by omega)).trans f50_6
  have f51_7 := (s51 (197) (by omega)).trans f50_7
  have f51_8 := (s51 (198) (by omega)).trans f50_8
  have f51_9 := (s51 (199) (by omega)).trans f50_9
  have f51_10 := (s51 (200) (by omega)).trans f50_10
  have f51_11 := (s51 (201) (by omega)).trans f50_11
  have f51_12 := (s51 (202) (by omega)).trans f50_12
  have f51_13 := (s51 (203) (by omega)).trans f50_13
  have f51_14 := (s51 (204) (by omega)).trans f50_14
  have f51_15 := (s51 (205) (by omega)).trans f50_15
  have f51_16 := (s51 (206) (by omega)).trans f50_16
  have f51_17 := (s51 (207) (by omega)).trans f50_17
  have f51_18 := (s51 (208) (by omega)).trans f50_18
  have f51_19 := (s51 (209) (by omega)).trans f50_19
  have f51_20 := (s51 (210) (by omega)).trans f50_20
  have f51_21 := (s51 (211) (by omega)).trans f50_21
  have f51_22 := (s51 (212) (by omega)).trans f50_22
  have f51_23 := (s51 (213) (by omega)).trans f50_23
  have f51_24 := (s51 (214) (by omega)).trans f50_24
  have f51_25 := (s51 (215) (by omega)).trans f50_25
  generalize tb_new m50 103 (10) = m51 at o51 c51 s51 f51_0 f51_1 f51_2 f51_3 f51_4 f51_5 f51_6 f51_7 f51_8 f51_9 f51_10 f51_11 f51_12 f51_13 f51_14 f51_15 f51_16 f51_17 f51_18 f51_19 f51_20 f51_21 f51_22 f51_23 f51_24 f51_25
  refine p_Mo_86 d_Mo_init_213 rfl rfl rfl (by exact cel_k f51_0) ?_
  have o52 := o51.sR (o := 190) (k := 34) (r := 216) (by omega)
  have f52_0 := cel_sR (k := 34) (r := 216) f51_0
  have f52_1 := (cel_sRn (m := m51) (o := 190) (k := 34) (r := 216) (show 191 ≠ 190 by omega)).trans f51_1
  have f52_2 := (cel_sRn (m := m51) (o := 190) (k := 34) (r := 216) (show 192 ≠ 190 by omega)).trans f51_2
  have f52_3 := (cel_sRn (m := m51) (o := 190) (k := 34) (r := 216) (show 193 ≠ 190 by omega)).trans f51_3
  have f52_4 := (cel_sRn (m := m51) (o := 190) (k := 34) (r := 216) (show 194 ≠ 190 by omega)).trans f51_4
  have f52_5 := (cel_sRn (m := m51) (o := 190) (k := 34) (r := 216) (show 195 ≠ 190 by omega)).trans f51_5
  have f52_6 := (cel_sRn (m := m51) (o := 190) (k := 34) (r := 216) (show 196 ≠ 190 by omega)).trans f51_6
  have f52_7 := (cel_sRn (m := m51) (o := 190) (k := 34) (r := 216) (show 197 ≠ 190 by omega)).trans f51_7
  have f52_8 := (cel_sRn (m := m51) (o := 190) (k := 34) (r := 216) (show 198 ≠ 190 by omega)).trans f51_8
  have f52_9 := (cel_sRn (m := m51) (o := 190) (k := 34) (r := 216) (show 199 ≠ 190 by omega)).trans f51_9
  have f52_10 := (cel_sRn (m := m51) (o := 190) (k := 34) (r := 216) (show 200 ≠ 190 by omega)).trans f51_10
  have f52_11 := (cel_sRn (m := m51) (o := 190) (k := 34) (r := 216) (show 201 ≠ 190 by omega)).trans f51_11
  have f52_12 := (cel_sRn (m := m51) (o := 190) (k := 34) (r := 216) (show 202 ≠ 190 by omega)).trans f51_12
  have f52_13 := (cel_sRn (m := m51) (o := 190) (k := 34) (r := 216) (show 203 ≠ 190 by omega)).trans f51_13
  have f52_14 := (cel_sRn (m := m51) (o := 190) (k := 34) (r := 216) (show 204 ≠ 190 by omega)).trans f51_14
  have f52_15 := (cel_sRn (m := m51) (o := 190) (k := 34) (r := 216) (show 205 ≠ 190 by omega)).trans f51_15
  have f52_16 := (cel_sRn (m := m51) (o := 190) (k := 34) (r := 216) (show 206 ≠ 190 by omega)).trans f51_16
  have f52_17 := (cel_sRn (m := m51) (o := 190) (k := 34) (r := 216) (show 207 ≠ 190 by omega)).trans f51_17
  have f52_18 := (cel_sRn (m := m51) (o := 190) (k := 34) (r := 216) (show 208 ≠ 190 by omega)).trans f51_18
  have f52_19 := (cel_sRn (m := m51) (o := 190) (k := 34) (r := 216) (show 209 ≠ 190 by omega)).trans f51_19
  have f52_20 := (cel_sRn (m := m51) (o := 190) (k := 34) (r := 216) (show 210 ≠ 190 by omega)).trans f51_20
  have f52_21 := (cel_sRn (m := m51) (o := 190) (k := 34) (r := 216) (show 211 ≠ 190 by omega)).trans f51_21
  have f52_22 := (cel_sRn (m := m51) (o := 190) (k := 34) (r := 216) (show 212 ≠ 190 by omega)).trans f51_22
  have f52_23 := (cel_sRn (m := m51) (o := 190) (k := 34) (r := 216) (show 213 ≠ 190 by omega)).trans f51_23
  have f52_24 := (cel_sRn (m := m51) (o := 190) (k := 34) (r := 216) (show 214 ≠ 190 by omega)).trans f51_24
  have f52_25 := (cel_sRn (m := m51) (o := 190) (k := 34) (r := 216) (show 215 ≠ 190 by omega)).trans f51_25
  have f52_26 := (cel_sRn (m := m51) (o := 190) (k := 34) (r := 216) (show 216 ≠ 190 by omega)).trans c51
  generalize tb_sR m51 (190) 34 (216) = m52 at o52 f52_0 f52_1 f52_2 f52_3 f52_4 f52_5 f52_6 f52_7 f52_8 f52_9 f52_10 f52_11 f52_12 f52_13 f52_14 f52_15 f52_16 f52_17 f52_18 f52_19 f52_20 f52_21 f52_22 f52_23 f52_24 f52_25 f52_26
  refine tb_iconst (0) (by decide) d_Mo_init_216 rfl ?_
  refine tb_istore_1 d_Mo_init_217 rfl (by decide) ?_
  have hrest : ∀ o, 192 ≤ o → o ≤ 216 → cel m52 o = gC o := by
    intro o p q
    rcases (show o = 192 ∨ o = 193 ∨ o = 194 ∨ o = 195 ∨ o = 196 ∨ o = 197 ∨ o = 198 ∨ o = 199 ∨ o = 200 ∨ o = 201 ∨ o = 202 ∨ o = 203 ∨ o = 204 ∨ o = 205 ∨ o = 206 ∨ o = 207 ∨ o = 208 ∨ o = 209 ∨ o = 210 ∨ o = 211 ∨ o = 212 ∨ o = 213 ∨ o = 214 ∨ o = 215 ∨ o = 216 by omega) with rfl | rfl | rfl | rfl | rfl | rfl | rfl | rfl | rfl | rfl | rfl | rfl | rfl | rfl | rfl | rfl | rfl | rfl | rfl | rfl | rfl | rfl | rfl | rfl | rfl
    · exact f52_2
    · exact f52_3
    · exact f52_4
    · exact f52_5
    · exact f52_6
    · exact f52_7
    · exact f52_8
    · exact f52_9
    · exact f52_10
    · exact f52_11
    · exact f52_12
    · exact f52_13
    · exact f52_14
    · exact f52_15
    · exact f52_16
    · exact f52_17
    · exact f52_18
    · exact f52_19
    · exact f52_20
    · exact f52_21
    · exact f52_22
    · exact f52_23
    · exact f52_24
    · exact f52_25
    · exact f52_26
  refine lp_Mo_fill (c4 := _) rfl (fun m l1 o0 f0 f1 f2 => ?_) 12 0 (by omega) (by omega) _ o52 f52_0 f52_1 hrest
  refine tb_vreturn d_Mo_init_237 rfl ?_
  refine ⟨rfl, o0.1, o0.2.1, o0.2.2.1, fun q p z => ?_⟩
  by_cases e : q = 190
  · rw [e, f0]
    refine Prod.ext rfl (Prod.ext rfl (Prod.ext rfl ?_))
    show _ = gMo
    funext j
    by_cases hj : j < 35
    · rcases (show j = 0 ∨ j = 1 ∨ j = 2 ∨ j = 3 ∨ j = 4 ∨ j = 5 ∨ j = 6 ∨ j = 7 ∨ j = 8 ∨ j = 9 ∨ j = 10 ∨ j = 11 ∨ j = 12 ∨ j = 13 ∨ j = 14 ∨ j = 15 ∨ j = 16 ∨ j = 17 ∨ j = 18 ∨ j = 19 ∨ j = 20 ∨ j = 21 ∨ j = 22 ∨ j = 23 ∨ j = 24 ∨ j = 25 ∨ j = 26 ∨ j = 27 ∨ j = 28 ∨ j = 29 ∨ j = 30 ∨ j = 31 ∨ j = 32 ∨ j = 33 ∨ j = 34 by omega) with rfl | rfl | rfl | rfl | rfl | rfl | rfl | rfl | rfl | rfl | rfl | rfl | rfl | rfl | rfl | rfl | rfl | rfl | rfl | rfl | rfl | rfl | rfl | rfl | rfl | rfl | rfl | rfl | rfl | rfl | rfl | rfl | rfl | rfl | rfl <;> rfl
    · simp only [va_up]
      rw [if_neg (by omega), if_neg (by omega), if_neg (by omega), if_neg (by omega), if_neg (by omega), if_neg (by omega), if_neg (by omega), if_neg (by omega), if_neg (by omega), if_neg (by omega), if_neg (by omega), if_neg (by omega), if_neg (by omega), if_neg (by omega), if_neg (by omega), if_neg (by omega), if_neg (by omega), if_neg (by omega), if_neg (by omega), if_neg (by omega), if_neg (by omega), if_neg (by omega), if_neg (by omega), if_neg (by omega), if_neg (by omega), if_neg (by omega)]
      unfold gMo
      split <;> first | omega | rfl
  · by_cases e2 : q = 191
    · rw [e2, f1]
      rfl
    · exact f2 q (by omega) (by omega)
end Init3
