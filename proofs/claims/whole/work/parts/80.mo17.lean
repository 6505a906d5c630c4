/-! The reference: files kept and put back. -/
section Mo17
variable {E : tb_E} {M M1 : tb_M} {fs : Fs}
theorem lp_Mo_sv0_2 (hS : Sh M) {d rc rs : Nat} {Q : tb_O → tb_M → Prop} (hQ : ∀ M1 l2, On M M1 (fun q => q = 193) → (∀ i, i < 12 → tb_I M1 193 i = tb_I M 191 i) → tb_Wp E m_Mo_save d rc rs 45 [some (.inr 190), some (.inl 0), l2] [] M1 Q) : ∀ (m j : Nat), 12 - j = m → j ≤ 12 → ∀ M1, On M M1 (fun q => q = 193) → (∀ i, i < j → tb_I M1 193 i = tb_I M 191 i) → tb_Wp E m_Mo_save d rc rs 2 [some (.inr 190), some (.inl 0), some (.inl (nI j))] [] M1 Q := by
  intro m
  induction m using Nat.strongRecOn with
  | ind m ih =>
    intro j hm hj M1 o1 hW
    have hS1 := o1.sh hS
    refine tb_iload_2 d_Mo_save_2 rfl ?_
    refine tb_bipush (12) (by decide) d_Mo_save_3 rfl ?_
    refine tb_icmp_ge 45 d_Mo_save_5 (by decide) rfl (fun h5 => ?_) (fun h5 => ?_)
    · have hje : 12 ≤ j := (nI_leI (a := 12) (b := j) (by decide) (by omega)).mp h5
      have hje2 : j = 12 := by omega
      subst hje2
      exact hQ M1 _ o1 hW
    · have hlt : j < 12 := Nat.lt_of_not_le (fun q => h5 ((nI_leI (a := 12) (b := j) (by decide) (by omega)).mpr q))
      refine tb_iload_1 d_Mo_save_8 rfl ?_
      refine tb_if_eq 27 d_Mo_save_9 (by decide) rfl (fun h9 => ?_) (fun h9 => ?_)
      · refine tb_aload_0 d_Mo_save_27 rfl ?_
        refine g_Mo_16 d_Mo_save_28 rfl rfl (by first | exact hS1.k rfl) ?_
        refine tb_topR (y := 193) (hS1.mr 3 (by decide)) ?_
        refine tb_iload_2 d_Mo_save_31 rfl ?_
        refine tb_aload_0 d_Mo_save_32 rfl ?_
        refine g_Mo_7 d_Mo_save_33 rfl rfl (by first | exact hS1.k rfl) ?_
        refine tb_topR (y := 191) (hS1.mr 1 (by decide)) ?_
        refine tb_iload_2 d_Mo_save_36 rfl ?_
        refine tb_iaload d_Mo_save_37 rfl (by first | exact hS1.k rfl) (by first | exact mo_in hS1 (c := 12) rfl (by omega) (by decide) | exact mo_in hS1 (c := 10) rfl (by omega) (by decide) | exact mo_in hS1 (c := 25) rfl (by omega) (by decide) | exact mo_in hS1 (c := 6) rfl (by omega) (by decide) | exact mo_in hS1 (c := 72) rfl (by omega) (by decide) | exact mo_in hS1 (c := 120) rfl (by omega) (by decide) | exact mo_in hS1 (c := 300) rfl (by omega) (by decide) | exact mo_in hS1 (c := 150) rfl (by omega) (by decide) | exact mo_in hS1 (c := 1800) rfl (by omega) (by decide)) ?_
        refine tb_topI (y := tb_I M 191 j) (by rw [nI_clamp (show j < 2 ^ 31 by omega)]; rw [o1.i (by decide)]) ?_
        refine tb_iastore d_Mo_save_38 rfl (by first | exact hS1.k rfl) (by first | exact mo_in hS1 (c := 12) rfl (by omega) (by decide) | exact mo_in hS1 (c := 10) rfl (by omega) (by decide) | exact mo_in hS1 (c := 25) rfl (by omega) (by decide) | exact mo_in hS1 (c := 6) rfl (by omega) (by decide) | exact mo_in hS1 (c := 72) rfl (by omega) (by decide) | exact mo_in hS1 (c := 120) rfl (by omega) (by decide) | exact mo_in hS1 (c := 300) rfl (by omega) (by decide) | exact mo_in hS1 (c := 150) rfl (by omega) (by decide) | exact mo_in hS1 (c := 1800) rfl (by omega) (by decide)) ?_
        rw [nI_clamp (show j < 2 ^ 31 by omega)]
        refine tb_iinc_2 (1) d_Mo_save_39 rfl (by decide) (by decide) ?_
        refine tb_goto 2 d_Mo_save_42 (by decide) ?_
        rw [nI_1]
        refine ih (12 - (j + 1)) (by omega) (j + 1) rfl (by omega) _ (o1.trans (On.sI rfl)) (fun i hi => ?_)
        rw [sI_at]
        unfold va_up
        by_cases e : i = j
        · rw [if_pos e, e]
        · rw [if_neg e]; exact hW i (by omega)
      · exact absurd rfl h9
theorem lp_Mo_sv0_47 (hS : Sh M) {d rc rs : Nat} {Q : tb_O → tb_M → Prop} (hQ : ∀ M1 l2, On M M1 (fun q => q = 194) → (∀ i, i < 72 → tb_I M1 194 i = tb_I M 192 i) → tb_Wp E m_Mo_save d rc rs 90 [some (.inr 190), some (.inl 0), l2] [] M1 Q) : ∀ (m j : Nat), 72 - j = m → j ≤ 72 → ∀ M1, On M M1 (fun q => q = 194) → (∀ i, i < j → tb_I M1 194 i = tb_I M 192 i) → tb_Wp E m_Mo_save d rc rs 47 [some (.inr 190), some (.inl 0), some (.inl (nI j))] [] M1 Q := by
  intro m
  induction m using Nat.strongRecOn with
  | ind m ih =>
    intro j hm hj M1 o1 hW
    have hS1 := o1.sh hS
    refine tb_iload_2 d_Mo_save_47 rfl ?_
    refine tb_bipush (72) (by decide) d_Mo_save_48 rfl ?_
    refine tb_icmp_ge 90 d_Mo_save_50 (by decide) rfl (fun h50 => ?_) (fun h50 => ?_)
    · have hje : 72 ≤ j := (nI_leI (a := 72) (b := j) (by decide) (by omega)).mp h50
      have hje2 : j = 72 := by omega
      subst hje2
      exact hQ M1 _ o1 hW
    · have hlt : j < 72 := Nat.lt_of_not_le (fun q => h50 ((nI_leI (a := 72) (b := j) (by decide) (by omega)).mpr q))
      refine tb_iload_1 d_Mo_save_53 rfl ?_
      refine tb_if_eq 72 d_Mo_save_54 (by decide) rfl (fun h54 => ?_) (fun h54 => ?_)
      · refine tb_aload_0 d_Mo_save_72 rfl ?_
        refine g_Mo_19 d_Mo_save_73 rfl rfl (by first | exact hS1.k rfl) ?_
        refine tb_topR (y := 194) (hS1.mr 4 (by decide)) ?_
        refine tb_iload_2 d_Mo_save_76 rfl ?_
        refine tb_aload_0 d_Mo_save_77 rfl ?_
        refine g_Mo_13 d_Mo_save_78 rfl rfl (by first | exact hS1.k rfl) ?_
        refine tb_topR (y := 192) (hS1.mr 2 (by decide)) ?_
        refine tb_iload_2 d_Mo_save_81 rfl ?_
        refine tb_iaload d_Mo_save_82 rfl (by first | exact hS1.k rfl) (by first | exact mo_in hS1 (c := 12) rfl (by omega) (by decide) | exact mo_in hS1 (c := 10) rfl (by omega) (by decide) | exact mo_in hS1 (c := 25) rfl (by omega) (by decide) | exact mo_in hS1 (c := 6) rfl (by omega) (by decide) | exact mo_in hS1 (c := 72) rfl (by omega) (by decide) | exact mo_in hS1 (c := 120) rfl (by omega) (by decide) | exact mo_in hS1 (c := 300) rfl (by omega) (by decide) | exact mo_in hS1 (c := 150) rfl (by omega) (by decide) | exact mo_in hS1 (c := 1800) rfl (by omega) (by decide)) ?_
        refine tb_topI (y := tb_I M 192 j) (by rw [nI_clamp (show j < 2 ^ 31 by omega)]; rw [o1.i (by decide)]) ?_
        refine tb_iastore d_Mo_save_83 rfl (by first | exact hS1.k rfl) (by first | exact mo_in hS1 (c := 12) rfl (by omega) (by decide) | exact mo_in hS1 (c := 10) rfl (by omega) (by decide) | exact mo_in hS1 (c := 25) rfl (by omega) (by decide) | exact mo_in hS1 (c := 6) rfl (by omega) (by decide) | exact mo_in hS1 (c := 72) rfl (by omega) (by decide) | exact mo_in hS1 (c := 120) rfl (by omega) (by decide) | exact mo_in hS1 (c := 300) rfl (by omega) (by decide) | exact mo_in hS1 (c := 150) rfl (by omega) (by decide) | exact mo_in hS1 (c := 1800) rfl (by omega) (by decide)) ?_
        rw [nI_clamp (show j < 2 ^ 31 by omega)]
        refine tb_iinc_2 (1) d_Mo_save_84 rfl (by decide) (by decide) ?_
        refine tb_goto 47 d_Mo_save_87 (by decide) ?_
        rw [nI_1]
        refine ih (72 - (j + 1)) (by omega) (j + 1) rfl (by omega) _ (o1.trans (On.sI rfl)) (fun i hi => ?_)
        rw [sI_at]
        unfold va_up
        by_cases e : i = j
        · rw [if_pos e, e]
        · rw [if_neg e]; exact hW i (by omega)
      · exact absurd rfl h54
theorem lp_Mo_sv1_2 (hS : Sh M) {d rc rs : Nat} {Q : tb_O → tb_M → Prop} (hQ : ∀ M1 l2, On M M1 (fun q => q = 191) → (∀ i, i < 12 → tb_I M1 191 i = tb_I M 193 i) → tb_Wp E m_Mo_save d rc rs 45 [some (.inr 190), some (.inl 1), l2] [] M1 Q) : ∀ (m j : Nat), 12 - j = m → j ≤ 12 → ∀ M1, On M M1 (fun q => q = 191) → (∀ i, i < j → tb_I M1 191 i = tb_I M 193 i) → tb_Wp E m_Mo_save d rc rs 2 [some (.inr 190), some (.inl 1), some (.inl (nI j))] [] M1 Q := by
  intro m
  induction m using Nat.strongRecOn with
  | ind m ih =>
    intro j hm hj M1 o1 hW
    have hS1 := o1.sh hS
    refine tb_iload_2 d_Mo_save_2 rfl ?_
    refine tb_bipush (12) (by decide) d_Mo_save_3 rfl ?_
    refine tb_icmp_ge 45 d_Mo_save_5 (by decide) rfl (fun h5 => ?_) (fun h5 => ?_)
    · have hje : 12 ≤ j := (nI_leI (a := 12) (b := j) (by decide) (by omega)).mp h5
      have hje2 : j = 12 := by omega
      subst hje2
      exact hQ M1 _ o1 hW
    · have hlt : j < 12 := Nat.lt_of_not_le (fun q => h5 ((nI_leI (a := 12) (b := j) (by decide) (by omega)).mpr q))
      refine tb_iload_1 d_Mo_save_8 rfl ?_
      refine tb_if_eq 27 d_Mo_save_9 (by decide) rfl (fun h9 => ?_) (fun h9 => ?_)
      · exact absurd h9 (by decide)
      · refine tb_aload_0 d_Mo_save_12 rfl ?_
        refine g_Mo_7 d_Mo_save_13 rfl rfl (by first | exact hS1.k rfl) ?_
        refine tb_topR (y := 191) (hS1.mr 1 (by decide)) ?_
        refine tb_iload_2 d_Mo_save_16 rfl ?_
        refine tb_aload_0 d_Mo_save_17 rfl ?_
        refine g_Mo_16 d_Mo_save_18 rfl rfl (by first | exact hS1.k rfl) ?_
        refine tb_topR (y := 193) (hS1.mr 3 (by decide)) ?_
        refine tb_iload_2 d_Mo_save_21 rfl ?_
        refine tb_iaload d_Mo_save_22 rfl (by first | exact hS1.k rfl) (by first | exact mo_in hS1 (c := 12) rfl (by omega) (by decide) | exact mo_in hS1 (c := 10) rfl (by omega) (by decide) | exact mo_in hS1 (c := 25) rfl (by omega) (by decide) | exact mo_in hS1 (c := 6) rfl (by omega) (by decide) | exact mo_in hS1 (c := 72) rfl (by omega) (by decide) | exact mo_in hS1 (c := 120) rfl (by omega) (by decide) | exact mo_in hS1 (c := 300) rfl (by omega) (by decide) | exact mo_in hS1 (c := 150) rfl (by omega) (by decide) | exact mo_in hS1 (c := 1800) rfl (by omega) (by decide)) ?_
        refine tb_topI (y := tb_I M 193 j) (by rw [nI_clamp (show j < 2 ^ 31 by omega)]; rw [o1.i (by decide)]) ?_
        refine tb_iastore d_Mo_save_23 rfl (by first | exact hS1.k rfl) (by first | exact mo_in hS1 (c := 12) rfl (by omega) (by decide) | exact mo_in hS1 (c := 10) rfl (by omega) (by decide) | exact mo_in hS1 (c := 25) rfl (by omega) (by decide) | exact mo_in hS1 (c := 6) rfl (by omega) (by decide) | exact mo_in hS1 (c := 72) rfl (by omega) (by decide) | exact mo_in hS1 (c := 120) rfl (by omega) (by decide) | exact mo_in hS1 (c := 300) rfl (by omega) (by decide) | exact mo_in hS1 (c := 150) rfl (by omega) (by decide) | exact mo_in hS1 (c := 1800) rfl (by omega) (by decide)) ?_
        rw [nI_clamp (show j < 2 ^ 31 by omega)]
        refine tb_goto 39 d_Mo_save_24 (by decide) ?_
        refine tb_iinc_2 (1) d_Mo_save_39 rfl (by decide) (by decide) ?_
        refine tb_goto 2 d_Mo_save_42 (by decide) ?_
        rw [nI_1]
        refine ih (12 - (j + 1)) (by omega) (j + 1) rfl (by omega) _ (o1.trans (On.sI rfl)) (fun i hi => ?_)
        rw [sI_at]
        unfold va_up
        by_cases e : i = j
        · rw [if_pos e, e]
        · rw [if_neg e]; exact hW i (by omega)
theorem lp_Mo_sv1_47 (hS : Sh M) {d rc rs : Nat} {Q : tb_O → tb_M → Prop} (hQ : ∀ M1 l2, On M M1 (fun q => q = 192) → (∀ i, i < 72 → tb_I M1 192 i = tb_I M 194 i) → tb_Wp E m_Mo_save d rc rs 90 [some (.inr 190), some (.inl 1), l2] [] M1 Q) : ∀ (m j : Nat), 72 - j = m → j ≤ 72 → ∀ M1, On M M1 (fun q => q = 192) → (∀ i, i < j → tb_I M1 192 i = tb_I M 194 i) → tb_Wp E m_Mo_save d rc rs 47 [some (.inr 190), some (.inl 1), some (.inl (nI j))] [] M1 Q := by
  intro m
  induction m using Nat.strongRecOn with
  | ind m ih =>
    intro j hm hj M1 o1 hW
    have hS1 := o1.sh hS
    refine tb_iload_2 d_Mo_save_47 rfl ?_
    refine tb_bipush (72) (by decide) d_Mo_save_48 rfl ?_
    refine tb_icmp_ge 90 d_Mo_save_50 (by decide) rfl (fun h50 => ?_) (fun h50 => ?_)
    · have hje : 72 ≤ j := (nI_leI (a := 72) (b := j) (by decide) (by omega)).mp h50
      have hje2 : j = 72 := by omega
      subst hje2
      exact hQ M1 _ o1 hW
    · have hlt : j < 72 := Nat.lt_of_not_le (fun q => h50 ((nI_leI (a := 72) (b := j) (by decide) (by omega)).mpr q))
      refine tb_iload_1 d_Mo_save_53 rfl ?_
      refine tb_if_eq 72 d_Mo_save_54 (by decide) rfl (fun h54 => ?_) (fun h54 => ?_)
      · exact absurd h54 (by decide)
      · refine tb_aload_0 d_Mo_save_57 rfl ?_
        refine g_Mo_13 d_Mo_save_58 rfl rfl (by first | exact hS1.k rfl) ?_
        refine tb_topR (y := 192) (hS1.mr 2 (by decide)) ?_
        refine tb_iload_2 d_Mo_save_61 rfl ?_
        refine tb_aload_0 d_Mo_save_62 rfl ?_
        refine g_Mo_19 d_Mo_save_63 rfl rfl (by first | exact hS1.k rfl) ?_
        refine tb_topR (y := 194) (hS1.mr 4 (by decide)) ?_
        refine tb_iload_2 d_Mo_save_66 rfl ?_
        refine tb_iaload d_Mo_save_67 rfl (by first | exact hS1.k rfl) (by first | exact mo_in hS1 (c := 12) rfl (by omega) (by decide) | exact mo_in hS1 (c := 10) rfl (by omega) (by decide) | exact mo_in hS1 (c := 25) rfl (by omega) (by decide) | exact mo_in hS1 (c := 6) rfl (by omega) (by decide) | exact mo_in hS1 (c := 72) rfl (by omega) (by decide) | exact mo_in hS1 (c := 120) rfl (by omega) (by decide) | exact mo_in hS1 (c := 300) rfl (by omega) (by decide) | exact mo_in hS1 (c := 150) rfl (by omega) (by decide) | exact mo_in hS1 (c := 1800) rfl (by omega) (by decide)) ?_
        refine tb_topI (y := tb_I M 194 j) (by rw [nI_clamp (show j < 2 ^ 31 by omega)]; rw [o1.i (by decide)]) ?_
        refine tb_iastore d_Mo_save_68 rfl (by first | exact hS1.k rfl) (by first | exact mo_in hS1 (c := 12) rfl (by omega) (by decide) | exact mo_in hS1 (c := 10) rfl (by omega) (by decide) | exact mo_in hS1 (c := 25) rfl (by omega) (by decide) | exact mo_in hS1 (c := 6) rfl (by omega) (by decide) | exact mo_in hS1 (c := 72) rfl (by omega) (by decide) | exact mo_in hS1 (c := 120) rfl (by omega) (by decide) | exact mo_in hS1 (c := 300) rfl (by omega) (by decide) | exact mo_in hS1 (c := 150) rfl (by omega) (by decide) | exact mo_in hS1 (c := 1800) rfl (by omega) (by decide)) ?_
        rw [nI_clamp (show j < 2 ^ 31 by omega)]
        refine tb_goto 84 d_Mo_save_69 (by decide) ?_
        refine tb_iinc_2 (1) d_Mo_save_84 rfl (by decide) (by decide) ?_
        refine tb_goto 47 d_Mo_save_87 (by decide) ?_
        rw [nI_1]
        refine ih (72 - (j + 1)) (by omega) (j + 1) rfl (by omega) _ (o1.trans (On.sI rfl)) (fun i hi => ?_)
        rw [sI_at]
        unfold va_up
        by_cases e : i = j
        · rw [if_pos e, e]
        · rw [if_neg e]; exact hW i (by omega)
theorem ok_Mo_save0 (hG : tb_G E) (hS : Sh M) (d : Nat) : tb_Rel E m_Mo_save d [.inr (.inl 190), .inl 0] M (fun v M2 => v = none ∧ On M M2 (fun q => q = 193 ∨ q = 194) ∧ (∀ i, i < 12 → tb_I M2 193 i = tb_I M 191 i) ∧ ∀ i, i < 72 → tb_I M2 194 i = tb_I M 192 i) := by
  refine tb_okOf hG (by decide) rfl (Nat.le_of_ble_eq_true rfl) rfl ?_
  refine tb_iconst (0) (by decide) d_Mo_save_0 rfl ?_
  refine tb_istore_2 d_Mo_save_1 rfl (by decide) ?_
  refine lp_Mo_sv0_2 hS (fun MA l2 oA vA => ?_) 12 0 rfl (by omega) M On.rf (fun i hi => absurd hi (Nat.not_lt_zero _))
  have hSA := oA.sh hS
  refine tb_iconst (0) (by decide) d_Mo_save_45 rfl ?_
  refine tb_istore_2 d_Mo_save_46 rfl (by decide) ?_
  refine lp_Mo_sv0_47 hSA (fun MB l2 oB vB => ?_) 72 0 rfl (by omega) MA On.rf (fun i hi => absurd hi (Nat.not_lt_zero _))
  refine tb_vreturn d_Mo_save_90 rfl ?_
  exact ⟨none, rfl, rfl, (oA.mono (fun q hq => Or.inl hq)).trans (oB.mono (fun q hq => Or.inr hq)), fun i hi => by rw [oB.i (by decide)]; exact vA i hi, fun i hi => by rw [vB i hi, oA.i (by decide)]⟩
theorem ok_Mo_save1 (hG : tb_G E) (hS : Sh M) (d : Nat) : tb_Rel E m_Mo_save d [.inr (.inl 190), .inl 1] M (fun v M2 => v = none ∧ On M M2 (fun q => q = 191 ∨ q = 192) ∧ (∀ i, i < 12 → tb_I M2 191 i = tb_I M 193 i) ∧ ∀ i, i < 72 → tb_I M2 192 i = tb_I M 194 i) := by
  refine tb_okOf hG (by decide) rfl (Nat.le_of_ble_eq_true rfl) rfl ?_
  refine tb_iconst (0) (by decide) d_Mo_save_0 rfl ?_
  refine tb_istore_2 d_Mo_save_1 rfl (by decide) ?_
  refine lp_Mo_sv1_2 hS (fun MA l2 oA vA => ?_) 12 0 rfl (by omega) M On.rf (fun i hi => absurd hi (Nat.not_lt_zero _))
  have hSA := oA.sh hS
  refine tb_iconst (0) (by decide) d_Mo_save_45 rfl ?_
  refine tb_istore_2 d_Mo_save_46 rfl (by decide) ?_
  refine lp_Mo_sv1_47 hSA (fun MB l2 oB vB => ?_) 72 0 rfl (by omega) MA On.rf (fun i hi => absurd hi (Nat.not_lt_zero _))
  refine tb_vreturn d_Mo_save_90 rfl ?_
  exact ⟨none, rfl, rfl, (oA.mono (fun q hq => Or.inl hq)).trans (oB.mono (fun q hq => Or.inr hq)), fun i hi => by rw [oB.i (by decide)]; exact vA i hi, fun i hi => by rw [vB i hi, oA.i (by decide)]⟩
end Mo17
