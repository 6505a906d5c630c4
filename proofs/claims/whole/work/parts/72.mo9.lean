/-! The reference: what has changed, what fits, what gets into the way. -/
section Mo9
variable {E : tb_E} {M M1 : tb_M} {fs : Fs} {tx : List Int32} {k t u : Nat} {x y : TrV} {S : StV} {D : Nat → DeV}
theorem lp_Mo_chg2 (hS : Sh M) (hT : MTr M t x) (ht : t < 25) (hF : MFs M fs) (hr : ∀ g, g < 12 → ¬ chR x fs g) {d rc rs : Nat} {Q : tb_O → tb_M → Prop} (hQ : Q (.inl (some (.inl (chgF x fs)))) M) : ∀ (m j : Nat) (l3 : tb_L), 12 - j = m → j ≤ 12 → (∀ g, g < j → ¬ chA x fs g) → tb_Wp E m_Mo_changedFor d rc rs 41 [some (.inr 190), some (.inl (nI t)), some (.inl (nI j)), l3] [] M Q := by
  intro m
  induction m using Nat.strongRecOn with
  | ind m ih =>
    intro j l3 hm hj hall
    refine tb_iload_2 d_Mo_changedFor_41 rfl ?_
    refine tb_bipush (12) (by decide) d_Mo_changedFor_42 rfl ?_
    refine tb_icmp_ge 107 d_Mo_changedFor_44 (by decide) rfl (fun h44 => ?_) (fun h44 => ?_)
    · have hje : 12 ≤ j := (nI_leI (a := 12) (b := j) (by omega) (by omega)).mp h44
      refine tb_iconst (-1) (by decide) d_Mo_changedFor_107 rfl ?_
      refine tb_ireturn d_Mo_changedFor_108 rfl (by first | rfl | assumption) ?_
      rw [chgF_a hr, fstI_no (fun g hg => hall g (by omega))] at hQ
      exact hQ
    · have hlt : j < 12 := Nat.lt_of_not_le (fun q => h44 ((nI_leI (a := 12) (b := j) (by omega) (by omega)).mpr q))
      have hle := hF.le hlt
      refine tb_aload_0 d_Mo_changedFor_47 rfl ?_
      refine g_Mo_43 d_Mo_changedFor_48 rfl rfl (by first | exact hS.k rfl) ?_
      refine tb_topR (y := 202) (hS.mr 15 (by decide)) ?_
      refine tb_iload_1 d_Mo_changedFor_51 rfl ?_
      refine tb_iaload d_Mo_changedFor_52 rfl (by first | exact hS.k rfl) (by first | exact mo_in hS (c := 12) rfl (by omega) (by decide) | exact mo_in hS (c := 10) rfl (by omega) (by decide) | exact mo_in hS (c := 25) rfl (by omega) (by decide) | exact mo_in hS (c := 6) rfl (by omega) (by decide) | exact mo_in hS (c := 72) rfl (by omega) (by decide) | exact mo_in hS (c := 120) rfl (by omega) (by decide) | exact mo_in hS (c := 300) rfl (by omega) (by decide) | exact mo_in hS (c := 150) rfl (by omega) (by decide) | exact mo_in hS (c := 1800) rfl (by omega) (by decide)) ?_
      refine tb_topI (y := tb_I M 202 t) (by rw [nI_clamp (show t < 2 ^ 31 by omega)]) ?_
      refine tb_iload_2 d_Mo_changedFor_53 rfl ?_
      refine tb_ishr d_Mo_changedFor_54 rfl ?_
      refine tb_iconst (1) (by decide) d_Mo_changedFor_55 rfl ?_
      refine tb_iand d_Mo_changedFor_56 rfl ?_
      refine tb_iconst (1) (by decide) d_Mo_changedFor_57 rfl ?_
      refine tb_icmp_ne 65 d_Mo_changedFor_58 (by decide) rfl (fun h58 => ?_) (fun h58 => ?_)
      · have hw : bI (tF x j ≠ none) = 0 := bI_f (fun z => h58 ((gb_shr hlt).mpr ((hT.2.2.2.1 j hlt).mpr z)))
        refine tb_iconst (0) (by decide) d_Mo_changedFor_65 rfl ?_
        refine tb_topI (y := bI (tF x j ≠ none)) hw.symm ?_
        refine tb_istore_3 d_Mo_changedFor_66 rfl (by decide) ?_
        refine tb_aload_0 d_Mo_changedFor_67 rfl ?_
        refine g_Mo_40 d_Mo_changedFor_68 rfl rfl (by first | exact hS.k rfl) ?_
        refine tb_topR (y := 201) (hS.mr 14 (by decide)) ?_
        refine tb_iload_1 d_Mo_changedFor_71 rfl ?_
        refine tb_iaload d_Mo_changedFor_72 rfl (by first | exact hS.k rfl) (by first | exact mo_in hS (c := 12) rfl (by omega) (by decide) | exact mo_in hS (c := 10) rfl (by omega) (by decide) | exact mo_in hS (c := 25) rfl (by omega) (by decide) | exact mo_in hS (c := 6) rfl (by omega) (by decide) | exact mo_in hS (c := 72) rfl (by omega) (by decide) | exact mo_in hS (c := 120) rfl (by omega) (by decide) | exact mo_in hS (c := 300) rfl (by omega) (by decide) | exact mo_in hS (c := 150) rfl (by omega) (by decide) | exact mo_in hS (c := 1800) rfl (by omega) (by decide)) ?_
        refine tb_topI (y := tAk x) (by rw [nI_clamp (show t < 2 ^ 31 by omega)]; exact hT.2.2.1) ?_
        refine tb_iload_2 d_Mo_changedFor_73 rfl ?_
        refine tb_ishr d_Mo_changedFor_74 rfl ?_
        refine tb_iconst (1) (by decide) d_Mo_changedFor_75 rfl ?_
        refine tb_iand d_Mo_changedFor_76 rfl ?_
        refine tb_iconst (1) (by decide) d_Mo_changedFor_77 rfl ?_
        refine tb_icmp_ne 101 d_Mo_changedFor_78 (by decide) rfl (fun h78 => ?_) (fun h78 => ?_)
        · have hno : ¬ chA x fs j := fun z => h78 ((gb_shr hlt).mpr ((bt_gb hlt).mp z.1))
          refine tb_iinc_2 (1) d_Mo_changedFor_101 rfl (by decide) (by decide) ?_
          refine tb_goto 41 d_Mo_changedFor_104 (by decide) ?_
          rw [nI_1]
          refine ih (12 - (j + 1)) (by omega) (j + 1) _ rfl (by omega) (fun g hg => ?_)
          by_cases c : g = j
          · rw [c]; exact hno
          · exact hall g (by omega)
        · have hb : bt (tAk x) j := (bt_gb hlt).mpr ((gb_shr hlt).mp h78)
          refine tb_iload_3 d_Mo_changedFor_81 rfl ?_
          refine tb_aload_0 d_Mo_changedFor_82 rfl ?_
          refine g_Mo_7 d_Mo_changedFor_83 rfl rfl (by first | exact hS.k rfl) ?_
          refine tb_topR (y := 191) (hS.mr 1 (by decide)) ?_
          refine tb_iload_2 d_Mo_changedFor_86 rfl ?_
          refine tb_iaload d_Mo_changedFor_87 rfl (by first | exact hS.k rfl) (by first | exact mo_in hS (c := 12) rfl (by omega) (by decide) | exact mo_in hS (c := 10) rfl (by omega) (by decide) | exact mo_in hS (c := 25) rfl (by omega) (by decide) | exact mo_in hS (c := 6) rfl (by omega) (by decide) | exact mo_in hS (c := 72) rfl (by omega) (by decide) | exact mo_in hS (c := 120) rfl (by omega) (by decide) | exact mo_in hS (c := 300) rfl (by omega) (by decide) | exact mo_in hS (c := 150) rfl (by omega) (by decide) | exact mo_in hS (c := 1800) rfl (by omega) (by decide)) ?_
          refine tb_topI (y := szV (fs j)) (by rw [nI_clamp (show j < 2 ^ 31 by omega)]; exact hF.sz hlt) ?_
          refine tb_if_lt 95 d_Mo_changedFor_88 (by decide) rfl (fun h88 => ?_) (fun h88 => ?_)
          · have hs : bI (fs j ≠ none) = 0 := bI_f (fun z => z ((sz_neg hle).mp h88))
            refine tb_iconst (0) (by decide) d_Mo_changedFor_95 rfl ?_
            refine tb_topI (y := bI (fs j ≠ none)) hs.symm ?_
            refine tb_icmp_eq 101 d_Mo_changedFor_96 (by decide) rfl (fun h96 => ?_) (fun h96 => ?_)
            · have hno : ¬ chA x fs j := fun z => z.2 (by
                have h96' : bI (tF x j ≠ none) = bI (fs j ≠ none) := h96
                by_cases c1 : tF x j = none
                · rw [bI_f (fun z => z c1)] at h96'
                  exact ⟨fun _ => Classical.not_not.mp (bI_0.mp h96'.symm), fun _ => c1⟩
                · rw [bI_t c1] at h96'
                  refine ⟨fun z => absurd z c1, fun z => ?_⟩
                  rw [bI_f (fun q => q z)] at h96'
                  exact absurd h96' (by decide))
              refine tb_iinc_2 (1) d_Mo_changedFor_101 rfl (by decide) (by decide) ?_
              refine tb_goto 41 d_Mo_changedFor_104 (by decide) ?_
              rw [nI_1]
              refine ih (12 - (j + 1)) (by omega) (j + 1) _ rfl (by omega) (fun g hg => ?_)
              by_cases c : g = j
              · rw [c]; exact hno
              · exact hall g (by omega)
            · have hyes : chA x fs j := ⟨hb, fun z => h96 (bI_iff (not_congr z))⟩
              refine tb_iload_2 d_Mo_changedFor_99 rfl ?_
              refine tb_ireturn d_Mo_changedFor_100 rfl (by first | rfl | assumption) ?_
              rw [chgF_a hr, fstI_of hlt hyes hall] at hQ
              exact hQ
          · have hs : bI (fs j ≠ none) = 1 := bI_t (fun z => h88 ((sz_neg hle).mpr z))
            refine tb_iconst (1) (by decide) d_Mo_changedFor_91 rfl ?_
            refine tb_goto 96 d_Mo_changedFor_92 (by decide) ?_
            refine tb_topI (y := bI (fs j ≠ none)) hs.symm ?_
            refine tb_icmp_eq 101 d_Mo_changedFor_96 (by decide) rfl (fun h96 => ?_) (fun h96 => ?_)
            · have hno : ¬ chA x fs j := fun z => z.2 (by
                have h96' : bI (tF x j ≠ none) = bI (fs j ≠ none) := h96
                by_cases c1 : tF x j = none
                · rw [bI_f (fun z => z c1)] at h96'
                  exact ⟨fun _ => Classical.not_not.mp (bI_0.mp h96'.symm), fun _ => c1⟩
                · rw [bI_t c1] at h96'
                  refine ⟨fun z => absurd z c1, fun z => ?_⟩
                  rw [bI_f (fun q => q z)] at h96'
                  exact absurd h96' (by decide))
              refine tb_iinc_2 (1) d_Mo_changedFor_101 rfl (by decide) (by decide) ?_
              refine tb_goto 41 d_Mo_changedFor_104 (by decide) ?_
              rw [nI_1]
              refine ih (12 - (j + 1)) (by omega) (j + 1) _ rfl (by omega) (fun g hg => ?_)
              by_cases c : g = j
              · rw [c]; exact hno
              · exact hall g (by omega)
            · have hyes : chA x fs j := ⟨hb, fun z => h96 (bI_iff (not_congr z))⟩
              refine tb_iload_2 d_Mo_changedFor_99 rfl ?_
              refine tb_ireturn d_Mo_changedFor_100 rfl (by first | rfl | assumption) ?_
              rw [chgF_a hr, fstI_of hlt hyes hall] at hQ
              exact hQ
      · have hw : bI (tF x j ≠ none) = 1 := bI_t ((hT.2.2.2.1 j hlt).mp ((gb_shr hlt).mp h58))
        refine tb_iconst (1) (by decide) d_Mo_changedFor_61 rfl ?_
        refine tb_goto 66 d_Mo_changedFor_62 (by decide) ?_
        refine tb_topI (y := bI (tF x j ≠ none)) hw.symm ?_
        refine tb_istore_3 d_Mo_changedFor_66 rfl (by decide) ?_
        refine tb_aload_0 d_Mo_changedFor_67 rfl ?_
        refine g_Mo_40 d_Mo_changedFor_68 rfl rfl (by first | exact hS.k rfl) ?_
        refine tb_topR (y := 201) (hS.mr 14 (by decide)) ?_
        refine tb_iload_1 d_Mo_changedFor_71 rfl ?_
        refine tb_iaload d_Mo_changedFor_72 rfl (by first | exact hS.k rfl) (by first | exact mo_in hS (c := 12) rfl (by omega) (by decide) | exact mo_in hS (c := 10) rfl (by omega) (by decide) | exact mo_in hS (c := 25) rfl (by omega) (by decide) | exact mo_in hS (c := 6) rfl (by omega) (by decide) | exact mo_in hS (c := 72) rfl (by omega) (by decide) | exact mo_in hS (c := 120) rfl (by omega) (by decide) | exact mo_in hS (c := 300) rfl (by omega) (by decide) | exact mo_in hS (c := 150) rfl (by omega) (by decide) | exact mo_in hS (c := 1800) rfl (by omega) (by decide)) ?_
        refine tb_topI (y := tAk x) (by rw [nI_clamp (show t < 2 ^ 31 by omega)]; exact hT.2.2.1) ?_
        refine tb_iload_2 d_Mo_changedFor_73 rfl ?_
        refine tb_ishr d_Mo_changedFor_74 rfl ?_
        refine tb_iconst (1) (by decide) d_Mo_changedFor_75 rfl ?_
        refine tb_iand d_Mo_changedFor_76 rfl ?_
        refine tb_iconst (1) (by decide) d_Mo_changedFor_77 rfl ?_
        refine tb_icmp_ne 101 d_Mo_changedFor_78 (by decide) rfl (fun h78 => ?_) (fun h78 => ?_)
        · have hno : ¬ chA x fs j := fun z => h78 ((gb_shr hlt).mpr ((bt_gb hlt).mp z.1))
          refine tb_iinc_2 (1) d_Mo_changedFor_101 rfl (by decide) (by decide) ?_
          refine tb_goto 41 d_Mo_changedFor_104 (by decide) ?_
          rw [nI_1]
          refine ih (12 - (j + 1)) (by omega) (j + 1) _ rfl (by omega) (fun g hg => ?_)
          by_cases c : g = j
          · rw [c]; exact hno
          · exact hall g (by omega)
        · have hb : bt (tAk x) j := (bt_gb hlt).mpr ((gb_shr hlt).mp h78)
          refine tb_iload_3 d_Mo_changedFor_81 rfl ?_
          refine tb_aload_0 d_Mo_changedFor_82 rfl ?_
          refine g_Mo_7 d_Mo_changedFor_83 rfl rfl (by first | exact hS.k rfl) ?_
          refine tb_topR (y := 191) (hS.mr 1 (by decide)) ?_
          refine tb_iload_2 d_Mo_changedFor_86 rfl ?_
          refine tb_iaload d_Mo_changedFor_87 rfl (by first | exact hS.k rfl) (by first | exact mo_in hS (c := 12) rfl (by omega) (by decide) | exact mo_in hS (c := 10) rfl (by omega) (by decide) | exact mo_in hS (c := 25) rfl (by omega) (by decide) | exact mo_in hS (c := 6) rfl (by omega) (by decide) | exact mo_in hS (c := 72) rfl (by omega) (by decide) | exact mo_in hS (c := 120) rfl (by omega) (by decide) | exact mo_in hS (c := 300) rfl (by omega) (by decide) | exact mo_in hS (c := 150) rfl (by omega) (by decide) | exact mo_in hS (c := 1800) rfl (by omega) (by decide)) ?_
          refine tb_topI (y := szV (fs j)) (by rw [nI_clamp (show j < 2 ^ 31 by omega)]; exact hF.sz hlt) ?_
          refine tb_if_lt 95 d_Mo_changedFor_88 (by decide) rfl (fun h88 => ?_) (fun h88 => ?_)
          · have hs : bI (fs j ≠ none) = 0 := bI_f (fun z => z ((sz_neg hle).mp h88))
            refine tb_iconst (0) (by decide) d_Mo_changedFor_95 rfl ?_
            refine tb_topI (y := bI (fs j ≠ none)) hs.symm ?_
            refine tb_icmp_eq 101 d_Mo_changedFor_96 (by decide) rfl (fun h96 => ?_) (fun h96 => ?_)
            · have hno : ¬ chA x fs j := fun z => z.2 (by
                have h96' : bI (tF x j ≠ none) = bI (fs j ≠ none) := h96
                by_cases c1 : tF x j = none
                · rw [bI_f (fun z => z c1)] at h96'
                  exact ⟨fun _ => Classical.not_not.mp (bI_0.mp h96'.symm), fun _ => c1⟩
                · rw [bI_t c1] at h96'
                  refine ⟨fun z => absurd z c1, fun z => ?_⟩
                  rw [bI_f (fun q => q z)] at h96'
                  exact absurd h96' (by decide))
              refine tb_iinc_2 (1) d_Mo_changedFor_101 rfl (by decide) (by decide) ?_
              refine tb_goto 41 d_Mo_changedFor_104 (by decide) ?_
              rw [nI_1]
              refine ih (12 - (j + 1)) (by omega) (j + 1) _ rfl (by omega) (fun g hg => ?_)
              by_cases c : g = j
              · rw [c]; exact hno
              · exact hall g (by omega)
            · have hyes : chA x fs j := ⟨hb, fun z => h96 (bI_iff (not_congr z))⟩
              refine tb_iload_2 d_Mo_changedFor_99 rfl ?_
              refine tb_ireturn d_Mo_changedFor_100 rfl (by first | rfl | assumption) ?_
              rw [chgF_a hr, fstI_of hlt hyes hall] at hQ
              exact hQ
          · have hs : bI (fs j ≠ none) = 1 := bI_t (fun z => h88 ((sz_neg hle).mpr z))
            refine tb_iconst (1) (by decide) d_Mo_changedFor_91 rfl ?_
            refine tb_goto 96 d_Mo_changedFor_92 (by decide) ?_
            refine tb_topI (y := bI (fs j ≠ none)) hs.symm ?_
            refine tb_icmp_eq 101 d_Mo_changedFor_96 (by decide) rfl (fun h96 => ?_) (fun h96 => ?_)
            · have hno : ¬ chA x fs j := fun z => z.2 (by
                have h96' : bI (tF x j ≠ none) = bI (fs j ≠ none) := h96
                by_cases c1 : tF x j = none
                · rw [bI_f (fun z => z c1)] at h96'
                  exact ⟨fun _ => Classical.not_not.mp (bI_0.mp h96'.symm), fun _ => c1⟩
                · rw [bI_t c1] at h96'
                  refine ⟨fun z => absurd z c1, fun z => ?_⟩
                  rw [bI_f (fun q => q z)] at h96'
                  exact absurd h96' (by decide))
              refine tb_iinc_2 (1) d_Mo_changedFor_101 rfl (by decide) (by decide) ?_
              refine tb_goto 41 d_Mo_changedFor_104 (by decide) ?_
              rw [nI_1]
              refine ih (12 - (j + 1)) (by omega) (j + 1) _ rfl (by omega) (fun g hg => ?_)
              by_cases c : g = j
              · rw [c]; exact hno
              · exact hall g (by omega)
            · have hyes : chA x fs j := ⟨hb, fun z => h96 (bI_iff (not_congr z))⟩
              refine tb_iload_2 d_Mo_changedFor_99 rfl ?_
              refine tb_ireturn d_Mo_changedFor_100 rfl (by first | rfl | assumption) ?_
              rw [chgF_a hr, fstI_of hlt hyes hall] at hQ
              exact hQ
theorem lp_Mo_chg1 (hG : tb_G E) (hS : Sh M) (hT : MTr M t x) (ht : t < 25) (hF : MFs M fs) {d rc rs : Nat} {Q : tb_O → tb_M → Prop} (hQ : Q (.inl (some (.inl (chgF x fs)))) M) : ∀ (m j : Nat) (l3 : tb_L), 12 - j = m → j ≤ 12 → (∀ g, g < j → ¬ chR x fs g) → tb_Wp E m_Mo_changedFor (d + 1) rc rs 2 [some (.inr 190), some (.inl (nI t)), some (.inl (nI j)), l3] [] M Q := by
  intro m
  induction m using Nat.strongRecOn with
  | ind m ih =>
    intro j l3 hm hj hall
    refine tb_iload_2 d_Mo_changedFor_2 rfl ?_
    refine tb_bipush (12) (by decide) d_Mo_changedFor_3 rfl ?_
    refine tb_icmp_ge 39 d_Mo_changedFor_5 (by decide) rfl (fun h5 => ?_) (fun h5 => ?_)
    · have hje : 12 ≤ j := (nI_leI (a := 12) (b := j) (by omega) (by omega)).mp h5
      refine tb_iconst (0) (by decide) d_Mo_changedFor_39 rfl ?_
      refine tb_istore_2 d_Mo_changedFor_40 rfl (by decide) ?_
      exact lp_Mo_chg2 hS hT ht hF (fun g hg => hall g (by omega)) hQ _ 0 _ rfl (Nat.zero_le _) (fun g hg => absurd hg (Nat.not_lt_zero _))
    · have hlt : j < 12 := Nat.lt_of_not_le (fun q => h5 ((nI_leI (a := 12) (b := j) (by omega) (by omega)).mpr q))
      refine tb_aload_0 d_Mo_changedFor_8 rfl ?_
      refine g_Mo_37 d_Mo_changedFor_9 rfl rfl (by first | exact hS.k rfl) ?_
      refine tb_topR (y := 200) (hS.mr 13 (by decide)) ?_
      refine tb_iload_1 d_Mo_changedFor_12 rfl ?_
      refine tb_iaload d_Mo_changedFor_13 rfl (by first | exact hS.k rfl) (by first | exact mo_in hS (c := 12) rfl (by omega) (by decide) | exact mo_in hS (c := 10) rfl (by omega) (by decide) | exact mo_in hS (c := 25) rfl (by omega) (by decide) | exact mo_in hS (c := 6) rfl (by omega) (by decide) | exact mo_in hS (c := 72) rfl (by omega) (by decide) | exact mo_in hS (c := 120) rfl (by omega) (by decide) | exact mo_in hS (c := 300) rfl (by omega) (by decide) | exact mo_in hS (c := 150) rfl (by omega) (by decide) | exact mo_in hS (c := 1800) rfl (by omega) (by decide)) ?_
      refine tb_topI (y := tRd x) (by rw [nI_clamp (show t < 2 ^ 31 by omega)]; exact hT.2.1) ?_
      refine tb_iload_2 d_Mo_changedFor_14 rfl ?_
      refine tb_ishr d_Mo_changedFor_15 rfl ?_
      refine tb_iconst (1) (by decide) d_Mo_changedFor_16 rfl ?_
      refine tb_iand d_Mo_changedFor_17 rfl ?_
      refine tb_iconst (1) (by decide) d_Mo_changedFor_18 rfl ?_
      refine tb_icmp_ne 33 d_Mo_changedFor_19 (by decide) rfl (fun h19 => ?_) (fun h19 => ?_)
      · have hno : ¬ chR x fs j := fun z => h19 ((gb_shr hlt).mpr ((bt_gb hlt).mp z.1))
        refine tb_iinc_2 (1) d_Mo_changedFor_33 rfl (by decide) (by decide) ?_
        refine tb_goto 2 d_Mo_changedFor_36 (by decide) ?_
        rw [nI_1]
        refine ih (12 - (j + 1)) (by omega) (j + 1) _ rfl (by omega) (fun g hg => ?_)
        by_cases c : g = j
        · rw [c]; exact hno
        · exact hall g (by omega)
      · have hb : bt (tRd x) j := (bt_gb hlt).mpr ((gb_shr hlt).mp h19)
        refine tb_aload_0 d_Mo_changedFor_22 rfl ?_
        refine tb_iload_1 d_Mo_changedFor_23 rfl ?_
        refine tb_iload_2 d_Mo_changedFor_24 rfl ?_
        refine tb_callVr c_Mo_182 d_Mo_changedFor_25 rfl rfl rfl (Nat.le_of_ble_eq_true rfl) (by first | exact hS.k rfl) (ok_Mo_asRead hG hS hT ht hF hlt d) ?_
        refine tb_if_ne 33 d_Mo_changedFor_28 (by decide) rfl (fun h28 => ?_) (fun h28 => ?_)
        · have hno : ¬ chR x fs j := fun z => z.2 (Classical.not_not.mp (fun q => h28 (bI_f q)))
          refine tb_iinc_2 (1) d_Mo_changedFor_33 rfl (by decide) (by decide) ?_
          refine tb_goto 2 d_Mo_changedFor_36 (by decide) ?_
          rw [nI_1]
          refine ih (12 - (j + 1)) (by omega) (j + 1) _ rfl (by omega) (fun g hg => ?_)
          by_cases c : g = j
          · rw [c]; exact hno
          · exact hall g (by omega)
        · have hyes : chR x fs j := ⟨hb, bI_0.mp h28⟩
          refine tb_iload_2 d_Mo_changedFor_31 rfl ?_
          refine tb_ireturn d_Mo_changedFor_32 rfl (by first | rfl | assumption) ?_
          rw [chgF_r hlt hyes hall] at hQ
          exact hQ
theorem ok_Mo_chg (hG : tb_G E) (hS : Sh M) (hT : MTr M t x) (ht : t < 25) (hF : MFs M fs) (d : Nat) : tb_Ret E m_Mo_changedFor (d + 1) [.inr (.inl 190), .inl (nI t)] M (some (.inl (chgF x fs))) M := by
  refine tb_okOf hG (by decide) rfl (Nat.le_of_ble_eq_true rfl) rfl ?_
  refine tb_iconst (0) (by decide) d_Mo_changedFor_0 rfl ?_
  refine tb_istore_2 d_Mo_changedFor_1 rfl (by decide) ?_
  exact lp_Mo_chg1 hG hS hT ht hF ⟨rfl, rfl⟩ _ 0 _ rfl (Nat.zero_le _) (fun g hg => absurd hg (Nat.not_lt_zero _))
theorem lp_Mo_fitting (hG : tb_G E) (hS : Sh M) (hSt : MSt M S) (hK : TxM M k tx) (hF : MFs M fs) {d rc rs : Nat} {Q : tb_O → tb_M → Prop} (hQ : Q (.inl (some (.inl (oI (fitIx S tx fs))))) M) : ∀ (j : Nat), j ≤ S.1 → (∀ i, j ≤ i → i < S.1 → ¬ (tT (S.2 i) = tx ∧ fitA (S.2 i) fs)) → tb_Wp E m_Mo_fitting (d + 2) rc rs 7 [some (.inr 190), some (.inl (nI k)), some (.inl (nI j - 1))] [] M Q := by
  have hc := hSt.2.1
  have hk := hK.1
  intro j
  induction j with
  | zero =>
    intro hj hall
    refine tb_iload_2 d_Mo_fitting_7 rfl ?_
    refine tb_if_lt 34 d_Mo_fitting_8 (by decide) rfl (fun h8 => ?_) (fun h8 => ?_)
    · have e : fitIx S tx fs = none := lastI_no _ (fun i hi => hall i (Nat.zero_le _) hi)
      rw [e] at hQ
      refine tb_iload_2 d_Mo_fitting_34 rfl ?_
      refine tb_ireturn d_Mo_fitting_35 rfl (by first | rfl | assumption) ?_
      exact hQ
    · exact absurd (by decide) h8
  | succ j ih =>
    intro hj hall
    rw [nI_pred]
    have hT := hSt.2.2 j (by omega)
    refine tb_iload_2 d_Mo_fitting_7 rfl ?_
    refine tb_if_lt 34 d_Mo_fitting_8 (by decide) rfl (fun h8 => ?_) (fun h8 => ?_)
    · exact absurd h8 (nI_pos (by omega))
    · refine tb_aload_0 d_Mo_fitting_11 rfl ?_
      refine tb_iload_2 d_Mo_fitting_12 rfl ?_
      refine tb_iload_1 d_Mo_fitting_13 rfl ?_
      refine tb_callVr c_Mo_179 d_Mo_fitting_14 rfl rfl rfl (Nat.le_of_ble_eq_true rfl) (by first | exact hS.k rfl) (ok_Mo_isOf hG hS hT (by omega) hK (d + 1)) ?_
      refine tb_if_eq 28 d_Mo_fitting_17 (by decide) rfl (fun h17 => ?_) (fun h17 => ?_)
      · have hno : ¬ (tT (S.2 j) = tx ∧ fitA (S.2 j) fs) := fun z => bI_0.mp h17 z.1
        refine tb_iinc_2 (-1) d_Mo_fitting_28 rfl (by decide) (by decide) ?_
        refine tb_goto 7 d_Mo_fitting_31 (by decide) ?_
        rw [show nI j + (-1) = nI j - 1 from (Int32.sub_eq_add_neg (nI j) 1).symm]
        refine ih (by omega) (fun i h1 h2 => ?_)
        by_cases c : i = j
        · rw [c]; exact hno
        · exact hall i (by omega) h2
      · have hof := Classical.not_not.mp (fun z => h17 (bI_f z))
        refine tb_aload_0 d_Mo_fitting_20 rfl ?_
        refine tb_iload_2 d_Mo_fitting_21 rfl ?_
        refine tb_callVr c_Mo_185 d_Mo_fitting_22 rfl rfl rfl (Nat.le_of_ble_eq_true rfl) (by first | exact hS.k rfl) (ok_Mo_chg hG hS hT (by omega) hF d) ?_
        refine tb_if_lt 34 d_Mo_fitting_25 (by decide) rfl (fun h25 => ?_) (fun h25 => ?_)
        · have e : fitIx S tx fs = some j := lastI_of _ ⟨by omega, ⟨hof, chgF_neg.mp h25⟩, fun i h1 h2 => hall i (by omega) h2⟩
          rw [e] at hQ
          refine tb_iload_2 d_Mo_fitting_34 rfl ?_
          refine tb_ireturn d_Mo_fitting_35 rfl (by first | rfl | assumption) ?_
          exact hQ
        · have hno : ¬ (tT (S.2 j) = tx ∧ fitA (S.2 j) fs) := fun z => h25 (chgF_neg.mpr z.2)
          refine tb_iinc_2 (-1) d_Mo_fitting_28 rfl (by decide) (by decide) ?_
          refine tb_goto 7 d_Mo_fitting_31 (by decide) ?_
          rw [show nI j + (-1) = nI j - 1 from (Int32.sub_eq_add_neg (nI j) 1).symm]
          refine ih (by omega) (fun i h1 h2 => ?_)
          by_cases c : i = j
          · rw [c]; exact hno
          · exact hall i (by omega) h2
theorem ok_Mo_fitting (hG : tb_G E) (hS : Sh M) (hSt : MSt M S) (hK : TxM M k tx) (hF : MFs M fs) (d : Nat) : tb_Ret E m_Mo_fitting (d + 2) [.inr (.inl 190), .inl (nI k)] M (some (.inl (oI (fitIx S tx fs)))) M := by
  refine tb_okOf hG (by decide) rfl (Nat.le_of_ble_eq_true rfl) rfl ?_
  refine tb_aload_0 d_Mo_fitting_0 rfl ?_
  refine g_Mo_176 d_Mo_fitting_1 rfl rfl (by first | exact hS.k rfl) ?_
  refine tb_topI hSt.1 ?_
  refine tb_iconst (1) (by decide) d_Mo_fitting_4 rfl ?_
  refine tb_isub d_Mo_fitting_5 rfl ?_
  refine tb_istore_2 d_Mo_fitting_6 rfl (by decide) ?_
  exact lp_Mo_fitting hG hS hSt hK hF ⟨rfl, rfl⟩ S.1 (Nat.le_refl _) (fun i h1 h2 => absurd h2 (by omega))
theorem ok_Mo_meets (hG : tb_G E) {z w : Int32} (hw : w = -1 ∨ ∃ f, f < 12 ∧ w = nI f) (d : Nat) : tb_Ret E m_Mo_meets d [.inr (.inl 190), .inl z, .inl w] M (some (.inl (bI (mee z w)))) M := by
  refine tb_okOf hG (by decide) rfl (Nat.le_of_ble_eq_true rfl) rfl ?_
  refine tb_iload_2 d_Mo_meets_0 rfl ?_
  refine tb_if_lt 17 d_Mo_meets_1 (by decide) rfl (fun h1 => ?_) (fun h1 => ?_)
  · rw [bI_f (fun q => by obtain ⟨f, hf, e, -⟩ := q; rw [e] at h1; exact nI_pos (by omega) h1)]
    refine tb_iconst (0) (by decide) d_Mo_meets_17 rfl ?_
    refine tb_ireturn d_Mo_meets_18 rfl (by first | rfl | assumption) ?_
    exact ⟨rfl, rfl⟩
  · obtain ⟨f, hf, rfl⟩ : ∃ f, f < 12 ∧ w = nI f := by
      rcases hw with q | q
      · rw [q] at h1; exact absurd (by decide) h1
      · exact q
    refine tb_iload_1 d_Mo_meets_4 rfl ?_
    refine tb_iload_2 d_Mo_meets_5 rfl ?_
    refine tb_ishr d_Mo_meets_6 rfl ?_
    refine tb_iconst (1) (by decide) d_Mo_meets_7 rfl ?_
    refine tb_iand d_Mo_meets_8 rfl ?_
    refine tb_iconst (1) (by decide) d_Mo_meets_9 rfl ?_
    refine tb_icmp_ne 17 d_Mo_meets_10 (by decide) rfl (fun h10 => ?_) (fun h10 => ?_)
    · rw [bI_f (fun q => by obtain ⟨g, hg, e, hb⟩ := q; have := (nI_eq (by omega) (by omega)).mp e; subst this; exact h10 ((gb_shr hf).mpr ((bt_gb hf).mp hb)))]
      refine tb_iconst (0) (by decide) d_Mo_meets_17 rfl ?_
      refine tb_ireturn d_Mo_meets_18 rfl (by first | rfl | assumption) ?_
      exact ⟨rfl, rfl⟩
    · rw [bI_t ⟨f, hf, rfl, (bt_gb hf).mpr ((gb_shr hf).mp h10)⟩]
      refine tb_iconst (1) (by decide) d_Mo_meets_13 rfl ?_
      refine tb_goto 18 d_Mo_meets_14 (by decide) ?_
      refine tb_ireturn d_Mo_meets_18 rfl (by first | rfl | assumption) ?_
      exact ⟨rfl, rfl⟩
theorem ok_Mo_kindOf (hG : tb_G E) (hS : Sh M) {e f : Nat} (he : e < 10) (hf : f < 10) (hE : MDe M e (D e)) (hFd : MDe M f (D f)) (h1 : ¬ dO (D e) = 0) (h2 : ¬ dO (D f) = 0) (d : Nat) : tb_Ret E m_Mo_kindOf (d + 1) [.inr (.inl 190), .inl (nI e), .inl (nI f)] M (some (.inl (nI (kdA D e f)))) M := by
  obtain ⟨we, te, a1, a2, a3, a4⟩ := hE.2.2.2.2.2.2 h1
  obtain ⟨wf, tf, b1, b2, b3, b4⟩ := hFd.2.2.2.2.2.2 h2
  have wn : ∀ {w : Int32}, (w = -1 ∨ ∃ f, f < 12 ∧ w = nI f) → (w < 0 ↔ w = -1) := fun hw => by
    rcases hw with q | ⟨g, hg, q⟩
    · rw [q]; exact ⟨fun _ => rfl, fun _ => by decide⟩
    · rw [q]; exact ⟨fun z => absurd z (nI_pos (by omega)), fun z => absurd z (nI_nm1 (by omega))⟩
  unfold kdA
  refine tb_okOf hG (by decide) rfl (Nat.le_of_ble_eq_true rfl) rfl ?_
  refine tb_aload_0 d_Mo_kindOf_0 rfl ?_
  refine g_Mo_83 d_Mo_kindOf_1 rfl rfl (by first | exact hS.k rfl) ?_
  refine tb_topR (y := 215) (hS.mr 33 (by decide)) ?_
  refine tb_iload_1 d_Mo_kindOf_4 rfl ?_
  refine tb_iaload d_Mo_kindOf_5 rfl (by first | exact hS.k rfl) (by first | exact mo_in hS (c := 12) rfl (by omega) (by decide) | exact mo_in hS (c := 10) rfl (by omega) (by decide) | exact mo_in hS (c := 25) rfl (by omega) (by decide) | exact mo_in hS (c := 6) rfl (by omega) (by decide) | exact mo_in hS (c := 72) rfl (by omega) (by decide) | exact mo_in hS (c := 120) rfl (by omega) (by decide) | exact mo_in hS (c := 300) rfl (by omega) (by decide) | exact mo_in hS (c := 150) rfl (by omega) (by decide) | exact mo_in hS (c := 1800) rfl (by omega) (by decide)) ?_
  refine tb_topI (y := dWr (D e)) (by rw [nI_clamp (show e < 2 ^ 31 by omega)]; exact a3) ?_
  refine tb_if_lt 26 d_Mo_kindOf_6 (by decide) rfl (fun h6 => ?_) (fun h6 => ?_)
  · have n1 : ¬ kd1 (D e) (D f) := fun z => z.1 ((wn we).mp h6)
    rw [if_neg n1]
    refine tb_aload_0 d_Mo_kindOf_26 rfl ?_
    refine tb_aload_0 d_Mo_kindOf_27 rfl ?_
    refine g_Mo_77 d_Mo_kindOf_28 rfl rfl (by first | exact hS.k rfl) ?_
    refine tb_topR (y := 213) (hS.mr 31 (by decide)) ?_
    refine tb_iload_1 d_Mo_kindOf_31 rfl ?_
    refine tb_iaload d_Mo_kindOf_32 rfl (by first | exact hS.k rfl) (by first | exact mo_in hS (c := 12) rfl (by omega) (by decide) | exact mo_in hS (c := 10) rfl (by omega) (by decide) | exact mo_in hS (c := 25) rfl (by omega) (by decide) | exact mo_in hS (c := 6) rfl (by omega) (by decide) | exact mo_in hS (c := 72) rfl (by omega) (by decide) | exact mo_in hS (c := 120) rfl (by omega) (by decide) | exact mo_in hS (c := 300) rfl (by omega) (by decide) | exact mo_in hS (c := 150) rfl (by omega) (by decide) | exact mo_in hS (c := 1800) rfl (by omega) (by decide)) ?_
    refine tb_topI (y := dRd (D e)) (by rw [nI_clamp (show e < 2 ^ 31 by omega)]; exact a1) ?_
    refine tb_aload_0 d_Mo_kindOf_33 rfl ?_
    refine g_Mo_83 d_Mo_kindOf_34 rfl rfl (by first | exact hS.k rfl) ?_
    refine tb_topR (y := 215) (hS.mr 33 (by decide)) ?_
    refine tb_iload_2 d_Mo_kindOf_37 rfl ?_
    refine tb_iaload d_Mo_kindOf_38 rfl (by first | exact hS.k rfl) (by first | exact mo_in hS (c := 12) rfl (by omega) (by decide) | exact mo_in hS (c := 10) rfl (by omega) (by decide) | exact mo_in hS (c := 25) rfl (by omega) (by decide) | exact mo_in hS (c := 6) rfl (by omega) (by decide) | exact mo_in hS (c := 72) rfl (by omega) (by decide) | exact mo_in hS (c := 120) rfl (by omega) (by decide) | exact mo_in hS (c := 300) rfl (by omega) (by decide) | exact mo_in hS (c := 150) rfl (by omega) (by decide) | exact mo_in hS (c := 1800) rfl (by omega) (by decide)) ?_
    refine tb_topI (y := dWr (D f)) (by rw [nI_clamp (show f < 2 ^ 31 by omega)]; exact b3) ?_
    refine tb_callVr c_Mo_209 d_Mo_kindOf_39 rfl rfl rfl (Nat.le_of_ble_eq_true rfl) (by first | exact hS.k rfl) (ok_Mo_meets hG wf d) ?_
    refine tb_if_ne 73 d_Mo_kindOf_42 (by decide) rfl (fun h42 => ?_) (fun h42 => ?_)
    · rw [if_pos (show kd2 (D e) (D f) from Or.inl (Classical.not_not.mp (fun z => h42 (bI_f z))))]
      refine tb_iconst (2) (by decide) d_Mo_kindOf_73 rfl ?_
      refine tb_ireturn d_Mo_kindOf_74 rfl (by first | rfl | assumption) ?_
      exact ⟨rfl, rfl⟩
    · refine tb_aload_0 d_Mo_kindOf_45 rfl ?_
      refine tb_aload_0 d_Mo_kindOf_46 rfl ?_
      refine g_Mo_80 d_Mo_kindOf_47 rfl rfl (by first | exact hS.k rfl) ?_
      refine tb_topR (y := 214) (hS.mr 32 (by decide)) ?_
      refine tb_iload_1 d_Mo_kindOf_50 rfl ?_
      refine tb_iaload d_Mo_kindOf_51 rfl (by first | exact hS.k rfl) (by first | exact mo_in hS (c := 12) rfl (by omega) (by decide) | exact mo_in hS (c := 10) rfl (by omega) (by decide) | exact mo_in hS (c := 25) rfl (by omega) (by decide) | exact mo_in hS (c := 6) rfl (by omega) (by decide) | exact mo_in hS (c := 72) rfl (by omega) (by decide) | exact mo_in hS (c := 120) rfl (by omega) (by decide) | exact mo_in hS (c := 300) rfl (by omega) (by decide) | exact mo_in hS (c := 150) rfl (by omega) (by decide) | exact mo_in hS (c := 1800) rfl (by omega) (by decide)) ?_
      refine tb_topI (y := dAk (D e)) (by rw [nI_clamp (show e < 2 ^ 31 by omega)]; exact a2) ?_
      refine tb_aload_0 d_Mo_kindOf_52 rfl ?_
      refine g_Mo_83 d_Mo_kindOf_53 rfl rfl (by first | exact hS.k rfl) ?_
      refine tb_topR (y := 215) (hS.mr 33 (by decide)) ?_
      refine tb_iload_2 d_Mo_kindOf_56 rfl ?_
      refine tb_iaload d_Mo_kindOf_57 rfl (by first | exact hS.k rfl) (by first | exact mo_in hS (c := 12) rfl (by omega) (by decide) | exact mo_in hS (c := 10) rfl (by omega) (by decide) | exact mo_in hS (c := 25) rfl (by omega) (by decide) | exact mo_in hS (c := 6) rfl (by omega) (by decide) | exact mo_in hS (c := 72) rfl (by omega) (by decide) | exact mo_in hS (c := 120) rfl (by omega) (by decide) | exact mo_in hS (c := 300) rfl (by omega) (by decide) | exact mo_in hS (c := 150) rfl (by omega) (by decide) | exact mo_in hS (c := 1800) rfl (by omega) (by decide)) ?_
      refine tb_topI (y := dWr (D f)) (by rw [nI_clamp (show f < 2 ^ 31 by omega)]; exact b3) ?_
      refine tb_callVr c_Mo_209 d_Mo_kindOf_58 rfl rfl rfl (Nat.le_of_ble_eq_true rfl) (by first | exact hS.k rfl) (ok_Mo_meets hG wf d) ?_
      refine tb_if_eq 75 d_Mo_kindOf_61 (by decide) rfl (fun h61 => ?_) (fun h61 => ?_)
      · have n2 : ¬ kd2 (D e) (D f) := fun z => by
          rcases z with z | z
          · exact bI_0.mp h42 z
          · exact bI_0.mp h61 z.1
        rw [if_neg n2]
        refine tb_iload_1 d_Mo_kindOf_75 rfl ?_
        refine tb_iload_2 d_Mo_kindOf_76 rfl ?_
        refine tb_icmp_le 131 d_Mo_kindOf_77 (by decide) rfl (fun h77 => ?_) (fun h77 => ?_)
        · rw [if_neg (show ¬ (f < e ∧ kd2 (D f) (D e)) from fun z => nI_ge (a := f) (b := e) z.1 (by omega) h77)]
          refine tb_iconst (0) (by decide) d_Mo_kindOf_131 rfl ?_
          refine tb_ireturn d_Mo_kindOf_132 rfl (by first | rfl | assumption) ?_
          exact ⟨rfl, rfl⟩
        · have hfe : f < e := Nat.lt_of_not_le (fun z => h77 (nI_le z (by omega)))
          refine tb_aload_0 d_Mo_kindOf_80 rfl ?_
          refine tb_aload_0 d_Mo_kindOf_81 rfl ?_
          refine g_Mo_77 d_Mo_kindOf_82 rfl rfl (by first | exact hS.k rfl) ?_
          refine tb_topR (y := 213) (hS.mr 31 (by decide)) ?_
          refine tb_iload_2 d_Mo_kindOf_85 rfl ?_
          refine tb_iaload d_Mo_kindOf_86 rfl (by first | exact hS.k rfl) (by first | exact mo_in hS (c := 12) rfl (by omega) (by decide) | exact mo_in hS (c := 10) rfl (by omega) (by decide) | exact mo_in hS (c := 25) rfl (by omega) (by decide) | exact mo_in hS (c := 6) rfl (by omega) (by decide) | exact mo_in hS (c := 72) rfl (by omega) (by decide) | exact mo_in hS (c := 120) rfl (by omega) (by decide) | exact mo_in hS (c := 300) rfl (by omega) (by decide) | exact mo_in hS (c := 150) rfl (by omega) (by decide) | exact mo_in hS (c := 1800) rfl (by omega) (by decide)) ?_
          refine tb_topI (y := dRd (D f)) (by rw [nI_clamp (show f < 2 ^ 31 by omega)]; exact b1) ?_
          refine tb_aload_0 d_Mo_kindOf_87 rfl ?_
          refine g_Mo_83 d_Mo_kindOf_88 rfl rfl (by first | exact hS.k rfl) ?_
          refine tb_topR (y := 215) (hS.mr 33 (by decide)) ?_
          refine tb_iload_1 d_Mo_kindOf_91 rfl ?_
          refine tb_iaload d_Mo_kindOf_92 rfl (by first | exact hS.k rfl) (by first | exact mo_in hS (c := 12) rfl (by omega) (by decide) | exact mo_in hS (c := 10) rfl (by omega) (by decide) | exact mo_in hS (c := 25) rfl (by omega) (by decide) | exact mo_in hS (c := 6) rfl (by omega) (by decide) | exact mo_in hS (c := 72) rfl (by omega) (by decide) | exact mo_in hS (c := 120) rfl (by omega) (by decide) | exact mo_in hS (c := 300) rfl (by omega) (by decide) | exact mo_in hS (c := 150) rfl (by omega) (by decide) | exact mo_in hS (c := 1800) rfl (by omega) (by decide)) ?_
          refine tb_topI (y := dWr (D e)) (by rw [nI_clamp (show e < 2 ^ 31 by omega)]; exact a3) ?_
          refine tb_callVr c_Mo_209 d_Mo_kindOf_93 rfl rfl rfl (Nat.le_of_ble_eq_true rfl) (by first | exact hS.k rfl) (ok_Mo_meets hG we d) ?_
          refine tb_if_ne 127 d_Mo_kindOf_96 (by decide) rfl (fun h96 => ?_) (fun h96 => ?_)
          · rw [if_pos (show f < e ∧ kd2 (D f) (D e) from ⟨hfe, Or.inl (Classical.not_not.mp (fun z => h96 (bI_f z)))⟩)]
            refine tb_iconst (3) (by decide) d_Mo_kindOf_127 rfl ?_
            refine tb_goto 132 d_Mo_kindOf_128 (by decide) ?_
            refine tb_ireturn d_Mo_kindOf_132 rfl (by first | rfl | assumption) ?_
            exact ⟨rfl, rfl⟩
          · refine tb_aload_0 d_Mo_kindOf_99 rfl ?_
            refine tb_aload_0 d_Mo_kindOf_100 rfl ?_
            refine g_Mo_80 d_Mo_kindOf_101 rfl rfl (by first | exact hS.k rfl) ?_
            refine tb_topR (y := 214) (hS.mr 32 (by decide)) ?_
            refine tb_iload_2 d_Mo_kindOf_104 rfl ?_
            refine tb_iaload d_Mo_kindOf_105 rfl (by first | exact hS.k rfl) (by first | exact mo_in hS (c := 12) rfl (by omega) (by decide) | exact mo_in hS (c := 10) rfl (by omega) (by decide) | exact mo_in hS (c := 25) rfl (by omega) (by decide) | exact mo_in hS (c := 6) rfl (by omega) (by decide) | exact mo_in hS (c := 72) rfl (by omega) (by decide) | exact mo_in hS (c := 120) rfl (by omega) (by decide) | exact mo_in hS (c := 300) rfl (by omega) (by decide) | exact mo_in hS (c := 150) rfl (by omega) (by decide) | exact mo_in hS (c := 1800) rfl (by omega) (by decide)) ?_
            refine tb_topI (y := dAk (D f)) (by rw [nI_clamp (show f < 2 ^ 31 by omega)]; exact b2) ?_
            refine tb_aload_0 d_Mo_kindOf_106 rfl ?_
            refine g_Mo_83 d_Mo_kindOf_107 rfl rfl (by first | exact hS.k rfl) ?_
            refine tb_topR (y := 215) (hS.mr 33 (by decide)) ?_
            refine tb_iload_1 d_Mo_kindOf_110 rfl ?_
            refine tb_iaload d_Mo_kindOf_111 rfl (by first | exact hS.k rfl) (by first | exact mo_in hS (c := 12) rfl (by omega) (by decide) | exact mo_in hS (c := 10) rfl (by omega) (by decide) | exact mo_in hS (c := 25) rfl (by omega) (by decide) | exact mo_in hS (c := 6) rfl (by omega) (by decide) | exact mo_in hS (c := 72) rfl (by omega) (by decide) | exact mo_in hS (c := 120) rfl (by omega) (by decide) | exact mo_in hS (c := 300) rfl (by omega) (by decide) | exact mo_in hS (c := 150) rfl (by omega) (by decide) | exact mo_in hS (c := 1800) rfl (by omega) (by decide)) ?_
            refine tb_topI (y := dWr (D e)) (by rw [nI_clamp (show e < 2 ^ 31 by omega)]; exact a3) ?_
            refine tb_callVr c_Mo_209 d_Mo_kindOf_112 rfl rfl rfl (Nat.le_of_ble_eq_true rfl) (by first | exact hS.k rfl) (ok_Mo_meets hG we d) ?_
            refine tb_if_eq 131 d_Mo_kindOf_115 (by decide) rfl (fun h115 => ?_) (fun h115 => ?_)
            · rw [if_neg (show ¬ (f < e ∧ kd2 (D f) (D e)) from fun z => by
                rcases z.2 with z | z
                · exact bI_0.mp h96 z
                · exact bI_0.mp h115 z.1)]
              refine tb_iconst (0) (by decide) d_Mo_kindOf_131 rfl ?_
              refine tb_ireturn d_Mo_kindOf_132 rfl (by first | rfl | assumption) ?_
              exact ⟨rfl, rfl⟩
            · refine tb_aload_0 d_Mo_kindOf_118 rfl ?_
              refine g_Mo_86 d_Mo_kindOf_119 rfl rfl (by first | exact hS.k rfl) ?_
              refine tb_topR (y := 216) (hS.mr 34 (by decide)) ?_
              refine tb_iload_1 d_Mo_kindOf_122 rfl ?_
              refine tb_zaload d_Mo_kindOf_123 rfl (by first | exact hS.k rfl) (by first | exact mo_in hS (c := 12) rfl (by omega) (by decide) | exact mo_in hS (c := 10) rfl (by omega) (by decide) | exact mo_in hS (c := 25) rfl (by omega) (by decide) | exact mo_in hS (c := 6) rfl (by omega) (by decide) | exact mo_in hS (c := 72) rfl (by omega) (by decide) | exact mo_in hS (c := 120) rfl (by omega) (by decide) | exact mo_in hS (c := 300) rfl (by omega) (by decide) | exact mo_in hS (c := 150) rfl (by omega) (by decide) | exact mo_in hS (c := 1800) rfl (by omega) (by decide)) ?_
              refine tb_topI (y := dTu (D e)) (by rw [nI_clamp (show e < 2 ^ 31 by omega)]; exact a4) ?_
              refine tb_if_eq 131 d_Mo_kindOf_124 (by decide) rfl (fun h124 => ?_) (fun h124 => ?_)
              · rw [if_neg (show ¬ (f < e ∧ kd2 (D f) (D e)) from fun z => by
                  rcases z.2 with z | z
                  · exact bI_0.mp h96 z
                  · exact z.2 h124)]
                refine tb_iconst (0) (by decide) d_Mo_kindOf_131 rfl ?_
                refine tb_ireturn d_Mo_kindOf_132 rfl (by first | rfl | assumption) ?_
                exact ⟨rfl, rfl⟩
              · rw [if_pos (show f < e ∧ kd2 (D f) (D e) from ⟨hfe, Or.inr ⟨Classical.not_not.mp (fun z => h115 (bI_f z)), h124⟩⟩)]
                refine tb_iconst (3) (by decide) d_Mo_kindOf_127 rfl ?_
                refine tb_goto 132 d_Mo_kindOf_128 (by decide) ?_
                refine tb_ireturn d_Mo_kindOf_132 rfl (by first | rfl | assumption) ?_
                exact ⟨rfl, rfl⟩
      · refine tb_aload_0 d_Mo_kindOf_64 rfl ?_
        refine g_Mo_86 d_Mo_kindOf_65 rfl rfl (by first | exact hS.k rfl) ?_
        refine tb_topR (y := 216) (hS.mr 34 (by decide)) ?_
        refine tb_iload_2 d_Mo_kindOf_68 rfl ?_
        refine tb_zaload d_Mo_kindOf_69 rfl (by first | exact hS.k rfl) (by first | exact mo_in hS (c := 12) rfl (by omega) (by decide) | exact mo_in hS (c := 10) rfl (by omega) (by decide) | exact mo_in hS (c := 25) rfl (by omega) (by decide) | exact mo_in hS (c := 6) rfl (by omega) (by decide) | exact mo_in hS (c := 72) rfl (by omega) (by decide) | exact mo_in hS (c := 120) rfl (by omega) (by decide) | exact mo_in hS (c := 300) rfl (by omega) (by decide) | exact mo_in hS (c := 150) rfl (by omega) (by decide) | exact mo_in hS (c := 1800) rfl (by omega) (by decide)) ?_
        refine tb_topI (y := dTu (D f)) (by rw [nI_clamp (show f < 2 ^ 31 by omega)]; exact b4) ?_
        refine tb_if_eq 75 d_Mo_kindOf_70 (by decide) rfl (fun h70 => ?_) (fun h70 => ?_)
        · have n2 : ¬ kd2 (D e) (D f) := fun z => by
            rcases z with z | z
            · exact bI_0.mp h42 z
            · exact z.2 h70
          rw [if_neg n2]
          refine tb_iload_1 d_Mo_kindOf_75 rfl ?_
          refine tb_iload_2 d_Mo_kindOf_76 rfl ?_
          refine tb_icmp_le 131 d_Mo_kindOf_77 (by decide) rfl (fun h77 => ?_) (fun h77 => ?_)
          · rw [if_neg (show ¬ (f < e ∧ kd2 (D f) (D e)) from fun z => nI_ge (a := f) (b := e) z.1 (by omega) h77)]
            refine tb_iconst (0) (by decide) d_Mo_kindOf_131 rfl ?_
            refine tb_ireturn d_Mo_kindOf_132 rfl (by first | rfl | assumption) ?_
            exact ⟨rfl, rfl⟩
          · have hfe : f < e := Nat.lt_of_not_le (fun z => h77 (nI_le z (by omega)))
            refine tb_aload_0 d_Mo_kindOf_80 rfl ?_
            refine tb_aload_0 d_Mo_kindOf_81 rfl ?_
            refine g_Mo_77 d_Mo_kindOf_82 rfl rfl (by first | exact hS.k rfl) ?_
            refine tb_topR (y := 213) (hS.mr 31 (by decide)) ?_
            refine tb_iload_2 d_Mo_kindOf_85 rfl ?_
            refine tb_iaload d_Mo_kindOf_86 rfl (by first | exact hS.k rfl) (by first | exact mo_in hS (c := 12) rfl (by omega) (by decide) | exact mo_in hS (c := 10) rfl (by omega) (by decide) | exact mo_in hS (c := 25) rfl (by omega) (by decide) | exact mo_in hS (c := 6) rfl (by omega) (by decide) | exact mo_in hS (c := 72) rfl (by omega) (by decide) | exact mo_in hS (c := 120) rfl (by omega) (by decide) | exact mo_in hS (c := 300) rfl (by omega) (by decide) | exact mo_in hS (c := 150) rfl (by omega) (by decide) | exact mo_in hS (c := 1800) rfl (by omega) (by decide)) ?_
            refine tb_topI (y := dRd (D f)) (by rw [nI_clamp (show f < 2 ^ 31 by omega)]; exact b1) ?_
            refine tb_aload_0 d_Mo_kindOf_87 rfl ?_
            refine g_Mo_83 d_Mo_kindOf_88 rfl rfl (by first | exact hS.k rfl) ?_
            refine tb_topR (y := 215) (hS.mr 33 (by decide)) ?_
            refine tb_iload_1 d_Mo_kindOf_91 rfl ?_
            refine tb_iaload d_Mo_kindOf_92 rfl (by first | exact hS.k rfl) (by first | exact mo_in hS (c := 12) rfl (by omega) (by decide) | exact mo_in hS (c := 10) rfl (by omega) (by decide) | exact mo_in hS (c := 25) rfl (by omega) (by decide) | exact mo_in hS (c := 6) rfl (by omega) (by decide) | exact mo_in hS (c := 72) rfl (by omega) (by decide) | exact mo_in hS (c := 120) rfl (by omega) (by decide) | exact mo_in hS (c := 300) rfl (by omega) (by decide) | exact mo_in hS (c := 150) rfl (by omega) (by decide) | exact mo_in hS (c := 1800) rfl (by omega) (by decide)) ?_
            refine tb_topI (y := dWr (D e)) (by rw [nI_clamp (show e < 2 ^ 31 by omega)]; exact a3) ?_
            refine tb_callVr c_Mo_209 d_Mo_kindOf_93 rfl rfl rfl (Nat.le_of_ble_eq_true rfl) (by first | exact hS.k rfl) (ok_Mo_meets hG we d) ?_
            refine tb_if_ne 127 d_Mo_kindOf_96 (by decide) rfl (fun h96 => ?_) (fun h96 => ?_)
            · rw [if_pos (show f < e ∧ kd2 (D f) (D e) from ⟨hfe, Or.inl (Classical.not_not.mp (fun z => h96 (bI_f z)))⟩)]
              refine tb_iconst (3) (by decide) d_Mo_kindOf_127 rfl ?_
              refine tb_goto 132 d_Mo_kindOf_128 (by decide) ?_
              refine tb_ireturn d_Mo_kindOf_132 rfl (by first | rfl | assumption) ?_
              exact ⟨rfl, rfl⟩
            · refine tb_aload_0 d_Mo_kindOf_99 rfl ?_
              refine tb_aload_0 d_Mo_kindOf_100 rfl ?_
              refine g_Mo_80 d_Mo_kindOf_101 rfl rfl (by first | exact hS.k rfl) ?_
              refine tb_topR (y := 214) (hS.mr 32 (by decide)) ?_
              refine tb_iload_2 d_Mo_kindOf_104 rfl ?_
              refine tb_iaload d_Mo_kindOf_105 rfl (by first | exact hS.k rfl) (by first | exact mo_in hS (c := 12) rfl (by omega) (by decide) | exact mo_in hS (c := 10) rfl (by omega) (by decide) | exact mo_in hS (c := 25) rfl (by omega) (by decide) | exact mo_in hS (c := 6) rfl (by omega) (by decide) | exact mo_in hS (c := 72) rfl (by omega) (by decide) | exact mo_in hS (c := 120) rfl (by omega) (by decide) | exact mo_in hS (c := 300) rfl (by omega) (by decide) | exact mo_in hS (c := 150) rfl (by omega) (by decide) | exact mo_in hS (c := 1800) rfl (by omega) (by decide)) ?_
              refine tb_topI (y := dAk (D f)) (by rw [nI_clamp (show f < 2 ^ 31 by omega)]; exact b2) ?_
              refine tb_aload_0 d_Mo_kindOf_106 rfl ?_
              refine g_Mo_83 d_Mo_kindOf_107 rfl rfl (by first | exact hS.k rfl) ?_
              refine tb_topR (y := 215) (hS.mr 33 (by decide)) ?_
              refine tb_iload_1 d_Mo_kindOf_110 rfl ?_
              refine tb_iaload d_Mo_kindOf_111 rfl (by first | exact hS.k rfl) (by first | exact mo_in hS (c := 12) rfl (by omega) (by decide) | exact mo_in hS (c := 10) rfl (by omega) (by decide) | exact mo_in hS (c := 25) rfl (by omega) (by decide) | exact mo_in hS (c := 6) rfl (by omega) (by decide) | exact mo_in hS (c := 72) rfl (by omega) (by decide) | exact mo_in hS (c := 120) rfl (by omega) (by decide) | exact mo_in hS (c := 300) rfl (by omega) (by decide) | exact mo_in hS (c := 150) rfl (by omega) (by decide) | exact mo_in hS (c := 1800) rfl (by omega) (by decide)) ?_
              refine tb_topI (y := dWr (D e)) (by rw [nI_clamp (show e < 2 ^ 31 by omega)]; exact a3) ?_
              refine tb_callVr c_Mo_209 d_Mo_kindOf_112 rfl rfl rfl (Nat.le_of_ble_eq_true rfl) (by first | exact hS.k rfl) (ok_Mo_meets hG we d) ?_
              refine tb_if_eq 131 d_Mo_kindOf_115 (by decide) rfl (fun h115 => ?_) (fun h115 => ?_)
              · rw [if_neg (show ¬ (f < e ∧ kd2 (D f) (D e)) from fun z => by
                  rcases z.2 with z | z
                  · exact bI_0.mp h96 z
                  · exact bI_0.mp h115 z.1)]
                refine tb_iconst (0) (by decide) d_Mo_kindOf_131 rfl ?_
                refine tb_ireturn d_Mo_kindOf_132 rfl (by first | rfl | assumption) ?_
                exact ⟨rfl, rfl⟩
              · refine tb_aload_0 d_Mo_kindOf_118 rfl ?_
                refine g_Mo_86 d_Mo_kindOf_119 rfl rfl (by first | exact hS.k rfl) ?_
                refine tb_topR (y := 216) (hS.mr 34 (by decide)) ?_
                refine tb_iload_1 d_Mo_kindOf_122 rfl ?_
                refine tb_zaload d_Mo_kindOf_123 rfl (by first | exact hS.k rfl) (by first | exact mo_in hS (c := 12) rfl (by omega) (by decide) | exact mo_in hS (c := 10) rfl (by omega) (by decide) | exact mo_in hS (c := 25) rfl (by omega) (by decide) | exact mo_in hS (c := 6) rfl (by omega) (by decide) | exact mo_in hS (c := 72) rfl (by omega) (by decide) | exact mo_in hS (c := 120) rfl (by omega) (by decide) | exact mo_in hS (c := 300) rfl (by omega) (by decide) | exact mo_in hS (c := 150) rfl (by omega) (by decide) | exact mo_in hS (c := 1800) rfl (by omega) (by decide)) ?_
                refine tb_topI (y := dTu (D e)) (by rw [nI_clamp (show e < 2 ^ 31 by omega)]; exact a4) ?_
                refine tb_if_eq 131 d_Mo_kindOf_124 (by decide) rfl (fun h124 => ?_) (fun h124 => ?_)
                · rw [if_neg (show ¬ (f < e ∧ kd2 (D f) (D e)) from fun z => by
                    rcases z.2 with z | z
                    · exact bI_0.mp h96 z
                    · exact z.2 h124)]
                  refine tb_iconst (0) (by decide) d_Mo_kindOf_131 rfl ?_
                  refine tb_ireturn d_Mo_kindOf_132 rfl (by first | rfl | assumption) ?_
                  exact ⟨rfl, rfl⟩
                · rw [if_pos (show f < e ∧ kd2 (D f) (D e) from ⟨hfe, Or.inr ⟨Classical.not_not.mp (fun z => h115 (bI_f z)), h124⟩⟩)]
                  refine tb_iconst (3) (by decide) d_Mo_kindOf_127 rfl ?_
                  refine tb_goto 132 d_Mo_kindOf_128 (by decide) ?_
                  refine tb_ireturn d_Mo_kindOf_132 rfl (by first | rfl | assumption) ?_
                  exact ⟨rfl, rfl⟩
        · rw [if_pos (show kd2 (D e) (D f) from Or.inr ⟨Classical.not_not.mp (fun z => h61 (bI_f z)), h70⟩)]
          refine tb_iconst (2) (by decide) d_Mo_kindOf_73 rfl ?_
          refine tb_ireturn d_Mo_kindOf_74 rfl (by first | rfl | assumption) ?_
          exact ⟨rfl, rfl⟩
  · refine tb_aload_0 d_Mo_kindOf_9 rfl ?_
    refine g_Mo_83 d_Mo_kindOf_10 rfl rfl (by first | exact hS.k rfl) ?_
    refine tb_topR (y := 215) (hS.mr 33 (by decide)) ?_
    refine tb_iload_1 d_Mo_kindOf_13 rfl ?_
    refine tb_iaload d_Mo_kindOf_14 rfl (by first | exact hS.k rfl) (by first | exact mo_in hS (c := 12) rfl (by omega) (by decide) | exact mo_in hS (c := 10) rfl (by omega) (by decide) | exact mo_in hS (c := 25) rfl (by omega) (by decide) | exact mo_in hS (c := 6) rfl (by omega) (by decide) | exact mo_in hS (c := 72) rfl (by omega) (by decide) | exact mo_in hS (c := 120) rfl (by omega) (by decide) | exact mo_in hS (c := 300) rfl (by omega) (by decide) | exact mo_in hS (c := 150) rfl (by omega) (by decide) | exact mo_in hS (c := 1800) rfl (by omega) (by decide)) ?_
    refine tb_topI (y := dWr (D e)) (by rw [nI_clamp (show e < 2 ^ 31 by omega)]; exact a3) ?_
    refine tb_aload_0 d_Mo_kindOf_15 rfl ?_
    refine g_Mo_83 d_Mo_kindOf_16 rfl rfl (by first | exact hS.k rfl) ?_
    refine tb_topR (y := 215) (hS.mr 33 (by decide)) ?_
    refine tb_iload_2 d_Mo_kindOf_19 rfl ?_
    refine tb_iaload d_Mo_kindOf_20 rfl (by first | exact hS.k rfl) (by first | exact mo_in hS (c := 12) rfl (by omega) (by decide) | exact mo_in hS (c := 10) rfl (by omega) (by decide) | exact mo_in hS (c := 25) rfl (by omega) (by decide) | exact mo_in hS (c := 6) rfl (by omega) (by decide) | exact mo_in hS (c := 72) rfl (by omega) (by decide) | exact mo_in hS (c := 120) rfl (by omega) (by decide) | exact mo_in hS (c := 300) rfl (by omega) (by decide) | exact mo_in hS (c := 150) rfl (by omega) (by decide) | exact mo_in hS (c := 1800) rfl (by omega) (by decide)) ?_
    refine tb_topI (y := dWr (D f)) (by rw [nI_clamp (show f < 2 ^ 31 by omega)]; exact b3) ?_
    refine tb_icmp_ne 26 d_Mo_kindOf_21 (by decide) rfl (fun h21 => ?_) (fun h21 => ?_)
    · have n1 : ¬ kd1 (D e) (D f) := fun z => h21 z.2
      rw [if_neg n1]
      refine tb_aload_0 d_Mo_kindOf_26 rfl ?_
      refine tb_aload_0 d_Mo_kindOf_27 rfl ?_
      refine g_Mo_77 d_Mo_kindOf_28 rfl rfl (by first | exact hS.k rfl) ?_
      refine tb_topR (y := 213) (hS.mr 31 (by decide)) ?_
      refine tb_iload_1 d_Mo_kindOf_31 rfl ?_
      refine tb_iaload d_Mo_kindOf_32 rfl (by first | exact hS.k rfl) (by first | exact mo_in hS (c := 12) rfl (by omega) (by decide) | exact mo_in hS (c := 10) rfl (by omega) (by decide) | exact mo_in hS (c := 25) rfl (by omega) (by decide) | exact mo_in hS (c := 6) rfl (by omega) (by decide) | exact mo_in hS (c := 72) rfl (by omega) (by decide) | exact mo_in hS (c := 120) rfl (by omega) (by decide) | exact mo_in hS (c := 300) rfl (by omega) (by decide) | exact mo_in hS (c := 150) rfl (by omega) (by decide) | exact mo_in hS (c := 1800) rfl (by omega) (by decide)) ?_
      refine tb_topI (y := dRd (D e)) (by rw [nI_clamp (show e < 2 ^ 31 by omega)]; exact a1) ?_
      refine tb_aload_0 d_Mo_kindOf_33 rfl ?_
      refine g_Mo_83 d_Mo_kindOf_34 rfl rfl (by first | exact hS.k rfl) ?_
      refine tb_topR (y := 215) (hS.mr 33 (by decide)) ?_
      refine tb_iload_2 d_Mo_kindOf_37 rfl ?_
      refine tb_iaload d_Mo_kindOf_38 rfl (by first | exact hS.k rfl) (by first | exact mo_in hS (c := 12) rfl (by omega) (by decide) | exact mo_in hS (c := 10) rfl (by omega) (by decide) | exact mo_in hS (c := 25) rfl (by omega) (by decide) | exact mo_in hS (c := 6) rfl (by omega) (by decide) | exact mo_in hS (c := 72) rfl (by omega) (by decide) | exact mo_in hS (c := 120) rfl (by omega) (by decide) | exact mo_in hS (c := 300) rfl (by omega) (by decide) | exact mo_in hS (c := 150) rfl (by omega) (by decide) | exact mo_in hS (c := 1800) rfl (by omega) (by decide)) ?_
      refine tb_topI (y := dWr (D f)) (by rw [nI_clamp (show f < 2 ^ 31 by omega)]; exact b3) ?_
      refine tb_callVr c_Mo_209 d_Mo_kindOf_39 rfl rfl rfl (Nat.le_of_ble_eq_true rfl) (by first | exact hS.k rfl) (ok_Mo_meets hG wf d) ?_
      refine tb_if_ne 73 d_Mo_kindOf_42 (by decide) rfl (fun h42 => ?_) (fun h42 => ?_)
      · rw [if_pos (show kd2 (D e) (D f) from Or.inl (Classical.not_not.mp (fun z => h42 (bI_f z))))]
        refine tb_iconst (2) (by decide) d_Mo_kindOf_73 rfl ?_
        refine tb_ireturn d_Mo_kindOf_74 rfl (by first | rfl | assumption) ?_
        exact ⟨rfl, rfl⟩
      · refine tb_aload_0 d_Mo_kindOf_45 rfl ?_
        refine tb_aload_0 d_Mo_kindOf_46 rfl ?_
        refine g_Mo_80 d_Mo_kindOf_47 rfl rfl (by first | exact hS.k rfl) ?_
        refine tb_topR (y := 214) (hS.mr 32 (by decide)) ?_
        refine tb_iload_1 d_Mo_kindOf_50 rfl ?_
        refine tb_iaload d_Mo_kindOf_51 rfl (by first | exact hS.k rfl) (by first | exact mo_in hS (c := 12) rfl (by omega) (by decide) | exact mo_in hS (c := 10) rfl (by omega) (by decide) | exact mo_in hS (c := 25) rfl (by omega) (by decide) | exact mo_in hS (c := 6) rfl (by omega) (by decide) | exact mo_in hS (c := 72) rfl (by omega) (by decide) | exact mo_in hS (c := 120) rfl (by omega) (by decide) | exact mo_in hS (c := 300) rfl (by omega) (by decide) | exact mo_in hS (c := 150) rfl (by omega) (by decide) | exact mo_in hS (c := 1800) rfl (by omega) (by decide)) ?_
        refine tb_topI (y := dAk (D e)) (by rw [nI_clamp (show e < 2 ^ 31 by omega)]; exact a2) ?_
        refine tb_aload_0 d_Mo_kindOf_52 rfl ?_
        refine g_Mo_83 d_Mo_kindOf_53 rfl rfl (by first | exact hS.k rfl) ?_
        refine tb_topR (y := 215) (hS.mr 33 (by decide)) ?_
        refine tb_iload_2 d_Mo_kindOf_56 rfl ?_
        refine tb_iaload d_Mo_kindOf_57 rfl (by first | exact hS.k rfl) (by first | exact mo_in hS (c := 12) rfl (by omega) (by decide) | exact mo_in hS (c := 10) rfl (by omega) (by decide) | exact mo_in hS (c := 25) rfl (by omega) (by decide) | exact mo_in hS (c := 6) rfl (by omega) (by decide) | exact mo_in hS (c := 72) rfl (by omega) (by decide) | exact mo_in hS (c := 120) rfl (by omega) (by decide) | exact mo_in hS (c := 300) rfl (by omega) (by decide) | exact mo_in hS (c := 150) rfl (by omega) (by decide) | exact mo_in hS (c := 1800) rfl (by omega) (by decide)) ?_
        refine tb_topI (y := dWr (D f)) (by rw [nI_clamp (show f < 2 ^ 31 by omega)]; exact b3) ?_
        refine tb_callVr c_Mo_209 d_Mo_kindOf_58 rfl rfl rfl (Nat.le_of_ble_eq_true rfl) (by first | exact hS.k rfl) (ok_Mo_meets hG wf d) ?_
        refine tb_if_eq 75 d_Mo_kindOf_61 (by decide) rfl (fun h61 => ?_) (fun h61 => ?_)
        · have n2 : ¬ kd2 (D e) (D f) := fun z => by
            rcases z with z | z
            · exact bI_0.mp h42 z
            · exact bI_0.mp h61 z.1
          rw [if_neg n2]
          refine tb_iload_1 d_Mo_kindOf_75 rfl ?_
          refine tb_iload_2 d_Mo_kindOf_76 rfl ?_
          refine tb_icmp_le 131 d_Mo_kindOf_77 (by decide) rfl (fun h77 => ?_) (fun h77 => ?_)
          · rw [if_neg (show ¬ (f < e ∧ kd2 (D f) (D e)) from fun z => nI_ge (a := f) (b := e) z.1 (by omega) h77)]
            refine tb_iconst (0) (by decide) d_Mo_kindOf_131 rfl ?_
            refine tb_ireturn d_Mo_kindOf_132 rfl (by first | rfl | assumption) ?_
            exact ⟨rfl, rfl⟩
          · have hfe : f < e := Nat.lt_of_not_le (fun z => h77 (nI_le z (by omega)))
            refine tb_aload_0 d_Mo_kindOf_80 rfl ?_
            refine tb_aload_0 d_Mo_kindOf_81 rfl ?_
            refine g_Mo_77 d_Mo_kindOf_82 rfl rfl (by first | exact hS.k rfl) ?_
            refine tb_topR (y := 213) (hS.mr 31 (by decide)) ?_
            refine tb_iload_2 d_Mo_kindOf_85 rfl ?_
            refine tb_iaload d_Mo_kindOf_86 rfl (by first | exact hS.k rfl) (by first | exact mo_in hS (c := 12) rfl (by omega) (by decide) | exact mo_in hS (c := 10) rfl (by omega) (by decide) | exact mo_in hS (c := 25) rfl (by omega) (by decide) | exact mo_in hS (c := 6) rfl (by omega) (by decide) | exact mo_in hS (c := 72) rfl (by omega) (by decide) | exact mo_in hS (c := 120) rfl (by omega) (by decide) | exact mo_in hS (c := 300) rfl (by omega) (by decide) | exact mo_in hS (c := 150) rfl (by omega) (by decide) | exact mo_in hS (c := 1800) rfl (by omega) (by decide)) ?_
            refine tb_topI (y := dRd (D f)) (by rw [nI_clamp (show f < 2 ^ 31 by omega)]; exact b1) ?_
            refine tb_aload_0 d_Mo_kindOf_87 rfl ?_
            refine g_Mo_83 d_Mo_kindOf_88 rfl rfl (by first | exact hS.k rfl) ?_
            refine tb_topR (y := 215) (hS.mr 33 (by decide)) ?_
            refine tb_iload_1 d_Mo_kindOf_91 rfl ?_
            refine tb_iaload d_Mo_kindOf_92 rfl (by first | exact hS.k rfl) (by first | exact mo_in hS (c := 12) rfl (by omega) (by decide) | exact mo_in hS (c := 10) rfl (by omega) (by decide) | exact mo_in hS (c := 25) rfl (by omega) (by decide) | exact mo_in hS (c := 6) rfl (by omega) (by decide) | exact mo_in hS (c := 72) rfl (by omega) (by decide) | exact mo_in hS (c := 120) rfl (by omega) (by decide) | exact mo_in hS (c := 300) rfl (by omega) (by decide) | exact mo_in hS (c := 150) rfl (by omega) (by decide) | exact mo_in hS (c := 1800) rfl (by omega) (by decide)) ?_
            refine tb_topI (y := dWr (D e)) (by rw [nI_clamp (show e < 2 ^ 31 by omega)]; exact a3) ?_
            refine tb_callVr c_Mo_209 d_Mo_kindOf_93 rfl rfl rfl (Nat.le_of_ble_eq_true rfl) (by first | exact hS.k rfl) (ok_Mo_meets hG we d) ?_
            refine tb_if_ne 127 d_Mo_kindOf_96 (by decide) rfl (fun h96 => ?_) (fun h96 => ?_)
            · rw [if_pos (show f < e ∧ kd2 (D f) (D e) from ⟨hfe, Or.inl (Classical.not_not.mp (fun z => h96 (bI_f z)))⟩)]
              refine tb_iconst (3) (by decide) d_Mo_kindOf_127 rfl ?_
              refine tb_goto 132 d_Mo_kindOf_128 (by decide) ?_
              refine tb_ireturn d_Mo_kindOf_132 rfl (by first | rfl | assumption) ?_
              exact ⟨rfl, rfl⟩
            · refine tb_aload_0 d_Mo_kindOf_99 rfl ?_
              refine tb_aload_0 d_Mo_kindOf_100 rfl ?_
              refine g_Mo_80 d_Mo_kindOf_101 rfl rfl (by first | exact hS.k rfl) ?_
              refine tb_topR (y := 214) (hS.mr 32 (by decide)) ?_
              refine tb_iload_2 d_Mo_kindOf_104 rfl ?_
              refine tb_iaload d_Mo_kindOf_105 rfl (by first | exact hS.k rfl) (by first | exact mo_in hS (c := 12) rfl (by omega) (by decide) | exact mo_in hS (c := 10) rfl (by omega) (by decide) | exact mo_in hS (c := 25) rfl (by omega) (by decide) | exact mo_in hS (c := 6) rfl (by omega) (by decide) | exact mo_in hS (c := 72) rfl (by omega) (by decide) | exact mo_in hS (c := 120) rfl (by omega) (by decide) | exact mo_in hS (c := 300) rfl (by omega) (by decide) | exact mo_in hS (c := 150) rfl (by omega) (by decide) | exact mo_in hS (c := 1800) rfl (by omega) (by decide)) ?_
              refine tb_topI (y := dAk (D f)) (by rw [nI_clamp (show f < 2 ^ 31 by omega)]; exact b2) ?_
              refine tb_aload_0 d_Mo_kindOf_106 rfl ?_
              refine g_Mo_83 d_Mo_kindOf_107 rfl rfl (by first | exact hS.k rfl) ?_
              refine tb_topR (y := 215) (hS.mr 33 (by decide)) ?_
              refine tb_iload_1 d_Mo_kindOf_110 rfl ?_
              refine tb_iaload d_Mo_kindOf_111 rfl (by first | exact hS.k rfl) (by first | exact mo_in hS (c := 12) rfl (by omega) (by decide) | exact mo_in hS (c := 10) rfl (by omega) (by decide) | exact mo_in hS (c := 25) rfl (by omega) (by decide) | exact mo_in hS (c := 6) rfl (by omega) (by decide) | exact mo_in hS (c := 72) rfl (by omega) (by decide) | exact mo_in hS (c := 120) rfl (by omega) (by decide) | exact mo_in hS (c := 300) rfl (by omega) (by decide) | exact mo_in hS (c := 150) rfl (by omega) (by decide) | exact mo_in hS (c := 1800) rfl (by omega) (by decide)) ?_
              refine tb_topI (y := dWr (D e)) (by rw [nI_clamp (show e < 2 ^ 31 by omega)]; exact a3) ?_
              refine tb_callVr c_Mo_209 d_Mo_kindOf_112 rfl rfl rfl (Nat.le_of_ble_eq_true rfl) (by first | exact hS.k rfl) (ok_Mo_meets hG we d) ?_
              refine tb_if_eq 131 d_Mo_kindOf_115 (by decide) rfl (fun h115 => ?_) (fun h115 => ?_)
              · rw [if_neg (show ¬ (f < e ∧ kd2 (D f) (D e)) from fun z => by
                  rcases z.2 with z | z
                  · exact bI_0.mp h96 z
                  · exact bI_0.mp h115 z.1)]
                refine tb_iconst (0) (by decide) d_Mo_kindOf_131 rfl ?_
                refine tb_ireturn d_Mo_kindOf_132 rfl (by first | rfl | assumption) ?_
                exact ⟨rfl, rfl⟩
              · refine tb_aload_0 d_Mo_kindOf_118 rfl ?_
                refine g_Mo_86 d_Mo_kindOf_119 rfl rfl (by first | exact hS.k rfl) ?_
                refine tb_topR (y := 216) (hS.mr 34 (by decide)) ?_
                refine tb_iload_1 d_Mo_kindOf_122 rfl ?_
                refine tb_zaload d_Mo_kindOf_123 rfl (by first | exact hS.k rfl) (by first | exact mo_in hS (c := 12) rfl (by omega) (by decide) | exact mo_in hS (c := 10) rfl (by omega) (by decide) | exact mo_in hS (c := 25) rfl (by omega) (by decide) | exact mo_in hS (c := 6) rfl (by omega) (by decide) | exact mo_in hS (c := 72) rfl (by omega) (by decide) | exact mo_in hS (c := 120) rfl (by omega) (by decide) | exact mo_in hS (c := 300) rfl (by omega) (by decide) | exact mo_in hS (c := 150) rfl (by omega) (by decide) | exact mo_in hS (c := 1800) rfl (by omega) (by decide)) ?_
                refine tb_topI (y := dTu (D e)) (by rw [nI_clamp (show e < 2 ^ 31 by omega)]; exact a4) ?_
                refine tb_if_eq 131 d_Mo_kindOf_124 (by decide) rfl (fun h124 => ?_) (fun h124 => ?_)
                · rw [if_neg (show ¬ (f < e ∧ kd2 (D f) (D e)) from fun z => by
                    rcases z.2 with z | z
                    · exact bI_0.mp h96 z
                    · exact z.2 h124)]
                  refine tb_iconst (0) (by decide) d_Mo_kindOf_131 rfl ?_
                  refine tb_ireturn d_Mo_kindOf_132 rfl (by first | rfl | assumption) ?_
                  exact ⟨rfl, rfl⟩
                · rw [if_pos (show f < e ∧ kd2 (D f) (D e) from ⟨hfe, Or.inr ⟨Classical.not_not.mp (fun z => h115 (bI_f z)), h124⟩⟩)]
                  refine tb_iconst (3) (by decide) d_Mo_kindOf_127 rfl ?_
                  refine tb_goto 132 d_Mo_kindOf_128 (by decide) ?_
                  refine tb_ireturn d_Mo_kindOf_132 rfl (by first | rfl | assumption) ?_
                  exact ⟨rfl, rfl⟩
        · refine tb_aload_0 d_Mo_kindOf_64 rfl ?_
          refine g_Mo_86 d_Mo_kindOf_65 rfl rfl (by first | exact hS.k rfl) ?_
          refine tb_topR (y := 216) (hS.mr 34 (by decide)) ?_
          refine tb_iload_2 d_Mo_kindOf_68 rfl ?_
          refine tb_zaload d_Mo_kindOf_69 rfl (by first | exact hS.k rfl) (by first | exact mo_in hS (c := 12) rfl (by omega) (by decide) | exact mo_in hS (c := 10) rfl (by omega) (by decide) | exact mo_in hS (c := 25) rfl (by omega) (by decide) | exact mo_in hS (c := 6) rfl (by omega) (by decide) | exact mo_in hS (c := 72) rfl (by omega) (by decide) | exact mo_in hS (c := 120) rfl (by omega) (by decide) | exact mo_in hS (c := 300) rfl (by omega) (by decide) | exact mo_in hS (c := 150) rfl (by omega) (by decide) | exact mo_in hS (c := 1800) rfl (by omega) (by decide)) ?_
          refine tb_topI (y := dTu (D f)) (by rw [nI_clamp (show f < 2 ^ 31 by omega)]; exact b4) ?_
          refine tb_if_eq 75 d_Mo_kindOf_70 (by decide) rfl (fun h70 => ?_) (fun h70 => ?_)
          · have n2 : ¬ kd2 (D e) (D f) := fun z => by
              rcases z with z | z
              · exact bI_0.mp h42 z
              · exact z.2 h70
            rw [if_neg n2]
            refine tb_iload_1 d_Mo_kindOf_75 rfl ?_
            refine tb_iload_2 d_Mo_kindOf_76 rfl ?_
            refine tb_icmp_le 131 d_Mo_kindOf_77 (by decide) rfl (fun h77 => ?_) (fun h77 => ?_)
            · rw [if_neg (show ¬ (f < e ∧ kd2 (D f) (D e)) from fun z => nI_ge (a := f) (b := e) z.1 (by omega) h77)]
              refine tb_iconst (0) (by decide) d_Mo_kindOf_131 rfl ?_
              refine tb_ireturn d_Mo_kindOf_132 rfl (by first | rfl | assumption) ?_
              exact ⟨rfl, rfl⟩
            · have hfe : f < e := Nat.lt_of_not_le (fun z => h77 (nI_le z (by omega)))
              refine tb_aload_0 d_Mo_kindOf_80 rfl ?_
              refine tb_aload_0 d_Mo_kindOf_81 rfl ?_
              refine g_Mo_77 d_Mo_kindOf_82 rfl rfl (by first | exact hS.k rfl) ?_
              refine tb_topR (y := 213) (hS.mr 31 (by decide)) ?_
              refine tb_iload_2 d_Mo_kindOf_85 rfl ?_
              refine tb_iaload d_Mo_kindOf_86 rfl (by first | exact hS.k rfl) (by first | exact mo_in hS (c := 12) rfl (by omega) (by decide) | exact mo_in hS (c := 10) rfl (by omega) (by decide) | exact mo_in hS (c := 25) rfl (by omega) (by decide) | exact mo_in hS (c := 6) rfl (by omega) (by decide) | exact mo_in hS (c := 72) rfl (by omega) (by decide) | exact mo_in hS (c := 120) rfl (by omega) (by decide) | exact mo_in hS (c := 300) rfl (by omega) (by decide) | exact mo_in hS (c := 150) rfl (by omega) (by decide) | exact mo_in hS (c := 1800) rfl (by omega) (by decide)) ?_
              refine tb_topI (y := dRd (D f)) (by rw [nI_clamp (show f < 2 ^ 31 by omega)]; exact b1) ?_
              refine tb_aload_0 d_Mo_kindOf_87 rfl ?_
              refine g_Mo_83 d_Mo_kindOf_88 rfl rfl (by first | exact hS.k rfl) ?_
              refine tb_topR (y := 215) (hS.mr 33 (by decide)) ?_
              refine tb_iload_1 d_Mo_kindOf_91 rfl ?_
              refine tb_iaload d_Mo_kindOf_92 rfl (by first | exact hS.k rfl) (by first | exact mo_in hS (c := 12) rfl (by omega) (by decide) | exact mo_in hS (c := 10) rfl (by omega) (by decide) | exact mo_in hS (c := 25) rfl (by omega) (by decide) | exact mo_in hS (c := 6) rfl (by omega) (by decide) | exact mo_in hS (c := 72) rfl (by omega) (by decide) | exact mo_in hS (c := 120) rfl (by omega) (by decide) | exact mo_in hS (c := 300) rfl (by omega) (by decide) | exact mo_in hS (c := 150) rfl (by omega) (by decide) | exact mo_in hS (c := 1800) rfl (by omega) (by decide)) ?_
              refine tb_topI (y := dWr (D e)) (by rw [nI_clamp (show e < 2 ^ 31 by omega)]; exact a3) ?_
              refine tb_callVr c_Mo_209 d_Mo_kindOf_93 rfl rfl rfl (Nat.le_of_ble_eq_true rfl) (by first | exact hS.k rfl) (ok_Mo_meets hG we d) ?_
              refine tb_if_ne 127 d_Mo_kindOf_96 (by decide) rfl (fun h96 => ?_) (fun h96 => ?_)
              · rw [if_pos (show f < e ∧ kd2 (D f) (D e) from ⟨hfe, Or.inl (Classical.not_not.mp (fun z => h96 (bI_f z)))⟩)]
                refine tb_iconst (3) (by decide) d_Mo_kindOf_127 rfl ?_
                refine tb_goto 132 d_Mo_kindOf_128 (by decide) ?_
                refine tb_ireturn d_Mo_kindOf_132 rfl (by first | rfl | assumption) ?_
                exact ⟨rfl, rfl⟩
              · refine tb_aload_0 d_Mo_kindOf_99 rfl ?_
                refine tb_aload_0 d_Mo_kindOf_100 rfl ?_
                refine g_Mo_80 d_Mo_kindOf_101 rfl rfl (by first | exact hS.k rfl) ?_
                refine tb_topR (y := 214) (hS.mr 32 (by decide)) ?_
                refine tb_iload_2 d_Mo_kindOf_104 rfl ?_
                refine tb_iaload d_Mo_kindOf_105 rfl (by first | exact hS.k rfl) (by first | exact mo_in hS (c := 12) rfl (by omega) (by decide) | exact mo_in hS (c := 10) rfl (by omega) (by decide) | exact mo_in hS (c := 25) rfl (by omega) (by decide) | exact mo_in hS (c := 6) rfl (by omega) (by decide) | exact mo_in hS (c := 72) rfl (by omega) (by decide) | exact mo_in hS (c := 120) rfl (by omega) (by decide) | exact mo_in hS (c := 300) rfl (by omega) (by decide) | exact mo_in hS (c := 150) rfl (by omega) (by decide) | exact mo_in hS (c := 1800) rfl (by omega) (by decide)) ?_
                refine tb_topI (y := dAk (D f)) (by rw [nI_clamp (show f < 2 ^ 31 by omega)]; exact b2) ?_
                refine tb_aload_0 d_Mo_kindOf_106 rfl ?_
                refine g_Mo_83 d_Mo_kindOf_107 rfl rfl (by first | exact hS.k rfl) ?_
                refine tb_topR (y := 215) (hS.mr 33 (by decide)) ?_
                refine tb_iload_1 d_Mo_kindOf_110 rfl ?_
                refine tb_iaload d_Mo_kindOf_111 rfl (by first | exact hS.k rfl) (by first | exact mo_in hS (c := 12) rfl (by omega) (by decide) | exact mo_in hS (c := 10) rfl (by omega) (by decide) | exact mo_in hS (c := 25) rfl (by omega) (by decide) | exact mo_in hS (c := 6) rfl (by omega) (by decide) | exact mo_in hS (c := 72) rfl (by omega) (by decide) | exact mo_in hS (c := 120) rfl (by omega) (by decide) | exact mo_in hS (c := 300) rfl (by omega) (by decide) | exact mo_in hS (c := 150) rfl (by omega) (by decide) | exact mo_in hS (c := 1800) rfl (by omega) (by decide)) ?_
                refine tb_topI (y := dWr (D e)) (by rw [nI_clamp (show e < 2 ^ 31 by omega)]; exact a3) ?_
                refine tb_callVr c_Mo_209 d_Mo_kindOf_112 rfl rfl rfl (Nat.le_of_ble_eq_true rfl) (by first | exact hS.k rfl) (ok_Mo_meets hG we d) ?_
                refine tb_if_eq 131 d_Mo_kindOf_115 (by decide) rfl (fun h115 => ?_) (fun h115 => ?_)
                · rw [if_neg (show ¬ (f < e ∧ kd2 (D f) (D e)) from fun z => by
                    rcases z.2 with z | z
                    · exact bI_0.mp h96 z
                    · exact bI_0.mp h115 z.1)]
                  refine tb_iconst (0) (by decide) d_Mo_kindOf_131 rfl ?_
                  refine tb_ireturn d_Mo_kindOf_132 rfl (by first | rfl | assumption) ?_
                  exact ⟨rfl, rfl⟩
                · refine tb_aload_0 d_Mo_kindOf_118 rfl ?_
                  refine g_Mo_86 d_Mo_kindOf_119 rfl rfl (by first | exact hS.k rfl) ?_
                  refine tb_topR (y := 216) (hS.mr 34 (by decide)) ?_
                  refine tb_iload_1 d_Mo_kindOf_122 rfl ?_
                  refine tb_zaload d_Mo_kindOf_123 rfl (by first | exact hS.k rfl) (by first | exact mo_in hS (c := 12) rfl (by omega) (by decide) | exact mo_in hS (c := 10) rfl (by omega) (by decide) | exact mo_in hS (c := 25) rfl (by omega) (by decide) | exact mo_in hS (c := 6) rfl (by omega) (by decide) | exact mo_in hS (c := 72) rfl (by omega) (by decide) | exact mo_in hS (c := 120) rfl (by omega) (by decide) | exact mo_in hS (c := 300) rfl (by omega) (by decide) | exact mo_in hS (c := 150) rfl (by omega) (by decide) | exact mo_in hS (c := 1800) rfl (by omega) (by decide)) ?_
                  refine tb_topI (y := dTu (D e)) (by rw [nI_clamp (show e < 2 ^ 31 by omega)]; exact a4) ?_
                  refine tb_if_eq 131 d_Mo_kindOf_124 (by decide) rfl (fun h124 => ?_) (fun h124 => ?_)
                  · rw [if_neg (show ¬ (f < e ∧ kd2 (D f) (D e)) from fun z => by
                      rcases z.2 with z | z
                      · exact bI_0.mp h96 z
                      · exact z.2 h124)]
                    refine tb_iconst (0) (by decide) d_Mo_kindOf_131 rfl ?_
                    refine tb_ireturn d_Mo_kindOf_132 rfl (by first | rfl | assumption) ?_
                    exact ⟨rfl, rfl⟩
                  · rw [if_pos (show f < e ∧ kd2 (D f) (D e) from ⟨hfe, Or.inr ⟨Classical.not_not.mp (fun z => h115 (bI_f z)), h124⟩⟩)]
                    refine tb_iconst (3) (by decide) d_Mo_kindOf_127 rfl ?_
                    refine tb_goto 132 d_Mo_kindOf_128 (by decide) ?_
                    refine tb_ireturn d_Mo_kindOf_132 rfl (by first | rfl | assumption) ?_
                    exact ⟨rfl, rfl⟩
          · rw [if_pos (show kd2 (D e) (D f) from Or.inr ⟨Classical.not_not.mp (fun z => h61 (bI_f z)), h70⟩)]
            refine tb_iconst (2) (by decide) d_Mo_kindOf_73 rfl ?_
            refine tb_ireturn d_Mo_kindOf_74 rfl (by first | rfl | assumption) ?_
            exact ⟨rfl, rfl⟩
    · rw [if_pos (show kd1 (D e) (D f) from ⟨fun z => h6 ((wn we).mpr z), h21⟩)]
      refine tb_iconst (1) (by decide) d_Mo_kindOf_24 rfl ?_
      refine tb_ireturn d_Mo_kindOf_25 rfl (by first | rfl | assumption) ?_
      exact ⟨rfl, rfl⟩
end Mo9
