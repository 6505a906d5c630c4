/-! The reference: drop. -/
def DrQ (M M1 : tb_M) (k a e : Nat) : Prop := On M M1 (fun q => q = 196 ∨ q = 197) ∧ (∀ i, tb_I M1 196 i = if k ≤ i ∧ i < a then tb_I M 196 (i + 1) else tb_I M 196 i) ∧ ∀ p, tb_I M1 197 p = if 12 * k ≤ p ∧ p < e then tb_I M 197 (p + 12) else tb_I M 197 p
section Mo16
variable {E : tb_E} {M M1 : tb_M} {g : Sg} {k n : Nat}
theorem lp_Mo_drop_in (hS : Sh M) {j : Nat} (hkj : k ≤ j) (hj : j + 1 < 10) {d rc rs : Nat} {Q : tb_O → tb_M → Prop} (hQ : ∀ M1 l3, DrQ M M1 k (j + 1) (12 * (j + 1)) → tb_Wp E m_Mo_drop d rc rs 88 [some (.inr 190), some (.inl (nI k)), some (.inl (nI j)), l3] [] M1 Q) : ∀ (m i : Nat), 12 - i = m → i ≤ 12 → ∀ M1, DrQ M M1 k (j + 1) (12 * j + i) → tb_Wp E m_Mo_drop d rc rs 51 [some (.inr 190), some (.inl (nI k)), some (.inl (nI j)), some (.inl (nI i))] [] M1 Q := by
  intro m
  induction m using Nat.strongRecOn with
  | ind m ih =>
    intro i hm hi M1 hW
    have hS1 := hW.1.sh hS
    refine tb_iload_3 d_Mo_drop_51 rfl ?_
    refine tb_bipush (12) (by decide) d_Mo_drop_52 rfl ?_
    refine tb_icmp_ge 88 d_Mo_drop_54 (by decide) rfl (fun h54 => ?_) (fun h54 => ?_)
    · have hje : 12 ≤ i := (nI_leI (a := 12) (b := i) (by decide) (by omega)).mp h54
      have hje2 : i = 12 := by omega
      subst hje2
      exact hQ M1 _ hW
    · have hlt : i < 12 := Nat.lt_of_not_le (fun q => h54 ((nI_leI (a := 12) (b := i) (by omega) (by omega)).mpr q))
      refine tb_aload_0 d_Mo_drop_57 rfl ?_
      refine g_Mo_28 d_Mo_drop_58 rfl rfl (by first | exact hS1.k rfl) ?_
      refine tb_topR (y := 197) (hS1.mr 9 (by decide)) ?_
      refine tb_bipush (12) (by decide) d_Mo_drop_61 rfl ?_
      refine tb_iload_2 d_Mo_drop_63 rfl ?_
      refine tb_imul d_Mo_drop_64 rfl ?_
      refine tb_topI (show (12 : Int32) * nI j = nI (12 * (j)) from nI_mul 12 (j)) ?_
      refine tb_iload_3 d_Mo_drop_65 rfl ?_
      refine tb_iadd d_Mo_drop_66 rfl ?_
      rw [nI_add]
      refine tb_aload_0 d_Mo_drop_67 rfl ?_
      refine g_Mo_28 d_Mo_drop_68 rfl rfl (by first | exact hS1.k rfl) ?_
      refine tb_topR (y := 197) (hS1.mr 9 (by decide)) ?_
      refine tb_bipush (12) (by decide) d_Mo_drop_71 rfl ?_
      refine tb_iload_2 d_Mo_drop_73 rfl ?_
      refine tb_imul d_Mo_drop_74 rfl ?_
      refine tb_topI (show (12 : Int32) * nI j = nI (12 * (j)) from nI_mul 12 (j)) ?_
      refine tb_bipush (12) (by decide) d_Mo_drop_75 rfl ?_
      refine tb_iadd d_Mo_drop_77 rfl ?_
      refine tb_topI (show nI (12 * j) + 12 = nI (12 * j + 12) from nI_add (12 * j) 12) ?_
      refine tb_iload_3 d_Mo_drop_78 rfl ?_
      refine tb_iadd d_Mo_drop_79 rfl ?_
      rw [nI_add]
      refine tb_iaload d_Mo_drop_80 rfl (by first | exact hS1.k rfl) (by first | exact mo_in hS1 (c := 12) rfl (by omega) (by decide) | exact mo_in hS1 (c := 10) rfl (by omega) (by decide) | exact mo_in hS1 (c := 25) rfl (by omega) (by decide) | exact mo_in hS1 (c := 6) rfl (by omega) (by decide) | exact mo_in hS1 (c := 72) rfl (by omega) (by decide) | exact mo_in hS1 (c := 120) rfl (by omega) (by decide) | exact mo_in hS1 (c := 300) rfl (by omega) (by decide) | exact mo_in hS1 (c := 150) rfl (by omega) (by decide) | exact mo_in hS1 (c := 1800) rfl (by omega) (by decide)) ?_
      refine tb_topI (y := tb_I M 197 (12 * j + i + 12)) (by rw [nI_clamp (show 12 * j + 12 + i < 2 ^ 31 by omega)]; rw [hW.2.2, if_neg (by omega)]; congr 1; omega) ?_
      refine tb_iastore d_Mo_drop_81 rfl (by first | exact hS1.k rfl) (by first | exact mo_in hS1 (c := 12) rfl (by omega) (by decide) | exact mo_in hS1 (c := 10) rfl (by omega) (by decide) | exact mo_in hS1 (c := 25) rfl (by omega) (by decide) | exact mo_in hS1 (c := 6) rfl (by omega) (by decide) | exact mo_in hS1 (c := 72) rfl (by omega) (by decide) | exact mo_in hS1 (c := 120) rfl (by omega) (by decide) | exact mo_in hS1 (c := 300) rfl (by omega) (by decide) | exact mo_in hS1 (c := 150) rfl (by omega) (by decide) | exact mo_in hS1 (c := 1800) rfl (by omega) (by decide)) ?_
      rw [nI_clamp (show 12 * j + i < 2 ^ 31 by omega)]
      refine tb_iinc_3 (1) d_Mo_drop_82 rfl (by decide) (by decide) ?_
      refine tb_goto 51 d_Mo_drop_85 (by decide) ?_
      rw [nI_1]
      refine ih (12 - (i + 1)) (by omega) (i + 1) rfl (by omega) _ ⟨hW.1.trans (On.sI (Or.inr rfl)), fun q => by rw [sI_of _ _ _ (by decide)]; exact hW.2.1 q, fun p => ?_⟩
      rw [sI_at]
      unfold va_up
      by_cases c : p = 12 * j + i
      · rw [if_pos c, if_pos (by omega), c]
      · rw [if_neg c, hW.2.2]
        by_cases c2 : 12 * k ≤ p ∧ p < 12 * j + i
        · rw [if_pos c2, if_pos (by omega)]
        · rw [if_neg c2, if_neg (by omega)]
theorem lp_Mo_drop (hS : Sh M) (hN : tb_I M 190 7 = nI n) (hn : n ≤ 10) (hk : k < n) {d rc rs : Nat} {Q : tb_O → tb_M → Prop} (hQ : ∀ M1, DrQ M M1 k (n - 1) (12 * (n - 1)) → Q (.inl none) (tb_sI (tb_sI M1 190 7 (nI (n - 1))) 190 26 0)) : ∀ (m j : Nat) (l3 : tb_L), n - j = m → k ≤ j → j + 1 ≤ n → ∀ M1, DrQ M M1 k j (12 * j) → tb_Wp E m_Mo_drop d rc rs 25 [some (.inr 190), some (.inl (nI k)), some (.inl (nI j)), l3] [] M1 Q := by
  intro m
  induction m using Nat.strongRecOn with
  | ind m ih =>
    intro j l3 hm hkj hj M1 hW
    have hS1 := hW.1.sh hS
    have hN1 : tb_I M1 190 7 = nI n := by rw [hW.1.i (by decide)]; exact hN
    refine tb_iload_2 d_Mo_drop_25 rfl ?_
    refine tb_iconst (1) (by decide) d_Mo_drop_26 rfl ?_
    refine tb_iadd d_Mo_drop_27 rfl ?_
    rw [nI_1]
    refine tb_aload_0 d_Mo_drop_28 rfl ?_
    refine g_Mo_125 d_Mo_drop_29 rfl rfl (by first | exact hS1.k rfl) ?_
    refine tb_topI hN1 ?_
    refine tb_icmp_ge 94 d_Mo_drop_32 (by decide) rfl (fun h32 => ?_) (fun h32 => ?_)
    · have hje : n ≤ j + 1 := (nI_leI (a := n) (b := j + 1) (by omega) (by omega)).mp h32
      have hje2 : j = n - 1 := by omega
      subst hje2
      refine tb_aload_0 d_Mo_drop_94 rfl ?_
      refine tb_dup d_Mo_drop_95 rfl ?_
      refine g_Mo_125 d_Mo_drop_96 rfl rfl (by first | exact hS1.k rfl) ?_
      refine tb_topI hN1 ?_
      refine tb_iconst (1) (by decide) d_Mo_drop_99 rfl ?_
      refine tb_isub d_Mo_drop_100 rfl ?_
      rw [nI_sub1 (by omega)]
      refine p_Mo_125 d_Mo_drop_101 rfl rfl (by first | exact hS1.k rfl) ?_
      refine tb_aload_0 d_Mo_drop_104 rfl ?_
      refine tb_iconst (0) (by decide) d_Mo_drop_105 rfl ?_
      refine p_Mo_114 d_Mo_drop_106 rfl rfl (by first | exact hS1.k rfl) (by first | exact Or.inl rfl | exact Or.inr rfl | assumption) ?_
      refine tb_vreturn d_Mo_drop_109 rfl ?_
      exact hQ M1 hW
    · have hlt : j + 1 < n := Nat.lt_of_not_le (fun q => h32 ((nI_leI (a := n) (b := j + 1) (by omega) (by omega)).mpr q))
      refine tb_aload_0 d_Mo_drop_35 rfl ?_
      refine g_Mo_25 d_Mo_drop_36 rfl rfl (by first | exact hS1.k rfl) ?_
      refine tb_topR (y := 196) (hS1.mr 8 (by decide)) ?_
      refine tb_iload_2 d_Mo_drop_39 rfl ?_
      refine tb_aload_0 d_Mo_drop_40 rfl ?_
      refine g_Mo_25 d_Mo_drop_41 rfl rfl (by first | exact hS1.k rfl) ?_
      refine tb_topR (y := 196) (hS1.mr 8 (by decide)) ?_
      refine tb_iload_2 d_Mo_drop_44 rfl ?_
      refine tb_iconst (1) (by decide) d_Mo_drop_45 rfl ?_
      refine tb_iadd d_Mo_drop_46 rfl ?_
      rw [nI_1]
      refine tb_iaload d_Mo_drop_47 rfl (by first | exact hS1.k rfl) (by first | exact mo_in hS1 (c := 12) rfl (by omega) (by decide) | exact mo_in hS1 (c := 10) rfl (by omega) (by decide) | exact mo_in hS1 (c := 25) rfl (by omega) (by decide) | exact mo_in hS1 (c := 6) rfl (by omega) (by decide) | exact mo_in hS1 (c := 72) rfl (by omega) (by decide) | exact mo_in hS1 (c := 120) rfl (by omega) (by decide) | exact mo_in hS1 (c := 300) rfl (by omega) (by decide) | exact mo_in hS1 (c := 150) rfl (by omega) (by decide) | exact mo_in hS1 (c := 1800) rfl (by omega) (by decide)) ?_
      refine tb_topI (y := tb_I M 196 (j + 1)) (by rw [nI_clamp (show j + 1 < 2 ^ 31 by omega)]; rw [hW.2.1, if_neg (by omega)]) ?_
      refine tb_iastore d_Mo_drop_48 rfl (by first | exact hS1.k rfl) (by first | exact mo_in hS1 (c := 12) rfl (by omega) (by decide) | exact mo_in hS1 (c := 10) rfl (by omega) (by decide) | exact mo_in hS1 (c := 25) rfl (by omega) (by decide) | exact mo_in hS1 (c := 6) rfl (by omega) (by decide) | exact mo_in hS1 (c := 72) rfl (by omega) (by decide) | exact mo_in hS1 (c := 120) rfl (by omega) (by decide) | exact mo_in hS1 (c := 300) rfl (by omega) (by decide) | exact mo_in hS1 (c := 150) rfl (by omega) (by decide) | exact mo_in hS1 (c := 1800) rfl (by omega) (by decide)) ?_
      rw [nI_clamp (show j < 2 ^ 31 by omega)]
      refine tb_iconst (0) (by decide) d_Mo_drop_49 rfl ?_
      refine tb_istore_3 d_Mo_drop_50 rfl (by decide) ?_
      refine lp_Mo_drop_in hS hkj (by omega) (fun M2 l3 h2 => ?_) 12 0 rfl (by omega) _ ⟨hW.1.trans (On.sI (Or.inl rfl)), fun q => ?_, fun p => by rw [sI_of _ _ _ (by decide)]; exact hW.2.2 p⟩
      · refine tb_iinc_2 (1) d_Mo_drop_88 rfl (by decide) (by decide) ?_
        refine tb_goto 25 d_Mo_drop_91 (by decide) ?_
        rw [nI_1]
        exact ih (n - (j + 1)) (by omega) (j + 1) _ rfl (by omega) (by omega) M2 h2
      · rw [sI_at]
        unfold va_up
        by_cases c : q = j
        · rw [if_pos c, if_pos (by omega), c]
        · rw [if_neg c, hW.2.1]
          by_cases c2 : k ≤ q ∧ q < j
          · rw [if_pos c2, if_pos (by omega)]
          · rw [if_neg c2, if_neg (by omega)]
noncomputable def cDro (g : Sg) (x : Int32) : Nat := cif (inI x g.2.1.1) 0 1
theorem ok_Mo_drop (hG : tb_G E) (h : MIs M g) {x : Int32} (d : Nat) : tb_Rel E m_Mo_drop d [.inr (.inl 190), .inl x] M (Mp M (oDro g x) (cDro g x) none) := by
  obtain ⟨hM0, o0⟩ := h.put (j := 0) (x := 0) (Or.inl rfl)
  have hS := h.1
  have hc0 := c190 M 0
  generalize hM1 : tb_sI M 190 0 0 = M1 at hM0 o0 hc0
  have hS1 := hM0.1
  obtain ⟨-, hH, hC, hF, hSt, hL, hA⟩ := hM0
  have hn := hC.2.1
  unfold cDro oDro
  refine tb_okOf hG (by decide) rfl (Nat.le_of_ble_eq_true rfl) rfl ?_
  refine tb_aload_0 d_Mo_drop_0 rfl ?_
  refine tb_iconst (0) (by decide) d_Mo_drop_1 rfl ?_
  refine p_Mo_89 d_Mo_drop_2 rfl rfl (by exact hS.k rfl) ?_
  refine tb_memeq hM1 ?_
  refine tb_iload_1 d_Mo_drop_5 rfl ?_
  refine tb_if_lt 17 d_Mo_drop_6 (by decide) rfl (fun h6 => ?_) (fun h6 => ?_)
  · have hno : ¬ inI x g.2.1.1 := fun z => Int32.not_lt.mpr z.1 h6
    rw [cif_f hno, cif_f hno]
    refine tb_aload_0 d_Mo_drop_17 rfl ?_
    refine tb_iconst (1) (by decide) d_Mo_drop_18 rfl ?_
    refine p_Mo_89 d_Mo_drop_19 rfl rfl (by first | exact hS1.k rfl) ?_
    refine tb_vreturn d_Mo_drop_22 rfl ?_
    exact ⟨_, rfl, rfl, (MIs.put (g := g) ⟨hS1, hH, hC, hF, hSt, hL, hA⟩ (Or.inl rfl)).1, o0.trans (c190b _ 1), c190 _ 1⟩
  · refine tb_iload_1 d_Mo_drop_9 rfl ?_
    refine tb_aload_0 d_Mo_drop_10 rfl ?_
    refine g_Mo_125 d_Mo_drop_11 rfl rfl (by first | exact hS1.k rfl) ?_
    refine tb_topI hC.1 ?_
    refine tb_icmp_lt 23 d_Mo_drop_14 (by decide) rfl (fun h14 => ?_) (fun h14 => ?_)
    · have hy : inI x g.2.1.1 := ⟨Int32.not_lt.mp h6, h14⟩
      rw [cif_t hy, cif_t hy]
      obtain ⟨k, hk, rfl⟩ := inI_n (by omega) hy
      rw [nI_clamp (show k < 2 ^ 31 by omega)]
      refine tb_iload_1 d_Mo_drop_23 rfl ?_
      refine tb_istore_2 d_Mo_drop_24 rfl (by decide) ?_
      refine lp_Mo_drop hS1 hC.1 hn hk (fun M2 hW => ?_) _ k _ rfl (Nat.le_refl _) (by omega) M1 ⟨On.rf, fun i => by rw [if_neg (by omega)], fun p => by rw [if_neg (by omega)]⟩
      have e0 : tb_I M2 190 = tb_I M1 190 := hW.1.i (by decide)
      have eP : tb_I (tb_sI (tb_sI M2 190 7 (nI (g.2.1.1 - 1))) 190 26 0) 190 = va_up (va_up (tb_I M1 190) 7 (nI (g.2.1.1 - 1))) 26 0 := by rw [sI_at, sI_at, e0]
      have oP : On M2 (tb_sI (tb_sI M2 190 7 (nI (g.2.1.1 - 1))) 190 26 0) (fun q => q = 190) := (On.sI (A := fun q => q = 190) rfl).trans (On.sI (A := fun q => q = 190) rfl)
      generalize (tb_sI (tb_sI M2 190 7 (nI (g.2.1.1 - 1))) 190 26 0) = M3 at eP oP
      have oo : ∀ q, q ≠ 190 → q ≠ 196 → q ≠ 197 → tb_I M3 q = tb_I M1 q := fun q a b c => by rw [oP.i a, hW.1.i (by omega)]
      have ee : ∀ j, j ≠ 7 → j ≠ 26 → tb_I M3 190 j = tb_I M1 190 j := fun j a b => by rw [eP]; simp [va_up, a, b]
      refine ⟨_, rfl, rfl, ⟨oP.sh (hW.1.sh hS1), hH.of (ee 5 (by decide) (by decide)) (oo _ (by decide) (by decide) (by decide)), ⟨by rw [eP]; simp [va_up], by show g.2.1.1 - 1 ≤ 10; omega, fun i hi => ?_⟩, hF.of (oo _ (by decide) (by decide) (by decide)) (oo _ (by decide) (by decide) (by decide)), hSt.of (ee 10 (by decide) (by decide)) (fun q a b => oo q (by omega) (by omega) (by omega)), MLg.no (by rw [eP]; simp [va_up]), by rw [ee 39 (by decide) (by decide)]; exact hA⟩, o0.trans ((hW.1.mono (fun q hq => by rcases hq with z | z <;> exact ⟨by omega, by omega⟩)).trans (oP.mono (fun q hq => ⟨by omega, by omega⟩))), by rw [ee 0 (by decide) (by decide)]; exact hc0⟩
      have hi' : i < g.2.1.1 - 1 := hi
      show tb_I M3 196 i = nI (if i < k then g.2.1.2 i else g.2.1.2 (i + 1)).length ∧ (if i < k then g.2.1.2 i else g.2.1.2 (i + 1)).length ≤ 12 ∧ (∀ j, j < (if i < k then g.2.1.2 i else g.2.1.2 (i + 1)).length → tb_I M3 197 (12 * i + j) = la (if i < k then g.2.1.2 i else g.2.1.2 (i + 1)) j) ∧ isC (if i < k then g.2.1.2 i else g.2.1.2 (i + 1))
      rw [oP.i (by decide), oP.i (by decide)]
      by_cases c : i < k
      · rw [if_pos c]
        obtain ⟨a1, a2, a3, a4⟩ := hC.2.2 i (by omega)
        exact ⟨by rw [hW.2.1, if_neg (by omega)]; exact a1, a2, fun j hj => by rw [hW.2.2, if_neg (by omega)]; exact a3 j hj, a4⟩
      · rw [if_neg c]
        obtain ⟨a1, a2, a3, a4⟩ := hC.2.2 (i + 1) (by omega)
        refine ⟨by rw [hW.2.1, if_pos (by omega)]; exact a1, a2, fun j hj => ?_, a4⟩
        rw [hW.2.2, if_pos (by omega), show 12 * i + j + 12 = 12 * (i + 1) + j by omega]
        exact a3 j hj
    · have hno : ¬ inI x g.2.1.1 := fun z => h14 z.2
      rw [cif_f hno, cif_f hno]
      refine tb_aload_0 d_Mo_drop_17 rfl ?_
      refine tb_iconst (1) (by decide) d_Mo_drop_18 rfl ?_
      refine p_Mo_89 d_Mo_drop_19 rfl rfl (by first | exact hS1.k rfl) ?_
      refine tb_vreturn d_Mo_drop_22 rfl ?_
      exact ⟨_, rfl, rfl, (MIs.put (g := g) ⟨hS1, hH, hC, hF, hSt, hL, hA⟩ (Or.inl rfl)).1, o0.trans (c190b _ 1), c190 _ 1⟩
end Mo16
