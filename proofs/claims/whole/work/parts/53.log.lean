/-! Log. -/
theorem gK_de : ∀ k, k < 10 → gK (180 + k) = 1 := by decide +kernel
theorem Sh.lg {M : tb_M} (h : Sh M) : tb_K M 178 = 2 ∧ tb_R M 178 0 = 179 ∧ tb_K M 179 = 107 ∧ tb_Ln M 179 = 10 := ⟨h.k rfl, h.2.2.1.2.2.2.2.2.2.2.2, h.k rfl, h.l rfl⟩
theorem Sh.de {M : tb_M} (h : Sh M) {k : Nat} (hk : k < 10) : tb_K M (180 + k) = 1 ∧ tb_R M 179 k = 180 + k := ⟨h.k (gK_de k hk), h.2.2.2.2.2.2.1 k hk⟩
abbrev AL : Nat → Prop := fun q => 178 ≤ q ∧ q < 190
section Log
variable {E : tb_E} {M : tb_M} {n : Nat}
theorem ok_Lg_deed (hG : tb_G E) (hS : Sh M) {k : Nat} (hk : k < 10) (d : Nat) : tb_Ret E m_Lg_deed d [.inr (.inl 178), .inl (nI k)] M (some (.inr (.inl (180 + k)))) M := by
  obtain ⟨k1, r0, k2, l2⟩ := hS.lg
  obtain ⟨kE, rE⟩ := hS.de hk
  refine tb_okOf hG (by decide) rfl (Nat.le_of_ble_eq_true rfl) rfl ?_
  refine tb_aload_0 d_Lg_deed_0 rfl ?_
  refine g_Lg_11 d_Lg_deed_1 rfl rfl (by first | exact k1 | exact k2 | exact kE | exact kF) ?_
  refine tb_topR r0 ?_
  refine tb_iload_1 d_Lg_deed_4 rfl ?_
  refine tb_aaload (t := 7) d_Lg_deed_5 rfl (by decide) rfl (by first | exact k1 | exact k2 | exact kE | exact kF) (by rw [l2]; exact vp_in_nI (by omega) (by omega)) ?_
  refine tb_topR (y := 180 + k) (by rw [nI_clamp (show k < 2 ^ 31 by omega)]; exact rE) ?_
  refine tb_areturn d_Lg_deed_6 rfl ?_
  exact ⟨rfl, rfl⟩
def hzd (M : tb_M) : Prop := ¬ tb_I M 178 2 = -1
theorem ok_Lg_has (hG : tb_G E) (hS : Sh M) (d : Nat) : tb_Ret E m_Lg_hasHazard d [.inr (.inl 178)] M (some (.inl (bI (hzd M)))) M := by
  obtain ⟨k1, r0, k2, l2⟩ := hS.lg
  refine tb_okOf hG (by decide) rfl (Nat.le_of_ble_eq_true rfl) rfl ?_
  refine tb_aload_0 d_Lg_hasHazard_0 rfl ?_
  refine g_Lg_22 d_Lg_hasHazard_1 rfl rfl (by first | exact k1 | exact k2 | exact kE | exact kF) ?_
  refine tb_iconst (-1) (by decide) d_Lg_hasHazard_4 rfl ?_
  refine tb_icmp_eq 12 d_Lg_hasHazard_5 (by decide) rfl (fun h5 => ?_) (fun h5 => ?_)
  · rw [bI_f (show ¬ hzd M from fun z => z h5)]
    refine tb_iconst (0) (by decide) d_Lg_hasHazard_12 rfl ?_
    refine tb_ireturn d_Lg_hasHazard_13 rfl (by first | rfl | assumption) ?_
    exact ⟨rfl, rfl⟩
  · rw [bI_t (show hzd M from h5)]
    refine tb_iconst (1) (by decide) d_Lg_hasHazard_8 rfl ?_
    refine tb_goto 13 d_Lg_hasHazard_9 (by decide) ?_
    refine tb_ireturn d_Lg_hasHazard_13 rfl (by first | rfl | assumption) ?_
    exact ⟨rfl, rfl⟩
def spec (M : tb_M) : Prop := hzd M ∧ ¬ tb_I M 178 6 = 0
theorem ok_Lg_spec (hG : tb_G E) (hS : Sh M) (d : Nat) : tb_Ret E m_Lg_isSpeculative (d + 1) [.inr (.inl 178)] M (some (.inl (bI (spec M)))) M := by
  obtain ⟨k1, r0, k2, l2⟩ := hS.lg
  refine tb_okOf hG (by decide) rfl (Nat.le_of_ble_eq_true rfl) rfl ?_
  refine tb_aload_0 d_Lg_isSpeculative_0 rfl ?_
  refine tb_callVr c_Lg_32 d_Lg_isSpeculative_1 rfl rfl rfl (Nat.le_of_ble_eq_true rfl) (by first | exact k1 | exact k2 | exact kE | exact kF) (ok_Lg_has hG hS d) ?_
  refine tb_if_eq 18 d_Lg_isSpeculative_4 (by decide) rfl (fun h4 => ?_) (fun h4 => ?_)
  · rw [bI_f (show ¬ spec M from fun z => bI_0.mp h4 z.1)]
    refine tb_iconst (0) (by decide) d_Lg_isSpeculative_18 rfl ?_
    refine tb_ireturn d_Lg_isSpeculative_19 rfl (by first | rfl | assumption) ?_
    exact ⟨rfl, rfl⟩
  · have hh : hzd M := Classical.not_not.mp (fun z => h4 (bI_f z))
    refine tb_aload_0 d_Lg_isSpeculative_7 rfl ?_
    refine g_Lg_28 d_Lg_isSpeculative_8 rfl rfl (by first | exact k1 | exact k2 | exact kE | exact kF) ?_
    refine tb_if_eq 18 d_Lg_isSpeculative_11 (by decide) rfl (fun h11 => ?_) (fun h11 => ?_)
    · rw [bI_f (show ¬ spec M from fun z => z.2 h11)]
      refine tb_iconst (0) (by decide) d_Lg_isSpeculative_18 rfl ?_
      refine tb_ireturn d_Lg_isSpeculative_19 rfl (by first | rfl | assumption) ?_
      exact ⟨rfl, rfl⟩
    · rw [bI_t (show spec M from ⟨hh, h11⟩)]
      refine tb_iconst (1) (by decide) d_Lg_isSpeculative_14 rfl ?_
      refine tb_goto 19 d_Lg_isSpeculative_15 (by decide) ?_
      refine tb_ireturn d_Lg_isSpeculative_19 rfl (by first | rfl | assumption) ?_
      exact ⟨rfl, rfl⟩
noncomputable def hpt (M : tb_M) (x : Int32) : Int32 := if tb_I M 178 2 = -1 then -1 else if x = 0 then tb_I M 178 2 else if x = 1 then tb_I M 178 3 else if x = 2 then tb_I M 178 4 else if x = 3 then tb_I M 178 5 else -1
theorem ok_Lg_part (hG : tb_G E) (hS : Sh M) (x : Int32) (d : Nat) : tb_Ret E m_Lg_hazardPart (d + 1) [.inr (.inl 178), .inl x] M (some (.inl (hpt M x))) M := by
  obtain ⟨k1, r0, k2, l2⟩ := hS.lg
  refine tb_okOf hG (by decide) rfl (Nat.le_of_ble_eq_true rfl) rfl ?_
  refine tb_aload_0 d_Lg_hazardPart_0 rfl ?_
  refine tb_callVr c_Lg_32 d_Lg_hazardPart_1 rfl rfl rfl (Nat.le_of_ble_eq_true rfl) (by first | exact k1 | exact k2 | exact kE | exact kF) (ok_Lg_has hG hS d) ?_
  refine tb_if_ne 9 d_Lg_hazardPart_4 (by decide) rfl (fun h4 => ?_) (fun h4 => ?_)
  · have hh : hzd M := Classical.not_not.mp (fun z => h4 (bI_f z))
    refine tb_iload_1 d_Lg_hazardPart_9 rfl ?_
    by_cases e0 : x = 0
    · refine tb_tableIn (30) 40 d_Lg_hazardPart_10 (by rw [e0]; decide +kernel) (by rw [e0]; decide +kernel) (by rw [e0]; decide +kernel) (by decide) ?_
      refine tb_aload_0 d_Lg_hazardPart_40 rfl ?_
      refine g_Lg_22 d_Lg_hazardPart_41 rfl rfl (by first | exact k1 | exact k2 | exact kE | exact kF) ?_
      refine tb_ireturn d_Lg_hazardPart_44 rfl (by first | rfl | assumption) ?_
      exact ⟨by unfold hpt; rw [if_neg hh, if_pos e0], rfl⟩
    by_cases e1 : x = 1
    · refine tb_tableIn (35) 45 d_Lg_hazardPart_10 (by rw [e1]; decide +kernel) (by rw [e1]; decide +kernel) (by rw [e1]; decide +kernel) (by decide) ?_
      refine tb_aload_0 d_Lg_hazardPart_45 rfl ?_
      refine g_Lg_36 d_Lg_hazardPart_46 rfl rfl (by first | exact k1 | exact k2 | exact kE | exact kF) ?_
      refine tb_ireturn d_Lg_hazardPart_49 rfl (by first | rfl | assumption) ?_
      exact ⟨by unfold hpt; rw [if_neg hh, if_neg e0, if_pos e1], rfl⟩
    by_cases e2 : x = 2
    · refine tb_tableIn (40) 50 d_Lg_hazardPart_10 (by rw [e2]; decide +kernel) (by rw [e2]; decide +kernel) (by rw [e2]; decide +kernel) (by decide) ?_
      refine tb_aload_0 d_Lg_hazardPart_50 rfl ?_
      refine g_Lg_39 d_Lg_hazardPart_51 rfl rfl (by first | exact k1 | exact k2 | exact kE | exact kF) ?_
      refine tb_ireturn d_Lg_hazardPart_54 rfl (by first | rfl | assumption) ?_
      exact ⟨by unfold hpt; rw [if_neg hh, if_neg e0, if_neg e1, if_pos e2], rfl⟩
    by_cases e3 : x = 3
    · refine tb_tableIn (45) 55 d_Lg_hazardPart_10 (by rw [e3]; decide +kernel) (by rw [e3]; decide +kernel) (by rw [e3]; decide +kernel) (by decide) ?_
      refine tb_aload_0 d_Lg_hazardPart_55 rfl ?_
      refine g_Lg_42 d_Lg_hazardPart_56 rfl rfl (by first | exact k1 | exact k2 | exact kE | exact kF) ?_
      refine tb_ireturn d_Lg_hazardPart_59 rfl (by first | rfl | assumption) ?_
      exact ⟨by unfold hpt; rw [if_neg hh, if_neg e0, if_neg e1, if_neg e2, if_pos e3], rfl⟩
    refine tb_tableOut 60 d_Lg_hazardPart_10 (by have z0 := lv_neT e0 (a := 0) (by decide); have z1 := lv_neT e1 (a := 1) (by decide); have z2 := lv_neT e2 (a := 2) (by decide); have z3 := lv_neT e3 (a := 3) (by decide); omega) (by decide) ?_
    refine tb_iconst (-1) (by decide) d_Lg_hazardPart_60 rfl ?_
    refine tb_ireturn d_Lg_hazardPart_61 rfl (by first | rfl | assumption) ?_
    exact ⟨by unfold hpt; rw [if_neg hh, if_neg e0, if_neg e1, if_neg e2, if_neg e3], rfl⟩
  · have hh : tb_I M 178 2 = -1 := Classical.not_not.mp (bI_0.mp h4)
    refine tb_iconst (-1) (by decide) d_Lg_hazardPart_7 rfl ?_
    refine tb_ireturn d_Lg_hazardPart_8 rfl (by first | rfl | assumption) ?_
    exact ⟨by simp [hpt, hh], rfl⟩
def BgP (M M1 : tb_M) (n j : Nat) : Prop := On M M1 AL ∧ tb_I M1 178 = va_up (tb_I M 178) 1 (nI n) ∧ (∀ k, k < 10 → k < j → tb_I M1 (180 + k) 0 = 0 ∧ tb_I M1 (180 + k) 1 = -1 ∧ tb_I M1 (180 + k) 2 = 0) ∧ ∀ k, k < 10 → j ≤ k → tb_I M1 (180 + k) = tb_I M (180 + k)
theorem BgP.step {M M1 : tb_M} {n j : Nat} (h : BgP M M1 n j) (hj : j < 10) : BgP M (tb_sI (tb_sI (tb_sI M1 (180 + j) 0 0) (180 + j) 1 (-1)) (180 + j) 2 0) n (j + 1) := by
  obtain ⟨h1, h2, h3, h4⟩ := h
  have o : On M1 (tb_sI (tb_sI (tb_sI M1 (180 + j) 0 0) (180 + j) 1 (-1)) (180 + j) 2 0) (fun q => q = 180 + j) := (((On.sI (A := fun q => q = 180 + j) rfl).trans (On.sI (A := fun q => q = 180 + j) rfl)).trans (On.sI (A := fun q => q = 180 + j) rfl))
  refine ⟨h1.trans (o.mono (fun q hq => ⟨by omega, by omega⟩)), by rw [o.i (by omega)]; exact h2, fun k hk hkj => ?_, fun k hk hkj => ?_⟩
  · by_cases e : k = j
    · subst e
      rw [sI_at, sI_at, sI_at]
      simp [va_up]
    · rw [o.i (by omega)]
      exact h3 k hk (by omega)
  · rw [o.i (by omega)]
    exact h4 k hk (by omega)
def BgF (M M1 : tb_M) (n : Nat) : Prop := On M M1 AL ∧ tb_I M1 178 1 = nI n ∧ tb_I M1 178 2 = -1 ∧ tb_I M1 178 6 = 0 ∧ (∀ k, k < n → tb_I M1 (180 + k) 0 = 0 ∧ tb_I M1 (180 + k) 1 = -1 ∧ tb_I M1 (180 + k) 2 = 0) ∧ ∀ k, k < 10 → n ≤ k → tb_I M1 (180 + k) = tb_I M (180 + k)
theorem lp_Lg_begin (hG : tb_G E) (hS : Sh M) (hn : n ≤ 10) {d rc rs : Nat} {Q : tb_O → tb_M → Prop} (hQ : ∀ M1, BgF M M1 n → Q (.inl none) M1) : ∀ (m j : Nat), n - j = m → j ≤ n → ∀ M1, BgP M M1 n j → tb_Wp E m_Lg_begin (d + 1) rc rs 7 [some (.inr 178), some (.inl (nI n)), some (.inl (nI j))] [] M1 Q := by
  intro m
  induction m using Nat.strongRecOn with
  | ind m ih =>
    intro j hm hj M1 hB
    have hS1 := hB.1.sh hS
    obtain ⟨k1, r0, k2, l2⟩ := hS1.lg
    refine tb_iload_2 d_Lg_begin_7 rfl ?_
    refine tb_aload_0 d_Lg_begin_8 rfl ?_
    refine g_Lg_18 d_Lg_begin_9 rfl rfl (by first | exact k1 | exact k2 | exact kE | exact kF) ?_
    refine tb_topI (y := nI n) (by rw [hB.2.1]; simp [va_up]) ?_
    refine tb_icmp_ge 30 d_Lg_begin_12 (by decide) rfl (fun h12 => ?_) (fun h12 => ?_)
    · have hje : n ≤ j := (nI_leI (a := n) (b := j) (by omega) (by omega)).mp h12
      have hje2 : j = n := by omega
      refine tb_aload_0 d_Lg_begin_30 rfl ?_
      refine tb_iconst (-1) (by decide) d_Lg_begin_31 rfl ?_
      refine p_Lg_22 d_Lg_begin_32 rfl rfl (by first | exact k1 | exact k2 | exact kE | exact kF) ?_
      refine tb_aload_0 d_Lg_begin_35 rfl ?_
      refine tb_iconst (0) (by decide) d_Lg_begin_36 rfl ?_
      refine p_Lg_28 d_Lg_begin_37 rfl rfl (by first | exact k1 | exact k2 | exact kE | exact kF) (by first | exact Or.inl rfl | exact Or.inr rfl | assumption) ?_
      refine tb_vreturn d_Lg_begin_40 rfl ?_
      subst hje2
      have o : On M1 (tb_sI (tb_sI M1 178 2 (-1)) 178 6 0) (fun q => q = 178) := (On.sI (A := fun q => q = 178) rfl).trans (On.sI (A := fun q => q = 178) rfl)
      refine hQ _ ⟨hB.1.trans (o.mono (fun q hq => ⟨by omega, by omega⟩)), ?_, ?_, ?_, fun k hk => ?_, fun k hk1 hk2 => ?_⟩
      · rw [sI_at, sI_at, hB.2.1]; simp [va_up]
      · rw [sI_at, sI_at]; simp [va_up]
      · rw [sI_at]; simp [va_up]
      · rw [o.i (by omega)]; exact hB.2.2.1 k (by omega) hk
      · rw [o.i (by omega)]; exact hB.2.2.2 k hk1 hk2
    · have hlt : j < n := Nat.lt_of_not_le (fun q => h12 ((nI_leI (a := n) (b := j) (by omega) (by omega)).mpr q))
      obtain ⟨kE, rE⟩ := hS1.de (show j < 10 by omega)
      refine tb_aload_0 d_Lg_begin_15 rfl ?_
      refine g_Lg_11 d_Lg_begin_16 rfl rfl (by first | exact k1 | exact k2 | exact kE | exact kF) ?_
      refine tb_topR r0 ?_
      refine tb_iload_2 d_Lg_begin_19 rfl ?_
      refine tb_aaload (t := 7) d_Lg_begin_20 rfl (by decide) rfl (by first | exact k1 | exact k2 | exact kE | exact kF) (by rw [l2]; exact vp_in_nI (by omega) (by omega)) ?_
      refine tb_topR (y := 180 + j) (by rw [nI_clamp (show j < 2 ^ 31 by omega)]; exact rE) ?_
      refine tb_callVv c_Lg_25 d_Lg_begin_21 rfl rfl rfl (Nat.le_of_ble_eq_true rfl) (by exact kE) (ok_De_forget hG hS1 (gK_de j (by omega)) d) ?_
      refine tb_iinc_2 (1) d_Lg_begin_24 rfl (by decide) (by decide) ?_
      refine tb_goto 7 d_Lg_begin_27 (by decide) ?_
      rw [nI_1]
      exact ih (n - (j + 1)) (by omega) (j + 1) rfl (by omega) _ (hB.step (by omega))
theorem ok_Lg_begin (hG : tb_G E) (hS : Sh M) (hn : n ≤ 10) (d : Nat) : tb_Rel E m_Lg_begin (d + 1) [.inr (.inl 178), .inl (nI n)] M (fun v M1 => v = none ∧ BgF M M1 n) := by
  obtain ⟨k1, r0, k2, l2⟩ := hS.lg
  refine tb_okOf hG (by decide) rfl (Nat.le_of_ble_eq_true rfl) rfl ?_
  refine tb_aload_0 d_Lg_begin_0 rfl ?_
  refine tb_iload_1 d_Lg_begin_1 rfl ?_
  refine p_Lg_18 d_Lg_begin_2 rfl rfl (by first | exact k1 | exact k2 | exact kE | exact kF) ?_
  refine tb_iconst (0) (by decide) d_Lg_begin_5 rfl ?_
  refine tb_istore_2 d_Lg_begin_6 rfl (by decide) ?_
  exact lp_Lg_begin hG hS hn (fun M1 h => ⟨none, rfl, rfl, h⟩) n 0 rfl (Nat.zero_le _) _ ⟨On.sI ⟨by omega, by omega⟩, sI_at _ _ _ _, fun k _ h => absurd h (Nat.not_lt_zero _), fun k hk _ => sI_of _ _ _ (by omega)⟩
noncomputable def inW (M : tb_M) (c e f : Nat) : Int32 :=
  if c = 1 then tb_I M (180 + e) 5 &&& tb_I M (180 + f) 5
  else if c = 2 then (tb_I M (180 + e) 3 &&& tb_I M (180 + f) 5) ||| (tb_I M (180 + e) 4 &&& tb_I M (180 + f) 6)
  else if f < e then (tb_I M (180 + e) 5 &&& tb_I M (180 + f) 3) ||| (tb_I M (180 + e) 6 &&& tb_I M (180 + f) 4) else 0
theorem ok_Lg_inW (hG : tb_G E) (hS : Sh M) {c e f : Nat} (hc : 1 ≤ c ∧ c ≤ 3) (he : e < 10) (hf : f < 10) (d : Nat) : tb_Ret E m_Lg_filesInTheWay d [.inr (.inl 178), .inl (nI c), .inl (nI e), .inl (nI f)] M (some (.inl (inW M c e f))) M := by
  obtain ⟨k1, r0, k2, l2⟩ := hS.lg
  obtain ⟨kE, rE⟩ := hS.de he
  obtain ⟨kF, rF⟩ := hS.de hf
  refine tb_okOf hG (by decide) rfl (Nat.le_of_ble_eq_true rfl) rfl ?_
  refine tb_aload_0 d_Lg_filesInTheWay_0 rfl ?_
  refine g_Lg_11 d_Lg_filesInTheWay_1 rfl rfl (by first | exact k1 | exact k2 | exact kE | exact kF) ?_
  refine tb_topR r0 ?_
  refine tb_iload_2 d_Lg_filesInTheWay_4 rfl ?_
  refine tb_aaload (t := 7) d_Lg_filesInTheWay_5 rfl (by decide) rfl (by first | exact k1 | exact k2 | exact kE | exact kF) (by rw [l2]; exact vp_in_nI (by omega) (by omega)) ?_
  refine tb_topR (y := 180 + e) (by rw [nI_clamp (show e < 2 ^ 31 by omega)]; exact rE) ?_
  refine tb_astore_4 d_Lg_filesInTheWay_6 rfl (by decide) ?_
  refine tb_aload_0 d_Lg_filesInTheWay_8 rfl ?_
  refine g_Lg_11 d_Lg_filesInTheWay_9 rfl rfl (by first | exact k1 | exact k2 | exact kE | exact kF) ?_
  refine tb_topR r0 ?_
  refine tb_iload_3 d_Lg_filesInTheWay_12 rfl ?_
  refine tb_aaload (t := 7) d_Lg_filesInTheWay_13 rfl (by decide) rfl (by first | exact k1 | exact k2 | exact kE | exact kF) (by rw [l2]; exact vp_in_nI (by omega) (by omega)) ?_
  refine tb_topR (y := 180 + f) (by rw [nI_clamp (show f < 2 ^ 31 by omega)]; exact rF) ?_
  refine tb_astore_5 d_Lg_filesInTheWay_14 rfl (by decide) ?_
  refine tb_iload_1 d_Lg_filesInTheWay_16 rfl ?_
  by_cases e1 : nI c = 1
  · refine tb_lookup (27) 44 d_Lg_filesInTheWay_17 (by decide) (by rw [e1]; decide +kernel) (by decide) ?_
    refine tb_aload_4 d_Lg_filesInTheWay_44 rfl ?_
    refine g_Lg_67 d_Lg_filesInTheWay_46 rfl rfl (by first | exact k1 | exact k2 | exact kE | exact kF) ?_
    refine tb_aload_5 d_Lg_filesInTheWay_49 rfl ?_
    refine g_Lg_67 d_Lg_filesInTheWay_51 rfl rfl (by first | exact k1 | exact k2 | exact kE | exact kF) ?_
    refine tb_iand d_Lg_filesInTheWay_54 rfl ?_
    refine tb_ireturn d_Lg_filesInTheWay_55 rfl (by first | rfl | assumption) ?_
    have hc1 : c = 1 := (nI_eq (by omega) (by omega)).mp (show nI c = nI 1 from e1)
    exact ⟨by unfold inW; rw [if_pos hc1], rfl⟩
  by_cases e2 : nI c = 2
  · refine tb_lookup (39) 56 d_Lg_filesInTheWay_17 (by decide) (by rw [e2]; decide +kernel) (by decide) ?_
    refine tb_aload_4 d_Lg_filesInTheWay_56 rfl ?_
    refine g_Lg_70 d_Lg_filesInTheWay_58 rfl rfl (by first | exact k1 | exact k2 | exact kE | exact kF) ?_
    refine tb_aload_5 d_Lg_filesInTheWay_61 rfl ?_
    refine g_Lg_67 d_Lg_filesInTheWay_63 rfl rfl (by first | exact k1 | exact k2 | exact kE | exact kF) ?_
    refine tb_iand d_Lg_filesInTheWay_66 rfl ?_
    refine tb_aload_4 d_Lg_filesInTheWay_67 rfl ?_
    refine g_Lg_73 d_Lg_filesInTheWay_69 rfl rfl (by first | exact k1 | exact k2 | exact kE | exact kF) ?_
    refine tb_aload_5 d_Lg_filesInTheWay_72 rfl ?_
    refine g_Lg_76 d_Lg_filesInTheWay_74 rfl rfl (by first | exact k1 | exact k2 | exact kE | exact kF) ?_
    refine tb_iand d_Lg_filesInTheWay_77 rfl ?_
    refine tb_ior d_Lg_filesInTheWay_78 rfl ?_
    refine tb_ireturn d_Lg_filesInTheWay_79 rfl (by first | rfl | assumption) ?_
    have hc1 : c = 2 := (nI_eq (by omega) (by omega)).mp (show nI c = nI 2 from e2)
    exact ⟨by unfold inW; rw [if_neg (by omega), if_pos hc1], rfl⟩
  refine tb_lookup (63) 80 d_Lg_filesInTheWay_17 (by decide) (by show Op.lookupswitch.offset [(1, 27), (2, 39)] (63) _ = _; rw [lv_osw e1 (by decide), lv_osw e2 (by decide)]; rfl) (by decide) ?_
  refine tb_iload_2 d_Lg_filesInTheWay_80 rfl ?_
  refine tb_iload_3 d_Lg_filesInTheWay_81 rfl ?_
  refine tb_icmp_le 111 d_Lg_filesInTheWay_82 (by decide) rfl (fun h82 => ?_) (fun h82 => ?_)
  · have hef : ¬ f < e := fun z => nI_ge (a := f) (b := e) z (by omega) h82
    refine tb_iconst (0) (by decide) d_Lg_filesInTheWay_111 rfl ?_
    refine tb_ireturn d_Lg_filesInTheWay_112 rfl (by first | rfl | assumption) ?_
    have hc1 : ¬ c = 1 := fun z => e1 (by rw [z]; rfl)
    have hc2 : ¬ c = 2 := fun z => e2 (by rw [z]; rfl)
    exact ⟨by unfold inW; rw [if_neg hc1, if_neg hc2]; first | rw [if_neg hef] | rw [if_pos hef], rfl⟩
  · have hef : f < e := Nat.lt_of_not_le (fun z => h82 (nI_le z (by omega)))
    refine tb_aload_4 d_Lg_filesInTheWay_85 rfl ?_
    refine g_Lg_67 d_Lg_filesInTheWay_87 rfl rfl (by first | exact k1 | exact k2 | exact kE | exact kF) ?_
    refine tb_aload_5 d_Lg_filesInTheWay_90 rfl ?_
    refine g_Lg_70 d_Lg_filesInTheWay_92 rfl rfl (by first | exact k1 | exact k2 | exact kE | exact kF) ?_
    refine tb_iand d_Lg_filesInTheWay_95 rfl ?_
    refine tb_aload_4 d_Lg_filesInTheWay_96 rfl ?_
    refine g_Lg_76 d_Lg_filesInTheWay_98 rfl rfl (by first | exact k1 | exact k2 | exact kE | exact kF) ?_
    refine tb_aload_5 d_Lg_filesInTheWay_101 rfl ?_
    refine g_Lg_73 d_Lg_filesInTheWay_103 rfl rfl (by first | exact k1 | exact k2 | exact kE | exact kF) ?_
    refine tb_iand d_Lg_filesInTheWay_106 rfl ?_
    refine tb_ior d_Lg_filesInTheWay_107 rfl ?_
    refine tb_goto 112 d_Lg_filesInTheWay_108 (by decide) ?_
    refine tb_ireturn d_Lg_filesInTheWay_112 rfl (by first | rfl | assumption) ?_
    have hc1 : ¬ c = 1 := fun z => e1 (by rw [z]; rfl)
    have hc2 : ¬ c = 2 := fun z => e2 (by rw [z]; rfl)
    exact ⟨by unfold inW; rw [if_neg hc1, if_neg hc2]; first | rw [if_neg hef] | rw [if_pos hef], rfl⟩
noncomputable def hzB (M : tb_M) (e f : Nat) : Nat := if ¬ inW M 1 e f = 0 then 1 else if ¬ inW M 2 e f = 0 then 2 else if ¬ inW M 3 e f = 0 then 3 else 0
noncomputable def hzM (M : tb_M) (c e f : Nat) (r g : Int32) : tb_M := tb_sI (tb_sI (tb_sI (tb_sI (tb_sI M 178 2 (nI c)) 178 3 (nI e)) 178 4 (nI f)) 178 5 r) 178 6 g
theorem hzM_on (M : tb_M) (c e f : Nat) (r g : Int32) : On M (hzM M c e f r g) (fun q => q = 178) := ((((On.sI (A := fun q => q = 178) rfl).trans (On.sI (A := fun q => q = 178) rfl)).trans (On.sI (A := fun q => q = 178) rfl)).trans (On.sI (A := fun q => q = 178) rfl)).trans (On.sI (A := fun q => q = 178) rfl)
def BetP (M M1 : tb_M) (e f : Nat) (g : Int32) : Prop := (hzB M e f = 0 ∧ M1 = M) ∨ (¬ hzB M e f = 0 ∧ ∃ r, fst12 (inW M (hzB M e f) e f) r ∧ M1 = hzM M (hzB M e f) e f r g)
theorem lp_Lg_between (hG : tb_G E) (hS : Sh M) {e f : Nat} (he : e < 10) (hf : f < 10) {g : Int32} (hg : g = 0 ∨ g = 1) {d rc rs : Nat} {Q : tb_O → tb_M → Prop} (hQ : ∀ M1, BetP M M1 e f g → Q (.inl none) M1) : ∀ (m c : Nat) (l5 : tb_L), 4 - c = m → 1 ≤ c ∧ c ≤ 4 → (∀ b, 1 ≤ b → b < c → inW M b e f = 0) → tb_Wp E m_Lg_lookBetween (d + 1) rc rs 3 [some (.inr 178), some (.inl (nI e)), some (.inl (nI f)), some (.inl g), some (.inl (nI c)), l5] [] M Q := by
  obtain ⟨k1, r0, k2, l2⟩ := hS.lg
  intro m
  induction m using Nat.strongRecOn with
  | ind m ih =>
    intro c l5 hm hc hall
    refine tb_iload_4 d_Lg_lookBetween_3 rfl ?_
    refine tb_iconst (3) (by decide) d_Lg_lookBetween_5 rfl ?_
    refine tb_icmp_gt 61 d_Lg_lookBetween_6 (by decide) rfl (fun h6 => ?_) (fun h6 => ?_)
    · have hc4 : c = 4 := by
        have : ¬ c ≤ 3 := fun z => Int32.not_lt.mpr (nI_le z (by omega)) h6
        omega
      refine tb_vreturn d_Lg_lookBetween_61 rfl ?_
      refine hQ _ (Or.inl ⟨?_, rfl⟩)
      unfold hzB
      rw [hall 1 (by omega) (by omega), hall 2 (by omega) (by omega), hall 3 (by omega) (by omega)]
      simp
    · have hc3 : c ≤ 3 := by
        refine Nat.le_of_not_lt (fun z => h6 ?_)
        exact nI_lt (a := 3) z (by omega)
      refine tb_aload_0 d_Lg_lookBetween_9 rfl ?_
      refine tb_iload_4 d_Lg_lookBetween_10 rfl ?_
      refine tb_iload_1 d_Lg_lookBetween_12 rfl ?_
      refine tb_iload_2 d_Lg_lookBetween_13 rfl ?_
      refine tb_callVr c_Lg_59 d_Lg_lookBetween_14 rfl rfl rfl (Nat.le_of_ble_eq_true rfl) (by first | exact k1 | exact k2 | exact kE | exact kF) (ok_Lg_inW hG hS ⟨hc.1, hc3⟩ he hf d) ?_
      refine tb_istore_5 d_Lg_lookBetween_17 rfl (by decide) ?_
      refine tb_iload_5 d_Lg_lookBetween_19 rfl ?_
      refine tb_if_eq 55 d_Lg_lookBetween_21 (by decide) rfl (fun h21 => ?_) (fun h21 => ?_)
      · have hz : inW M c e f = 0 := h21
        refine tb_iinc_4 (1) d_Lg_lookBetween_55 rfl (by decide) (by decide) ?_
        refine tb_goto 3 d_Lg_lookBetween_58 (by decide) ?_
        rw [nI_1]
        exact ih (4 - (c + 1)) (by omega) (c + 1) _ rfl (by omega) (fun b h1 h2 => by
          by_cases e : b = c
          · subst e; exact hz
          · exact hall b h1 (by omega))
      · have hz : ¬ inW M c e f = 0 := h21
        have hB : hzB M e f = c := by
          unfold hzB
          by_cases c1 : c = 1
          · subst c1; rw [if_pos hz]
          · rw [if_neg (by rw [hall 1 (by omega) (by omega)]; exact fun z => z rfl)]
            by_cases c2 : c = 2
            · subst c2; rw [if_pos hz]
            · rw [if_neg (by rw [hall 2 (by omega) (by omega)]; exact fun z => z rfl)]
              have c3 : c = 3 := by omega
              subst c3; rw [if_pos hz]
        refine tb_aload_0 d_Lg_lookBetween_24 rfl ?_
        refine tb_iload_4 d_Lg_lookBetween_25 rfl ?_
        refine p_Lg_22 d_Lg_lookBetween_27 rfl rfl (by first | exact k1 | exact k2 | exact kE | exact kF) ?_
        refine tb_aload_0 d_Lg_lookBetween_30 rfl ?_
        refine tb_iload_1 d_Lg_lookBetween_31 rfl ?_
        refine p_Lg_36 d_Lg_lookBetween_32 rfl rfl (by first | exact k1 | exact k2 | exact kE | exact kF) ?_
        refine tb_aload_0 d_Lg_lookBetween_35 rfl ?_
        refine tb_iload_2 d_Lg_lookBetween_36 rfl ?_
        refine p_Lg_39 d_Lg_lookBetween_37 rfl rfl (by first | exact k1 | exact k2 | exact kE | exact kF) ?_
        refine tb_aload_0 d_Lg_lookBetween_40 rfl ?_
        refine tb_iload_5 d_Lg_lookBetween_41 rfl ?_
        refine tb_callSNq c_Lg_63 d_Lg_lookBetween_43 rfl rfl rfl (Nat.le_of_ble_eq_true rfl) (ok_firstOf hG (inW M c e f) d) (fun r M1 hP => ?_)
        obtain ⟨rfl, r, rfl, hr⟩ := hP
        refine p_Lg_42 d_Lg_lookBetween_46 rfl rfl (by first | exact k1 | exact k2 | exact kE | exact kF) ?_
        refine tb_aload_0 d_Lg_lookBetween_49 rfl ?_
        refine tb_iload_3 d_Lg_lookBetween_50 rfl ?_
        refine p_Lg_28 d_Lg_lookBetween_51 rfl rfl (by first | exact k1 | exact k2 | exact kE | exact kF) (by exact hg) ?_
        refine tb_vreturn d_Lg_lookBetween_54 rfl ?_
        exact hQ _ (Or.inr ⟨by omega, r, by rw [hB]; exact hr, by rw [hB]; rfl⟩)
theorem ok_Lg_between (hG : tb_G E) (hS : Sh M) {e f : Nat} (he : e < 10) (hf : f < 10) {g : Int32} (hg : g = 0 ∨ g = 1) (d : Nat) : tb_Rel E m_Lg_lookBetween (d + 1) [.inr (.inl 178), .inl (nI e), .inl (nI f), .inl g] M (fun v M1 => v = none ∧ BetP M M1 e f g) := by
  refine tb_okOf hG (by decide) rfl (Nat.le_of_ble_eq_true rfl) rfl ?_
  refine tb_iconst (1) (by decide) d_Lg_lookBetween_0 rfl ?_
  refine tb_istore_4 d_Lg_lookBetween_1 rfl (by decide) ?_
  exact lp_Lg_between hG hS he hf hg (fun M1 h => ⟨none, rfl, rfl, h⟩) 3 1 _ rfl ⟨by omega, by omega⟩ (fun b h1 h2 => absurd h2 (by omega))
def gsd (M : tb_M) (e f : Nat) : Prop := ¬ tb_I M (180 + e) 2 = 0 ∨ ¬ tb_I M (180 + f) 2 = 0
def cnd (M : tb_M) (f : Nat) (b : Int32) (e : Nat) : Prop := e ≠ f ∧ ¬ tb_I M (180 + e) 0 = 0 ∧ bI (gsd M e f) = b ∧ ¬ hzB M e f = 0
def Lk (M M1 : tb_M) (f : Nat) (b : Int32) (n : Nat) : Prop := (M1 = M ∧ ∀ e, e < n → ¬ cnd M f b e) ∨ ∃ e, e < n ∧ cnd M f b e ∧ (∀ e', e' < e → ¬ cnd M f b e') ∧ ∃ r, fst12 (inW M (hzB M e f) e f) r ∧ M1 = hzM M (hzB M e f) e f r b
theorem hzM_hzd (M : tb_M) {c : Nat} (hc : c ≤ 3) (e f : Nat) (r g : Int32) : hzd (hzM M c e f r g) := by
  unfold hzd hzM
  rw [sI_at, sI_at, sI_at, sI_at, sI_at]
  simp [va_up]
  exact nI_nm1 (by omega)
theorem hzB_le (M : tb_M) (e f : Nat) : hzB M e f ≤ 3 := by unfold hzB; split <;> (try split) <;> (try split) <;> omega
theorem lp_Lg_look (hG : tb_G E) (hS : Sh M) (hl : tb_I M 178 1 = nI n) (hn : n ≤ 10) (h0 : ¬ hzd M) {f : Nat} (hf : f < 10) {b : Int32} {d rc rs : Nat} {Q : tb_O → tb_M → Prop} (hQ : ∀ M1, Lk M M1 f b n → Q (.inl none) M1) : ∀ (m j : Nat) (l4 : tb_L), n - j = m → j ≤ n → (∀ e, e < j → ¬ cnd M f b e) → tb_Wp E m_Lg_lookForHazard2 (d + 2) rc rs 2 [some (.inr 178), some (.inl (nI f)), some (.inl b), some (.inl (nI j)), l4] [] M Q := by
  obtain ⟨k1, r0, k2, l2⟩ := hS.lg
  obtain ⟨kF, rF⟩ := hS.de hf
  intro m
  induction m using Nat.strongRecOn with
  | ind m ih =>
    intro j l4 hm hj hall
    refine tb_iload_3 d_Lg_lookForHazard2_2 rfl ?_
    refine tb_aload_0 d_Lg_lookForHazard2_3 rfl ?_
    refine g_Lg_18 d_Lg_lookForHazard2_4 rfl rfl (by first | exact k1 | exact k2 | exact kE | exact kF) ?_
    refine tb_topI hl ?_
    refine tb_icmp_ge 85 d_Lg_lookForHazard2_7 (by decide) rfl (fun h7 => ?_) (fun h7 => ?_)
    · have hje : n ≤ j := (nI_leI (a := n) (b := j) (by omega) (by omega)).mp h7
      refine tb_vreturn d_Lg_lookForHazard2_85 rfl ?_
      exact hQ _ (Or.inl ⟨rfl, fun e he => hall e (by omega)⟩)
    · have hlt : j < n := Nat.lt_of_not_le (fun q => h7 ((nI_leI (a := n) (b := j) (by omega) (by omega)).mpr q))
      obtain ⟨kE, rE⟩ := hS.de (show j < 10 by omega)
      refine tb_aload_0 d_Lg_lookForHazard2_10 rfl ?_
      refine tb_callVr c_Lg_32 d_Lg_lookForHazard2_11 rfl rfl rfl (Nat.le_of_ble_eq_true rfl) (by first | exact k1 | exact k2 | exact kE | exact kF) (ok_Lg_has hG hS (d + 1)) ?_
      refine tb_if_ne 85 d_Lg_lookForHazard2_14 (by decide) rfl (fun h14 => ?_) (fun h14 => ?_)
      · exact absurd (bI_f h0) h14
      · refine tb_aload_0 d_Lg_lookForHazard2_17 rfl ?_
        refine g_Lg_11 d_Lg_lookForHazard2_18 rfl rfl (by first | exact k1 | exact k2 | exact kE | exact kF) ?_
        refine tb_topR r0 ?_
        refine tb_iload_3 d_Lg_lookForHazard2_21 rfl ?_
        refine tb_aaload (t := 7) d_Lg_lookForHazard2_22 rfl (by decide) rfl (by first | exact k1 | exact k2 | exact kE | exact kF) (by rw [l2]; exact vp_in_nI (by omega) (by omega)) ?_
        refine tb_topR (y := 180 + j) (by rw [nI_clamp (show j < 2 ^ 31 by omega)]; exact rE) ?_
        refine g_Lg_49 d_Lg_lookForHazard2_23 rfl rfl (by first | exact k1 | exact k2 | exact kE | exact kF) ?_
        refine tb_if_ne 41 d_Lg_lookForHazard2_26 (by decide) rfl (fun h26 => ?_) (fun h26 => ?_)
        · have hg : bI (gsd M j f) = 1 := bI_t (Or.inl h26)
          refine tb_iconst (1) (by decide) d_Lg_lookForHazard2_41 rfl ?_
          refine tb_topI (y := bI (gsd M j f)) hg.symm ?_
          refine tb_goto 46 d_Lg_lookForHazard2_42 (by decide) ?_
          refine tb_istore_4 d_Lg_lookForHazard2_46 rfl (by decide) ?_
          refine tb_iload_3 d_Lg_lookForHazard2_48 rfl ?_
          refine tb_iload_1 d_Lg_lookForHazard2_49 rfl ?_
          refine tb_icmp_eq 79 d_Lg_lookForHazard2_50 (by decide) rfl (fun h50 => ?_) (fun h50 => ?_)
          · have hno : ¬ cnd M f b j := fun z => z.1 ((nI_eq (by omega) (by omega)).mp h50)
            refine tb_iinc_3 (1) d_Lg_lookForHazard2_79 rfl (by decide) (by decide) ?_
            refine tb_goto 2 d_Lg_lookForHazard2_82 (by decide) ?_
            rw [nI_1]
            exact ih (n - (j + 1)) (by omega) (j + 1) _ rfl (by omega) (fun e he => by
              by_cases q : e = j
              · subst q; exact hno
              · exact hall e (by omega))
          · have hjf : j ≠ f := fun z => h50 (by rw [z])
            refine tb_aload_0 d_Lg_lookForHazard2_53 rfl ?_
            refine g_Lg_11 d_Lg_lookForHazard2_54 rfl rfl (by first | exact k1 | exact k2 | exact kE | exact kF) ?_
            refine tb_topR r0 ?_
            refine tb_iload_3 d_Lg_lookForHazard2_57 rfl ?_
            refine tb_aaload (t := 7) d_Lg_lookForHazard2_58 rfl (by decide) rfl (by first | exact k1 | exact k2 | exact kE | exact kF) (by rw [l2]; exact vp_in_nI (by omega) (by omega)) ?_
            refine tb_topR (y := 180 + j) (by rw [nI_clamp (show j < 2 ^ 31 by omega)]; exact rE) ?_
            refine tb_callVr c_Lg_52 d_Lg_lookForHazard2_59 rfl rfl rfl (Nat.le_of_ble_eq_true rfl) (by exact kE) (ok_De_isDone hG hS (gK_de j (by omega)) (d + 1)) ?_
            refine tb_if_eq 79 d_Lg_lookForHazard2_62 (by decide) rfl (fun h62 => ?_) (fun h62 => ?_)
            · have hno : ¬ cnd M f b j := fun z => bI_0.mp h62 z.2.1
              refine tb_iinc_3 (1) d_Lg_lookForHazard2_79 rfl (by decide) (by decide) ?_
              refine tb_goto 2 d_Lg_lookForHazard2_82 (by decide) ?_
              rw [nI_1]
              exact ih (n - (j + 1)) (by omega) (j + 1) _ rfl (by omega) (fun e he => by
                by_cases q : e = j
                · subst q; exact hno
                · exact hall e (by omega))
            · have hdn : ¬ tb_I M (180 + j) 0 = 0 := Classical.not_not.mp (fun z => h62 (bI_f z))
              refine tb_iload_4 d_Lg_lookForHazard2_65 rfl ?_
              refine tb_iload_2 d_Lg_lookForHazard2_67 rfl ?_
              refine tb_icmp_ne 79 d_Lg_lookForHazard2_68 (by decide) rfl (fun h68 => ?_) (fun h68 => ?_)
              · have hno : ¬ cnd M f b j := fun z => h68 z.2.2.1
                refine tb_iinc_3 (1) d_Lg_lookForHazard2_79 rfl (by decide) (by decide) ?_
                refine tb_goto 2 d_Lg_lookForHazard2_82 (by decide) ?_
                rw [nI_1]
                exact ih (n - (j + 1)) (by omega) (j + 1) _ rfl (by omega) (fun e he => by
                  by_cases q : e = j
                  · subst q; exact hno
                  · exact hall e (by omega))
              · have hgb : bI (gsd M j f) = b := h68
                refine tb_aload_0 d_Lg_lookForHazard2_71 rfl ?_
                refine tb_iload_3 d_Lg_lookForHazard2_72 rfl ?_
                refine tb_iload_1 d_Lg_lookForHazard2_73 rfl ?_
                refine tb_iload_4 d_Lg_lookForHazard2_74 rfl ?_
                refine tb_callVq c_Lg_55 d_Lg_lookForHazard2_76 rfl rfl rfl (Nat.le_of_ble_eq_true rfl) (by first | exact k1 | exact k2 | exact kE | exact kF) (ok_Lg_between hG hS (e := j) (by omega) hf (bI_01 _) d) (fun v2 M2 hB => ?_)
                obtain ⟨rfl, hB⟩ := hB
                refine tb_iinc_3 (1) d_Lg_lookForHazard2_79 rfl (by decide) (by decide) ?_
                refine tb_goto 2 d_Lg_lookForHazard2_82 (by decide) ?_
                rw [nI_1]
                rcases hB with ⟨hz, rfl⟩ | ⟨hz, r, hr, rfl⟩
                · exact ih (n - (j + 1)) (by omega) (j + 1) _ rfl (by omega) (fun e he => by
                    by_cases q : e = j
                    · subst q; exact fun z => z.2.2.2 hz
                    · exact hall e (by omega))
                have o := hzM_on M (hzB M j f) j f r (bI (gsd M j f))
                have hS2 := o.sh hS
                have kk1 := hS2.lg.1
                have hq : Lk M (hzM M (hzB M j f) j f r (bI (gsd M j f))) f b n := Or.inr ⟨j, hlt, ⟨hjf, hdn, hgb, hz⟩, hall, r, hr, by rw [hgb]⟩
                refine tb_iload_3 d_Lg_lookForHazard2_2 rfl ?_
                refine tb_aload_0 d_Lg_lookForHazard2_3 rfl ?_
                refine g_Lg_18 d_Lg_lookForHazard2_4 rfl rfl (by exact kk1) ?_
                refine tb_icmp_ge 85 d_Lg_lookForHazard2_7 (by decide) rfl (fun q7 => ?_) (fun q7 => ?_)
                · refine tb_vreturn d_Lg_lookForHazard2_85 rfl ?_
                  exact hQ _ hq
                · refine tb_aload_0 d_Lg_lookForHazard2_10 rfl ?_
                  refine tb_callVr c_Lg_32 d_Lg_lookForHazard2_11 rfl rfl rfl (Nat.le_of_ble_eq_true rfl) (by exact kk1) (ok_Lg_has hG hS2 (d + 1)) ?_
                  refine tb_if_ne 85 d_Lg_lookForHazard2_14 (by decide) rfl (fun q14 => ?_) (fun q14 => ?_)
                  · refine tb_vreturn d_Lg_lookForHazard2_85 rfl ?_
                    exact hQ _ hq
                  · exact absurd (hzM_hzd M (hzB_le M j f) j f r _) (bI_0.mp q14)
        · refine tb_aload_0 d_Lg_lookForHazard2_29 rfl ?_
          refine g_Lg_11 d_Lg_lookForHazard2_30 rfl rfl (by first | exact k1 | exact k2 | exact kE | exact kF) ?_
          refine tb_topR r0 ?_
          refine tb_iload_1 d_Lg_lookForHazard2_33 rfl ?_
          refine tb_aaload (t := 7) d_Lg_lookForHazard2_34 rfl (by decide) rfl (by first | exact k1 | exact k2 | exact kE | exact kF) (by rw [l2]; exact vp_in_nI (by omega) (by omega)) ?_
          refine tb_topR (y := 180 + f) (by rw [nI_clamp (show f < 2 ^ 31 by omega)]; exact rF) ?_
          refine g_Lg_49 d_Lg_lookForHazard2_35 rfl rfl (by first | exact k1 | exact k2 | exact kE | exact kF) ?_
          refine tb_if_eq 45 d_Lg_lookForHazard2_38 (by decide) rfl (fun h38 => ?_) (fun h38 => ?_)
          · have hg : bI (gsd M j f) = 0 := bI_f (fun z => by rcases z with z | z; exact z h26; exact z h38)
            refine tb_iconst (0) (by decide) d_Lg_lookForHazard2_45 rfl ?_
            refine tb_topI (y := bI (gsd M j f)) hg.symm ?_
            refine tb_istore_4 d_Lg_lookForHazard2_46 rfl (by decide) ?_
            refine tb_iload_3 d_Lg_lookForHazard2_48 rfl ?_
            refine tb_iload_1 d_Lg_lookForHazard2_49 rfl ?_
            refine tb_icmp_eq 79 d_Lg_lookForHazard2_50 (by decide) rfl (fun h50 => ?_) (fun h50 => ?_)
            · have hno : ¬ cnd M f b j := fun z => z.1 ((nI_eq (by omega) (by omega)).mp h50)
              refine tb_iinc_3 (1) d_Lg_lookForHazard2_79 rfl (by decide) (by decide) ?_
              refine tb_goto 2 d_Lg_lookForHazard2_82 (by decide) ?_
              rw [nI_1]
              exact ih (n - (j + 1)) (by omega) (j + 1) _ rfl (by omega) (fun e he => by
                by_cases q : e = j
                · subst q; exact hno
                · exact hall e (by omega))
            · have hjf : j ≠ f := fun z => h50 (by rw [z])
              refine tb_aload_0 d_Lg_lookForHazard2_53 rfl ?_
              refine g_Lg_11 d_Lg_lookForHazard2_54 rfl rfl (by first | exact k1 | exact k2 | exact kE | exact kF) ?_
              refine tb_topR r0 ?_
              refine tb_iload_3 d_Lg_lookForHazard2_57 rfl ?_
              refine tb_aaload (t := 7) d_Lg_lookForHazard2_58 rfl (by decide) rfl (by first | exact k1 | exact k2 | exact kE | exact kF) (by rw [l2]; exact vp_in_nI (by omega) (by omega)) ?_
              refine tb_topR (y := 180 + j) (by rw [nI_clamp (show j < 2 ^ 31 by omega)]; exact rE) ?_
              refine tb_callVr c_Lg_52 d_Lg_lookForHazard2_59 rfl rfl rfl (Nat.le_of_ble_eq_true rfl) (by exact kE) (ok_De_isDone hG hS (gK_de j (by omega)) (d + 1)) ?_
              refine tb_if_eq 79 d_Lg_lookForHazard2_62 (by decide) rfl (fun h62 => ?_) (fun h62 => ?_)
              · have hno : ¬ cnd M f b j := fun z => bI_0.mp h62 z.2.1
                refine tb_iinc_3 (1) d_Lg_lookForHazard2_79 rfl (by decide) (by decide) ?_
                refine tb_goto 2 d_Lg_lookForHazard2_82 (by decide) ?_
                rw [nI_1]
                exact ih (n - (j + 1)) (by omega) (j + 1) _ rfl (by omega) (fun e he => by
                  by_cases q : e = j
                  · subst q; exact hno
                  · exact hall e (by omega))
              · have hdn : ¬ tb_I M (180 + j) 0 = 0 := Classical.not_not.mp (fun z => h62 (bI_f z))
                refine tb_iload_4 d_Lg_lookForHazard2_65 rfl ?_
                refine tb_iload_2 d_Lg_lookForHazard2_67 rfl ?_
                refine tb_icmp_ne 79 d_Lg_lookForHazard2_68 (by decide) rfl (fun h68 => ?_) (fun h68 => ?_)
                · have hno : ¬ cnd M f b j := fun z => h68 z.2.2.1
                  refine tb_iinc_3 (1) d_Lg_lookForHazard2_79 rfl (by decide) (by decide) ?_
                  refine tb_goto 2 d_Lg_lookForHazard2_82 (by decide) ?_
                  rw [nI_1]
                  exact ih (n - (j + 1)) (by omega) (j + 1) _ rfl (by omega) (fun e he => by
                    by_cases q : e = j
                    · subst q; exact hno
                    · exact hall e (by omega))
                · have hgb : bI (gsd M j f) = b := h68
                  refine tb_aload_0 d_Lg_lookForHazard2_71 rfl ?_
                  refine tb_iload_3 d_Lg_lookForHazard2_72 rfl ?_
                  refine tb_iload_1 d_Lg_lookForHazard2_73 rfl ?_
                  refine tb_iload_4 d_Lg_lookForHazard2_74 rfl ?_
                  refine tb_callVq c_Lg_55 d_Lg_lookForHazard2_76 rfl rfl rfl (Nat.le_of_ble_eq_true rfl) (by first | exact k1 | exact k2 | exact kE | exact kF) (ok_Lg_between hG hS (e := j) (by omega) hf (bI_01 _) d) (fun v2 M2 hB => ?_)
                  obtain ⟨rfl, hB⟩ := hB
                  refine tb_iinc_3 (1) d_Lg_lookForHazard2_79 rfl (by decide) (by decide) ?_
                  refine tb_goto 2 d_Lg_lookForHazard2_82 (by decide) ?_
                  rw [nI_1]
                  rcases hB with ⟨hz, rfl⟩ | ⟨hz, r, hr, rfl⟩
                  · exact ih (n - (j + 1)) (by omega) (j + 1) _ rfl (by omega) (fun e he => by
                      by_cases q : e = j
                      · subst q; exact fun z => z.2.2.2 hz
                      · exact hall e (by omega))
                  have o := hzM_on M (hzB M j f) j f r (bI (gsd M j f))
                  have hS2 := o.sh hS
                  have kk1 := hS2.lg.1
                  have hq : Lk M (hzM M (hzB M j f) j f r (bI (gsd M j f))) f b n := Or.inr ⟨j, hlt, ⟨hjf, hdn, hgb, hz⟩, hall, r, hr, by rw [hgb]⟩
                  refine tb_iload_3 d_Lg_lookForHazard2_2 rfl ?_
                  refine tb_aload_0 d_Lg_lookForHazard2_3 rfl ?_
                  refine g_Lg_18 d_Lg_lookForHazard2_4 rfl rfl (by exact kk1) ?_
                  refine tb_icmp_ge 85 d_Lg_lookForHazard2_7 (by decide) rfl (fun q7 => ?_) (fun q7 => ?_)
                  · refine tb_vreturn d_Lg_lookForHazard2_85 rfl ?_
                    exact hQ _ hq
                  · refine tb_aload_0 d_Lg_lookForHazard2_10 rfl ?_
                    refine tb_callVr c_Lg_32 d_Lg_lookForHazard2_11 rfl rfl rfl (Nat.le_of_ble_eq_true rfl) (by exact kk1) (ok_Lg_has hG hS2 (d + 1)) ?_
                    refine tb_if_ne 85 d_Lg_lookForHazard2_14 (by decide) rfl (fun q14 => ?_) (fun q14 => ?_)
                    · refine tb_vreturn d_Lg_lookForHazard2_85 rfl ?_
                      exact hQ _ hq
                    · exact absurd (hzM_hzd M (hzB_le M j f) j f r _) (bI_0.mp q14)
          · have hg : bI (gsd M j f) = 1 := bI_t (Or.inr h38)
            refine tb_iconst (1) (by decide) d_Lg_lookForHazard2_41 rfl ?_
            refine tb_topI (y := bI (gsd M j f)) hg.symm ?_
            refine tb_goto 46 d_Lg_lookForHazard2_42 (by decide) ?_
            refine tb_istore_4 d_Lg_lookForHazard2_46 rfl (by decide) ?_
            refine tb_iload_3 d_Lg_lookForHazard2_48 rfl ?_
            refine tb_iload_1 d_Lg_lookForHazard2_49 rfl ?_
            refine tb_icmp_eq 79 d_Lg_lookForHazard2_50 (by decide) rfl (fun h50 => ?_) (fun h50 => ?_)
            · have hno : ¬ cnd M f b j := fun z => z.1 ((nI_eq (by omega) (by omega)).mp h50)
              refine tb_iinc_3 (1) d_Lg_lookForHazard2_79 rfl (by decide) (by decide) ?_
              refine tb_goto 2 d_Lg_lookForHazard2_82 (by decide) ?_
              rw [nI_1]
              exact ih (n - (j + 1)) (by omega) (j + 1) _ rfl (by omega) (fun e he => by
                by_cases q : e = j
                · subst q; exact hno
                · exact hall e (by omega))
            · have hjf : j ≠ f := fun z => h50 (by rw [z])
              refine tb_aload_0 d_Lg_lookForHazard2_53 rfl ?_
              refine g_Lg_11 d_Lg_lookForHazard2_54 rfl rfl (by first | exact k1 | exact k2 | exact kE | exact kF) ?_
              refine tb_topR r0 ?_
              refine tb_iload_3 d_Lg_lookForHazard2_57 rfl ?_
              refine tb_aaload (t := 7) d_Lg_lookForHazard2_58 rfl (by decide) rfl (by first | exact k1 | exact k2 | exact kE | exact kF) (by rw [l2]; exact vp_in_nI (by omega) (by omega)) ?_
              refine tb_topR (y := 180 + j) (by rw [nI_clamp (show j < 2 ^ 31 by omega)]; exact rE) ?_
              refine tb_callVr c_Lg_52 d_Lg_lookForHazard2_59 rfl rfl rfl (Nat.le_of_ble_eq_true rfl) (by exact kE) (ok_De_isDone hG hS (gK_de j (by omega)) (d + 1)) ?_
              refine tb_if_eq 79 d_Lg_lookForHazard2_62 (by decide) rfl (fun h62 => ?_) (fun h62 => ?_)
              · have hno : ¬ cnd M f b j := fun z => bI_0.mp h62 z.2.1
                refine tb_iinc_3 (1) d_Lg_lookForHazard2_79 rfl (by decide) (by decide) ?_
                refine tb_goto 2 d_Lg_lookForHazard2_82 (by decide) ?_
                rw [nI_1]
                exact ih (n - (j + 1)) (by omega) (j + 1) _ rfl (by omega) (fun e he => by
                  by_cases q : e = j
                  · subst q; exact hno
                  · exact hall e (by omega))
              · have hdn : ¬ tb_I M (180 + j) 0 = 0 := Classical.not_not.mp (fun z => h62 (bI_f z))
                refine tb_iload_4 d_Lg_lookForHazard2_65 rfl ?_
                refine tb_iload_2 d_Lg_lookForHazard2_67 rfl ?_
                refine tb_icmp_ne 79 d_Lg_lookForHazard2_68 (by decide) rfl (fun h68 => ?_) (fun h68 => ?_)
                · have hno : ¬ cnd M f b j := fun z => h68 z.2.2.1
                  refine tb_iinc_3 (1) d_Lg_lookForHazard2_79 rfl (by decide) (by decide) ?_
                  refine tb_goto 2 d_Lg_lookForHazard2_82 (by decide) ?_
                  rw [nI_1]
                  exact ih (n - (j + 1)) (by omega) (j + 1) _ rfl (by omega) (fun e he => by
                    by_cases q : e = j
                    · subst q; exact hno
                    · exact hall e (by omega))
                · have hgb : bI (gsd M j f) = b := h68
                  refine tb_aload_0 d_Lg_lookForHazard2_71 rfl ?_
                  refine tb_iload_3 d_Lg_lookForHazard2_72 rfl ?_
                  refine tb_iload_1 d_Lg_lookForHazard2_73 rfl ?_
                  refine tb_iload_4 d_Lg_lookForHazard2_74 rfl ?_
                  refine tb_callVq c_Lg_55 d_Lg_lookForHazard2_76 rfl rfl rfl (Nat.le_of_ble_eq_true rfl) (by first | exact k1 | exact k2 | exact kE | exact kF) (ok_Lg_between hG hS (e := j) (by omega) hf (bI_01 _) d) (fun v2 M2 hB => ?_)
                  obtain ⟨rfl, hB⟩ := hB
                  refine tb_iinc_3 (1) d_Lg_lookForHazard2_79 rfl (by decide) (by decide) ?_
                  refine tb_goto 2 d_Lg_lookForHazard2_82 (by decide) ?_
                  rw [nI_1]
                  rcases hB with ⟨hz, rfl⟩ | ⟨hz, r, hr, rfl⟩
                  · exact ih (n - (j + 1)) (by omega) (j + 1) _ rfl (by omega) (fun e he => by
                      by_cases q : e = j
                      · subst q; exact fun z => z.2.2.2 hz
                      · exact hall e (by omega))
                  have o := hzM_on M (hzB M j f) j f r (bI (gsd M j f))
                  have hS2 := o.sh hS
                  have kk1 := hS2.lg.1
                  have hq : Lk M (hzM M (hzB M j f) j f r (bI (gsd M j f))) f b n := Or.inr ⟨j, hlt, ⟨hjf, hdn, hgb, hz⟩, hall, r, hr, by rw [hgb]⟩
                  refine tb_iload_3 d_Lg_lookForHazard2_2 rfl ?_
                  refine tb_aload_0 d_Lg_lookForHazard2_3 rfl ?_
                  refine g_Lg_18 d_Lg_lookForHazard2_4 rfl rfl (by exact kk1) ?_
                  refine tb_icmp_ge 85 d_Lg_lookForHazard2_7 (by decide) rfl (fun q7 => ?_) (fun q7 => ?_)
                  · refine tb_vreturn d_Lg_lookForHazard2_85 rfl ?_
                    exact hQ _ hq
                  · refine tb_aload_0 d_Lg_lookForHazard2_10 rfl ?_
                    refine tb_callVr c_Lg_32 d_Lg_lookForHazard2_11 rfl rfl rfl (Nat.le_of_ble_eq_true rfl) (by exact kk1) (ok_Lg_has hG hS2 (d + 1)) ?_
                    refine tb_if_ne 85 d_Lg_lookForHazard2_14 (by decide) rfl (fun q14 => ?_) (fun q14 => ?_)
                    · refine tb_vreturn d_Lg_lookForHazard2_85 rfl ?_
                      exact hQ _ hq
                    · exact absurd (hzM_hzd M (hzB_le M j f) j f r _) (bI_0.mp q14)
theorem ok_Lg_look (hG : tb_G E) (hS : Sh M) (hl : tb_I M 178 1 = nI n) (hn : n ≤ 10) (h0 : ¬ hzd M) {f : Nat} (hf : f < 10) {b : Int32} (d : Nat) : tb_Rel E m_Lg_lookForHazard2 (d + 2) [.inr (.inl 178), .inl (nI f), .inl b] M (fun v M1 => v = none ∧ Lk M M1 f b n) := by
  refine tb_okOf hG (by decide) rfl (Nat.le_of_ble_eq_true rfl) rfl ?_
  refine tb_iconst (0) (by decide) d_Lg_lookForHazard2_0 rfl ?_
  refine tb_istore_3 d_Lg_lookForHazard2_1 rfl (by decide) ?_
  exact lp_Lg_look hG hS hl hn h0 hf (fun M1 h => ⟨none, rfl, rfl, h⟩) n 0 _ rfl (Nat.zero_le _) (fun e h => absurd h (Nat.not_lt_zero _))
/-- the hazard that comes first, if there is one -/
def Hz (M M1 : tb_M) (f n : Nat) : Prop := (∃ e, e < n ∧ cnd M f 1 e ∧ (∀ e', e' < e → ¬ cnd M f 1 e') ∧ ∃ r, fst12 (inW M (hzB M e f) e f) r ∧ M1 = hzM M (hzB M e f) e f r 1) ∨ ((∀ e, e < n → ¬ cnd M f 1 e) ∧ Lk M M1 f 0 n)
theorem ok_Lg_hazard (hG : tb_G E) (hS : Sh M) (hl : tb_I M 178 1 = nI n) (hn : n ≤ 10) (h0 : ¬ hzd M) {f : Nat} (hf : f < 10) (d : Nat) : tb_Rel E m_Lg_lookForHazard (d + 3) [.inr (.inl 178), .inl (nI f)] M (fun v M1 => v = none ∧ Hz M M1 f n) := by
  obtain ⟨k1, r0, k2, l2⟩ := hS.lg
  refine tb_okOf hG (by decide) rfl (Nat.le_of_ble_eq_true rfl) rfl ?_
  refine tb_aload_0 d_Lg_lookForHazard_0 rfl ?_
  refine tb_iload_1 d_Lg_lookForHazard_1 rfl ?_
  refine tb_iconst (1) (by decide) d_Lg_lookForHazard_2 rfl ?_
  refine tb_callVq c_Lg_45 d_Lg_lookForHazard_3 rfl rfl rfl (Nat.le_of_ble_eq_true rfl) (by first | exact k1 | exact k2 | exact kE | exact kF) (ok_Lg_look hG hS hl hn h0 hf d) (fun v1 M1 hP => ?_)
  obtain ⟨rfl, hP⟩ := hP
  rcases hP with ⟨rfl, hP⟩ | ⟨e, he, hc, hall, r, hr, rfl⟩
  case inr =>
    have o := hzM_on M (hzB M e f) e f r 1
    have hS2 := o.sh hS
    have kk1 := hS2.lg.1
    refine tb_aload_0 d_Lg_lookForHazard_6 rfl ?_
    refine tb_callVr c_Lg_32 d_Lg_lookForHazard_7 rfl rfl rfl (Nat.le_of_ble_eq_true rfl) (by exact kk1) (ok_Lg_has hG hS2 (d + 2)) ?_
    refine tb_if_ne 19 d_Lg_lookForHazard_10 (by decide) rfl (fun q10 => ?_) (fun q10 => ?_)
    · refine tb_vreturn d_Lg_lookForHazard_19 rfl ?_
      exact ⟨none, rfl, rfl, Or.inl ⟨e, he, hc, hall, r, hr, rfl⟩⟩
    · exact absurd (hzM_hzd M (hzB_le M e f) e f r _) (bI_0.mp q10)
  refine tb_aload_0 d_Lg_lookForHazard_6 rfl ?_
  refine tb_callVr c_Lg_32 d_Lg_lookForHazard_7 rfl rfl rfl (Nat.le_of_ble_eq_true rfl) (by first | exact k1 | exact k2 | exact kE | exact kF) (ok_Lg_has hG hS (d + 2)) ?_
  refine tb_if_ne 19 d_Lg_lookForHazard_10 (by decide) rfl (fun h10 => ?_) (fun h10 => ?_)
  · exact absurd (bI_f h0) h10
  · refine tb_aload_0 d_Lg_lookForHazard_13 rfl ?_
    refine tb_iload_1 d_Lg_lookForHazard_14 rfl ?_
    refine tb_iconst (0) (by decide) d_Lg_lookForHazard_15 rfl ?_
    refine tb_callVq c_Lg_45 d_Lg_lookForHazard_16 rfl rfl rfl (Nat.le_of_ble_eq_true rfl) (by first | exact k1 | exact k2 | exact kE | exact kF) (ok_Lg_look hG hS hl hn h0 hf d) (fun v1 M2 hP2 => ?_)
    obtain ⟨rfl, hP2⟩ := hP2
    refine tb_vreturn d_Lg_lookForHazard_19 rfl ?_
    exact ⟨none, rfl, rfl, Or.inr ⟨hP, hP2⟩⟩
end Log
