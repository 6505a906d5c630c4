/-! Trace: beginning, putting back, its parts. Deed. Script. -/
section Trace2
variable {E : tb_E} {M : tb_M} {t n s : Nat}
def BegP (M M1 : tb_M) (t o n s : Nat) : Prop := On M M1 (ATr t) ∧ TrOk M1 t n ∧ (∀ i, i < n → tb_I M1 (t + 2) i = tb_I M (o + 1) i) ∧ (∀ p, p < 12 → pl M1 (t + 3) p = pl M s p) ∧ tb_I M1 t 2 = 0 ∧ tb_I M1 t 3 = 0 ∧ tb_I M1 t 4 = -1
theorem ok_Tr_begin (hG : tb_G E) (hS : Sh M) (hT : TrOk M t n) {o n' : Nat} (hO : TxOk M o n') (ho : o + 1 < 34) (hF : ShOk M s) (hs : s + 2 < 34) (d : Nat) : tb_Rel E m_Tr_begin (d + 2) [.inr (.inl t), .inr (.inl o), .inr (.inl s)] M (fun v M1 => v = none ∧ BegP M M1 t o n' s) := by
  obtain ⟨k1, r0, r1, k2, k3, g4⟩ := hS.tr hT.1
  have ht34 := gK_tr34 t (gK_lt (by rw [hT.1]; decide)) hT.1
  have hb := bec_ok (t := t + 1) hT.2.1.1 hT.2.1.2.2.2 hO
  have ho1 := bec_on M (t + 1) o n'
  have hS1 := ho1.sh hS
  have hSh := hT.2.2.1.on ho1 (by omega) (by omega)
  have hF1 := hF.on ho1 (by omega) (by omega)
  refine tb_okOf hG (by decide) rfl (Nat.le_of_ble_eq_true rfl) rfl ?_
  refine tb_aload_0 d_Tr_begin_0 rfl ?_
  refine g_Tr_12 d_Tr_begin_1 rfl rfl (by first | exact k1 | exact k2 | exact k3) ?_
  refine tb_topR r0 ?_
  refine tb_aload_1 d_Tr_begin_4 rfl ?_
  refine tb_callVv c_Tr_37 d_Tr_begin_5 rfl rfl rfl (Nat.le_of_ble_eq_true rfl) (by first | exact k1 | exact k2 | exact k3) (ok_Tx_become hG hS hT.2.1.1 hO (show t + 1 ≠ o by omega) (d + 1)) ?_
  refine tb_aload_0 d_Tr_begin_8 rfl ?_
  refine g_Tr_23 d_Tr_begin_9 rfl rfl (by first | exact k1 | exact k2 | exact k3) ?_
  refine tb_topR r1 ?_
  refine tb_aload_2 d_Tr_begin_12 rfl ?_
  refine tb_callVq c_Tr_41 d_Tr_begin_13 rfl rfl rfl (Nat.le_of_ble_eq_true rfl) (by first | exact k1 | exact k2 | exact k3) (ok_Sh_becomeAll hG hS1 hSh hF1 (show t + 3 ≠ s by omega) d) (fun v M2 hP => ?_)
  obtain ⟨rfl, hP⟩ := hP
  have hS2 := hP.1.sh hS1
  have k4 := hS2.k hT.1
  refine tb_aload_0 d_Tr_begin_16 rfl ?_
  refine tb_iconst (0) (by decide) d_Tr_begin_17 rfl ?_
  refine p_Tr_27 d_Tr_begin_18 rfl rfl (by exact k4) ?_
  refine tb_aload_0 d_Tr_begin_21 rfl ?_
  refine tb_iconst (0) (by decide) d_Tr_begin_22 rfl ?_
  refine p_Tr_31 d_Tr_begin_23 rfl rfl (by exact k4) ?_
  refine tb_aload_0 d_Tr_begin_26 rfl ?_
  refine tb_iconst (-1) (by decide) d_Tr_begin_27 rfl ?_
  refine p_Tr_34 d_Tr_begin_28 rfl rfl (by exact k4) ?_
  refine tb_vreturn d_Tr_begin_31 rfl ?_
  refine ⟨none, rfl, rfl, ?_⟩
  have e0 : On M M2 (ATr t) := (ho1.mono (fun q hq => by rcases hq with h | h <;> exact ⟨by omega, by omega⟩)).trans (hP.1.mono (fun q hq => by rcases hq with h | h <;> exact ⟨by omega, by omega⟩))
  have e1 : On M2 (tb_sI (tb_sI (tb_sI M2 t 2 0) t 3 0) t 4 (-1)) (fun q => q = t) := ((On.sI (A := fun q => q = t) rfl).trans (On.sI (A := fun q => q = t) rfl)).trans (On.sI (A := fun q => q = t) rfl)
  have e2 := ShOk.on e1 (o := t + 3) (by omega) (by omega) hP.2.1
  have hbt := TxOk.on hP.1 (o := t + 1) (by intro z; rcases z with z | z <;> omega) (by intro z; rcases z with z | z <;> omega) hb.1
  have e3 := TxOk.on e1 (o := t + 1) (by omega) (by omega) hbt
  refine ⟨e0.trans (e1.mono (fun q hq => by subst hq; exact ⟨by omega, by omega⟩)), ⟨hT.1, e3, e2, Or.inl ?_⟩, fun i hi => ?_, fun p hp => ?_, ?_, ?_, ?_⟩
  · rw [sI_at]; simp [va_up]
  · rw [e1.i (by omega), hP.1.i (by intro z; rcases z with z | z <;> omega)]; exact hb.2 i hi
  · rw [pl_on e1 (by omega) (by omega), hP.2.2.1 p hp, pl_on ho1 (by omega) (by omega)]
  · rw [sI_at, sI_at, sI_at]; simp [va_up]
  · rw [sI_at, sI_at, sI_at]; simp [va_up]
  · rw [sI_at]; simp [va_up]
def PutP (M M1 : tb_M) (t s : Nat) (v : Option tb_V) : Prop := (v = some (.inl 0) ∧ M1 = M ∧ (tb_I M t 4 = -1 ∨ ∃ f, f < 12 ∧ tb_I M t 4 = nI f ∧ pl M s f = pl M (t + 3) 12)) ∨ (v = some (.inl 1) ∧ ∃ f, f < 12 ∧ tb_I M t 4 = nI f ∧ pl M s f ≠ pl M (t + 3) 12 ∧ BecP M M1 s f (t + 3) 12)
theorem ok_Tr_putBack (hG : tb_G E) (hS : Sh M) (hT : TrOk M t n) (hF : ShOk M s) (hs : s + 2 < 34) (d : Nat) : tb_Rel E m_Tr_putBack (d + 1) [.inr (.inl t), .inr (.inl s)] M (fun v M1 => PutP M M1 t s v) := by
  obtain ⟨k1, r0, r1, k2, k3, g4⟩ := hS.tr hT.1
  have ht34 := gK_tr34 t (gK_lt (by rw [hT.1]; decide)) hT.1
  have kS := hS.k hF.1
  obtain ⟨-, -, -, -, -, -, -, b3, b4⟩ := hS.sh hF.1
  rcases hT.2.2.2 with hw | ⟨f, hf, hw⟩
  · refine tb_okOf hG (by decide) rfl (Nat.le_of_ble_eq_true rfl) rfl ?_
    refine tb_aload_0 d_Tr_putBack_0 rfl ?_
    refine g_Tr_34 d_Tr_putBack_1 rfl rfl (by first | exact k1 | exact k2 | exact k3 | exact kS) ?_
    refine tb_topI hw ?_
    refine tb_iconst (-1) (by decide) d_Tr_putBack_4 rfl ?_
    refine tb_icmp_eq 25 d_Tr_putBack_5 (by decide) rfl (fun h5 => ?_) (fun h5 => ?_)
    · refine tb_iconst (0) (by decide) d_Tr_putBack_25 rfl ?_
      refine tb_ireturn d_Tr_putBack_26 rfl (by first | rfl | assumption) ?_
      exact ⟨_, rfl, Or.inl ⟨rfl, rfl, Or.inl hw⟩⟩
    · exact absurd rfl h5
  · refine tb_okOf hG (by decide) rfl (Nat.le_of_ble_eq_true rfl) rfl ?_
    refine tb_aload_0 d_Tr_putBack_0 rfl ?_
    refine g_Tr_34 d_Tr_putBack_1 rfl rfl (by first | exact k1 | exact k2 | exact k3 | exact kS) ?_
    refine tb_topI hw ?_
    refine tb_iconst (-1) (by decide) d_Tr_putBack_4 rfl ?_
    refine tb_icmp_eq 25 d_Tr_putBack_5 (by decide) rfl (fun h5 => ?_) (fun h5 => ?_)
    · exact absurd h5 (nI_nm1 (by omega))
    · refine tb_aload_1 d_Tr_putBack_8 rfl ?_
      refine tb_aload_0 d_Tr_putBack_9 rfl ?_
      refine g_Tr_34 d_Tr_putBack_10 rfl rfl (by first | exact k1 | exact k2 | exact k3 | exact kS) ?_
      refine tb_topI hw ?_
      refine tb_aload_0 d_Tr_putBack_13 rfl ?_
      refine g_Tr_23 d_Tr_putBack_14 rfl rfl (by first | exact k1 | exact k2 | exact k3 | exact kS) ?_
      refine tb_topR r1 ?_
      refine tb_bipush (12) (by decide) d_Tr_putBack_17 rfl ?_
      refine tb_callVr c_Tr_49 d_Tr_putBack_19 rfl rfl rfl (Nat.le_of_ble_eq_true rfl) (by first | exact k1 | exact k2 | exact k3 | exact kS) (ok_Sh_isSame hG hS hF hT.2.2.1 (show f < gL (s + 1) by omega) (q := 12) (show 12 < gL (t + 4) by omega) d) ?_
      refine tb_if_eq 27 d_Tr_putBack_22 (by decide) rfl (fun h22 => ?_) (fun h22 => ?_)
      · have hne := bI_0.mp h22
        refine tb_aload_1 d_Tr_putBack_27 rfl ?_
        refine tb_aload_0 d_Tr_putBack_28 rfl ?_
        refine g_Tr_34 d_Tr_putBack_29 rfl rfl (by first | exact k1 | exact k2 | exact k3 | exact kS) ?_
        refine tb_topI hw ?_
        refine tb_aload_0 d_Tr_putBack_32 rfl ?_
        refine g_Tr_23 d_Tr_putBack_33 rfl rfl (by first | exact k1 | exact k2 | exact k3 | exact kS) ?_
        refine tb_topR r1 ?_
        refine tb_bipush (12) (by decide) d_Tr_putBack_36 rfl ?_
        refine tb_callVq c_Tr_63 d_Tr_putBack_38 rfl rfl rfl (Nat.le_of_ble_eq_true rfl) (by first | exact k1 | exact k2 | exact k3 | exact kS) (ok_Sh_become hG hS hF hT.2.2.1 (show s ≠ t + 3 by omega) (show f < gL (s + 1) by omega) (q := 12) (show 12 < gL (t + 4) by omega) d) (fun v M2 hP => ?_)
        obtain ⟨rfl, hP⟩ := hP
        refine tb_iconst (1) (by decide) d_Tr_putBack_41 rfl ?_
        refine tb_ireturn d_Tr_putBack_42 rfl (by first | rfl | assumption) ?_
        exact ⟨_, rfl, Or.inr ⟨rfl, f, hf, hw, hne, hP⟩⟩
      · have heq : pl M s f = pl M (t + 3) 12 := Classical.not_not.mp (fun z => h22 (bI_f z))
        refine tb_iconst (0) (by decide) d_Tr_putBack_25 rfl ?_
        refine tb_ireturn d_Tr_putBack_26 rfl (by first | rfl | assumption) ?_
        exact ⟨_, rfl, Or.inl ⟨rfl, rfl, Or.inr ⟨f, hf, hw, heq⟩⟩⟩
noncomputable def prt (M : tb_M) (t n : Nat) (w : Int32) : Int32 := if w = 0 then nI n else if w = 1 then tb_I M t 2 else if w = 2 then tb_I M t 3 else if w = 3 then tb_I M t 4 else if w = 4 then (if tb_I M t 4 = -1 ∨ pl M (t + 3) 12 = none then -1 else nI (ln (pl M (t + 3) 12))) else -1
theorem ok_Tr_part (hG : tb_G E) (hS : Sh M) (hT : TrOk M t n) (x : Int32) (d : Nat) : tb_Ret E m_Tr_part (d + 1) [.inr (.inl t), .inl x] M (some (.inl (prt M t n x))) M := by
  obtain ⟨k1, r0, r1, k2, k3, g4⟩ := hS.tr hT.1
  have ht34 := gK_tr34 t (gK_lt (by rw [hT.1]; decide)) hT.1
  refine tb_okOf hG (by decide) rfl (Nat.le_of_ble_eq_true rfl) rfl ?_
  refine tb_iload_1 d_Tr_part_0 rfl ?_
  by_cases e0 : x = 0
  · refine tb_tableIn (35) 36 d_Tr_part_1 (by rw [e0]; decide +kernel) (by rw [e0]; decide +kernel) (by rw [e0]; decide +kernel) (by decide) ?_
    refine tb_aload_0 d_Tr_part_36 rfl ?_
    refine g_Tr_12 d_Tr_part_37 rfl rfl (by first | exact k1 | exact k2 | exact k3) ?_
    refine tb_topR r0 ?_
    refine tb_callVr c_Tr_72 d_Tr_part_40 rfl rfl rfl (Nat.le_of_ble_eq_true rfl) (by first | exact k1 | exact k2 | exact k3) (ok_Tx_length hG hS hT.2.1 d) ?_
    refine tb_ireturn d_Tr_part_43 rfl (by first | rfl | assumption) ?_
    exact ⟨by simp [prt, e0], rfl⟩
  by_cases e1 : x = 1
  · refine tb_tableIn (43) 44 d_Tr_part_1 (by rw [e1]; decide +kernel) (by rw [e1]; decide +kernel) (by rw [e1]; decide +kernel) (by decide) ?_
    refine tb_aload_0 d_Tr_part_44 rfl ?_
    refine g_Tr_27 d_Tr_part_45 rfl rfl (by first | exact k1 | exact k2 | exact k3) ?_
    refine tb_ireturn d_Tr_part_48 rfl (by first | rfl | assumption) ?_
    exact ⟨by simp [prt, e1], rfl⟩
  by_cases e2 : x = 2
  · refine tb_tableIn (48) 49 d_Tr_part_1 (by rw [e2]; decide +kernel) (by rw [e2]; decide +kernel) (by rw [e2]; decide +kernel) (by decide) ?_
    refine tb_aload_0 d_Tr_part_49 rfl ?_
    refine g_Tr_31 d_Tr_part_50 rfl rfl (by first | exact k1 | exact k2 | exact k3) ?_
    refine tb_ireturn d_Tr_part_53 rfl (by first | rfl | assumption) ?_
    exact ⟨by simp [prt, e2], rfl⟩
  by_cases e3 : x = 3
  · refine tb_tableIn (53) 54 d_Tr_part_1 (by rw [e3]; decide +kernel) (by rw [e3]; decide +kernel) (by rw [e3]; decide +kernel) (by decide) ?_
    refine tb_aload_0 d_Tr_part_54 rfl ?_
    refine g_Tr_34 d_Tr_part_55 rfl rfl (by first | exact k1 | exact k2 | exact k3) ?_
    refine tb_ireturn d_Tr_part_58 rfl (by first | rfl | assumption) ?_
    exact ⟨by simp [prt, e3], rfl⟩
  by_cases e4 : x = 4
  · refine tb_tableIn (58) 59 d_Tr_part_1 (by rw [e4]; decide +kernel) (by rw [e4]; decide +kernel) (by rw [e4]; decide +kernel) (by decide) ?_
    refine tb_aload_0 d_Tr_part_59 rfl ?_
    refine g_Tr_34 d_Tr_part_60 rfl rfl (by first | exact k1 | exact k2 | exact k3) ?_
    refine tb_iconst (-1) (by decide) d_Tr_part_63 rfl ?_
    refine tb_icmp_eq 79 d_Tr_part_64 (by decide) rfl (fun h64 => ?_) (fun h64 => ?_)
    · have hp : prt M t n x = -1 := by simp [prt, e4, h64]
      refine tb_iconst (-1) (by decide) d_Tr_part_79 rfl ?_
      refine tb_goto 92 d_Tr_part_80 (by decide) ?_
      refine tb_ireturn d_Tr_part_92 rfl (by first | rfl | assumption) ?_
      exact ⟨by rw [hp], rfl⟩
    · refine tb_aload_0 d_Tr_part_67 rfl ?_
      refine g_Tr_23 d_Tr_part_68 rfl rfl (by first | exact k1 | exact k2 | exact k3) ?_
      refine tb_topR r1 ?_
      refine tb_bipush (12) (by decide) d_Tr_part_71 rfl ?_
      refine tb_callVr c_Tr_75 d_Tr_part_73 rfl rfl rfl (Nat.le_of_ble_eq_true rfl) (by first | exact k1 | exact k2 | exact k3) (ok_Sh_isThere hG hS hT.2.2.1 (p := 12) (show 12 < gL (t + 4) by omega) d) ?_
      refine tb_if_ne 83 d_Tr_part_76 (by decide) rfl (fun h76 => ?_) (fun h76 => ?_)
      · have hne : ¬ pl M (t + 3) 12 = none := fun z => h76 (bI_f (fun y => y z))
        have hp : prt M t n x = nI (ln (pl M (t + 3) 12)) := by simp [prt, e4, h64, hne]
        refine tb_aload_0 d_Tr_part_83 rfl ?_
        refine g_Tr_23 d_Tr_part_84 rfl rfl (by first | exact k1 | exact k2 | exact k3) ?_
        refine tb_topR r1 ?_
        refine tb_bipush (12) (by decide) d_Tr_part_87 rfl ?_
        refine tb_callVr c_Tr_79 d_Tr_part_89 rfl rfl rfl (Nat.le_of_ble_eq_true rfl) (by first | exact k1 | exact k2 | exact k3) (ok_Sh_length hG hS hT.2.2.1 (p := 12) (show 12 < gL (t + 4) by omega) d) ?_
        refine tb_ireturn d_Tr_part_92 rfl (by first | rfl | assumption) ?_
        exact ⟨by rw [hp], rfl⟩
      · have hne : pl M (t + 3) 12 = none := Classical.not_not.mp (bI_0.mp h76)
        have hp : prt M t n x = -1 := by simp [prt, e4, hne]
        refine tb_iconst (-1) (by decide) d_Tr_part_79 rfl ?_
        refine tb_goto 92 d_Tr_part_80 (by decide) ?_
        refine tb_ireturn d_Tr_part_92 rfl (by first | rfl | assumption) ?_
        exact ⟨by rw [hp], rfl⟩
  refine tb_tableOut 93 d_Tr_part_1 (by have z0 := lv_neT e0 (a := 0) (by decide); have z1 := lv_neT e1 (a := 1) (by decide); have z2 := lv_neT e2 (a := 2) (by decide); have z3 := lv_neT e3 (a := 3) (by decide); have z4 := lv_neT e4 (a := 4) (by decide); omega) (by decide) ?_
  refine tb_iconst (-1) (by decide) d_Tr_part_93 rfl ?_
  refine tb_ireturn d_Tr_part_94 rfl (by first | rfl | assumption) ?_
  exact ⟨by simp [prt, e0, e1, e2, e3, e4], rfl⟩
end Trace2
section Deed
variable {E : tb_E} {M : tb_M} {o : Nat}
theorem ok_De_forget (hG : tb_G E) (hS : Sh M) (ho : gK o = 1) (d : Nat) : tb_Ret E m_De_forget d [.inr (.inl o)] M none (tb_sI (tb_sI (tb_sI M o 0 0) o 1 (-1)) o 2 0) := by
  have k1 := hS.k ho
  refine tb_okOf hG (by decide) rfl (Nat.le_of_ble_eq_true rfl) rfl ?_
  refine tb_aload_0 d_De_forget_0 rfl ?_
  refine tb_iconst (0) (by decide) d_De_forget_1 rfl ?_
  refine p_De_9 d_De_forget_2 rfl rfl (by first | exact k1) ?_
  refine tb_aload_0 d_De_forget_5 rfl ?_
  refine tb_iconst (-1) (by decide) d_De_forget_6 rfl ?_
  refine p_De_15 d_De_forget_7 rfl rfl (by first | exact k1) ?_
  refine tb_aload_0 d_De_forget_10 rfl ?_
  refine tb_iconst (0) (by decide) d_De_forget_11 rfl ?_
  refine p_De_18 d_De_forget_12 rfl rfl (by first | exact k1) (by first | exact Or.inl rfl | exact Or.inr rfl | assumption) ?_
  refine tb_vreturn d_De_forget_15 rfl ?_
  exact ⟨rfl, rfl⟩
theorem ok_De_isDone (hG : tb_G E) (hS : Sh M) (ho : gK o = 1) (d : Nat) : tb_Ret E m_De_isDone d [.inr (.inl o)] M (some (.inl (bI (tb_I M o 0 ≠ 0)))) M := by
  have k1 := hS.k ho
  refine tb_okOf hG (by decide) rfl (Nat.le_of_ble_eq_true rfl) rfl ?_
  refine tb_aload_0 d_De_isDone_0 rfl ?_
  refine g_De_9 d_De_isDone_1 rfl rfl (by first | exact k1) ?_
  refine tb_if_eq 11 d_De_isDone_4 (by decide) rfl (fun h4 => ?_) (fun h4 => ?_)
  · have hf : bI (tb_I M o 0 ≠ 0) = 0 := bI_f (fun z => z h4)
    refine tb_iconst (0) (by decide) d_De_isDone_11 rfl ?_
    refine tb_ireturn d_De_isDone_12 rfl (by first | rfl | assumption) ?_
    exact ⟨by rw [hf], rfl⟩
  · have hf : bI (tb_I M o 0 ≠ 0) = 1 := bI_t h4
    refine tb_iconst (1) (by decide) d_De_isDone_7 rfl ?_
    refine tb_goto 12 d_De_isDone_8 (by decide) ?_
    refine tb_ireturn d_De_isDone_12 rfl (by first | rfl | assumption) ?_
    exact ⟨by rw [hf], rfl⟩
theorem ok_De_keepOutcome (hG : tb_G E) (hS : Sh M) (ho : gK o = 1) {x a r : Int32} (ha : a = 0 ∨ a = 1) (d : Nat) : tb_Ret E m_De_keepOutcome d [.inr (.inl o), .inl x, .inl a, .inl r] M none (tb_sI (tb_sI (tb_sI M o 0 (if a = 0 then x else x + 4)) o 2 a) o 1 r) := by
  have k1 := hS.k ho
  refine tb_okOf hG (by decide) rfl (Nat.le_of_ble_eq_true rfl) rfl ?_
  refine tb_aload_0 d_De_keepOutcome_0 rfl ?_
  refine tb_iload_2 d_De_keepOutcome_1 rfl ?_
  refine tb_if_eq 11 d_De_keepOutcome_2 (by decide) rfl (fun h2 => ?_) (fun h2 => ?_)
  · have hx : (if a = 0 then x else x + 4) = x := if_pos h2
    refine tb_iload_1 d_De_keepOutcome_11 rfl ?_
    refine p_De_9 d_De_keepOutcome_12 rfl rfl (by first | exact k1) ?_
    refine tb_aload_0 d_De_keepOutcome_15 rfl ?_
    refine tb_iload_2 d_De_keepOutcome_16 rfl ?_
    refine p_De_18 d_De_keepOutcome_17 rfl rfl (by first | exact k1) (by exact ha) ?_
    refine tb_aload_0 d_De_keepOutcome_20 rfl ?_
    refine tb_iload_3 d_De_keepOutcome_21 rfl ?_
    refine p_De_15 d_De_keepOutcome_22 rfl rfl (by first | exact k1) ?_
    refine tb_vreturn d_De_keepOutcome_25 rfl ?_
    exact ⟨rfl, by rw [hx]⟩
  · have hx : (if a = 0 then x else x + 4) = x + 4 := if_neg h2
    refine tb_iload_1 d_De_keepOutcome_5 rfl ?_
    refine tb_iconst (4) (by decide) d_De_keepOutcome_6 rfl ?_
    refine tb_iadd d_De_keepOutcome_7 rfl ?_
    refine tb_goto 12 d_De_keepOutcome_8 (by decide) ?_
    refine p_De_9 d_De_keepOutcome_12 rfl rfl (by first | exact k1) ?_
    refine tb_aload_0 d_De_keepOutcome_15 rfl ?_
    refine tb_iload_2 d_De_keepOutcome_16 rfl ?_
    refine p_De_18 d_De_keepOutcome_17 rfl rfl (by first | exact k1) (by exact ha) ?_
    refine tb_aload_0 d_De_keepOutcome_20 rfl ?_
    refine tb_iload_3 d_De_keepOutcome_21 rfl ?_
    refine p_De_15 d_De_keepOutcome_22 rfl rfl (by first | exact k1) ?_
    refine tb_vreturn d_De_keepOutcome_25 rfl ?_
    exact ⟨rfl, by rw [hx]⟩
theorem ok_De_keepTraced (hG : tb_G E) (hS : Sh M) (ho : gK o = 1) {t : Nat} (ht : gK t = 7) {x : Int32} (d : Nat) : tb_Ret E m_De_keepTraced (d + 1) [.inr (.inl o), .inr (.inl t), .inl x] M none (tb_sI (tb_sI (tb_sI (tb_sI M o 3 (tb_I M t 2)) o 4 (tb_I M t 3)) o 5 (wm (tb_I M t 4))) o 6 x) := by
  have k1 := hS.k ho
  have k2 := hS.k ht
  have hne : t ≠ o := gK_ne (by rw [ht, ho]; decide)
  have hS1 : Sh (tb_sI (tb_sI M o 3 (tb_I M t 2)) o 4 (tb_I M t 3)) := hS
  refine tb_okOf hG (by decide) rfl (Nat.le_of_ble_eq_true rfl) rfl ?_
  refine tb_aload_0 d_De_keepTraced_0 rfl ?_
  refine tb_aload_1 d_De_keepTraced_1 rfl ?_
  refine g_De_22 d_De_keepTraced_2 rfl rfl (by first | exact k1 | exact k2) ?_
  refine p_De_27 d_De_keepTraced_5 rfl rfl (by first | exact k1 | exact k2) ?_
  refine tb_aload_0 d_De_keepTraced_8 rfl ?_
  refine tb_aload_1 d_De_keepTraced_9 rfl ?_
  refine g_De_28 d_De_keepTraced_10 rfl rfl (by first | exact k1 | exact k2) ?_
  refine tb_topI (y := tb_I M t 3) (by rw [sI_of _ _ _ hne]) ?_
  refine p_De_31 d_De_keepTraced_13 rfl rfl (by first | exact k1 | exact k2) ?_
  refine tb_aload_0 d_De_keepTraced_16 rfl ?_
  refine tb_aload_1 d_De_keepTraced_17 rfl ?_
  refine tb_callVr c_De_32 d_De_keepTraced_18 rfl rfl rfl (Nat.le_of_ble_eq_true rfl) (by first | exact k1 | exact k2) (ok_Tr_written hG hS1 ht d) ?_
  refine tb_topI (y := wm (tb_I M t 4)) (by rw [sI_of _ _ _ hne, sI_of _ _ _ hne]) ?_
  refine p_De_36 d_De_keepTraced_21 rfl rfl (by first | exact k1 | exact k2) ?_
  refine tb_aload_0 d_De_keepTraced_24 rfl ?_
  refine tb_iload_2 d_De_keepTraced_25 rfl ?_
  refine p_De_38 d_De_keepTraced_26 rfl rfl (by first | exact k1 | exact k2) ?_
  refine tb_vreturn d_De_keepTraced_29 rfl ?_
  exact ⟨rfl, rfl⟩
end Deed
/-- M' is M, but for the ints of A and the references of B -/
def On2 (M M' : tb_M) (A B : Nat → Prop) : Prop := ∃ I R, M' = (tb_n M, tb_u M, tb_K M, tb_Ln M, I, R, tb_J M) ∧ (∀ q, ¬ A q → I q = tb_I M q) ∧ ∀ q, ¬ B q → R q = tb_R M q
abbrev B2 : Nat → Prop := fun q => q = 5 ∨ q = 33
theorem FR.of {R R' : Nat → Nat → Nat} (h : FR R) (hq : ∀ q, ¬ B2 q → R' q = R q) : FR R' := by
  obtain ⟨h1, h2, h3, h4, h5, h6⟩ := h
  have hk : ∀ t c, gK t = c → c ≠ 105 → c ≠ 106 → R' t = R t := by
    intro t c hc n1 n2
    refine hq t (fun z => ?_)
    rcases z with z | z
    · subst z; exact n1 (by rw [← hc]; rfl)
    · subst z; exact n2 (by rw [← hc]; rfl)
  refine ⟨?_, fun t ht => ?_, fun t ht => ?_, fun t ht => ?_, fun k hk2 => ?_, fun j hj => ?_⟩
  · rw [hq 1 (by omega), hq 4 (by omega), hq 32 (by omega), hq 178 (by omega)]; exact h1
  · rw [hk t _ ht (by decide) (by decide)]; exact h2 t ht
  · rw [hk t _ ht (by decide) (by decide)]; exact h3 t ht
  · rw [hk t _ ht (by decide) (by decide)]; exact h4 t ht
  · rw [hq 179 (by omega)]; exact h5 k hk2
  · rw [hq 190 (by omega)]; exact h6 j hj
theorem On2.sh {M M1 : tb_M} {A : Nat → Prop} (h : On2 M M1 A B2) (hS : Sh M) : Sh M1 := by
  obtain ⟨I, R, rfl, h1, h2⟩ := h
  exact ⟨hS.1, hS.2.1, hS.2.2.of h2⟩
theorem On.two {M M1 : tb_M} {A B : Nat → Prop} (h : On M M1 A) : On2 M M1 A B := by
  obtain ⟨I, rfl, h3⟩ := h
  exact ⟨I, _, rfl, h3, fun _ _ => rfl⟩
theorem On2.trans {M M1 M2 : tb_M} {A B : Nat → Prop} (h : On2 M M1 A B) (h2 : On2 M1 M2 A B) : On2 M M2 A B := by
  obtain ⟨I, R, rfl, h3, h4⟩ := h
  obtain ⟨I2, R2, rfl, h5, h6⟩ := h2
  exact ⟨I2, R2, rfl, fun q hq => (h5 q hq).trans (h3 q hq), fun q hq => (h6 q hq).trans (h4 q hq)⟩
theorem On2.mono {M M1 : tb_M} {A A' B B' : Nat → Prop} (h : On2 M M1 A B) (ha : ∀ q, A q → A' q) (hb : ∀ q, B q → B' q) : On2 M M1 A' B' := by
  obtain ⟨I, R, rfl, h3, h4⟩ := h
  exact ⟨I, R, rfl, fun q hq => h3 q (fun z => hq (ha q z)), fun q hq => h4 q (fun z => hq (hb q z))⟩
theorem On2.i {M M1 : tb_M} {A B : Nat → Prop} (h : On2 M M1 A B) {q : Nat} (hq : ¬ A q) : tb_I M1 q = tb_I M q := by
  obtain ⟨I, R, rfl, h3, h4⟩ := h
  exact h3 q hq
theorem On2.r {M M1 : tb_M} {A B : Nat → Prop} (h : On2 M M1 A B) {q : Nat} (hq : ¬ B q) : tb_R M1 q = tb_R M q := by
  obtain ⟨I, R, rfl, h3, h4⟩ := h
  exact h4 q hq
theorem On2.sR {M : tb_M} {A B : Nat → Prop} {o k x : Nat} (h : B o) : On2 M (tb_sR M o k x) A B := ⟨_, _, rfl, fun _ _ => rfl, fun q hq => by
  unfold va_up
  rw [if_neg (fun e => hq (by rw [e]; exact h))]⟩
theorem sR_at (M : tb_M) (o k x : Nat) : tb_R (tb_sR M o k x) o = va_up (tb_R M o) k x := by
  show va_up (tb_R M) o _ o = _
  unfold va_up
  rw [if_pos rfl]
theorem sR_of (M : tb_M) {o q : Nat} (k x : Nat) (h : q ≠ o) : tb_R (tb_sR M o k x) q = tb_R M q := by
  show va_up (tb_R M) o _ q = _
  unfold va_up
  rw [if_neg h]
/-- the script has c commands; its texts are ten, all apart -/
def ScOk (M : tb_M) (c : Nat) : Prop := tb_I M 4 1 = nI c ∧ c ≤ 10 ∧ (∀ k, k < 10 → gK (tb_R M 5 k) = 6 ∧ 6 ≤ tb_R M 5 k ∧ tb_R M 5 k < 26) ∧ ∀ i j, i < 10 → j < 10 → tb_R M 5 i = tb_R M 5 j → i = j
section Script
variable {E : tb_E} {M : tb_M} {c : Nat}
theorem ok_Sc_length (hG : tb_G E) (hS : Sh M) (hC : ScOk M c) (d : Nat) : tb_Ret E m_Sc_length d [.inr (.inl 4)] M (some (.inl (nI c))) M := by
  have k1 := hS.k (o := 4) (c := 3) rfl
  have k2 := hS.k (o := 5) (c := 105) rfl
  have l2 := hS.l (o := 5) (c := 10) rfl
  have r0 := hS.2.2.1.2.2.2.2.2.2.1
  have hI := hC.1
  have hc := hC.2.1
  refine tb_okOf hG (by decide) rfl (Nat.le_of_ble_eq_true rfl) rfl ?_
  refine tb_aload_0 d_Sc_length_0 rfl ?_
  refine g_Sc_18 d_Sc_length_1 rfl rfl (by first | exact k1 | exact k2) ?_
  refine tb_topI hI ?_
  refine tb_ireturn d_Sc_length_4 rfl (by first | rfl | assumption) ?_
  exact ⟨rfl, rfl⟩
theorem ok_Sc_isFull (hG : tb_G E) (hS : Sh M) (hC : ScOk M c) (d : Nat) : tb_Ret E m_Sc_isFull d [.inr (.inl 4)] M (some (.inl (bI (c = 10)))) M := by
  have k1 := hS.k (o := 4) (c := 3) rfl
  have k2 := hS.k (o := 5) (c := 105) rfl
  have l2 := hS.l (o := 5) (c := 10) rfl
  have r0 := hS.2.2.1.2.2.2.2.2.2.1
  have hI := hC.1
  have hc := hC.2.1
  refine tb_okOf hG (by decide) rfl (Nat.le_of_ble_eq_true rfl) rfl ?_
  refine tb_aload_0 d_Sc_isFull_0 rfl ?_
  refine g_Sc_18 d_Sc_isFull_1 rfl rfl (by first | exact k1 | exact k2) ?_
  refine tb_topI hI ?_
  refine tb_bipush (10) (by decide) d_Sc_isFull_4 rfl ?_
  refine tb_icmp_lt 13 d_Sc_isFull_6 (by decide) rfl (fun h6 => ?_) (fun h6 => ?_)
  · have hf : bI (c = 10) = 0 := bI_f (fun z => by rw [z] at h6; exact absurd h6 (by decide))
    refine tb_iconst (0) (by decide) d_Sc_isFull_13 rfl ?_
    refine tb_ireturn d_Sc_isFull_14 rfl (by first | rfl | assumption) ?_
    exact ⟨by rw [hf], rfl⟩
  · have hf : bI (c = 10) = 1 := bI_t (by
      have : ¬ c < 10 := fun z => h6 (nI_lt z (by decide))
      omega)
    refine tb_iconst (1) (by decide) d_Sc_isFull_9 rfl ?_
    refine tb_goto 14 d_Sc_isFull_10 (by decide) ?_
    refine tb_ireturn d_Sc_isFull_14 rfl (by first | rfl | assumption) ?_
    exact ⟨by rw [hf], rfl⟩
def inI (x : Int32) (c : Nat) : Prop := 0 ≤ x ∧ x < nI c
theorem ok_Sc_has (hG : tb_G E) (hS : Sh M) (hC : ScOk M c) (x : Int32) (d : Nat) : tb_Ret E m_Sc_has d [.inr (.inl 4), .inl x] M (some (.inl (bI (inI x c)))) M := by
  have k1 := hS.k (o := 4) (c := 3) rfl
  have k2 := hS.k (o := 5) (c := 105) rfl
  have l2 := hS.l (o := 5) (c := 10) rfl
  have r0 := hS.2.2.1.2.2.2.2.2.2.1
  have hI := hC.1
  have hc := hC.2.1
  refine tb_okOf hG (by decide) rfl (Nat.le_of_ble_eq_true rfl) rfl ?_
  refine tb_iload_1 d_Sc_has_0 rfl ?_
  refine tb_if_lt 16 d_Sc_has_1 (by decide) rfl (fun h1 => ?_) (fun h1 => ?_)
  · have hf : bI (inI x c) = 0 := bI_f (fun z => Int32.not_lt.mpr z.1 h1)
    refine tb_iconst (0) (by decide) d_Sc_has_16 rfl ?_
    refine tb_ireturn d_Sc_has_17 rfl (by first | rfl | assumption) ?_
    exact ⟨by rw [hf], rfl⟩
  · refine tb_iload_1 d_Sc_has_4 rfl ?_
    refine tb_aload_0 d_Sc_has_5 rfl ?_
    refine g_Sc_18 d_Sc_has_6 rfl rfl (by first | exact k1 | exact k2) ?_
    refine tb_topI hI ?_
    refine tb_icmp_ge 16 d_Sc_has_9 (by decide) rfl (fun h9 => ?_) (fun h9 => ?_)
    · have hf : bI (inI x c) = 0 := bI_f (fun z => Int32.not_lt.mpr h9 z.2)
      refine tb_iconst (0) (by decide) d_Sc_has_16 rfl ?_
      refine tb_ireturn d_Sc_has_17 rfl (by first | rfl | assumption) ?_
      exact ⟨by rw [hf], rfl⟩
    · have hf : bI (inI x c) = 1 := bI_t ⟨Int32.not_lt.mp h1, Int32.not_le.mp h9⟩
      refine tb_iconst (1) (by decide) d_Sc_has_12 rfl ?_
      refine tb_goto 17 d_Sc_has_13 (by decide) ?_
      refine tb_ireturn d_Sc_has_17 rfl (by first | rfl | assumption) ?_
      exact ⟨by rw [hf], rfl⟩
theorem ok_Sc_at (hG : tb_G E) (hS : Sh M) (hC : ScOk M c) {k : Nat} (hk : k < 10) (d : Nat) : tb_Ret E m_Sc_at d [.inr (.inl 4), .inl (nI k)] M (some (.inr (.inl (tb_R M 5 k)))) M := by
  have k1 := hS.k (o := 4) (c := 3) rfl
  have k2 := hS.k (o := 5) (c := 105) rfl
  have l2 := hS.l (o := 5) (c := 10) rfl
  have r0 := hS.2.2.1.2.2.2.2.2.2.1
  have hI := hC.1
  have hc := hC.2.1
  refine tb_okOf hG (by decide) rfl (Nat.le_of_ble_eq_true rfl) rfl ?_
  refine tb_aload_0 d_Sc_at_0 rfl ?_
  refine g_Sc_11 d_Sc_at_1 rfl rfl (by first | exact k1 | exact k2) ?_
  refine tb_topR r0 ?_
  refine tb_iload_1 d_Sc_at_4 rfl ?_
  refine tb_aaload (t := 5) d_Sc_at_5 rfl (by decide) rfl (by first | exact k1 | exact k2) (by first | (rw [l2]; exact vp_in_nI (by omega) (by omega)) | (show vp_in _ (tb_Ln M 5); rw [l2]; exact vp_in_nI (by omega) (by omega))) ?_
  refine tb_topR (y := tb_R M 5 k) (by rw [nI_clamp (show k < 2 ^ 31 by omega)]) ?_
  refine tb_areturn d_Sc_at_6 rfl ?_
  exact ⟨rfl, rfl⟩
theorem ok_Sc_append (hG : tb_G E) (hS : Sh M) (hC : ScOk M c) (hf : c < 10) {o n : Nat} (hO : TxOk M o n) (ho : o < 6) (d : Nat) : tb_Ret E m_Sc_append (d + 1) [.inr (.inl 4), .inr (.inl o)] M (some (.inl (nI c))) (tb_sI (bec M (tb_R M 5 c) o n n) 4 1 (nI (c + 1))) := by
  have k1 := hS.k (o := 4) (c := 3) rfl
  have k2 := hS.k (o := 5) (c := 105) rfl
  have l2 := hS.l (o := 5) (c := 10) rfl
  have r0 := hS.2.2.1.2.2.2.2.2.2.1
  have hI := hC.1
  have hc := hC.2.1
  have hx := hC.2.2.1 c hf
  have hb : tb_I (bec M (tb_R M 5 c) o n n) 4 = tb_I M 4 := (bec_on M (tb_R M 5 c) o n).i (by intro z; rcases z with z | z <;> omega)
  have hk6 := hS.k hx.1
  refine tb_okOf hG (by decide) rfl (Nat.le_of_ble_eq_true rfl) rfl ?_
  refine tb_aload_0 d_Sc_append_0 rfl ?_
  refine g_Sc_11 d_Sc_append_1 rfl rfl (by first | exact k1 | exact k2 | exact hk6) ?_
  refine tb_topR r0 ?_
  refine tb_aload_0 d_Sc_append_4 rfl ?_
  refine g_Sc_18 d_Sc_append_5 rfl rfl (by first | exact k1 | exact k2 | exact hk6) ?_
  refine tb_topI hI ?_
  refine tb_aaload (t := 5) d_Sc_append_8 rfl (by decide) rfl (by first | exact k1 | exact k2 | exact hk6) (by first | (rw [l2]; exact vp_in_nI (by omega) (by omega)) | (show vp_in _ (tb_Ln M 5); rw [l2]; exact vp_in_nI (by omega) (by omega))) ?_
  refine tb_topR (y := tb_R M 5 c) (by rw [nI_clamp (show c < 2 ^ 31 by omega)]) ?_
  refine tb_aload_1 d_Sc_append_9 rfl ?_
  refine tb_callVv c_Sc_22 d_Sc_append_10 rfl rfl rfl (Nat.le_of_ble_eq_true rfl) (by first | exact k1 | exact k2 | exact hk6) (ok_Tx_become hG hS hx.1 hO (show tb_R M 5 c ≠ o by omega) d) ?_
  refine tb_aload_0 d_Sc_append_13 rfl ?_
  refine tb_dup d_Sc_append_14 rfl ?_
  refine g_Sc_18 d_Sc_append_15 rfl rfl (by first | exact k1 | exact k2 | exact hk6) ?_
  refine tb_topI (y := nI c) (by rw [hb]; exact hI) ?_
  refine tb_iconst (1) (by decide) d_Sc_append_18 rfl ?_
  refine tb_iadd d_Sc_append_19 rfl ?_
  rw [nI_1]
  refine p_Sc_18 d_Sc_append_20 rfl rfl (by first | exact k1 | exact k2 | exact hk6) ?_
  refine tb_aload_0 d_Sc_append_23 rfl ?_
  refine g_Sc_18 d_Sc_append_24 rfl rfl (by first | exact k1 | exact k2 | exact hk6) ?_
  refine tb_topI (y := nI (c + 1)) (by rw [sI_at]; simp [va_up]) ?_
  refine tb_iconst (1) (by decide) d_Sc_append_27 rfl ?_
  refine tb_isub d_Sc_append_28 rfl ?_
  rw [nI_pred]
  refine tb_ireturn d_Sc_append_29 rfl (by first | rfl | assumption) ?_
  exact ⟨rfl, rfl⟩
/-- the k-th goes behind the others -/
def rot (f : Nat → Nat) (k e : Nat) : Nat → Nat := fun i => if k ≤ i ∧ i < e then f (i + 1) else f i
theorem lp_Sc_takeOut (hS : Sh M) (hC : ScOk M c) {k : Nat} (hk : k < c) {d rc rs : Nat} {Q : tb_O → tb_M → Prop} (hQ : ∀ M1, On2 M M1 (fun q => q = 4) B2 → tb_R M1 33 = tb_R M 33 → tb_I M1 4 = va_up (tb_I M 4) 1 (nI (c - 1)) → tb_R M1 5 = va_up (rot (tb_R M 5) k (c - 1)) (c - 1) (tb_R M 5 k) → Q (.inl none) M1) :
    ∀ (m j : Nat), c - j = m → k ≤ j → j < c → ∀ M1, On2 M M1 (fun q => q = 4) B2 → tb_R M1 33 = tb_R M 33 → tb_I M1 4 = tb_I M 4 → tb_R M1 5 = rot (tb_R M 5) k j → tb_Wp E m_Sc_takeOut d rc rs 9 [some (.inr 4), some (.inl (nI k)), some (.inr (tb_R M 5 k)), some (.inl (nI j))] [] M1 Q := by
  have hI := hC.1
  have hc := hC.2.1
  intro m
  induction m using Nat.strongRecOn with
  | ind m ih =>
    intro j hm hkj hj M1 h1 h33 h2 h3
    have hS1 := h1.sh hS
    have k1 := hS1.k (o := 4) (c := 3) rfl
    have k2 := hS1.k (o := 5) (c := 105) rfl
    have l2 := hS1.l (o := 5) (c := 10) rfl
    have r0 := hS1.2.2.1.2.2.2.2.2.2.1
    have hI1 : tb_I M1 4 1 = nI c := by rw [h2]; exact hI
    refine tb_iload_3 d_Sc_takeOut_9 rfl ?_
    refine tb_iconst (1) (by decide) d_Sc_takeOut_10 rfl ?_
    refine tb_iadd d_Sc_takeOut_11 rfl ?_
    rw [nI_1]
    refine tb_aload_0 d_Sc_takeOut_12 rfl ?_
    refine g_Sc_18 d_Sc_takeOut_13 rfl rfl (by first | exact k1 | exact k2) ?_
    refine tb_topI hI1 ?_
    refine tb_icmp_ge 39 d_Sc_takeOut_16 (by decide) rfl (fun h16 => ?_) (fun h16 => ?_)
    · have hje : j + 1 = c := by have := (nI_leI (a := c) (b := j + 1) (by omega) (by omega)).mp h16; omega
      refine tb_aload_0 d_Sc_takeOut_39 rfl ?_
      refine tb_dup d_Sc_takeOut_40 rfl ?_
      refine g_Sc_18 d_Sc_takeOut_41 rfl rfl (by first | exact k1 | exact k2) ?_
      refine tb_topI hI1 ?_
      refine tb_iconst (1) (by decide) d_Sc_takeOut_44 rfl ?_
      refine tb_isub d_Sc_takeOut_45 rfl ?_
      rw [nI_sub1 (show 1 ≤ c by omega)]
      refine p_Sc_18 d_Sc_takeOut_46 rfl rfl (by first | exact k1 | exact k2) ?_
      refine tb_aload_0 d_Sc_takeOut_49 rfl ?_
      refine g_Sc_11 d_Sc_takeOut_50 rfl rfl (by first | exact k1 | exact k2) ?_
      refine tb_topR r0 ?_
      refine tb_aload_0 d_Sc_takeOut_53 rfl ?_
      refine g_Sc_18 d_Sc_takeOut_54 rfl rfl (by first | exact k1 | exact k2) ?_
      refine tb_topI (y := nI (c - 1)) (by rw [sI_at]; simp [va_up]) ?_
      refine tb_aload_2 d_Sc_takeOut_57 rfl ?_
      refine tb_aastore (ci := 5) (t := 5) d_Sc_takeOut_58 rfl (by decide) rfl rfl (by decide) (by exact k2) (by exact hS1.k (hC.2.2.1 k (by omega)).1) (by show vp_in _ (tb_Ln M1 5); rw [l2]; exact vp_in_nI (by omega) (by omega)) ?_
      rw [nI_clamp (show c - 1 < 2 ^ 31 by omega)]
      refine tb_vreturn d_Sc_takeOut_59 rfl ?_
      have hjc : j = c - 1 := by omega
      refine hQ _ ((h1.trans (On.sI (A := fun q => q = 4) rfl).two).trans (On2.sR (Or.inl rfl))) ?_ ?_ ?_
      · rw [sR_of _ _ _ (by decide)]
        exact h33
      · show tb_I (tb_sI M1 4 1 (nI (c - 1))) 4 = _
        rw [sI_at, h2]
      · rw [sR_at]
        show va_up (tb_R M1 5) _ _ = _
        rw [h3, hjc]
    · have hlt : j + 1 < c := Nat.lt_of_not_le (fun q => h16 ((nI_leI (a := c) (b := j + 1) (by omega) (by omega)).mpr q))
      refine tb_aload_0 d_Sc_takeOut_19 rfl ?_
      refine g_Sc_11 d_Sc_takeOut_20 rfl rfl (by first | exact k1 | exact k2) ?_
      refine tb_topR r0 ?_
      refine tb_iload_3 d_Sc_takeOut_23 rfl ?_
      refine tb_aload_0 d_Sc_takeOut_24 rfl ?_
      refine g_Sc_11 d_Sc_takeOut_25 rfl rfl (by first | exact k1 | exact k2) ?_
      refine tb_topR r0 ?_
      refine tb_iload_3 d_Sc_takeOut_28 rfl ?_
      refine tb_iconst (1) (by decide) d_Sc_takeOut_29 rfl ?_
      refine tb_iadd d_Sc_takeOut_30 rfl ?_
      rw [nI_1]
      refine tb_aaload (t := 5) d_Sc_takeOut_31 rfl (by decide) rfl (by first | exact k1 | exact k2) (by first | (rw [l2]; exact vp_in_nI (by omega) (by omega)) | (show vp_in _ (tb_Ln M1 5); rw [l2]; exact vp_in_nI (by omega) (by omega))) ?_
      refine tb_topR (y := tb_R M 5 (j + 1)) (by rw [nI_clamp (show j + 1 < 2 ^ 31 by omega)]; rw [h3]; unfold rot; rw [if_neg (by omega)]) ?_
      refine tb_aastore (ci := 5) (t := 5) d_Sc_takeOut_32 rfl (by decide) rfl rfl (by decide) (by exact k2) (by exact hS1.k (hC.2.2.1 (j + 1) (by omega)).1) (by first | (rw [l2]; exact vp_in_nI (by omega) (by omega)) | (show vp_in _ (tb_Ln M1 5); rw [l2]; exact vp_in_nI (by omega) (by omega))) ?_
      rw [nI_clamp (show j < 2 ^ 31 by omega)]
      refine tb_iinc_3 (1) d_Sc_takeOut_33 rfl (by decide) (by decide) ?_
      refine tb_goto 9 d_Sc_takeOut_36 (by decide) ?_
      rw [nI_1]
      refine ih (c - (j + 1)) (by omega) (j + 1) rfl (by omega) hlt _ (h1.trans (On2.sR (Or.inl rfl))) ?_ h2 ?_
      · rw [sR_of _ _ _ (by decide)]
        exact h33
      · rw [sR_at, h3]
        funext i
        unfold va_up rot
        by_cases e : i = j
        · subst e
          rw [if_pos rfl, if_pos ⟨hkj, by omega⟩]
        · rw [if_neg e]
          by_cases e2 : k ≤ i ∧ i < j
          · rw [if_pos e2, if_pos ⟨e2.1, by omega⟩]
          · rw [if_neg e2, if_neg (by omega)]
theorem ok_Sc_takeOut (hG : tb_G E) (hS : Sh M) (hC : ScOk M c) {k : Nat} (hk : k < c) (d : Nat) : tb_Rel E m_Sc_takeOut d [.inr (.inl 4), .inl (nI k)] M (fun v M1 => v = none ∧ On2 M M1 (fun q => q = 4) B2 ∧ tb_R M1 33 = tb_R M 33 ∧ tb_I M1 4 = va_up (tb_I M 4) 1 (nI (c - 1)) ∧ tb_R M1 5 = va_up (rot (tb_R M 5) k (c - 1)) (c - 1) (tb_R M 5 k)) := by
  have k1 := hS.k (o := 4) (c := 3) rfl
  have k2 := hS.k (o := 5) (c := 105) rfl
  have l2 := hS.l (o := 5) (c := 10) rfl
  have r0 := hS.2.2.1.2.2.2.2.2.2.1
  have hI := hC.1
  have hc := hC.2.1
  refine tb_okOf hG (by decide) rfl (Nat.le_of_ble_eq_true rfl) rfl ?_
  refine tb_aload_0 d_Sc_takeOut_0 rfl ?_
  refine g_Sc_11 d_Sc_takeOut_1 rfl rfl (by first | exact k1 | exact k2) ?_
  refine tb_topR r0 ?_
  refine tb_iload_1 d_Sc_takeOut_4 rfl ?_
  refine tb_aaload (t := 5) d_Sc_takeOut_5 rfl (by decide) rfl (by first | exact k1 | exact k2) (by first | (rw [l2]; exact vp_in_nI (by omega) (by omega)) | (show vp_in _ (tb_Ln M 5); rw [l2]; exact vp_in_nI (by omega) (by omega))) ?_
  refine tb_topR (y := tb_R M 5 k) (by rw [nI_clamp (show k < 2 ^ 31 by omega)]) ?_
  refine tb_astore_2 d_Sc_takeOut_6 rfl (by decide) ?_
  refine tb_iload_1 d_Sc_takeOut_7 rfl ?_
  refine tb_istore_3 d_Sc_takeOut_8 rfl (by decide) ?_
  refine lp_Sc_takeOut hS hC hk (fun M1 h1 h2 h3 h4 => ⟨none, rfl, rfl, h1, h2, h3, h4⟩) (c - k) k rfl (Nat.le_refl _) hk M On.rf.two rfl rfl ?_
  funext i
  unfold rot
  rw [if_neg (by omega)]
end Script
