/-! TracedBuild: command, edit, drop, run. -/
section Top3
variable {E : tb_E} {M M1 M2 : tb_M} {g : Sg}
theorem HdIs.clear {m : Nat} (hm : TxOk M 2 m) : HdIs (tb_sI M 2 1 0) [] := by
  have o : On M (tb_sI M 2 1 0) (fun q => q = 2) := On.sI rfl
  have hT : TxOk (tb_sI M 2 1 0) 2 0 := ⟨rfl, by rw [sI_at]; simp [va_up]; rfl, by omega, by rw [o.i (by decide)]; exact hm.2.2.2⟩
  exact ⟨⟨0, hT⟩, by rw [txt_of hT]; rfl⟩
theorem CIs.clear (h : CIs M g) : CIs (tb_sI M 2 1 0) ([], g.2) ∧ Cf M (tb_sI M 2 1 0) := by
  obtain ⟨hS, hH, hC, hF, hB, hSt, hL, hA⟩ := h
  obtain ⟨⟨m, hm⟩, ht⟩ := hH
  have o : On M (tb_sI M 2 1 0) (fun q => q = 2) := On.sI rfl
  exact ⟨⟨o.sh hS, HdIs.clear hm, hC.of (by rw [o.r]) (fun q _ _ => o.i (by omega)), hF.of (o.i (by decide)) (o.i (by decide)), hB.of (o.i (by decide)) (o.i (by decide)), hSt.of (by rw [o.i (by decide)]) (by rw [o.r]) (fun q _ _ => o.i (by omega)), hL.of (by rw [o.i (by decide)]) (fun q _ _ => o.i (by omega)) hC.1.2.1, by rw [o.i (by decide)]; exact hA⟩, o.cf (fun q hq => by omega)⟩
theorem ok_TB_refuseC (hG : tb_G E) (h : CIs M g) (d : Nat) : tb_Ok E m_TB_refuseNoCommand (d + 6) 1 6 [.inr (.inl 1)] M (fun o m => (isC g.1 ∧ o = .inl none ∧ m = M) ∨ (¬ isC g.1 ∧ o = .inr 1 ∧ CIs m ([], g.2) ∧ Cf M m)) := by
  have hh := h
  obtain ⟨hS, hH, hC, hF, hB, hSt, hL, hA⟩ := h
  obtain ⟨k1, r0, r1, r2, r3, r4, r5⟩ := hS.tb
  obtain ⟨k2, k3, k4, k5, k6, k7⟩ := hS.tk
  have hn := hC.1.2.1
  obtain ⟨⟨m, hm⟩, ht⟩ := hH
  have hc := isC_ta hm ht
  refine tb_okOf hG (by decide) rfl (Nat.le_of_ble_eq_true rfl) rfl ?_
  refine tb_aload_0 d_TB_refuseNoCommand_0 rfl ?_
  refine g_TB_10 d_TB_refuseNoCommand_1 rfl rfl (by first | exact k1 | exact k2 | exact k3 | exact k4 | exact k5 | exact k6 | exact k7) ?_
  refine tb_topR r0 ?_
  refine tb_callVr c_TB_169 d_TB_refuseNoCommand_4 rfl rfl rfl (Nat.le_of_ble_eq_true rfl) (by first | exact k1 | exact k2 | exact k3 | exact k4 | exact k5 | exact k6 | exact k7) (ok_Tx_cmd hG hS hm (d + 1)) ?_
  refine tb_if_ne 25 d_TB_refuseNoCommand_7 (by decide) rfl (fun h7 => ?_) (fun h7 => ?_)
  · have hy : isC g.1 := hc.mp (Classical.not_not.mp (fun z => h7 (bI_f z)))
    refine tb_vreturn d_TB_refuseNoCommand_25 rfl ?_
    exact Or.inl ⟨hy, rfl, rfl⟩
  · have hy : ¬ isC g.1 := fun z => bI_0.mp h7 (hc.mpr z)
    refine tb_aload_0 d_TB_refuseNoCommand_10 rfl ?_
    refine g_TB_10 d_TB_refuseNoCommand_11 rfl rfl (by first | exact k1 | exact k2 | exact k3 | exact k4 | exact k5 | exact k6 | exact k7) ?_
    refine tb_topR r0 ?_
    refine tb_callVv c_TB_77 d_TB_refuseNoCommand_14 rfl rfl rfl (Nat.le_of_ble_eq_true rfl) (by first | exact k1 | exact k2 | exact k3 | exact k4 | exact k5 | exact k6 | exact k7) (ok_Tx_clear hG hS hm (d + 5)) ?_
    refine tb_throw (x := 1) d_TB_refuseNoCommand_17 d_TB_refuseNoCommand_20 d_TB_refuseNoCommand_21 d_TB_refuseNoCommand_24 rfl rfl tb_th1 (by decide +kernel) (tb_ix 434 (by decide +kernel) rfl) (tb_ix 435 (by decide +kernel) rfl) (tb_ix 70 (by decide +kernel) rfl) (by omega) (Nat.le_of_ble_eq_true rfl) (by decide) (by decide) ?_
    exact Or.inr ⟨hy, rfl, hh.clear⟩
theorem ok_TB_refuseP (hG : tb_G E) (h : CIs M g) {x : Int32} (d : Nat) : tb_Ok E m_TB_refuseNoPlace (d + 6) 1 6 [.inr (.inl 1), .inl x] M (fun o m => (inI x g.2.1.1 ∧ o = .inl none ∧ m = M) ∨ (¬ inI x g.2.1.1 ∧ o = .inr 3 ∧ m = tb_un M)) := by
  obtain ⟨hS, hH, hC, hF, hB, hSt, hL, hA⟩ := h
  obtain ⟨k1, r0, r1, r2, r3, r4, r5⟩ := hS.tb
  obtain ⟨k2, k3, k4, k5, k6, k7⟩ := hS.tk
  have hn := hC.1.2.1
  refine tb_okOf hG (by decide) rfl (Nat.le_of_ble_eq_true rfl) rfl ?_
  refine tb_aload_0 d_TB_refuseNoPlace_0 rfl ?_
  refine g_TB_19 d_TB_refuseNoPlace_1 rfl rfl (by first | exact k1 | exact k2 | exact k3 | exact k4 | exact k5 | exact k6 | exact k7) ?_
  refine tb_topR r1 ?_
  refine tb_iload_1 d_TB_refuseNoPlace_4 rfl ?_
  refine tb_callVr c_TB_172 d_TB_refuseNoPlace_5 rfl rfl rfl (Nat.le_of_ble_eq_true rfl) (by first | exact k1 | exact k2 | exact k3 | exact k4 | exact k5 | exact k6 | exact k7) (ok_Sc_has hG hS hC.1 x (d + 5)) ?_
  refine tb_if_ne 19 d_TB_refuseNoPlace_8 (by decide) rfl (fun h8 => ?_) (fun h8 => ?_)
  · have hy : inI x g.2.1.1 := Classical.not_not.mp (fun z => h8 (bI_f z))
    refine tb_vreturn d_TB_refuseNoPlace_19 rfl ?_
    exact Or.inl ⟨hy, rfl, rfl⟩
  · have hy : ¬ inI x g.2.1.1 := bI_0.mp h8
    refine tb_throw (x := 3) d_TB_refuseNoPlace_11 d_TB_refuseNoPlace_14 d_TB_refuseNoPlace_15 d_TB_refuseNoPlace_18 rfl rfl tb_th3 (by decide +kernel) (tb_ix 540 (by decide +kernel) rfl) (tb_ix 541 (by decide +kernel) rfl) (tb_ix 72 (by decide +kernel) rfl) (by omega) (Nat.le_of_ble_eq_true rfl) (by decide) (by decide) ?_
    exact Or.inr ⟨hy, rfl, rfl⟩
theorem ok_TB_changed (hG : tb_G E) (hS : Sh M) (d : Nat) : tb_Ret E m_TB_scriptChanged d [.inr (.inl 1)] M none (tb_sI M 1 6 0) := by
  have k1 := hS.tb.1
  refine tb_okOf hG (by decide) rfl (Nat.le_of_ble_eq_true rfl) rfl ?_
  refine tb_aload_0 d_TB_scriptChanged_0 rfl ?_
  refine tb_iconst (0) (by decide) d_TB_scriptChanged_1 rfl ?_
  refine p_TB_49 d_TB_scriptChanged_2 rfl rfl (by first | exact k1 | exact k2 | exact k3 | exact k4 | exact k5 | exact k6 | exact k7) (by first | exact Or.inl rfl | exact Or.inr rfl | assumption) ?_
  refine tb_vreturn d_TB_scriptChanged_5 rfl ?_
  exact ⟨rfl, rfl⟩
theorem gK_t26 : ∀ q, q < 26 → gK q = 6 → q + 1 < 26 ∧ (q = 2 ∨ (6 ≤ q ∧ q % 2 = 0)) := by decide +kernel
/-- a text of the script becomes what is typed -/
theorem ScIs.put {n k m : Nat} {sc : Nat → List Int32} (hC : ScIs M n sc) (hk : k < 10) {h : List Int32} (hm : TxOk M 2 m) (ht : txt M 2 = h) :
    On M (bec M (tb_R M 5 k) 2 m m) (fun q => q = tb_R M 5 k ∨ q = tb_R M 5 k + 1) ∧ (6 ≤ tb_R M 5 k ∧ tb_R M 5 k + 1 < 26) ∧ (∀ j, j < 10 → ∃ m', TxOk (bec M (tb_R M 5 k) 2 m m) (tb_R M 5 j) m') ∧ txt (bec M (tb_R M 5 k) 2 m m) (tb_R M 5 k) = h ∧ ∀ j, j < 10 → j ≠ k → txt (bec M (tb_R M 5 k) 2 m m) (tb_R M 5 j) = txt M (tb_R M 5 j) := by
  obtain ⟨mk, hTk⟩ := hC.2.1 k hk
  have hbk := hC.1.2.2.1 k hk
  have h26 := gK_t26 _ hbk.2.2 hbk.1
  have o := bec_on M (tb_R M 5 k) 2 m
  have hb := bec_ok (t := tb_R M 5 k) hTk.1 hTk.2.2.2 hm
  have hoth : ∀ j, j < 10 → j ≠ k → ¬ (tb_R M 5 j = tb_R M 5 k ∨ tb_R M 5 j = tb_R M 5 k + 1) ∧ ¬ (tb_R M 5 j + 1 = tb_R M 5 k ∨ tb_R M 5 j + 1 = tb_R M 5 k + 1) := fun j hj hjk => by
    have hbj := hC.1.2.2.1 j hj
    have h26j := gK_t26 _ hbj.2.2 hbj.1
    have hne : tb_R M 5 j ≠ tb_R M 5 k := fun z => hjk (hC.1.2.2.2 j k hj hk z)
    omega
  refine ⟨o, ⟨hbk.2.1, h26.1⟩, fun j hj => ?_, ?_, fun j hj hjk => ?_⟩
  · by_cases e : j = k
    · subst e; exact ⟨m, hb.1⟩
    · obtain ⟨mj, hTj⟩ := hC.2.1 j hj
      exact ⟨mj, hTj.on o (hoth j hj e).1 (hoth j hj e).2⟩
  · rw [txt_of hb.1, ← ht, txt_of hm]
    apply List.map_congr_left
    intro i hi
    exact hb.2 i (List.mem_range.mp hi)
  · exact txt_on (o.i (hoth j hj hjk).1) (o.i (hoth j hj hjk).2)
def updS (sc : Nat → List Int32) (k : Nat) (h : List Int32) : Nat → List Int32 := fun i => if i = k then h else sc i
noncomputable def tCmd (g : Sg) : Nat := cif (isC g.1) (if g.2.1.1 = 10 then 2 else 0) 1
noncomputable def oCmd (g : Sg) : Sg := cif (isC g.1) (if g.2.1.1 = 10 then g else ([], (g.2.1.1 + 1, updS g.2.1.2 g.2.1.1 g.1), g.2.2.1, 0, g.2.2.2.2)) ([], g.2)
theorem ok_TB_command (hG : tb_G E) (h : CIs M g) (d : Nat) : tb_Ok E m_TB_command (d + 7) 2 12 [.inr (.inl 1)] M (Post M (oCmd g) (tCmd g) (some (nI g.2.1.1))) := by
  have hh := h
  obtain ⟨hS, hH, hC, hF, hB, hSt, hL, hA⟩ := h
  obtain ⟨k1, r0, r1, r2, r3, r4, r5⟩ := hS.tb
  obtain ⟨k2, k3, k4, k5, k6, k7⟩ := hS.tk
  have hn := hC.1.2.1
  obtain ⟨⟨m, hm⟩, ht⟩ := hH
  unfold oCmd tCmd
  refine tb_okOf hG (by decide) rfl (Nat.le_of_ble_eq_true rfl) rfl ?_
  refine tb_aload_0 d_TB_command_0 rfl ?_
  refine tb_callV c_TB_61 d_TB_command_1 rfl rfl rfl (Nat.le_of_ble_eq_true rfl) (by first | exact k1 | exact k2 | exact k3 | exact k4 | exact k5 | exact k6 | exact k7) (Nat.le_refl _) (by decide) (by decide) (ok_TB_refuseC hG hh d) (fun v M' hP => ?_) (fun x M' hP => ⟨rfl, ?_⟩)
  case refine_2 =>
    rcases hP with ⟨-, hv, -⟩ | ⟨hc, hv, hX⟩
    · cases hv
    · cases hv
      rw [cif_f hc, cif_f hc]
      exact ⟨rfl, hX⟩
  rcases hP with ⟨hc, hv, hMe⟩ | ⟨-, hv, -⟩
  case inr => cases hv
  cases hv
  rw [hMe, cif_t hc, cif_t hc]
  refine tb_aload_0 d_TB_command_4 rfl ?_
  refine g_TB_19 d_TB_command_5 rfl rfl (by first | exact k1 | exact k2 | exact k3 | exact k4 | exact k5 | exact k6 | exact k7) ?_
  refine tb_topR r1 ?_
  refine tb_callVr c_TB_64 d_TB_command_8 rfl rfl rfl (Nat.le_of_ble_eq_true rfl) (by first | exact k1 | exact k2 | exact k3 | exact k4 | exact k5 | exact k6 | exact k7) (ok_Sc_isFull hG hS hC.1 (d + 6)) ?_
  refine tb_if_eq 22 d_TB_command_11 (by decide) rfl (fun h11 => ?_) (fun h11 => ?_)
  · have hf : ¬ g.2.1.1 = 10 := bI_0.mp h11
    rw [if_neg hf, if_neg hf]
    refine tb_aload_0 d_TB_command_22 rfl ?_
    refine g_TB_19 d_TB_command_23 rfl rfl (by first | exact k1 | exact k2 | exact k3 | exact k4 | exact k5 | exact k6 | exact k7) ?_
    refine tb_topR r1 ?_
    refine tb_aload_0 d_TB_command_26 rfl ?_
    refine g_TB_10 d_TB_command_27 rfl rfl (by first | exact k1 | exact k2 | exact k3 | exact k4 | exact k5 | exact k6 | exact k7) ?_
    refine tb_topR r0 ?_
    refine tb_callVr c_TB_71 d_TB_command_30 rfl rfl rfl (Nat.le_of_ble_eq_true rfl) (by first | exact k1 | exact k2 | exact k3 | exact k4 | exact k5 | exact k6 | exact k7) (ok_Sc_append hG hS hC.1 (show g.2.1.1 < 10 by omega) hm (by omega) (d + 5)) ?_
    obtain ⟨o1, hb1, p1, p2, p3⟩ := hC.put (show g.2.1.1 < 10 by omega) hm ht
    have o2 : On (bec M (tb_R M 5 g.2.1.1) 2 m m) (tb_sI (bec M (tb_R M 5 g.2.1.1) 2 m m) 4 1 (nI (g.2.1.1 + 1))) (fun q => q = 4) := On.sI rfl
    have v2 : tb_I (tb_sI (bec M (tb_R M 5 g.2.1.1) 2 m m) 4 1 (nI (g.2.1.1 + 1))) 4 1 = nI (g.2.1.1 + 1) := by rw [sI_at]; simp [va_up]
    generalize (tb_sI (bec M (tb_R M 5 g.2.1.1) 2 m m) 4 1 (nI (g.2.1.1 + 1))) = MA at o2 v2
    generalize (bec M (tb_R M 5 g.2.1.1) 2 m m) = M0 at o1 o2 p1 p2 p3
    have oA : On M MA (fun q => q = 4 ∨ (6 ≤ q ∧ q < 26)) := (o1.mono (fun q hq => by rcases hq with z | z <;> omega)).trans (o2.mono (fun q hq => Or.inl hq))
    have hSA := oA.sh hS
    have hCA : ScIs MA (g.2.1.1 + 1) (updS g.2.1.2 g.2.1.1 g.1) := by
      have hR : tb_R MA 5 = tb_R M 5 := by rw [oA.r]
      refine ⟨⟨v2, by omega, by rw [hR]; exact hC.1.2.2.1, by rw [hR]; exact hC.1.2.2.2⟩, fun j hj => ?_, fun j hj => ?_⟩
      · rw [hR]
        obtain ⟨m', q⟩ := p1 j hj
        have := hC.1.2.2.1 j hj
        exact ⟨m', q.on o2 (by omega) (by omega)⟩
      · rw [hR]
        have := hC.1.2.2.1 j (by omega)
        rw [txt_on (o2.i (by omega)) (o2.i (by omega))]
        unfold updS
        by_cases e : j = g.2.1.1
        · rw [if_pos e, e, p2]; exact ⟨rfl, hc⟩
        · rw [if_neg e, p3 j (by omega) e]; exact hC.2.2 j (by omega)
    have kA1 := hSA.tb.1
    refine tb_istore_1 d_TB_command_33 rfl (by decide) ?_
    refine tb_aload_0 d_TB_command_34 rfl ?_
    refine tb_callVv c_TB_74 d_TB_command_35 rfl rfl rfl (Nat.le_of_ble_eq_true rfl) (by exact kA1) (ok_TB_changed hG hSA (d + 6)) ?_
    have o3 : On MA (tb_sI MA 1 6 0) (fun q => q = 1) := On.sI rfl
    have v3 : tb_I (tb_sI MA 1 6 0) 1 = va_up (tb_I MA 1) 6 0 := sI_at _ _ _ _
    generalize tb_sI MA 1 6 0 = MB at o3 v3
    have hSB := o3.sh hSA
    have kB1 := hSB.tb.1
    have rB0 := hSB.tb.2.1
    have kB2 := hSB.tk.1
    have oB : On M MB (fun q => q = 1 ∨ q = 4 ∨ (6 ≤ q ∧ q < 26)) := (oA.mono (fun q hq => Or.inr hq)).trans (o3.mono (fun q hq => Or.inl hq))
    have hmB := hm.on oB (by omega) (by omega)
    refine tb_aload_0 d_TB_command_38 rfl ?_
    refine g_TB_10 d_TB_command_39 rfl rfl (by exact kB1) ?_
    refine tb_topR rB0 ?_
    refine tb_callVv c_TB_77 d_TB_command_42 rfl rfl rfl (Nat.le_of_ble_eq_true rfl) (by exact kB2) (ok_Tx_clear hG hSB hmB (d + 6)) ?_
    refine tb_iload_1 d_TB_command_45 rfl ?_
    refine tb_ireturn d_TB_command_46 rfl (by first | rfl | assumption) ?_
    have o4 : On MB (tb_sI MB 2 1 0) (fun q => q = 2) := On.sI rfl
    have o : On M (tb_sI MB 2 1 0) (fun q => q = 1 ∨ q = 2 ∨ q = 4 ∨ (6 ≤ q ∧ q < 26)) := (oB.mono (fun q hq => by omega)).trans (o4.mono (fun q hq => by omega))
    have hC4 : ScIs (tb_sI MB 2 1 0) (g.2.1.1 + 1) (updS g.2.1.2 g.2.1.1 g.1) := hCA.of (by rw [o4.r, o3.r]) (fun q _ _ => by rw [o4.i (by omega), o3.i (by omega)])
    exact ⟨rfl, ⟨o.sh hS, HdIs.clear hmB, hC4, hF.of (o.i (by omega)) (o.i (by omega)), hB.of (o.i (by omega)) (o.i (by omega)), hSt.of (by rw [o.i (by omega)]) (by rw [o.r]) (fun q _ _ => o.i (by omega)), LgIs.no (by rw [o4.i (by omega), v3]; simp [va_up]), by rw [o4.i (by omega), v3]; simp [va_up]; rw [oA.i (by omega)]; exact hA⟩, o.cf (fun q hq => by omega)⟩
  · have hf : g.2.1.1 = 10 := Classical.not_not.mp (fun z => h11 (bI_f z))
    rw [if_pos hf, if_pos hf]
    refine tb_throw (x := 2) d_TB_command_14 d_TB_command_17 d_TB_command_18 d_TB_command_21 rfl rfl tb_th2 (by decide +kernel) (tb_ix 501 (by decide +kernel) rfl) (tb_ix 502 (by decide +kernel) rfl) (tb_ix 71 (by decide +kernel) rfl) (by omega) (Nat.le_of_ble_eq_true rfl) (by decide) (by decide) ?_
    exact ⟨rfl, hh, Cf.rf⟩
noncomputable def tEdi (g : Sg) (x : Int32) : Nat := cif (inI x g.2.1.1) (cif (isC g.1) 0 1) 3
noncomputable def oEdi (g : Sg) (x : Int32) : Sg := cif (inI x g.2.1.1) (cif (isC g.1) ([], (g.2.1.1, updS g.2.1.2 x.toNatClampNeg g.1), g.2.2.1, 0, g.2.2.2.2) ([], g.2)) g
theorem ok_TB_edit (hG : tb_G E) (h : CIs M g) {x : Int32} (d : Nat) : tb_Ok E m_TB_edit (d + 7) 2 12 [.inr (.inl 1), .inl x] M (Post M (oEdi g x) (tEdi g x) none) := by
  have hh := h
  obtain ⟨hS, hH, hC, hF, hB, hSt, hL, hA⟩ := h
  obtain ⟨k1, r0, r1, r2, r3, r4, r5⟩ := hS.tb
  obtain ⟨k2, k3, k4, k5, k6, k7⟩ := hS.tk
  have hn := hC.1.2.1
  obtain ⟨⟨m, hm⟩, ht⟩ := hH
  unfold oEdi tEdi
  refine tb_okOf hG (by decide) rfl (Nat.le_of_ble_eq_true rfl) rfl ?_
  refine tb_aload_0 d_TB_edit_0 rfl ?_
  refine tb_iload_1 d_TB_edit_1 rfl ?_
  refine tb_callV c_TB_80 d_TB_edit_2 rfl rfl rfl (Nat.le_of_ble_eq_true rfl) (by first | exact k1 | exact k2 | exact k3 | exact k4 | exact k5 | exact k6 | exact k7) (Nat.le_refl _) (by decide) (by decide) (ok_TB_refuseP hG hh d) (fun v M' hP => ?_) (fun x M' hP => ⟨rfl, ?_⟩)
  case refine_2 =>
    rcases hP with ⟨-, hv, -⟩ | ⟨hx, hv, hMe⟩
    · cases hv
    · cases hv
      rw [hMe, cif_f hx, cif_f hx]
      exact ⟨rfl, hh, Cf.rf⟩
  rcases hP with ⟨hx, hv, hMe⟩ | ⟨-, hv, -⟩
  case inr => cases hv
  cases hv
  rw [hMe, cif_t hx, cif_t hx]
  obtain ⟨k, hk, rfl⟩ := inI_n (by omega) hx
  rw [nI_clamp (by omega)]
  refine tb_aload_0 d_TB_edit_5 rfl ?_
  refine tb_callV c_TB_61 d_TB_edit_6 rfl rfl rfl (Nat.le_of_ble_eq_true rfl) (by first | exact k1 | exact k2 | exact k3 | exact k4 | exact k5 | exact k6 | exact k7) (Nat.le_refl _) (by decide) (by decide) (ok_TB_refuseC hG hh d) (fun v M' hP => ?_) (fun x M' hP => ⟨rfl, ?_⟩)
  case refine_2 =>
    rcases hP with ⟨-, hv, -⟩ | ⟨hc, hv, hX⟩
    · cases hv
    · cases hv
      rw [cif_f hc, cif_f hc]
      exact ⟨rfl, hX⟩
  rcases hP with ⟨hc, hv, hMe⟩ | ⟨-, hv, -⟩
  case inr => cases hv
  cases hv
  rw [hMe, cif_t hc, cif_t hc]
  refine tb_aload_0 d_TB_edit_9 rfl ?_
  refine g_TB_19 d_TB_edit_10 rfl rfl (by first | exact k1 | exact k2 | exact k3 | exact k4 | exact k5 | exact k6 | exact k7) ?_
  refine tb_topR r1 ?_
  refine tb_iload_1 d_TB_edit_13 rfl ?_
  refine tb_callVr c_TB_83 d_TB_edit_14 rfl rfl rfl (Nat.le_of_ble_eq_true rfl) (by first | exact k1 | exact k2 | exact k3 | exact k4 | exact k5 | exact k6 | exact k7) (ok_Sc_at hG hS hC.1 (show k < 10 by omega) (d + 6)) ?_
  obtain ⟨oA, hb1, p1, p2, p3⟩ := hC.put (show k < 10 by omega) hm ht
  have kk := hS.k (hC.1.2.2.1 k (by omega)).1
  refine tb_aload_0 d_TB_edit_17 rfl ?_
  refine g_TB_10 d_TB_edit_18 rfl rfl (by first | exact k1 | exact k2 | exact k3 | exact k4 | exact k5 | exact k6 | exact k7) ?_
  refine tb_topR r0 ?_
  refine tb_callVv c_TB_87 d_TB_edit_21 rfl rfl rfl (Nat.le_of_ble_eq_true rfl) (by exact kk) (ok_Tx_become hG hS (hC.1.2.2.1 k (by omega)).1 hm (by omega) (d + 6)) ?_
  generalize (bec M (tb_R M 5 k) 2 m m) = MA at oA p1 p2 p3
  have oA2 : On M MA (fun q => (6 ≤ q ∧ q < 26)) := oA.mono (fun q hq => by rcases hq with z | z <;> omega)
  have hSA := oA.sh hS
  have hCA : ScIs MA g.2.1.1 (updS g.2.1.2 k g.1) := by
    have hR : tb_R MA 5 = tb_R M 5 := by rw [oA.r]
    refine ⟨⟨by rw [oA2.i (by omega)]; exact hC.1.1, hn, by rw [hR]; exact hC.1.2.2.1, by rw [hR]; exact hC.1.2.2.2⟩, fun j hj => ?_, fun j hj => ?_⟩
    · rw [hR]; exact p1 j hj
    · rw [hR]
      unfold updS
      by_cases e : j = k
      · rw [if_pos e, e, p2]; exact ⟨rfl, hc⟩
      · rw [if_neg e, p3 j (by omega) e]; exact hC.2.2 j (by omega)
  have kA1 := hSA.tb.1
  refine tb_aload_0 d_TB_edit_24 rfl ?_
  refine tb_callVv c_TB_74 d_TB_edit_25 rfl rfl rfl (Nat.le_of_ble_eq_true rfl) (by exact kA1) (ok_TB_changed hG hSA (d + 6)) ?_
  have o3 : On MA (tb_sI MA 1 6 0) (fun q => q = 1) := On.sI rfl
  have v3 : tb_I (tb_sI MA 1 6 0) 1 = va_up (tb_I MA 1) 6 0 := sI_at _ _ _ _
  generalize tb_sI MA 1 6 0 = MB at o3 v3
  have hSB := o3.sh hSA
  have kB1 := hSB.tb.1
  have rB0 := hSB.tb.2.1
  have kB2 := hSB.tk.1
  have oB : On M MB (fun q => q = 1 ∨ (6 ≤ q ∧ q < 26)) := (oA2.mono (fun q hq => Or.inr hq)).trans (o3.mono (fun q hq => Or.inl hq))
  have hmB := hm.on oB (by omega) (by omega)
  refine tb_aload_0 d_TB_edit_28 rfl ?_
  refine g_TB_10 d_TB_edit_29 rfl rfl (by exact kB1) ?_
  refine tb_topR rB0 ?_
  refine tb_callVv c_TB_77 d_TB_edit_32 rfl rfl rfl (Nat.le_of_ble_eq_true rfl) (by exact kB2) (ok_Tx_clear hG hSB hmB (d + 6)) ?_
  refine tb_vreturn d_TB_edit_35 rfl ?_
  have o4 : On MB (tb_sI MB 2 1 0) (fun q => q = 2) := On.sI rfl
  have o : On M (tb_sI MB 2 1 0) (fun q => q = 1 ∨ q = 2 ∨ (6 ≤ q ∧ q < 26)) := (oB.mono (fun q hq => by omega)).trans (o4.mono (fun q hq => by omega))
  have hC4 : ScIs (tb_sI MB 2 1 0) g.2.1.1 (updS g.2.1.2 k g.1) := hCA.of (by rw [o4.r, o3.r]) (fun q _ _ => by rw [o4.i (by omega), o3.i (by omega)])
  exact ⟨rfl, ⟨o.sh hS, HdIs.clear hmB, hC4, hF.of (o.i (by omega)) (o.i (by omega)), hB.of (o.i (by omega)) (o.i (by omega)), hSt.of (by rw [o.i (by omega)]) (by rw [o.r]) (fun q _ _ => o.i (by omega)), LgIs.no (by rw [o4.i (by omega), v3]; simp [va_up]), by rw [o4.i (by omega), v3]; simp [va_up]; rw [oA2.i (by omega)]; exact hA⟩, o.cf (fun q hq => by omega)⟩
noncomputable def tDro (g : Sg) (x : Int32) : Nat := cif (inI x g.2.1.1) 0 3
noncomputable def oDro (g : Sg) (x : Int32) : Sg := cif (inI x g.2.1.1) (g.1, (g.2.1.1 - 1, fun i => if i < x.toNatClampNeg then g.2.1.2 i else g.2.1.2 (i + 1)), g.2.2.1, 0, g.2.2.2.2) g
theorem ok_TB_drop (hG : tb_G E) (h : CIs M g) {x : Int32} (d : Nat) : tb_Ok E m_TB_drop (d + 7) 1 6 [.inr (.inl 1), .inl x] M (Post M (oDro g x) (tDro g x) none) := by
  have hh := h
  obtain ⟨hS, hH, hC, hF, hB, hSt, hL, hA⟩ := h
  obtain ⟨k1, r0, r1, r2, r3, r4, r5⟩ := hS.tb
  obtain ⟨k2, k3, k4, k5, k6, k7⟩ := hS.tk
  have hn := hC.1.2.1
  unfold oDro tDro
  refine tb_okOf hG (by decide) rfl (Nat.le_of_ble_eq_true rfl) rfl ?_
  refine tb_aload_0 d_TB_drop_0 rfl ?_
  refine tb_iload_1 d_TB_drop_1 rfl ?_
  refine tb_callV c_TB_80 d_TB_drop_2 rfl rfl rfl (Nat.le_of_ble_eq_true rfl) (by first | exact k1 | exact k2 | exact k3 | exact k4 | exact k5 | exact k6 | exact k7) (Nat.le_refl _) (by decide) (by decide) (ok_TB_refuseP hG hh d) (fun v M' hP => ?_) (fun x M' hP => ⟨rfl, ?_⟩)
  case refine_2 =>
    rcases hP with ⟨-, hv, -⟩ | ⟨hx, hv, hMe⟩
    · cases hv
    · cases hv
      rw [hMe, cif_f hx, cif_f hx]
      exact ⟨rfl, hh, Cf.rf⟩
  rcases hP with ⟨hx, hv, hMe⟩ | ⟨-, hv, -⟩
  case inr => cases hv
  cases hv
  rw [hMe, cif_t hx, cif_t hx]
  obtain ⟨k, hk, rfl⟩ := inI_n (by omega) hx
  rw [nI_clamp (by omega)]
  refine tb_aload_0 d_TB_drop_5 rfl ?_
  refine g_TB_19 d_TB_drop_6 rfl rfl (by first | exact k1 | exact k2 | exact k3 | exact k4 | exact k5 | exact k6 | exact k7) ?_
  refine tb_topR r1 ?_
  refine tb_iload_1 d_TB_drop_9 rfl ?_
  refine tb_callVq c_TB_91 d_TB_drop_10 rfl rfl rfl (Nat.le_of_ble_eq_true rfl) (by first | exact k1 | exact k2 | exact k3 | exact k4 | exact k5 | exact k6 | exact k7) (ok_Sc_takeOut hG hS hC.1 hk (d + 6)) (fun v1 MA hP => ?_)
  obtain ⟨rfl, oA, hR33, hI4, hR5⟩ := hP
  have hSA := oA.sh hS
  have hRk : ∀ i, tb_R MA 5 i = if i = g.2.1.1 - 1 then tb_R M 5 k else if k ≤ i ∧ i < g.2.1.1 - 1 then tb_R M 5 (i + 1) else tb_R M 5 i := fun i => by rw [hR5]; rfl
  have hix : ∀ i, i < 10 → ∃ j, j < 10 ∧ tb_R MA 5 i = tb_R M 5 j ∧ j = (if i = g.2.1.1 - 1 then k else if k ≤ i ∧ i < g.2.1.1 - 1 then i + 1 else i) := fun i hi => by
    rw [hRk]
    by_cases c : i = g.2.1.1 - 1
    · rw [if_pos c, if_pos c]; exact ⟨k, by omega, rfl, rfl⟩
    · rw [if_neg c, if_neg c]
      by_cases c2 : k ≤ i ∧ i < g.2.1.1 - 1
      · rw [if_pos c2, if_pos c2]; exact ⟨i + 1, by omega, rfl, rfl⟩
      · rw [if_neg c2, if_neg c2]; exact ⟨i, hi, rfl, rfl⟩
  have hCA : ScIs MA (g.2.1.1 - 1) (fun i => if i < k then g.2.1.2 i else g.2.1.2 (i + 1)) := by
    refine ⟨⟨by rw [hI4]; simp [va_up], by omega, fun i hi => ?_, fun i j hi hj e => ?_⟩, fun i hi => ?_, fun i hi => ?_⟩
    · obtain ⟨j, hj, e, -⟩ := hix i hi
      rw [e]; exact hC.1.2.2.1 j hj
    · obtain ⟨a, ha, e1, f1⟩ := hix i hi
      obtain ⟨b, hb, e2, f2⟩ := hix j hj
      have := hC.1.2.2.2 a b ha hb (by rw [← e1, ← e2, e])
      split at f1 <;> split at f2 <;> (try split at f1) <;> (try split at f2) <;> omega
    · obtain ⟨j, hj, e, -⟩ := hix i hi
      rw [e]
      obtain ⟨m', hT⟩ := hC.2.1 j hj
      have := hC.1.2.2.1 j hj
      exact ⟨m', hT.of (oA.i (by omega)) (oA.i (by omega))⟩
    · obtain ⟨j, hj, e, f1⟩ := hix i (by omega)
      rw [e]
      have := hC.1.2.2.1 j hj
      rw [txt_on (oA.i (by omega)) (oA.i (by omega))]
      rw [if_neg (by omega)] at f1
      by_cases c : i < k
      · rw [if_neg (by omega)] at f1
        rw [f1]
        show txt M (tb_R M 5 i) = (if i < k then g.2.1.2 i else g.2.1.2 (i + 1)) ∧ cmdP (la (if i < k then g.2.1.2 i else g.2.1.2 (i + 1))) (if i < k then g.2.1.2 i else g.2.1.2 (i + 1)).length
        rw [if_pos c]
        exact hC.2.2 i (by omega)
      · rw [if_pos ⟨by omega, hi⟩] at f1
        rw [f1]
        show txt M (tb_R M 5 (i + 1)) = (if i < k then g.2.1.2 i else g.2.1.2 (i + 1)) ∧ cmdP (la (if i < k then g.2.1.2 i else g.2.1.2 (i + 1))) (if i < k then g.2.1.2 i else g.2.1.2 (i + 1)).length
        rw [if_neg c]
        exact hC.2.2 (i + 1) (by omega)
  have kA1 := hSA.tb.1
  refine tb_aload_0 d_TB_drop_13 rfl ?_
  refine tb_callVv c_TB_74 d_TB_drop_14 rfl rfl rfl (Nat.le_of_ble_eq_true rfl) (by exact kA1) (ok_TB_changed hG hSA (d + 6)) ?_
  refine tb_vreturn d_TB_drop_17 rfl ?_
  have o3 : On MA (tb_sI MA 1 6 0) (fun q => q = 1) := On.sI rfl
  have v3 : tb_I (tb_sI MA 1 6 0) 1 = va_up (tb_I MA 1) 6 0 := sI_at _ _ _ _
  have hi : ∀ q, ¬ (q = 1 ∨ q = 4) → tb_I (tb_sI MA 1 6 0) q = tb_I M q := fun q hq => by rw [o3.i (by omega), oA.i (by omega)]
  exact ⟨rfl, ⟨o3.sh hSA, hH.of (hi _ (by omega)) (hi _ (by omega)), hCA.of (by rw [o3.r]) (fun q _ _ => o3.i (by omega)), hF.of (hi _ (by omega)) (hi _ (by omega)), hB.of (hi _ (by omega)) (hi _ (by omega)), hSt.of (by rw [hi _ (by omega)]) (by rw [o3.r, hR33]) (fun q _ _ => hi q (by omega)), LgIs.no (by rw [v3]; simp [va_up]), by rw [v3]; simp [va_up]; rw [oA.i (by omega)]; exact hA⟩, (oA.cf (fun q hq => by omega)).trans (o3.cf (fun q hq => by omega))⟩
noncomputable def run1 (g : Sg) (sp : Nat) : RS := goA g.2.1.2 g.2.1.1 sp g.2.2.1.1 g.2.2.1.2.1
def spc (R : RS) : Prop := ¬ R.2.2.2.1 = 0 ∧ (¬ dA (R.2.2.1 R.2.2.2.2.1) = 0 ∨ ¬ dA (R.2.2.1 R.2.2.2.2.2.1) = 0)
noncomputable def run2 (g : Sg) (sp : Nat) : RS := goA g.2.1.2 g.2.1.1 0 g.2.2.1.1 (run1 g sp).2.1
noncomputable def oRun (g : Sg) (x : Int32) : Sg := cif (inI x 5 ∧ ¬ g.2.1.1 = 0) (cif (spc (run1 g x.toNatClampNeg)) (g.1, g.2.1, run2 g x.toNatClampNeg, 1, g.2.2.2.2 + 1) (g.1, g.2.1, run1 g x.toNatClampNeg, 1, g.2.2.2.2)) g
noncomputable def tRun (g : Sg) (x : Int32) : Nat := cif (inI x 5) (if g.2.1.1 = 0 then 2 else 0) 1
noncomputable def aRun (g : Sg) (x : Int32) : Int32 := bI (¬ (oRun g x).2.2.1.2.2.2.1 = 0)
theorem spec_iff {n : Nat} {R : RS} (h : RIs M n R) : spec M ↔ spc R := by
  have hz := h.2.2.2.2
  unfold spec spc
  rw [hz.hd]
  constructor
  · rintro ⟨a, b⟩
    refine ⟨a, ?_⟩
    rw [(hz.2 a).2.2.2.2.2.2.2] at b
    exact Classical.not_not.mp (fun z => b (bI_f z))
  · rintro ⟨a, b⟩
    refine ⟨a, ?_⟩
    rw [(hz.2 a).2.2.2.2.2.2.2, bI_t b]
    decide
theorem RIs.cis {n : Nat} {R : RS} {hd : List Int32} {sc : Nat → List Int32} {ag : Int32} (h : RIs M n R) (hS : Sh M) (hH : HdIs M hd) (hC : ScIs M n sc) (hB : ShOk M 29) (h6 : tb_I M 1 6 = 1) (h7 : tb_I M 1 7 = ag) : CIs M (hd, (n, sc), R, 1, ag) :=
  ⟨hS, hH, hC, h.1, hB, h.2.1, ⟨h6, Or.inr rfl, fun _ => ⟨h.2.2.2.1, h.2.2.2.2⟩⟩, h7⟩
theorem ok_TB_run (hG : tb_G E) (h : CIs M g) {x : Int32} (d : Nat) : tb_Ok E m_TB_run (d + 7) 1 6 [.inr (.inl 1), .inl x] M (Post M (oRun g x) (tRun g x) (some (aRun g x))) := by
  have hh := h
  obtain ⟨hS, hH, hC, hF, hB, hSt, hL, hA⟩ := h
  obtain ⟨k1, r0, r1, r2, r3, r4, r5⟩ := hS.tb
  obtain ⟨k2, k3, k4, k5, k6, k7⟩ := hS.tk
  have hn := hC.1.2.1
  unfold tRun aRun oRun
  refine tb_okOf hG (by decide) rfl (Nat.le_of_ble_eq_true rfl) rfl ?_
  refine tb_iload_1 d_TB_run_0 rfl ?_
  refine tb_if_lt 9 d_TB_run_1 (by decide) rfl (fun h1 => ?_) (fun h1 => ?_)
  · have hx : ¬ inI x 5 := fun z => Int32.not_lt.mpr z.1 h1
    refine tb_throw (x := 1) d_TB_run_9 d_TB_run_12 d_TB_run_13 d_TB_run_16 rfl rfl tb_th1 (by decide +kernel) (tb_ix 434 (by decide +kernel) rfl) (tb_ix 435 (by decide +kernel) rfl) (tb_ix 70 (by decide +kernel) rfl) (by omega) (Nat.le_of_ble_eq_true rfl) (by decide) (by decide) ?_
    exact ⟨by rw [cif_f hx]; rfl, by rw [cif_f (fun z => hx z.1)]; exact hh, Cf.rf⟩
  · refine tb_iload_1 d_TB_run_4 rfl ?_
    refine tb_iconst (4) (by decide) d_TB_run_5 rfl ?_
    refine tb_icmp_le 17 d_TB_run_6 (by decide) rfl (fun h6 => ?_) (fun h6 => ?_)
    · have hx : inI x 5 := ⟨Int32.not_lt.mp h1, by
        obtain ⟨j, hj, rfl⟩ := nI_of h1
        have : j ≤ 4 := (nI_leI (a := j) (b := 4) hj (by omega)).mp h6
        exact nI_lt (by omega) (by omega)⟩
      obtain ⟨sp, hsp, rfl⟩ := inI_n (by omega) hx
      rw [cif_t hx, nI_clamp (by omega)]
      refine tb_aload_0 d_TB_run_17 rfl ?_
      refine g_TB_19 d_TB_run_18 rfl rfl (by first | exact k1 | exact k2 | exact k3 | exact k4 | exact k5 | exact k6 | exact k7) ?_
      refine tb_topR r1 ?_
      refine tb_callVr c_TB_94 d_TB_run_21 rfl rfl rfl (Nat.le_of_ble_eq_true rfl) (by first | exact k1 | exact k2 | exact k3 | exact k4 | exact k5 | exact k6 | exact k7) (ok_Sc_length hG hS hC.1 (d + 6)) ?_
      refine tb_if_ne 35 d_TB_run_24 (by decide) rfl (fun h24 => ?_) (fun h24 => ?_)
      · have hn0 : ¬ g.2.1.1 = 0 := fun z => h24 (by rw [z]; rfl)
        rw [if_neg hn0, cif_t ⟨hx, hn0⟩]
        refine tb_aload_0 d_TB_run_35 rfl ?_
        refine g_TB_32 d_TB_run_36 rfl rfl (by first | exact k1 | exact k2 | exact k3 | exact k4 | exact k5 | exact k6 | exact k7) ?_
        refine tb_topR r3 ?_
        refine tb_aload_0 d_TB_run_39 rfl ?_
        refine g_TB_28 d_TB_run_40 rfl rfl (by first | exact k1 | exact k2 | exact k3 | exact k4 | exact k5 | exact k6 | exact k7) ?_
        refine tb_topR r2 ?_
        refine tb_callVq c_TB_117 d_TB_run_43 rfl rfl rfl (Nat.le_of_ble_eq_true rfl) (by first | exact k1 | exact k2 | exact k3 | exact k4 | exact k5 | exact k6 | exact k7) (ok_Sh_becomeAll hG hS hB hF.1 (by decide) (d + 5)) (fun v1 MA hP => ?_)
        obtain ⟨rfl, oA, bA, cA, -⟩ := hP
        have hiA : ∀ q, ¬ (q = 30 ∨ q = 31) → tb_I MA q = tb_I M q := fun q hq => oA.i (by intro z; rcases z with z | z <;> omega)
        have hSA := oA.sh hS
        have kA1 := hSA.tb.1
        refine tb_aload_0 d_TB_run_46 rfl ?_
        refine tb_iconst (1) (by decide) d_TB_run_47 rfl ?_
        refine p_TB_49 d_TB_run_48 rfl rfl (by exact kA1) (by first | exact Or.inl rfl | exact Or.inr rfl | assumption) ?_
        have oB : On MA (tb_sI MA 1 6 1) (fun q => q = 1) := On.sI rfl
        have vB : tb_I (tb_sI MA 1 6 1) 1 = va_up (tb_I MA 1) 6 1 := sI_at _ _ _ _
        generalize tb_sI MA 1 6 1 = MB at oB vB
        have hSB := oB.sh hSA
        have hiB : ∀ q, ¬ (q = 1 ∨ q = 30 ∨ q = 31) → tb_I MB q = tb_I M q := fun q hq => by rw [oB.i (by omega), hiA q (by omega)]
        have hRB : tb_R MB = tb_R M := by rw [oB.r, oA.r]
        have hCB := hC.of (M1 := MB) (by rw [hRB]) (fun q _ _ => hiB q (by omega))
        have hFB := hF.of (M1 := MB) (hiB _ (by omega)) (hiB _ (by omega))
        have hStB := hSt.of (M1 := MB) (by rw [hiB _ (by omega)]) (by rw [hRB]) (fun q _ _ => hiB q (by omega))
        have hHB := hH.of (M1 := MB) (hiB _ (by omega)) (hiB _ (by omega))
        have hF29 : FsIs MB 29 g.2.2.1.1 := ⟨bA.of (oB.i (by omega)) (oB.i (by omega)), fun f hf => by rw [pl_of (oB.i (by omega)) (oB.i (by omega)), cA f hf]; exact hF.2 f hf⟩
        have h6B : tb_I MB 1 6 = 1 := by rw [vB]; simp [va_up]
        have h7B : tb_I MB 1 7 = g.2.2.2.2 := by rw [vB]; simp [va_up]; rw [hiA 1 (by omega)]; exact hA
        have kB1 := hSB.tb.1
        have cfB : Cf M MB := (oA.cf (fun q hq => by rcases hq with z | z <;> omega)).trans (oB.cf (fun q hq => by omega))
        refine tb_aload_0 d_TB_run_51 rfl ?_
        refine tb_iload_1 d_TB_run_52 rfl ?_
        refine tb_callVq c_TB_121 d_TB_run_53 rfl rfl rfl (Nat.le_of_ble_eq_true rfl) (by exact kB1) (ok_TB_go hG hSB hCB (show sp ≤ 4 by omega) hFB hStB d) (fun v1 MC hP => ?_)
        obtain ⟨rfl, hRC, oC⟩ := hP
        change RIs MC g.2.1.1 (run1 g sp) at hRC
        have hSC := oC.sh hSB
        have hsp := spec_iff hRC
        have hCC := oC.sc hCB
        have hHC := hHB.of (M1 := MC) (oC.i (by omega)) (oC.i (by omega))
        have hF29C := hF29.of (M1 := MC) (oC.i (by omega)) (oC.i (by omega))
        have h6C : tb_I MC 1 6 = 1 := by rw [oC.i (by omega)]; exact h6B
        have h7C : tb_I MC 1 7 = g.2.2.2.2 := by rw [oC.i (by omega)]; exact h7B
        obtain ⟨kC1, rC0, rC1, rC2, rC3, rC4, rC5⟩ := hSC.tb
        obtain ⟨kC2, kC3, kC4, kC5, kC6, kC7⟩ := hSC.tk
        have cfC := cfB.trans (oC.cf (fun q hq => by omega))
        have hfin : ∀ (RF : RS) (ag : Int32) (MF : tb_M), RIs MF g.2.1.1 RF → Sh MF → HdIs MF g.1 → ScIs MF g.2.1.1 g.2.1.2 → ShOk MF 29 → tb_I MF 1 6 = 1 → tb_I MF 1 7 = ag → Cf M MF → tb_Wp E m_TB_run (d + 7) 1 6 92 [some (.inr 1), some (.inl (nI sp))] [] MF (Post M (g.1, g.2.1, RF, 1, ag) 0 (some (bI (¬ RF.2.2.2.1 = 0)))) := by
          intro RF ag MF q1 q2 q3 q4 q5 q6 q7 q8
          obtain ⟨kq1, rq0, rq1, rq2, rq3, rq4, rq5⟩ := q2.tb
          have kq7 := q2.tk.2.2.2.2.2
          have hzq := q1.2.2.2.2.hd
          refine tb_aload_0 d_TB_run_92 rfl ?_
          refine g_TB_45 d_TB_run_93 rfl rfl (by exact kq1) ?_
          refine tb_topR rq5 ?_
          refine tb_callVr c_TB_127 d_TB_run_96 rfl rfl rfl (Nat.le_of_ble_eq_true rfl) (by exact kq7) (ok_Lg_has hG q2 (d + 6)) ?_
          refine tb_if_eq 106 d_TB_run_99 (by decide) rfl (fun h99 => ?_) (fun h99 => ?_)
          · have e : bI (¬ RF.2.2.2.1 = 0) = 0 := bI_f (fun z => bI_0.mp h99 (hzq.mpr z))
            refine tb_iconst (0) (by decide) d_TB_run_106 rfl ?_
            refine tb_ireturn d_TB_run_107 rfl (by first | rfl | assumption) ?_
            rw [e]
            exact ⟨rfl, q1.cis q2 q3 q4 q5 q6 q7, q8⟩
          · have e : bI (¬ RF.2.2.2.1 = 0) = 1 := bI_t (hzq.mp (Classical.not_not.mp (fun z => h99 (bI_f z))))
            refine tb_iconst (1) (by decide) d_TB_run_102 rfl ?_
            refine tb_goto 107 d_TB_run_103 (by decide) ?_
            refine tb_ireturn d_TB_run_107 rfl (by first | rfl | assumption) ?_
            rw [e]
            exact ⟨rfl, q1.cis q2 q3 q4 q5 q6 q7, q8⟩
        refine tb_aload_0 d_TB_run_56 rfl ?_
        refine g_TB_45 d_TB_run_57 rfl rfl (by exact kC1) ?_
        refine tb_topR rC5 ?_
        refine tb_callVr c_TB_124 d_TB_run_60 rfl rfl rfl (Nat.le_of_ble_eq_true rfl) (by exact kC7) (ok_Lg_spec hG hSC (d + 5)) ?_
        refine tb_if_eq 92 d_TB_run_63 (by decide) rfl (fun h63 => ?_) (fun h63 => ?_)
        · have hno : ¬ spc (run1 g sp) := fun z => bI_0.mp h63 (hsp.mpr z)
          rw [cif_f hno]
          exact hfin _ _ MC hRC hSC hHC hCC hF29C.1 h6C h7C cfC
        · have hyes : spc (run1 g sp) := hsp.mp (Classical.not_not.mp (fun z => h63 (bI_f z)))
          rw [cif_t hyes]
          refine tb_aload_0 d_TB_run_66 rfl ?_
          refine g_TB_28 d_TB_run_67 rfl rfl (by exact kC1) ?_
          refine tb_topR rC2 ?_
          refine tb_aload_0 d_TB_run_70 rfl ?_
          refine g_TB_32 d_TB_run_71 rfl rfl (by exact kC1) ?_
          refine tb_topR rC3 ?_
          refine tb_callVq c_TB_117 d_TB_run_74 rfl rfl rfl (Nat.le_of_ble_eq_true rfl) (by exact kC4) (ok_Sh_becomeAll hG hSC hRC.1.1 hF29C.1 (by decide) (d + 5)) (fun v1 MD hP => ?_)
          obtain ⟨rfl, oD, bD, cD, -⟩ := hP
          have hiD : ∀ q, ¬ (q = 27 ∨ q = 28) → tb_I MD q = tb_I MC q := fun q hq => oD.i (by intro z; rcases z with z | z <;> omega)
          have hSD := oD.sh hSC
          have kD1 := hSD.tb.1
          refine tb_aload_0 d_TB_run_77 rfl ?_
          refine tb_dup d_TB_run_78 rfl ?_
          refine g_TB_53 d_TB_run_79 rfl rfl (by exact kD1) ?_
          refine tb_topI (y := g.2.2.2.2) (by rw [hiD 1 (by omega)]; exact h7C) ?_
          refine tb_iconst (1) (by decide) d_TB_run_82 rfl ?_
          refine tb_iadd d_TB_run_83 rfl ?_
          refine p_TB_53 d_TB_run_84 rfl rfl (by exact kD1) ?_
          have oE : On MD (tb_sI MD 1 7 (g.2.2.2.2 + 1)) (fun q => q = 1) := On.sI rfl
          have vE : tb_I (tb_sI MD 1 7 (g.2.2.2.2 + 1)) 1 = va_up (tb_I MD 1) 7 (g.2.2.2.2 + 1) := sI_at _ _ _ _
          generalize tb_sI MD 1 7 (g.2.2.2.2 + 1) = ME at oE vE
          have hSE := oE.sh hSD
          have hiE : ∀ q, ¬ (q = 1 ∨ q = 27 ∨ q = 28) → tb_I ME q = tb_I MC q := fun q hq => by rw [oE.i (by omega), hiD q (by omega)]
          have hRE : tb_R ME = tb_R MC := by rw [oE.r, oD.r]
          have hCE := hCC.of (M1 := ME) (by rw [hRE]) (fun q _ _ => hiE q (by omega))
          have hFE : FsIs ME 26 g.2.2.1.1 := ⟨bD.of (oE.i (by omega)) (oE.i (by omega)), fun f hf => by rw [pl_of (oE.i (by omega)) (oE.i (by omega)), cD f hf]; exact hF29C.2 f hf⟩
          have hStE := hRC.2.1.of (M1 := ME) (by rw [hiE _ (by omega)]) (by rw [hRE]) (fun q _ _ => hiE q (by omega))
          have hHE := hHC.of (M1 := ME) (hiE _ (by omega)) (hiE _ (by omega))
          have hF29E := hF29C.of (M1 := ME) (hiE _ (by omega)) (hiE _ (by omega))
          have h6E : tb_I ME 1 6 = 1 := by rw [vE]; simp [va_up]; rw [hiD 1 (by omega)]; exact h6C
          have h7E : tb_I ME 1 7 = g.2.2.2.2 + 1 := by rw [vE]; simp [va_up]
          have kE1 := hSE.tb.1
          have cfE := cfC.trans ((oD.cf (fun q hq => by rcases hq with z | z <;> omega)).trans (oE.cf (fun q hq => by omega)))
          refine tb_aload_0 d_TB_run_87 rfl ?_
          refine tb_iconst (0) (by decide) d_TB_run_88 rfl ?_
          refine tb_callVq c_TB_121 d_TB_run_89 rfl rfl rfl (Nat.le_of_ble_eq_true rfl) (by exact kE1) (ok_TB_go hG hSE hCE (show 0 ≤ 4 by omega) hFE hStE d) (fun v1 MG hP => ?_)
          obtain ⟨rfl, hRG, oG⟩ := hP
          change RIs MG g.2.1.1 (run2 g sp) at hRG
          exact hfin _ _ MG hRG (oG.sh hSE) (hHE.of (oG.i (by omega)) (oG.i (by omega))) (oG.sc hCE) (hF29E.1.of (oG.i (by omega)) (oG.i (by omega))) (by rw [oG.i (by omega)]; exact h6E) (by rw [oG.i (by omega)]; exact h7E) (cfE.trans (oG.cf (fun q hq => by omega)))
      · have hn0 : g.2.1.1 = 0 := (nI_eq (by omega) (by omega)).mp (show nI g.2.1.1 = nI 0 from h24)
        rw [if_pos hn0, cif_f (fun z => z.2 hn0)]
        refine tb_throw (x := 2) d_TB_run_27 d_TB_run_30 d_TB_run_31 d_TB_run_34 rfl rfl tb_th2 (by decide +kernel) (tb_ix 501 (by decide +kernel) rfl) (tb_ix 502 (by decide +kernel) rfl) (tb_ix 71 (by decide +kernel) rfl) (by omega) (Nat.le_of_ble_eq_true rfl) (by decide) (by decide) ?_
        exact ⟨rfl, hh, Cf.rf⟩
    · have hx : ¬ inI x 5 := fun z => by
        obtain ⟨j, hj, rfl⟩ := inI_n (by omega) z
        exact h6 (nI_le (b := 4) (show j ≤ 4 by omega) (by decide))
      refine tb_throw (x := 1) d_TB_run_9 d_TB_run_12 d_TB_run_13 d_TB_run_16 rfl rfl tb_th1 (by decide +kernel) (tb_ix 434 (by decide +kernel) rfl) (tb_ix 435 (by decide +kernel) rfl) (tb_ix 70 (by decide +kernel) rfl) (by omega) (Nat.le_of_ble_eq_true rfl) (by decide) (by decide) ?_
      exact ⟨by rw [cif_f hx]; rfl, by rw [cif_f (fun z => hx z.1)]; exact hh, Cf.rf⟩
end Top3
