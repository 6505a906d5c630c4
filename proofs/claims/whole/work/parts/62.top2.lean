/-! TracedBuild: its other calls. -/
section Top2
variable {E : tb_E} {M M1 M2 : tb_M} {g : Sg}
noncomputable def tNum (g : Sg) (x y : Int32) : Nat := cif (inI x 12 ∧ inI y (ln (g.2.2.1.1 x.toNatClampNeg))) 0 3
def aNum (g : Sg) (x y : Int32) : Int32 := (cl (g.2.2.1.1 x.toNatClampNeg)).getD y.toNatClampNeg 0
theorem ok_TB_number (hG : tb_G E) (h : CIs M g) {x y : Int32} (d : Nat) : tb_Ok E m_TB_number (d + 6) 1 6 [.inr (.inl 1), .inl x, .inl y] M (Post M g (tNum g x y) (some (aNum g x y))) := by
  have hh := h
  obtain ⟨hS, hH, hC, hF, hB, hSt, hL, hA⟩ := h
  obtain ⟨k1, r0, r1, r2, r3, r4, r5⟩ := hS.tb
  obtain ⟨k2, k3, k4, k5, k6, k7⟩ := hS.tk
  have hn := hC.1.2.1
  unfold tNum
  by_cases hx : inI x 12
  · obtain ⟨f, hf, rfl⟩ := inI_n (by decide) hx
    rw [nI_clamp (by omega)]
    have hle : ln (g.2.2.1.1 f) ≤ 6 := by rw [← hF.2 f hf]; exact ln_le hF.1 (show f < gL 27 by rw [show gL 27 = 12 from rfl]; exact hf)
    refine tb_okOf hG (by decide) rfl (Nat.le_of_ble_eq_true rfl) rfl ?_
    refine tb_iload_1 d_TB_number_0 rfl ?_
    refine tb_callSr c_TB_98 d_TB_number_1 rfl rfl rfl (Nat.le_of_ble_eq_true rfl) (ok_TB_isFile hG _ (d + 5)) ?_
    refine tb_if_eq 23 d_TB_number_4 (by decide) rfl (fun h4 => ?_) (fun h4 => ?_)
    · exact absurd hx (bI_0.mp h4)
    · refine tb_iload_2 d_TB_number_7 rfl ?_
      refine tb_if_lt 23 d_TB_number_8 (by decide) rfl (fun h8 => ?_) (fun h8 => ?_)
      · have hny : ¬ inI y (ln (g.2.2.1.1 f)) := fun z => Int32.not_lt.mpr z.1 h8
        refine tb_throw (x := 3) d_TB_number_23 d_TB_number_26 d_TB_number_27 d_TB_number_30 rfl rfl tb_th3 (by decide +kernel) (tb_ix 540 (by decide +kernel) rfl) (tb_ix 541 (by decide +kernel) rfl) (tb_ix 72 (by decide +kernel) rfl) (by omega) (Nat.le_of_ble_eq_true rfl) (by decide) (by decide) ?_
        exact ⟨by rw [cif_f (fun z => hny z.2)]; rfl, hh, Cf.rf⟩
      · refine tb_iload_2 d_TB_number_11 rfl ?_
        refine tb_aload_0 d_TB_number_12 rfl ?_
        refine g_TB_28 d_TB_number_13 rfl rfl (by first | exact k1 | exact k2 | exact k3 | exact k4 | exact k5 | exact k6 | exact k7) ?_
        refine tb_topR r2 ?_
        refine tb_iload_1 d_TB_number_16 rfl ?_
        refine tb_callVr c_TB_105 d_TB_number_17 rfl rfl rfl (Nat.le_of_ble_eq_true rfl) (by first | exact k1 | exact k2 | exact k3 | exact k4 | exact k5 | exact k6 | exact k7) (ok_Sh_length hG hS hF.1 (p := f) (show f < gL 27 by rw [show gL 27 = 12 from rfl]; exact hf) (d + 5)) ?_
        rw [hF.2 f hf]
        refine tb_icmp_lt 31 d_TB_number_20 (by decide) rfl (fun h20 => ?_) (fun h20 => ?_)
        · have hy : inI y (ln (g.2.2.1.1 f)) := ⟨Int32.not_lt.mp h8, h20⟩
          obtain ⟨i, hi, rfl⟩ := inI_n (by omega) hy
          refine tb_aload_0 d_TB_number_31 rfl ?_
          refine g_TB_28 d_TB_number_32 rfl rfl (by first | exact k1 | exact k2 | exact k3 | exact k4 | exact k5 | exact k6 | exact k7) ?_
          refine tb_topR r2 ?_
          refine tb_iload_1 d_TB_number_35 rfl ?_
          refine tb_iload_2 d_TB_number_36 rfl ?_
          refine tb_callVr c_TB_166 d_TB_number_37 rfl rfl rfl (Nat.le_of_ble_eq_true rfl) (by first | exact k1 | exact k2 | exact k3 | exact k4 | exact k5 | exact k6 | exact k7) (ok_Sh_at hG hS hF.1 (p := f) (show f < gL 27 by rw [show gL 27 = 12 from rfl]; exact hf) (i := i) (by omega) (d + 5)) ?_
          refine tb_ireturn d_TB_number_40 rfl (by exact hF.1.2.2 _ (show 6 * f + i < gL 28 by rw [show gL 28 = 72 from rfl]; omega)) ?_
          refine ⟨?_, hh, Cf.rf⟩
          rw [cif_t ⟨hx, hy⟩]
          have e := pl_at (i := i) hF.1 (show f < gL 27 by rw [show gL 27 = 12 from rfl]; exact hf) (by rw [hF.2 f hf]; exact hi)
          unfold aNum
          rw [nI_clamp (by omega), nI_clamp (by omega), e]
          simp only [hF.2 f hf]
          have hi2 : i < (cl (g.2.2.1.1 f)).length := hi
          rw [List.getD_eq_getElem?_getD, List.getElem?_eq_getElem hi2]
          rfl
        · have hny : ¬ inI y (ln (g.2.2.1.1 f)) := fun z => h20 z.2
          refine tb_throw (x := 3) d_TB_number_23 d_TB_number_26 d_TB_number_27 d_TB_number_30 rfl rfl tb_th3 (by decide +kernel) (tb_ix 540 (by decide +kernel) rfl) (tb_ix 541 (by decide +kernel) rfl) (tb_ix 72 (by decide +kernel) rfl) (by omega) (Nat.le_of_ble_eq_true rfl) (by decide) (by decide) ?_
          exact ⟨by rw [cif_f (fun z => hny z.2)]; rfl, hh, Cf.rf⟩
  · rw [cif_f (fun z => hx z.1)]
    refine tb_okOf hG (by decide) rfl (Nat.le_of_ble_eq_true rfl) rfl ?_
    refine tb_iload_1 d_TB_number_0 rfl ?_
    refine tb_callSr c_TB_98 d_TB_number_1 rfl rfl rfl (Nat.le_of_ble_eq_true rfl) (ok_TB_isFile hG _ (d + 5)) ?_
    refine tb_if_eq 23 d_TB_number_4 (by decide) rfl (fun h4 => ?_) (fun h4 => ?_)
    · refine tb_throw (x := 3) d_TB_number_23 d_TB_number_26 d_TB_number_27 d_TB_number_30 rfl rfl tb_th3 (by decide +kernel) (tb_ix 540 (by decide +kernel) rfl) (tb_ix 541 (by decide +kernel) rfl) (tb_ix 72 (by decide +kernel) rfl) (by omega) (Nat.le_of_ble_eq_true rfl) (by decide) (by decide) ?_
      exact ⟨rfl, hh, Cf.rf⟩
    · exact absurd (bI_f hx) h4
noncomputable def prA (x : TrV) (w : Int32) : Int32 := if w = 0 then nI (tT x).length else if w = 1 then tRd x else if w = 2 then tAk x else if w = 3 then tWr x else if w = 4 then (cif (tWr x = -1 ∨ tRs x = none) (-1) (nI (ln (tRs x)))) else -1
theorem prt_A {t m : Nat} {x : TrV} (hT : TrIs M t x) (hm : TxOk M (t + 1) m) (w : Int32) : prt M t m w = prA x w := by
  unfold prt prA
  rw [hT.2.2.1, hT.2.2.2.1, hT.2.2.2.2.1, ← hT.1, txt_len hm]
  congr 5
  by_cases c : tWr x = -1
  · rw [if_pos (Or.inl c), cif_t (Or.inl c)]
  · rw [hT.2.2.2.2.2 c]
    by_cases c2 : tRs x = none
    · rw [if_pos (Or.inr c2), cif_t (Or.inr c2)]
    · rw [if_neg (fun z => by rcases z with z | z; exact c z; exact c2 z), cif_f (fun z => by rcases z with z | z; exact c z; exact c2 z)]
noncomputable def tTra (g : Sg) (x : Int32) : Nat := cif (inI x g.2.2.1.2.1.1) 0 3
noncomputable def aTra (g : Sg) (x y : Int32) : Int32 := prA (g.2.2.1.2.1.2 x.toNatClampNeg) y
theorem ok_TB_trace (hG : tb_G E) (h : CIs M g) {x y : Int32} (d : Nat) : tb_Ok E m_TB_trace (d + 6) 1 6 [.inr (.inl 1), .inl x, .inl y] M (Post M g (tTra g x) (some (aTra g x y))) := by
  have hh := h
  obtain ⟨hS, hH, hC, hF, hB, hSt, hL, hA⟩ := h
  obtain ⟨k1, r0, r1, r2, r3, r4, r5⟩ := hS.tb
  obtain ⟨k2, k3, k4, k5, k6, k7⟩ := hS.tk
  have hn := hC.1.2.1
  have hc := hSt.1.2.1
  unfold tTra
  refine tb_okOf hG (by decide) rfl (Nat.le_of_ble_eq_true rfl) rfl ?_
  refine tb_iload_1 d_TB_trace_0 rfl ?_
  refine tb_if_lt 15 d_TB_trace_1 (by decide) rfl (fun h1 => ?_) (fun h1 => ?_)
  · have hny : ¬ inI x g.2.2.1.2.1.1 := fun z => Int32.not_lt.mpr z.1 h1
    refine tb_throw (x := 3) d_TB_trace_15 d_TB_trace_18 d_TB_trace_19 d_TB_trace_22 rfl rfl tb_th3 (by decide +kernel) (tb_ix 540 (by decide +kernel) rfl) (tb_ix 541 (by decide +kernel) rfl) (tb_ix 72 (by decide +kernel) rfl) (by omega) (Nat.le_of_ble_eq_true rfl) (by decide) (by decide) ?_
    exact ⟨by rw [cif_f hny]; rfl, hh, Cf.rf⟩
  · refine tb_iload_1 d_TB_trace_4 rfl ?_
    refine tb_aload_0 d_TB_trace_5 rfl ?_
    refine g_TB_38 d_TB_trace_6 rfl rfl (by first | exact k1 | exact k2 | exact k3 | exact k4 | exact k5 | exact k6 | exact k7) ?_
    refine tb_topR r4 ?_
    refine tb_callVr c_TB_148 d_TB_trace_9 rfl rfl rfl (Nat.le_of_ble_eq_true rfl) (by first | exact k1 | exact k2 | exact k3 | exact k4 | exact k5 | exact k6 | exact k7) (ok_St_length hG hS hSt.1 (d + 5)) ?_
    refine tb_icmp_lt 23 d_TB_trace_12 (by decide) rfl (fun h12 => ?_) (fun h12 => ?_)
    · have hy : inI x g.2.2.1.2.1.1 := ⟨Int32.not_lt.mp h1, h12⟩
      obtain ⟨i, hi, rfl⟩ := inI_n (by omega) hy
      obtain ⟨m, hT⟩ := hSt.1.2.2.1 i (by omega)
      have kt := hS.k hT.1
      refine tb_aload_0 d_TB_trace_23 rfl ?_
      refine g_TB_38 d_TB_trace_24 rfl rfl (by first | exact k1 | exact k2 | exact k3 | exact k4 | exact k5 | exact k6 | exact k7) ?_
      refine tb_topR r4 ?_
      refine tb_iload_1 d_TB_trace_27 rfl ?_
      refine tb_callVr c_TB_152 d_TB_trace_28 rfl rfl rfl (Nat.le_of_ble_eq_true rfl) (by first | exact k1 | exact k2 | exact k3 | exact k4 | exact k5 | exact k6 | exact k7) (ok_St_at hG hS hSt.1 (show i < 24 by omega) (d + 5)) ?_
      refine tb_iload_2 d_TB_trace_31 rfl ?_
      refine tb_callVr c_TB_155 d_TB_trace_32 rfl rfl rfl (Nat.le_of_ble_eq_true rfl) (by exact kt) (ok_Tr_part hG hS hT y (d + 4)) ?_
      refine tb_ireturn d_TB_trace_35 rfl (by first | rfl | assumption) ?_
      refine ⟨?_, hh, Cf.rf⟩
      rw [cif_t hy, prt_A (hSt.2 i hi) hT.2.1]
      unfold aTra
      rw [nI_clamp (by omega)]
      rfl
    · have hny : ¬ inI x g.2.2.1.2.1.1 := fun z => h12 z.2
      refine tb_throw (x := 3) d_TB_trace_15 d_TB_trace_18 d_TB_trace_19 d_TB_trace_22 rfl rfl tb_th3 (by decide +kernel) (tb_ix 540 (by decide +kernel) rfl) (tb_ix 541 (by decide +kernel) rfl) (tb_ix 72 (by decide +kernel) rfl) (by omega) (Nat.le_of_ble_eq_true rfl) (by decide) (by decide) ?_
      exact ⟨by rw [cif_f hny]; rfl, hh, Cf.rf⟩
theorem ok_TB_isTold (hG : tb_G E) (h : CIs M g) (x : Int32) (d : Nat) : tb_Ret E m_TB_isTold (d + 1) [.inr (.inl 1), .inl x] M (some (.inl (bI (g.2.2.2.1 = 1 ∧ inI x g.2.1.1)))) M := by
  obtain ⟨hS, hH, hC, hF, hB, hSt, hL, hA⟩ := h
  obtain ⟨k1, r0, r1, r2, r3, r4, r5⟩ := hS.tb
  obtain ⟨k2, k3, k4, k5, k6, k7⟩ := hS.tk
  have hn := hC.1.2.1
  refine tb_okOf hG (by decide) rfl (Nat.le_of_ble_eq_true rfl) rfl ?_
  refine tb_aload_0 d_TB_isTold_0 rfl ?_
  refine g_TB_49 d_TB_isTold_1 rfl rfl (by first | exact k1 | exact k2 | exact k3 | exact k4 | exact k5 | exact k6 | exact k7) ?_
  refine tb_topI hL.1 ?_
  refine tb_if_eq 22 d_TB_isTold_4 (by decide) rfl (fun h4 => ?_) (fun h4 => ?_)
  · rw [bI_f (fun z => by rw [z.1] at h4; exact absurd h4 (by decide))]
    refine tb_iconst (0) (by decide) d_TB_isTold_22 rfl ?_
    refine tb_ireturn d_TB_isTold_23 rfl (by first | rfl | assumption) ?_
    exact ⟨rfl, rfl⟩
  · have hb : g.2.2.2.1 = 1 := by
      rcases hL.2.1 with z | z
      · exact absurd z h4
      · exact z
    refine tb_aload_0 d_TB_isTold_7 rfl ?_
    refine g_TB_19 d_TB_isTold_8 rfl rfl (by first | exact k1 | exact k2 | exact k3 | exact k4 | exact k5 | exact k6 | exact k7) ?_
    refine tb_topR r1 ?_
    refine tb_iload_1 d_TB_isTold_11 rfl ?_
    refine tb_callVr c_TB_172 d_TB_isTold_12 rfl rfl rfl (Nat.le_of_ble_eq_true rfl) (by first | exact k1 | exact k2 | exact k3 | exact k4 | exact k5 | exact k6 | exact k7) (ok_Sc_has hG hS hC.1 x d) ?_
    refine tb_if_eq 22 d_TB_isTold_15 (by decide) rfl (fun h15 => ?_) (fun h15 => ?_)
    · rw [bI_f (fun z => bI_0.mp h15 z.2)]
      refine tb_iconst (0) (by decide) d_TB_isTold_22 rfl ?_
      refine tb_ireturn d_TB_isTold_23 rfl (by first | rfl | assumption) ?_
      exact ⟨rfl, rfl⟩
    · rw [bI_t ⟨hb, Classical.not_not.mp (fun z => h15 (bI_f z))⟩]
      refine tb_iconst (1) (by decide) d_TB_isTold_18 rfl ?_
      refine tb_goto 23 d_TB_isTold_19 (by decide) ?_
      refine tb_ireturn d_TB_isTold_23 rfl (by first | rfl | assumption) ?_
      exact ⟨rfl, rfl⟩
noncomputable def aDid (g : Sg) (x : Int32) : Int32 := cif (g.2.2.2.1 = 1 ∧ inI x g.2.1.1) (if dA (g.2.2.1.2.2.1 x.toNatClampNeg) = 0 then dO (g.2.2.1.2.2.1 x.toNatClampNeg) else dO (g.2.2.1.2.2.1 x.toNatClampNeg) + 4) (-1)
theorem ok_TB_did (hG : tb_G E) (h : CIs M g) {x : Int32} (d : Nat) : tb_Ok E m_TB_did (d + 2) 0 0 [.inr (.inl 1), .inl x] M (Post M g 0 (some (aDid g x))) := by
  have hh := h
  obtain ⟨hS, hH, hC, hF, hB, hSt, hL, hA⟩ := h
  obtain ⟨k1, r0, r1, r2, r3, r4, r5⟩ := hS.tb
  obtain ⟨k2, k3, k4, k5, k6, k7⟩ := hS.tk
  have hn := hC.1.2.1
  unfold aDid
  refine tb_okOf hG (by decide) rfl (Nat.le_of_ble_eq_true rfl) rfl ?_
  refine tb_aload_0 d_TB_did_0 rfl ?_
  refine tb_iload_1 d_TB_did_1 rfl ?_
  refine tb_callVr c_TB_130 d_TB_did_2 rfl rfl rfl (Nat.le_of_ble_eq_true rfl) (by first | exact k1 | exact k2 | exact k3 | exact k4 | exact k5 | exact k6 | exact k7 | exact kE) (ok_TB_isTold hG hh x d) ?_
  refine tb_if_eq 22 d_TB_did_5 (by decide) rfl (fun h5 => ?_) (fun h5 => ?_)
  · have hno := bI_0.mp h5
    refine tb_iconst (-1) (by decide) d_TB_did_22 rfl ?_
    refine tb_ireturn d_TB_did_23 rfl (by first | rfl | assumption) ?_
    first
      | (rw [cif_f hno]; exact ⟨rfl, hh, Cf.rf⟩)
      | (rw [cif_t hyes, hxe, nI_clamp (by omega)]; exact ⟨rfl, hh, Cf.rf⟩)
  · have hyes := Classical.not_not.mp (fun z => h5 (bI_f z))
    have hb := hyes.1
    obtain ⟨i, hi, hxe⟩ := inI_n (by omega) hyes.2
    have kE := (hS.de (show i < 10 by omega)).1
    refine tb_aload_0 d_TB_did_8 rfl ?_
    refine g_TB_45 d_TB_did_9 rfl rfl (by first | exact k1 | exact k2 | exact k3 | exact k4 | exact k5 | exact k6 | exact k7 | exact kE) ?_
    refine tb_topR r5 ?_
    refine tb_iload_1 d_TB_did_12 rfl ?_
    refine tb_topI hxe ?_
    refine tb_callVr c_TB_133 d_TB_did_13 rfl rfl rfl (Nat.le_of_ble_eq_true rfl) (by first | exact k1 | exact k2 | exact k3 | exact k4 | exact k5 | exact k6 | exact k7 | exact kE) (ok_Lg_deed hG hS (show i < 10 by omega) (d + 1)) ?_
    refine g_TB_137 d_TB_did_16 rfl rfl (by exact kE) ?_
    refine tb_topI ((hL.2.2 hb).1 i hi |>.2.1) ?_
    refine tb_goto 23 d_TB_did_19 (by decide) ?_
    refine tb_ireturn d_TB_did_23 rfl (by first | rfl | assumption) ?_
    first
      | (rw [cif_f hno]; exact ⟨rfl, hh, Cf.rf⟩)
      | (rw [cif_t hyes, hxe, nI_clamp (by omega)]; exact ⟨rfl, hh, Cf.rf⟩)
noncomputable def aWhy (g : Sg) (x : Int32) : Int32 := cif (g.2.2.2.1 = 1 ∧ inI x g.2.1.1) (dY (g.2.2.1.2.2.1 x.toNatClampNeg)) (-1)
theorem ok_TB_why (hG : tb_G E) (h : CIs M g) {x : Int32} (d : Nat) : tb_Ok E m_TB_why (d + 2) 0 0 [.inr (.inl 1), .inl x] M (Post M g 0 (some (aWhy g x))) := by
  have hh := h
  obtain ⟨hS, hH, hC, hF, hB, hSt, hL, hA⟩ := h
  obtain ⟨k1, r0, r1, r2, r3, r4, r5⟩ := hS.tb
  obtain ⟨k2, k3, k4, k5, k6, k7⟩ := hS.tk
  have hn := hC.1.2.1
  unfold aWhy
  refine tb_okOf hG (by decide) rfl (Nat.le_of_ble_eq_true rfl) rfl ?_
  refine tb_aload_0 d_TB_why_0 rfl ?_
  refine tb_iload_1 d_TB_why_1 rfl ?_
  refine tb_callVr c_TB_130 d_TB_why_2 rfl rfl rfl (Nat.le_of_ble_eq_true rfl) (by first | exact k1 | exact k2 | exact k3 | exact k4 | exact k5 | exact k6 | exact k7 | exact kE) (ok_TB_isTold hG hh x d) ?_
  refine tb_if_eq 22 d_TB_why_5 (by decide) rfl (fun h5 => ?_) (fun h5 => ?_)
  · have hno := bI_0.mp h5
    refine tb_iconst (-1) (by decide) d_TB_why_22 rfl ?_
    refine tb_ireturn d_TB_why_23 rfl (by first | rfl | assumption) ?_
    first
      | (rw [cif_f hno]; exact ⟨rfl, hh, Cf.rf⟩)
      | (rw [cif_t hyes, hxe, nI_clamp (by omega)]; exact ⟨rfl, hh, Cf.rf⟩)
  · have hyes := Classical.not_not.mp (fun z => h5 (bI_f z))
    have hb := hyes.1
    obtain ⟨i, hi, hxe⟩ := inI_n (by omega) hyes.2
    have kE := (hS.de (show i < 10 by omega)).1
    refine tb_aload_0 d_TB_why_8 rfl ?_
    refine g_TB_45 d_TB_why_9 rfl rfl (by first | exact k1 | exact k2 | exact k3 | exact k4 | exact k5 | exact k6 | exact k7 | exact kE) ?_
    refine tb_topR r5 ?_
    refine tb_iload_1 d_TB_why_12 rfl ?_
    refine tb_topI hxe ?_
    refine tb_callVr c_TB_133 d_TB_why_13 rfl rfl rfl (Nat.le_of_ble_eq_true rfl) (by first | exact k1 | exact k2 | exact k3 | exact k4 | exact k5 | exact k6 | exact k7 | exact kE) (ok_Lg_deed hG hS (show i < 10 by omega) (d + 1)) ?_
    refine g_TB_142 d_TB_why_16 rfl rfl (by exact kE) ?_
    refine tb_topI ((hL.2.2 hb).1 i hi |>.2.2.1) ?_
    refine tb_goto 23 d_TB_why_19 (by decide) ?_
    refine tb_ireturn d_TB_why_23 rfl (by first | rfl | assumption) ?_
    first
      | (rw [cif_f hno]; exact ⟨rfl, hh, Cf.rf⟩)
      | (rw [cif_t hyes, hxe, nI_clamp (by omega)]; exact ⟨rfl, hh, Cf.rf⟩)
noncomputable def aHaz (g : Sg) (x : Int32) : Int32 := cif (g.2.2.2.1 = 1 ∧ ¬ g.2.2.1.2.2.2.1 = 0) (if x = 0 then nI g.2.2.1.2.2.2.1 else if x = 1 then nI g.2.2.1.2.2.2.2.1 else if x = 2 then nI g.2.2.1.2.2.2.2.2.1 else if x = 3 then g.2.2.1.2.2.2.2.2.2 else -1) (-1)
theorem ok_TB_hazard (hG : tb_G E) (h : CIs M g) {x : Int32} (d : Nat) : tb_Ok E m_TB_hazard (d + 2) 0 0 [.inr (.inl 1), .inl x] M (Post M g 0 (some (aHaz g x))) := by
  have hh := h
  obtain ⟨hS, hH, hC, hF, hB, hSt, hL, hA⟩ := h
  obtain ⟨k1, r0, r1, r2, r3, r4, r5⟩ := hS.tb
  obtain ⟨k2, k3, k4, k5, k6, k7⟩ := hS.tk
  have hn := hC.1.2.1
  unfold aHaz
  refine tb_okOf hG (by decide) rfl (Nat.le_of_ble_eq_true rfl) rfl ?_
  refine tb_aload_0 d_TB_hazard_0 rfl ?_
  refine g_TB_49 d_TB_hazard_1 rfl rfl (by first | exact k1 | exact k2 | exact k3 | exact k4 | exact k5 | exact k6 | exact k7) ?_
  refine tb_topI hL.1 ?_
  refine tb_if_eq 18 d_TB_hazard_4 (by decide) rfl (fun h4 => ?_) (fun h4 => ?_)
  · rw [cif_f (fun z => by rw [z.1] at h4; exact absurd h4 (by decide))]
    refine tb_iconst (-1) (by decide) d_TB_hazard_18 rfl ?_
    refine tb_ireturn d_TB_hazard_19 rfl (by first | rfl | assumption) ?_
    exact ⟨rfl, hh, Cf.rf⟩
  · have hb : g.2.2.2.1 = 1 := by
      rcases hL.2.1 with z | z
      · exact absurd z h4
      · exact z
    have hz := (hL.2.2 hb).2
    refine tb_aload_0 d_TB_hazard_7 rfl ?_
    refine g_TB_45 d_TB_hazard_8 rfl rfl (by first | exact k1 | exact k2 | exact k3 | exact k4 | exact k5 | exact k6 | exact k7) ?_
    refine tb_topR r5 ?_
    refine tb_iload_1 d_TB_hazard_11 rfl ?_
    refine tb_callVr c_TB_145 d_TB_hazard_12 rfl rfl rfl (Nat.le_of_ble_eq_true rfl) (by first | exact k1 | exact k2 | exact k3 | exact k4 | exact k5 | exact k6 | exact k7) (ok_Lg_part hG hS x d) ?_
    refine tb_topI (y := cif (g.2.2.2.1 = 1 ∧ ¬ g.2.2.1.2.2.2.1 = 0) (if x = 0 then nI g.2.2.1.2.2.2.1 else if x = 1 then nI g.2.2.1.2.2.2.2.1 else if x = 2 then nI g.2.2.1.2.2.2.2.2.1 else if x = 3 then g.2.2.1.2.2.2.2.2.2 else -1) (-1)) (by
      unfold hpt
      by_cases c : g.2.2.1.2.2.2.1 = 0
      · rw [cif_f (fun z => z.2 c), if_pos (hz.1 c)]
      · obtain ⟨z1, z2, z3, z4, z5, z6, z7, z8⟩ := hz.2 c
        rw [cif_t ⟨hb, c⟩, z4, z5, z6, z7, if_neg (nI_nm1 (by omega))]) ?_
    refine tb_goto 19 d_TB_hazard_15 (by decide) ?_
    refine tb_ireturn d_TB_hazard_19 rfl (by first | rfl | assumption) ?_
    exact ⟨rfl, hh, Cf.rf⟩
noncomputable def oTea (g : Sg) (x : Int32) : Sg := cif (inI x g.2.2.1.2.1.1) (g.1, g.2.1, (g.2.2.1.1, (x.toNatClampNeg, g.2.2.1.2.1.2), g.2.2.1.2.2), g.2.2.2) g
theorem ok_TB_tear (hG : tb_G E) (h : CIs M g) {x : Int32} (d : Nat) : tb_Ok E m_TB_tear (d + 1) 0 0 [.inr (.inl 1), .inl x] M (Post M (oTea g x) 0 (some (bI (inI x g.2.2.1.2.1.1)))) := by
  have hh := h
  obtain ⟨hS, hH, hC, hF, hB, hSt, hL, hA⟩ := h
  obtain ⟨k1, r0, r1, r2, r3, r4, r5⟩ := hS.tb
  obtain ⟨k2, k3, k4, k5, k6, k7⟩ := hS.tk
  have hn := hC.1.2.1
  have hc := hSt.1.2.1
  unfold oTea
  by_cases hx : inI x g.2.2.1.2.1.1
  · rw [cif_t hx, bI_t hx]
    have hc1 := ok_St_cut1 hG hS hSt.1 hx d
    obtain ⟨i, hi, rfl⟩ := inI_n (by omega) hx
    rw [nI_clamp (by omega)]
    refine tb_okOf hG (by decide) rfl (Nat.le_of_ble_eq_true rfl) rfl ?_
    refine tb_aload_0 d_TB_tear_0 rfl ?_
    refine g_TB_38 d_TB_tear_1 rfl rfl (by first | exact k1 | exact k2 | exact k3 | exact k4 | exact k5 | exact k6 | exact k7) ?_
    refine tb_topR r4 ?_
    refine tb_iload_1 d_TB_tear_4 rfl ?_
    refine tb_callVr c_TB_160 d_TB_tear_5 rfl rfl rfl (Nat.le_of_ble_eq_true rfl) (by first | exact k1 | exact k2 | exact k3 | exact k4 | exact k5 | exact k6 | exact k7) (hc1) ?_
    refine tb_ireturn d_TB_tear_8 rfl (by first | rfl | assumption) ?_
    have o : On M (tb_sI M 32 1 (nI i)) (fun q => q = 32) := On.sI rfl
    have hS2 : StIs (tb_sI M 32 1 (nI i)) (i, g.2.2.1.2.1.2) := by
      refine ⟨⟨by rw [sI_at]; simp [va_up], by show i ≤ 24; omega, fun k hk => ?_, by rw [o.r]; exact hSt.1.2.2.2⟩, fun k hk => ?_⟩
      · rw [o.r]
        obtain ⟨m, hT⟩ := hSt.1.2.2.1 k hk
        have := tr6 hT.1
        exact ⟨m, hT.of fun q _ => o.i (by omega)⟩
      · rw [o.r]
        have hk' : k < i := hk
        obtain ⟨m, hT⟩ := hSt.1.2.2.1 k (by omega)
        have := tr6 hT.1
        exact (hSt.2 k (by omega)).of fun q _ => o.i (by omega)
    exact ⟨rfl, ⟨o.sh hS, hH.of (o.i (by decide)) (o.i (by decide)), hC.of (by rw [o.r]) (fun q _ _ => o.i (by omega)), hF.of (o.i (by decide)) (o.i (by decide)), hB.of (o.i (by decide)) (o.i (by decide)), hS2, hL.of (by rw [o.i (by decide)]) (fun q _ _ => o.i (by omega)) hn, by rw [o.i (by decide)]; exact hA⟩, o.cf (fun q hq => by omega)⟩
  · rw [cif_f hx, bI_f hx]
    refine tb_okOf hG (by decide) rfl (Nat.le_of_ble_eq_true rfl) rfl ?_
    refine tb_aload_0 d_TB_tear_0 rfl ?_
    refine g_TB_38 d_TB_tear_1 rfl rfl (by first | exact k1 | exact k2 | exact k3 | exact k4 | exact k5 | exact k6 | exact k7) ?_
    refine tb_topR r4 ?_
    refine tb_iload_1 d_TB_tear_4 rfl ?_
    refine tb_callVr c_TB_160 d_TB_tear_5 rfl rfl rfl (Nat.le_of_ble_eq_true rfl) (by first | exact k1 | exact k2 | exact k3 | exact k4 | exact k5 | exact k6 | exact k7) (ok_St_cut0 hG hS hSt.1 hx d) ?_
    refine tb_ireturn d_TB_tear_8 rfl (by first | rfl | assumption) ?_
    exact ⟨rfl, hh, Cf.rf⟩
noncomputable def folA (S : StV) (k : Nat) : Bool := @decide (¬ ∃ k', k < k' ∧ k' < S.1 ∧ tT (S.2 k') = tT (S.2 k)) (Classical.propDecidable _)
noncomputable def kA (S : StV) : List Nat := (List.range S.1).filter (folA S)
noncomputable def oCom (g : Sg) : Sg := (g.1, g.2.1, (g.2.2.1.1, ((kA g.2.2.1.2.1).length, fun i => g.2.2.1.2.1.2 ((kA g.2.2.1.2.1).getD i 0)), g.2.2.1.2.2), g.2.2.2)
noncomputable def aCom (g : Sg) : Int32 := nI (g.2.2.1.2.1.1 - (kA g.2.2.1.2.1).length)
theorem kept_A {S : StV} (h : StIs M S) : kept M S.1 S.1 = kA S := by
  unfold kept kA
  apply List.filter_congr
  intro k hk
  have hk' := List.mem_range.mp hk
  have hiff : folK M S.1 k ↔ ∃ k', k < k' ∧ k' < S.1 ∧ tT (S.2 k') = tT (S.2 k) := by
    unfold folK
    constructor
    · rintro ⟨k', a, b, e⟩
      rw [(h.2 k' b).1, (h.2 k hk').1] at e
      exact ⟨k', a, b, e⟩
    · rintro ⟨k', a, b, e⟩
      refine ⟨k', a, b, ?_⟩
      rw [(h.2 k' b).1, (h.2 k hk').1]
      exact e
  unfold nf folA
  by_cases c : folK M S.1 k
  · rw [@decide_eq_false _ (Classical.propDecidable _) (fun z => z c), @decide_eq_false _ (Classical.propDecidable _) (fun z => z (hiff.mp c))]
  · rw [@decide_eq_true _ (Classical.propDecidable _) c, @decide_eq_true _ (Classical.propDecidable _) (fun z => c (hiff.mpr z))]
theorem kA_lt {S : StV} {i : Nat} (h : i < (kA S).length) : (kA S)[i] < S.1 := by
  have := List.getElem_mem h
  unfold kA at this
  rw [List.mem_filter, List.mem_range] at this
  exact this.1
theorem ok_TB_compact (hG : tb_G E) (h : CIs M g) (d : Nat) : tb_Ok E m_TB_compact (d + 4) 0 0 [.inr (.inl 1)] M (Post M (oCom g) 0 (some (aCom g))) := by
  have hh := h
  obtain ⟨hS, hH, hC, hF, hB, hSt, hL, hA⟩ := h
  obtain ⟨k1, r0, r1, r2, r3, r4, r5⟩ := hS.tb
  obtain ⟨k2, k3, k4, k5, k6, k7⟩ := hS.tk
  have hn := hC.1.2.1
  have hc := hSt.1.2.1
  have hK := kept_A hSt
  refine tb_okOf hG (by decide) rfl (Nat.le_of_ble_eq_true rfl) rfl ?_
  refine tb_aload_0 d_TB_compact_0 rfl ?_
  refine g_TB_38 d_TB_compact_1 rfl rfl (by first | exact k1 | exact k2 | exact k3 | exact k4 | exact k5 | exact k6 | exact k7) ?_
  refine tb_topR r4 ?_
  refine tb_callVq c_TB_163 d_TB_compact_4 rfl rfl rfl (Nat.le_of_ble_eq_true rfl) (by first | exact k1 | exact k2 | exact k3 | exact k4 | exact k5 | exact k6 | exact k7) (ok_St_keep hG hS hSt.1 d) (fun v1 M1 hP => ?_)
  obtain ⟨rfl, M0, hK0, rfl⟩ := hP
  refine tb_ireturn d_TB_compact_7 rfl (by first | rfl | assumption) ?_
  have hst := hK0.st hSt.1
  have hle := kept_le M g.2.2.1.2.1.1 g.2.2.1.2.1.1
  rw [hK] at hle
  have o0 := hK0.1
  have o1 : On M0 (tb_sI M0 32 1 (nI (kept M g.2.2.1.2.1.1 g.2.2.1.2.1.1).length)) (fun q => q = 32) := On.sI rfl
  have hi : ∀ q, q ≠ 32 → tb_I (tb_sI M0 32 1 (nI (kept M g.2.2.1.2.1.1 g.2.2.1.2.1.1).length)) q = tb_I M q := fun q hq => by rw [o1.i hq, o0.i (fun z => z)]
  have hr : ∀ q, q ≠ 33 → tb_R (tb_sI M0 32 1 (nI (kept M g.2.2.1.2.1.1 g.2.2.1.2.1.1).length)) q = tb_R M q := fun q hq => by rw [o1.r, o0.r hq]
  have hS0 : Sh M0 := (o0.mono (fun q z => z) (fun q z => Or.inr z)).sh hS
  have hX : StIs (tb_sI M0 32 1 (nI (kept M g.2.2.1.2.1.1 g.2.2.1.2.1.1).length)) ((kA g.2.2.1.2.1).length, fun i => g.2.2.1.2.1.2 ((kA g.2.2.1.2.1).getD i 0)) := by
    refine ⟨⟨by rw [sI_at, hK]; simp [va_up], by show (kA g.2.2.1.2.1).length ≤ 24; omega, fun k hk => ?_, by rw [o1.r]; exact hst.2.2.2⟩, fun k hk => ?_⟩
    · rw [o1.r]
      obtain ⟨m, hT⟩ := hst.2.2.1 k hk
      have := tr6 hT.1
      exact ⟨m, hT.of fun q _ => o1.i (by omega)⟩
    · have hk' : k < (kA g.2.2.1.2.1).length := hk
      have hlt := kA_lt hk'
      rw [o1.r, hK0.2.2.2.2 k (by rw [hK]; exact hk')]
      rw [hK] at hi
      simp only [hK]
      show TrIs _ _ (g.2.2.1.2.1.2 ((kA g.2.2.1.2.1).getD k 0))
      rw [List.getD_eq_getElem?_getD, List.getElem?_eq_getElem hk', Option.getD_some]
      obtain ⟨m, hT⟩ := hSt.1.2.2.1 _ (show (kA g.2.2.1.2.1)[k] < 24 by omega)
      have := tr6 hT.1
      exact (hSt.2 _ hlt).of fun q _ => hi _ (by omega)
  refine ⟨by unfold aCom; rw [← hK]; rfl, ⟨o1.sh hS0, hH.of (hi 2 (by decide)) (hi 3 (by decide)), hC.of (hr 5 (by decide)) (fun q _ _ => hi q (by omega)), hF.of (hi _ (by decide)) (hi _ (by decide)), hB.of (hi _ (by decide)) (hi _ (by decide)), hX, hL.of (by rw [hi _ (by decide)]) (fun q _ _ => hi q (by omega)) hn, by rw [hi _ (by decide)]; exact hA⟩, (o0.cf (fun q z => False.elim z)).trans (o1.cf (fun q hq => by omega))⟩
end Top2
