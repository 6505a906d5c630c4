/-! TracedBuild: one command. -/
theorem Sh.tb {M : tb_M} (h : Sh M) : tb_K M 1 = 8 ∧ tb_R M 1 0 = 2 ∧ tb_R M 1 1 = 4 ∧ tb_R M 1 2 = 26 ∧ tb_R M 1 3 = 29 ∧ tb_R M 1 4 = 32 ∧ tb_R M 1 5 = 178 := ⟨h.k rfl, h.2.2.1.1, h.2.2.1.2.1, h.2.2.1.2.2.1, h.2.2.1.2.2.2.1, h.2.2.1.2.2.2.2.1, h.2.2.1.2.2.2.2.2.1⟩
theorem Sh.tk {M : tb_M} (h : Sh M) : tb_K M 2 = 6 ∧ tb_K M 4 = 3 ∧ tb_K M 26 = 4 ∧ tb_K M 29 = 4 ∧ tb_K M 32 = 5 ∧ tb_K M 178 = 2 := ⟨h.k rfl, h.k rfl, h.k rfl, h.k rfl, h.k rfl, h.k rfl⟩
def ScIs (M : tb_M) (n : Nat) (sc : Nat → List Int32) : Prop := ScOk M n ∧ (∀ k, k < 10 → ∃ m, TxOk M (tb_R M 5 k) m) ∧ ∀ k, k < n → txt M (tb_R M 5 k) = sc k ∧ cmdP (la (sc k)) (sc k).length
abbrev ARn : Nat → Prop := fun q => (26 ≤ q ∧ q ≤ 28) ∨ (32 ≤ q ∧ q < 190)
abbrev RRn : Nat → Prop := fun q => q = 33
abbrev Run (M M1 : tb_M) : Prop := On2 M M1 ARn RRn
theorem Run.sh {M M1 : tb_M} (h : Run M M1) (hS : Sh M) : Sh M1 := (h.mono (fun q z => z) (fun q z => Or.inr z)).sh hS
theorem ScIs.of {M M1 : tb_M} {n : Nat} {sc : Nat → List Int32} (h : ScIs M n sc) (hR : tb_R M1 5 = tb_R M 5) (hI : ∀ q, 4 ≤ q → q < 26 → tb_I M1 q = tb_I M q) : ScIs M1 n sc := by
  obtain ⟨⟨h1, h2, h3, h4⟩, h5, h6⟩ := h
  have hb : ∀ k, k < 10 → 6 ≤ tb_R M 5 k ∧ tb_R M 5 k + 1 < 26 := fun k hk => by
    have a := h3 k hk
    refine ⟨a.2.1, ?_⟩
    have : ∀ q, q < 26 → gK q = 6 → q + 1 < 26 := by decide +kernel
    exact this _ a.2.2 a.1
  refine ⟨⟨by rw [hI 4 (by omega) (by omega)]; exact h1, h2, by rw [hR]; exact h3, by rw [hR]; exact h4⟩, fun k hk => ?_, fun k hk => ?_⟩
  · rw [hR]
    obtain ⟨m, hm⟩ := h5 k hk
    have := hb k hk
    exact ⟨m, hm.of (hI _ (by omega) (by omega)) (hI _ (by omega) (by omega))⟩
  · rw [hR]
    have := hb k (by omega)
    rw [txt_on (hI _ (by omega) (by omega)) (hI _ (by omega) (by omega))]
    exact h6 k hk
theorem Run.sc {M M1 : tb_M} {n : Nat} {sc : Nat → List Int32} (h : Run M M1) (hC : ScIs M n sc) : ScIs M1 n sc := hC.of (h.r (by decide)) (fun q h1 h2 => h.i (by omega))
theorem StIs.wf {M : tb_M} {S : StV} (h : StIs M S) {k : Nat} (hk : k < S.1) : WfT (S.2 k) := by
  obtain ⟨n, hT⟩ := h.1.2.2.1 k (by have := h.1.2.1; omega)
  have := hT.2.2.2
  rw [(h.2 k hk).2.2.2.2.1] at this
  exact this
section Perform
variable {E : tb_E} {M : tb_M} {n k : Nat}
theorem lp_TB_fin (hG : tb_G E) (hS : Sh M) (hk : k < n) (hn : n ≤ 10) {fs : Fs} {S : StV} {D : Nat → DeV} {x : TrV} {t : Nat} (hx : WfT x) (ht : gK t = 7) (hT : TrIs M t x) (hF : FsIs M 26 (wrA fs x)) (hSt : StIs M S) (hL : tb_I M 178 1 = nI n) (h0 : tb_I M 178 2 = -1) (hD : ∀ j, j < n → DeIs M j (D j)) {oc ah y : Int32} (hoc : oc = 1 ∨ oc = 2 ∨ oc = 3) (hah : ah = 0 ∨ ah = 1) {d rc rs : Nat} {Q : tb_O → tb_M → Prop} {l3 l8 : tb_L} (hQ : ∀ M4, RIs M4 n (finA k n fs S D x oc ah y) → On M M4 AL → Q (.inl none) M4) : tb_Wp E m_TB_perform (d + 5) rc rs 108 [some (.inr 1), some (.inl (nI k)), some (.inl ah), l3, some (.inl (msk (fun p => fs p ≠ none) 12)), some (.inl oc), some (.inl y), some (.inr t), l8] [] M Q := by
  obtain ⟨k1, r0, r1, r2, r3, r4, r5⟩ := hS.tb
  obtain ⟨k2, k3, k4, k5, k6, k7⟩ := hS.tk
  have kd := (hS.de (show k < 10 by omega)).1
  have t6 := tr6 ht
  have oA : On M (tb_sI (tb_sI (tb_sI M (180 + k) 0 (if ah = 0 then oc else oc + 4)) (180 + k) 2 ah) (180 + k) 1 y) (fun q => q = 180 + k) := ((On.sI (A := fun q => q = 180 + k) rfl).trans (On.sI (A := fun q => q = 180 + k) rfl)).trans (On.sI (A := fun q => q = 180 + k) rfl)
  have vA : tb_I (tb_sI (tb_sI (tb_sI M (180 + k) 0 (if ah = 0 then oc else oc + 4)) (180 + k) 2 ah) (180 + k) 1 y) (180 + k) = va_up (va_up (va_up (tb_I M (180 + k)) 0 (if ah = 0 then oc else oc + 4)) 2 ah) 1 y := by rw [sI_at, sI_at, sI_at]
  generalize hMA : (tb_sI (tb_sI (tb_sI M (180 + k) 0 (if ah = 0 then oc else oc + 4)) (180 + k) 2 ah) (180 + k) 1 y) = MA at oA vA
  have hSA := oA.sh hS
  obtain ⟨ka1, ra0, ra1, ra2, ra3, ra4, ra5⟩ := hSA.tb
  have kA4 := hSA.tk.2.2.1
  have kdA' := (hSA.de (show k < 10 by omega)).1
  have hFA := hF.of (M1 := MA) (oA.i (by omega)) (oA.i (by omega))
  have hTA := hT.of (M1 := MA) (fun i hi => oA.i (by omega))
  have hcame : msk (fun p => fs p ≠ none) 12 ^^^ msk (fun p => pl MA 26 p ≠ none) 12 = if turA x fs = 0 then 0 else wm (tWr x) := by
    rw [← came_eq hx]
    congr 1
    exact msk_congr 12 fun p hp => by rw [hFA.2 p hp]
  have oB : On MA (tb_sI (tb_sI (tb_sI (tb_sI MA (180 + k) 3 (tRd x)) (180 + k) 4 (tAk x)) (180 + k) 5 (wm (tWr x))) (180 + k) 6 (if turA x fs = 0 then 0 else wm (tWr x))) (fun q => q = 180 + k) := (((On.sI (A := fun q => q = 180 + k) rfl).trans (On.sI (A := fun q => q = 180 + k) rfl)).trans (On.sI (A := fun q => q = 180 + k) rfl)).trans (On.sI (A := fun q => q = 180 + k) rfl)
  have vB : tb_I (tb_sI (tb_sI (tb_sI (tb_sI MA (180 + k) 3 (tRd x)) (180 + k) 4 (tAk x)) (180 + k) 5 (wm (tWr x))) (180 + k) 6 (if turA x fs = 0 then 0 else wm (tWr x))) (180 + k) = va_up (va_up (va_up (va_up (tb_I MA (180 + k)) 3 (tRd x)) 4 (tAk x)) 5 (wm (tWr x))) 6 (if turA x fs = 0 then 0 else wm (tWr x)) := by rw [sI_at, sI_at, sI_at, sI_at]
  generalize hMB : (tb_sI (tb_sI (tb_sI (tb_sI MA (180 + k) 3 (tRd x)) (180 + k) 4 (tAk x)) (180 + k) 5 (wm (tWr x))) (180 + k) 6 (if turA x fs = 0 then 0 else wm (tWr x))) = MB at oB vB
  have hSB := oB.sh hSA
  obtain ⟨kb1, rb0, rb1, rb2, rb3, rb4, rb5⟩ := hSB.tb
  have kB7 := hSB.tk.2.2.2.2.2
  have oAB := oA.trans oB
  have hDB : ∀ j, j < n → DeIs MB j ((fun i => if i = k then (oc, ah, y, tRd x, tAk x, tWr x, turA x fs) else D i) j) := by
    intro j hj
    show DeIs MB j (if j = k then (oc, ah, y, tRd x, tAk x, tWr x, turA x fs) else D j)
    by_cases e : j = k
    · subst e
      rw [if_pos rfl]
      unfold DeIs
      rw [vB, vA]
      refine ⟨⟨?_, hah, fun z => ?_⟩, by simp [va_up], by simp [va_up], by simp [va_up], fun _ => ⟨hx, by simp [va_up], by simp [va_up], by simp [va_up], by simp [va_up]⟩⟩
      · exact Or.inr hoc
      · exact absurd (show oc = 0 from z) (by rcases hoc with q | q | q <;> rw [q] <;> decide)
    · rw [if_neg e]
      exact (hD j hj).of (oAB.i (by omega))
  have hdn : ¬ dO ((fun i => if i = k then (oc, ah, y, tRd x, tAk x, tWr x, turA x fs) else D i) k) = 0 := by
    show ¬ dO (if k = k then (oc, ah, y, tRd x, tAk x, tWr x, turA x fs) else D k) = 0
    rw [if_pos rfl]
    show ¬ oc = 0
    rcases hoc with q | q | q <;> rw [q] <;> decide
  have hLB : tb_I MB 178 1 = nI n := by rw [oAB.i (by omega)]; exact hL
  have h0B : tb_I MB 178 2 = -1 := by rw [oAB.i (by omega)]; exact h0
  refine tb_aload_0 d_TB_perform_108 rfl ?_
  refine g_TB_45 d_TB_perform_109 rfl rfl (by first | exact k1 | exact k2 | exact k3 | exact k4 | exact k5 | exact k6 | exact k7 | exact kd | exact kt) ?_
  refine tb_topR r5 ?_
  refine tb_iload_1 d_TB_perform_112 rfl ?_
  refine tb_callVr c_TB_133 d_TB_perform_113 rfl rfl rfl (Nat.le_of_ble_eq_true rfl) (by first | exact k1 | exact k2 | exact k3 | exact k4 | exact k5 | exact k6 | exact k7 | exact kd | exact kt) (ok_Lg_deed hG hS (show k < 10 by omega) (d + 4)) ?_
  refine tb_astore_8 d_TB_perform_116 rfl (by decide) ?_
  refine tb_aload_8 d_TB_perform_118 rfl ?_
  refine tb_iload_5 d_TB_perform_120 rfl ?_
  refine tb_iload_2 d_TB_perform_122 rfl ?_
  refine tb_iload_6 d_TB_perform_123 rfl ?_
  refine tb_callVv c_TB_224 d_TB_perform_125 rfl rfl rfl (Nat.le_of_ble_eq_true rfl) (by first | exact k1 | exact k2 | exact k3 | exact k4 | exact k5 | exact k6 | exact k7 | exact kd | exact kt) (ok_De_keepOutcome hG hS (gK_de k (by omega)) hah (d + 4)) ?_
  refine tb_memeq hMA ?_
  refine tb_aload_8 d_TB_perform_128 rfl ?_
  refine tb_aload_7 d_TB_perform_130 rfl ?_
  refine tb_iload_4 d_TB_perform_132 rfl ?_
  refine tb_aload_0 d_TB_perform_134 rfl ?_
  refine g_TB_28 d_TB_perform_135 rfl rfl (by exact ka1) ?_
  refine tb_topR ra2 ?_
  refine tb_callVr c_TB_200 d_TB_perform_138 rfl rfl rfl (Nat.le_of_ble_eq_true rfl) (by exact kA4) (ok_Sh_those hG hSA hFA.1 (d + 4)) ?_
  refine tb_ixor d_TB_perform_141 rfl ?_
  refine tb_topI hcame ?_
  refine tb_callVv c_TB_228 d_TB_perform_142 rfl rfl rfl (Nat.le_of_ble_eq_true rfl) (by exact kdA') (ok_De_keepTraced hG hSA (gK_de k (by omega)) ht (d + 3)) ?_
  rw [hTA.2.2.1, hTA.2.2.2.1, hTA.2.2.2.2.1]
  refine tb_memeq hMB ?_
  refine tb_aload_0 d_TB_perform_145 rfl ?_
  refine g_TB_45 d_TB_perform_146 rfl rfl (by exact kb1) ?_
  refine tb_topR rb5 ?_
  refine tb_iload_1 d_TB_perform_149 rfl ?_
  refine tb_callVq c_TB_232 d_TB_perform_150 rfl rfl rfl (Nat.le_of_ble_eq_true rfl) (by exact kB7) (ok_Lg_hazard hG hSB hLB hn (fun z => z h0B) (show k < 10 by omega) (d + 1)) (fun v2 MC hP => ?_)
  obtain ⟨rfl, hP⟩ := hP
  obtain ⟨oC, lC, hzC⟩ := hz_of hDB hk hdn h0B hP
  refine tb_vreturn d_TB_perform_153 rfl ?_
  have oF : On M MC AL := (oAB.mono (fun q hq => ⟨by omega, by omega⟩)).trans (oC.mono (fun q hq => ⟨by omega, by omega⟩))
  have hFC : FsIs MC 26 (wrA fs x) := hF.of (M1 := MC) (oF.i (by omega)) (oF.i (by omega))
  have hSC : StIs MC S := hSt.of (by rw [oF.i (by omega)]) (by rw [oF.r]) (fun q h1 h2 => oF.i (by omega))
  have hLC : tb_I MC 178 1 = nI n := by rw [lC]; exact hLB
  have hDC : ∀ j, j < n → DeIs MC j ((fun i => if i = k then (oc, ah, y, tRd x, tAk x, tWr x, turA x fs) else D i) j) := fun j hj => (hDB j hj).of (oC.i (by omega))
  exact hQ MC ⟨hFC, hSC, hLC, hDC, hzC⟩ oF
theorem ok_TB_perform (hG : tb_G E) (hS : Sh M) {sc : Nat → List Int32} (hC : ScIs M n sc) {R : RS} (hR : RIs M n R) (h0 : R.2.2.2.1 = 0) (hk : k < n) {ah : Int32} (hah : ah = 0 ∨ ah = 1) (d : Nat) : tb_Rel E m_TB_perform (d + 5) [.inr (.inl 1), .inl (nI k), .inl ah] M (fun v M1 => v = none ∧ RIs M1 n (perA (sc k) k n ah R) ∧ Run M M1) := by
  obtain ⟨k1, r0, r1, r2, r3, r4, r5⟩ := hS.tb
  obtain ⟨k2, k3, k4, k5, k6, k7⟩ := hS.tk
  obtain ⟨hF, hSt, hL, hD, hH⟩ := hR
  have hn := hC.1.2.1
  have hk10 : k < 10 := by omega
  have hh0 := hH.1 h0
  obtain ⟨m, hO⟩ := hC.2.1 k hk10
  obtain ⟨hct, hcc⟩ := hC.2.2 k hk
  have hob := (hC.1.2.2.1 k hk10).2
  have ho34 : tb_R M 5 k + 1 < 34 := by omega
  have hml : (sc k).length = m := by rw [← hct, txt_len hO]
  have haO : ta M (tb_R M 5 k) m = la (sc k) := funext fun i => by rw [ta_la hO, hct]
  have hth : msk (fun p => pl M 26 p ≠ none) 12 = msk (fun p => R.1 p ≠ none) 12 := msk_congr 12 fun p hp => by rw [hF.2 p hp]
  refine tb_okOf hG (by decide) rfl (Nat.le_of_ble_eq_true rfl) rfl ?_
  refine tb_aload_0 d_TB_perform_0 rfl ?_
  refine g_TB_19 d_TB_perform_1 rfl rfl (by first | exact k1 | exact k2 | exact k3 | exact k4 | exact k5 | exact k6 | exact k7 | exact kd | exact kt) ?_
  refine tb_topR r1 ?_
  refine tb_iload_1 d_TB_perform_4 rfl ?_
  refine tb_callVr c_TB_83 d_TB_perform_5 rfl rfl rfl (Nat.le_of_ble_eq_true rfl) (by first | exact k1 | exact k2 | exact k3 | exact k4 | exact k5 | exact k6 | exact k7 | exact kd | exact kt) (ok_Sc_at hG hS hC.1 hk10 (d + 4)) ?_
  refine tb_astore_3 d_TB_perform_8 rfl (by decide) ?_
  refine tb_aload_0 d_TB_perform_9 rfl ?_
  refine g_TB_28 d_TB_perform_10 rfl rfl (by first | exact k1 | exact k2 | exact k3 | exact k4 | exact k5 | exact k6 | exact k7 | exact kd | exact kt) ?_
  refine tb_topR r2 ?_
  refine tb_callVr c_TB_200 d_TB_perform_13 rfl rfl rfl (Nat.le_of_ble_eq_true rfl) (by first | exact k1 | exact k2 | exact k3 | exact k4 | exact k5 | exact k6 | exact k7 | exact kd | exact kt) (ok_Sh_those hG hS hF.1 (d + 4)) ?_
  refine tb_topI hth ?_
  refine tb_istore_4 d_TB_perform_16 rfl (by decide) ?_
  refine tb_iconst (1) (by decide) d_TB_perform_18 rfl ?_
  refine tb_istore_5 d_TB_perform_19 rfl (by decide) ?_
  refine tb_iconst (-1) (by decide) d_TB_perform_21 rfl ?_
  refine tb_istore_6 d_TB_perform_22 rfl (by decide) ?_
  refine tb_aload_0 d_TB_perform_24 rfl ?_
  refine g_TB_38 d_TB_perform_25 rfl rfl (by first | exact k1 | exact k2 | exact k3 | exact k4 | exact k5 | exact k6 | exact k7 | exact kd | exact kt) ?_
  refine tb_topR r4 ?_
  refine tb_aload_3 d_TB_perform_28 rfl ?_
  refine tb_aload_0 d_TB_perform_29 rfl ?_
  refine g_TB_28 d_TB_perform_30 rfl rfl (by first | exact k1 | exact k2 | exact k3 | exact k4 | exact k5 | exact k6 | exact k7 | exact kd | exact kt) ?_
  refine tb_topR r2 ?_
  refine tb_callVq c_TB_203 d_TB_perform_33 rfl rfl rfl (Nat.le_of_ble_eq_true rfl) (by first | exact k1 | exact k2 | exact k3 | exact k4 | exact k5 | exact k6 | exact k7 | exact kd | exact kt) (ok_St_fitting hG hS hSt.1 hO hF.1 d) (fun v1 M1 hP1 => ?_)
  obtain ⟨hMe, r, rfl, hr⟩ := hP1
  rw [hMe]
  rcases fit_of hSt hF hct hr with ⟨rfl, hfi⟩ | ⟨i, hi, rfl, hfi⟩
  case inr =>
    obtain ⟨n1, hT1⟩ := hSt.1.2.2.1 i (by have := hSt.1.2.1; omega)
    have kt := hS.k hT1.1
    have t6 := tr6 hT1.1
    have hTI := hSt.2 i hi
    have hwf := hSt.wf hi
    refine tb_astore_7 d_TB_perform_36 rfl (by decide) ?_
    refine tb_aload_7 d_TB_perform_38 rfl ?_
    refine tb_ifnonnull 89 d_TB_perform_40 (by decide) rfl (fun h40 => ?_) (fun h40 => ?_)
    case refine_2 => exact absurd h40 (by omega)
    
    refine tb_aload_7 d_TB_perform_89 rfl ?_
    refine tb_aload_0 d_TB_perform_91 rfl ?_
    refine g_TB_28 d_TB_perform_92 rfl rfl (by first | exact k1 | exact k2 | exact k3 | exact k4 | exact k5 | exact k6 | exact k7 | exact kd | exact kt) ?_
    refine tb_topR r2 ?_
    refine tb_callVq c_TB_220 d_TB_perform_95 rfl rfl rfl (Nat.le_of_ble_eq_true rfl) (by exact kt) (ok_Tr_putBack hG hS hT1 hF.1 (by omega) (d + 3)) (fun v2 M3 hP => ?_)
    obtain ⟨hF3, o3, rfl⟩ := put_fs hF hTI hwf hP
    have hS3 := o3.sh hS
    have hrest : ∀ oc, oc = (@ite _ (chgW (R.2.1.2 i) R.1) (Classical.propDecidable _) 3 2 : Int32) → tb_Wp E m_TB_perform (d + 5) 0 0 108 [some (.inr 1), some (.inl (nI k)), some (.inl ah), some (.inr (tb_R M 5 k)), some (.inl (msk (fun p => R.1 p ≠ none) 12)), some (.inl oc), some (.inl (-1)), some (.inr (tb_R M 33 i)), none] [] M3 (fun o m => ∃ v, o = .inl v ∧ v = none ∧ RIs m n (perA (sc k) k n ah R) ∧ Run M m) := by
      intro oc hoc
      have hT3 := hTI.of (M1 := M3) (fun q hq => o3.i (by intro z; rcases z with z | z <;> omega))
      refine lp_TB_fin hG hS3 hk hn (fs := R.1) (S := R.2.1) (D := R.2.2.1) (x := R.2.1.2 i) hwf hT1.1 hT3 hF3 (hSt.of (by rw [o3.i (by decide)]) (by rw [o3.r]) (fun q h1 h2 => o3.i (by intro z; rcases z with z | z <;> omega))) (by rw [o3.i (by decide)]; exact hL) (by rw [o3.i (by decide)]; exact hh0) (fun j hj => (hD j hj).of (o3.i (by intro z; rcases z with z | z <;> omega))) ?_ hah (fun M4 q1 q2 => ⟨none, rfl, rfl, ?_, ?_⟩)
      · rw [hoc]
        by_cases c : chgW (R.2.1.2 i) R.1
        · rw [if_pos c]; exact Or.inr (Or.inr rfl)
        · rw [if_neg c]; exact Or.inr (Or.inl rfl)
      · unfold perA
        rw [hfi]
        rw [hoc] at q1
        exact q1
      · exact ((o3.mono (fun q hq => Or.inl (by rcases hq with z | z <;> omega))).two).trans ((q2.mono (fun q hq => Or.inr ⟨by have := hq.1; omega, hq.2⟩)).two)
    refine tb_if_eq 105 d_TB_perform_98 (by decide) rfl (fun h98 => ?_) (fun h98 => ?_)
    · have hno : ¬ chgW (R.2.1.2 i) R.1 := bI_0.mp h98
      refine tb_iconst (2) (by decide) d_TB_perform_105 rfl ?_
      refine tb_istore_5 d_TB_perform_106 rfl (by decide) ?_
      first
        | exact hrest 3 (by rw [if_pos hyes])
        | exact hrest 2 (by rw [if_neg hno])
    · have hyes : chgW (R.2.1.2 i) R.1 := Classical.not_not.mp (fun z => h98 (bI_f z))
      refine tb_iconst (3) (by decide) d_TB_perform_101 rfl ?_
      refine tb_goto 106 d_TB_perform_102 (by decide) ?_
      refine tb_istore_5 d_TB_perform_106 rfl (by decide) ?_
      first
        | exact hrest 3 (by rw [if_pos hyes])
        | exact hrest 2 (by rw [if_neg hno])
  refine tb_astore_7 d_TB_perform_36 rfl (by decide) ?_
  refine tb_aload_7 d_TB_perform_38 rfl ?_
  refine tb_ifnonnull 89 d_TB_perform_40 (by decide) rfl (fun h40 => ?_) (fun h40 => ?_)
  · exact absurd rfl h40
  · refine tb_aload_0 d_TB_perform_43 rfl ?_
    refine g_TB_38 d_TB_perform_44 rfl rfl (by first | exact k1 | exact k2 | exact k3 | exact k4 | exact k5 | exact k6 | exact k7 | exact kd | exact kt) ?_
    refine tb_topR r4 ?_
    refine tb_aload_3 d_TB_perform_47 rfl ?_
    refine tb_aload_0 d_TB_perform_48 rfl ?_
    refine g_TB_28 d_TB_perform_49 rfl rfl (by first | exact k1 | exact k2 | exact k3 | exact k4 | exact k5 | exact k6 | exact k7 | exact kd | exact kt) ?_
    refine tb_topR r2 ?_
    refine tb_callVq c_TB_207 d_TB_perform_52 rfl rfl rfl (Nat.le_of_ble_eq_true rfl) (by first | exact k1 | exact k2 | exact k3 | exact k4 | exact k5 | exact k6 | exact k7 | exact kd | exact kt) (ok_St_reason hG hS hSt.1 hO hF.1 (d + 1)) (fun v1 M1b hP1 => ?_)
    obtain ⟨hMe2, y, rfl, hy⟩ := hP1
    rw [hMe2]
    have hyA := why_of hSt hF hct hy
    subst hyA
    refine tb_istore_6 d_TB_perform_55 rfl (by decide) ?_
    refine tb_aload_0 d_TB_perform_57 rfl ?_
    refine g_TB_38 d_TB_perform_58 rfl rfl (by first | exact k1 | exact k2 | exact k3 | exact k4 | exact k5 | exact k6 | exact k7 | exact kd | exact kt) ?_
    refine tb_topR r4 ?_
    refine tb_callVq c_TB_211 d_TB_perform_61 rfl rfl rfl (Nat.le_of_ble_eq_true rfl) (by first | exact k1 | exact k2 | exact k3 | exact k4 | exact k5 | exact k6 | exact k7 | exact kd | exact kt) (ok_St_app hG hS hSt (d + 4)) (fun v1 M2 hP1 => ?_)
    obtain ⟨t, rfl, o2, c, hC2, htc, hAll⟩ := hP1
    have hS2 : Sh M2 := (o2.mono (fun q z => z) (fun q z => Or.inr z)).sh hS
    obtain ⟨n1, hT1⟩ := hC2.2.2.1 c (by have := hC2.2.1; omega)
    rw [← htc] at hT1
    have t6 := tr6 hT1.1
    obtain ⟨ka1, ra0, ra1, ra2, ra3, ra4, ra5⟩ := hS2.tb
    have hO2 := hO.of (M1 := M2) (o2.i (by omega)) (o2.i (by omega))
    have hF2 := hF.of (M1 := M2) (o2.i (by omega)) (o2.i (by omega))
    have haO2 : ta M2 (tb_R M 5 k) m = la (sc k) := by rw [← haO]; funext i; unfold ta; rw [o2.i (by omega)]
    have hcc2 : cmdP (ta M2 (tb_R M 5 k) m) m := by rw [haO2, ← hml]; exact hcc
    refine tb_astore_7 d_TB_perform_64 rfl (by decide) ?_
    refine tb_aload_7 d_TB_perform_66 rfl ?_
    refine tb_aload_3 d_TB_perform_68 rfl ?_
    refine tb_aload_0 d_TB_perform_69 rfl ?_
    refine g_TB_28 d_TB_perform_70 rfl rfl (by exact ka1) ?_
    refine tb_topR ra2 ?_
    refine tb_callSq c_TB_214 d_TB_perform_73 rfl rfl rfl (Nat.le_of_ble_eq_true rfl) (ok_Cr_work hG hS2 hT1 hO2 ho34 hF2.1 (by omega) hcc2 d) (fun v1 M3 hP2 => ?_)
    obtain ⟨rfl, v', hW, hWv⟩ := hP2
    rw [haO2] at hW hWv
    have hcr : craftW (la (sc k)) m (pl M2 26) 8 0 0 = craftW (la (sc k)) (sc k).length R.1 8 0 0 := by rw [hml]; exact craftW_congr hF2.2 8 0 0
    rw [hcr] at hW hWv
    have hX := hW.is hml hF2.2 hWv
    have hXw : WfT (craftV (sc k) R.1) := by
      have := hW.2.1.2.2.2
      rw [hW.2.2.2.2.2.2.1] at this
      exact this
    have hS3 := hW.sh hS2
    obtain ⟨kb1, rb0, rb1, rb2, rb3, rb4, rb5⟩ := hS3.tb
    have kt3 := hS3.k hT1.1
    have hF3 := hF2.of (M1 := M3) (hW.1.i (by intro z; have := z.1; omega)) (hW.1.i (by intro z; have := z.1; omega))
    have hSt3 : StIs M3 (appS R.2.1 (craftV (sc k) R.1)) := by
      have e32 : tb_I M3 32 = tb_I M2 32 := hW.1.i (by intro z; have := z.1; omega)
      have eR : tb_R M3 33 = tb_R M2 33 := by rw [hW.1.r]
      obtain ⟨a1, a2, a3⟩ := hAll (craftV (sc k) R.1)
      have hoth : ∀ j, j < 24 → j ≠ c → ∀ i, i ≤ 5 → tb_I M3 (tb_R M2 33 j + i) = tb_I M2 (tb_R M2 33 j + i) := fun j hj hjc i hi => by
        obtain ⟨n2, hT2⟩ := hC2.2.2.1 j hj
        exact hW.1.i (tr_sep hT1.1 hT2.1 (fun z => hjc (hC2.2.2.2 j c hj (by have := hC2.2.1; omega) (by rw [← z, htc]))) hi)
      refine ⟨?_, fun j hj => ?_⟩
      · rw [a1]
        refine ⟨by rw [e32]; exact hC2.1, hC2.2.1, fun j hj => ?_, by rw [eR]; exact hC2.2.2.2⟩
        rw [eR]
        by_cases e : j = c
        · subst e
          rw [← htc]
          exact ⟨m, hW.2.1⟩
        · obtain ⟨n2, hT2⟩ := hC2.2.2.1 j hj
          exact ⟨n2, hT2.of (hoth j hj e)⟩
      · rw [a1] at hj
        rw [eR]
        by_cases e : j = c
        · subst e
          rw [← htc, a2]
          exact hX
        · exact (a3 j (by omega)).of (hoth j (by have := hC2.2.1; omega) e)
    refine tb_aload_7 d_TB_perform_76 rfl ?_
    refine tb_aload_0 d_TB_perform_78 rfl ?_
    refine g_TB_28 d_TB_perform_79 rfl rfl (by exact kb1) ?_
    refine tb_topR rb2 ?_
    refine tb_callVq c_TB_220 d_TB_perform_82 rfl rfl rfl (Nat.le_of_ble_eq_true rfl) (by exact kt3) (ok_Tr_putBack hG hS3 hW.2.1 hF3.1 (by omega) (d + 3)) (fun v2 M4 hP => ?_)
    obtain ⟨hF4, o4, rfl⟩ := put_fs hF3 hX hXw hP
    have hS4 := o4.sh hS3
    have hn4 : ∀ q, ¬ (q = 27 ∨ q = 28) → tb_I M4 q = tb_I M3 q := fun q hq => o4.i (by intro z; rcases z with z | z <;> omega)
    have hlog : ∀ q, 178 ≤ q → q < 190 → tb_I M4 q = tb_I M q := fun q h1 h2 => by rw [hn4 q (by omega), hW.1.i (by intro z; have := z.2; omega), o2.i (by omega)]
    refine tb_popi d_TB_perform_85 rfl ?_
    refine tb_goto 108 d_TB_perform_86 (by decide) ?_
    have hT4 := hX.of (M1 := M4) (fun q hq => hn4 _ (by omega))
    refine lp_TB_fin hG hS4 hk hn (fs := R.1) (S := appS R.2.1 (craftV (sc k) R.1)) (D := R.2.2.1) (x := craftV (sc k) R.1) hXw hT1.1 hT4 hF4 (hSt3.of (by rw [hn4 32 (by omega)]) (by rw [o4.r]) (fun q h1 h2 => hn4 q (by omega))) (by rw [hlog 178 (by omega) (by omega)]; exact hL) (by rw [hlog 178 (by omega) (by omega)]; exact hh0) (fun j hj => (hD j hj).of (hlog _ (by omega) (by omega))) (Or.inl rfl) hah (fun M5 q1 q2 => ⟨none, rfl, rfl, ?_, ?_⟩)
    · unfold perA
      rw [hfi]
      exact q1
    · have p1 : Run M M2 := o2.mono (fun q hq => Or.inr (by omega)) (fun q hq => hq)
      have p2 : Run M2 M3 := (hW.1.mono (fun q hq => Or.inr ⟨by have := hq.1; omega, by have := hq.2; omega⟩)).two
      have p3 : Run M3 M4 := (o4.mono (fun q hq => Or.inl (by rcases hq with z | z <;> omega))).two
      have p4 : Run M4 M5 := (q2.mono (fun q hq => Or.inr ⟨by have := hq.1; omega, hq.2⟩)).two
      exact ((p1.trans p2).trans p3).trans p4
end Perform
