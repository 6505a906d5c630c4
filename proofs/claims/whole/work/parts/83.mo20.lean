/-! The reference: the end of perform. -/
section Mo20
variable {E : tb_E} {M M1 : tb_M} {fs : Fs} {k t : Nat} {x : TrV}
theorem nb {z : Int32} (h : z = 0 ∨ z = 1) : vp_nar .boolean z = z := by
  rcases h with rfl | rfl <;> rfl
theorem nb0 : vp_nar .boolean 0 = 0 := nb (Or.inl rfl)
theorem nb1 : vp_nar .boolean 1 = 1 := nb (Or.inr rfl)
theorem tur_iff {x : TrV} {fs : Fs} {f : Nat} (hf : f < 12) (hw : tWr x = nI f) : turA x fs = bI (¬ (fs f = none ↔ tRs x = none)) := by
  unfold turA
  refine bI_iff ⟨fun z => ?_, fun z => ⟨f, hf, hw, z⟩⟩
  obtain ⟨g, hg, e, q⟩ := z
  have := (nI_eq (by omega) (by omega)).mp (hw.symm.trans e)
  subst this
  exact q
theorem tur_m1 {x : TrV} {fs : Fs} (hw : tWr x = -1) : turA x fs = 0 := by
  unfold turA
  refine bI_f (fun z => ?_)
  obtain ⟨g, hg, e, -⟩ := z
  rw [hw] at e
  exact nI_nm1 (by omega) e.symm
/-- after the trace is known -/
def PfP (M M1 : tb_M) (k : Nat) (fs : Fs) (x : TrV) (ah : Int32) : Prop := On M M1 (fun q => q = 191 ∨ q = 192 ∨ q = 209 ∨ q = 210 ∨ (213 ≤ q ∧ q < 217)) ∧ MFs M1 (wrA fs x) ∧ tb_I M1 209 = va_up (tb_I M 209) k 1 ∧ tb_I M1 210 = va_up (tb_I M 210) k ah ∧ tb_I M1 213 = va_up (tb_I M 213) k (tRd x) ∧ tb_I M1 214 = va_up (tb_I M 214) k (tAk x) ∧ tb_I M1 215 = va_up (tb_I M 215) k (tWr x) ∧ tb_I M1 216 = va_up (tb_I M 216) k (turA x fs)
theorem lp_Mo_pfin (hG : tb_G E) (hS : Sh M) (hk : k < 10) (ht : t < 25) (hT : MTr M t x) (hF : MFs M fs) {ah : Int32} (hah : ah = 0 ∨ ah = 1) {d rc rs : Nat} {l4 : tb_L} {Q : tb_O → tb_M → Prop} (hQ : ∀ M1, PfP M M1 k fs x ah → Q (.inl none) M1) : tb_Wp E m_Mo_perform (d + 1) rc rs 83 [some (.inr 190), some (.inl (nI k)), some (.inl ah), some (.inl (nI t)), l4] [] M Q := by
  obtain ⟨hTr, hTa, hTw, hwf⟩ : tb_I M 200 t = tRd x ∧ tb_I M 201 t = tAk x ∧ tb_I M 205 t = tWr x ∧ WfT x := ⟨hT.2.1, hT.2.2.1, hT.2.2.2.2.2.1, hT.2.2.2.2.2.2.1⟩
  have oA : On M (tb_sI (tb_sI (tb_sI M 213 k (tRd x)) 214 k (tAk x)) 215 k (tWr x)) (fun q => 213 ≤ q ∧ q < 216) := by
    refine ((On.sI ?_).trans (On.sI ?_)).trans (On.sI ?_) <;> simp
  have a13 : tb_I (tb_sI (tb_sI (tb_sI M 213 k (tRd x)) 214 k (tAk x)) 215 k (tWr x)) 213 = va_up (tb_I M 213) k (tRd x) := by rw [sI_of _ _ _ (by decide), sI_of _ _ _ (by decide), sI_at]
  have a14 : tb_I (tb_sI (tb_sI (tb_sI M 213 k (tRd x)) 214 k (tAk x)) 215 k (tWr x)) 214 = va_up (tb_I M 214) k (tAk x) := by rw [sI_of _ _ _ (by decide), sI_at, sI_of _ _ _ (by decide)]
  have a15 : tb_I (tb_sI (tb_sI (tb_sI M 213 k (tRd x)) 214 k (tAk x)) 215 k (tWr x)) 215 = va_up (tb_I M 215) k (tWr x) := by rw [sI_at, sI_of _ _ _ (by decide), sI_of _ _ _ (by decide)]
  refine tb_aload_0 d_Mo_perform_83 rfl ?_
  refine g_Mo_77 d_Mo_perform_84 rfl rfl (by first | exact hS.k rfl) ?_
  refine tb_topR (y := 213) (hS.mr 31 (by decide)) ?_
  refine tb_iload_1 d_Mo_perform_87 rfl ?_
  refine tb_aload_0 d_Mo_perform_88 rfl ?_
  refine g_Mo_37 d_Mo_perform_89 rfl rfl (by first | exact hS.k rfl) ?_
  refine tb_topR (y := 200) (hS.mr 13 (by decide)) ?_
  refine tb_iload_3 d_Mo_perform_92 rfl ?_
  refine tb_iaload d_Mo_perform_93 rfl (by first | exact hS.k rfl) (by first | exact mo_in hS (c := 12) rfl (by omega) (by decide) | exact mo_in hS (c := 10) rfl (by omega) (by decide) | exact mo_in hS (c := 25) rfl (by omega) (by decide) | exact mo_in hS (c := 6) rfl (by omega) (by decide) | exact mo_in hS (c := 72) rfl (by omega) (by decide) | exact mo_in hS (c := 120) rfl (by omega) (by decide) | exact mo_in hS (c := 300) rfl (by omega) (by decide) | exact mo_in hS (c := 150) rfl (by omega) (by decide) | exact mo_in hS (c := 1800) rfl (by omega) (by decide)) ?_
  refine tb_topI (y := tRd x) (by rw [nI_clamp (show t < 2 ^ 31 by omega)]; exact hTr) ?_
  refine tb_iastore d_Mo_perform_94 rfl (by first | exact hS.k rfl) (by first | exact mo_in hS (c := 12) rfl (by omega) (by decide) | exact mo_in hS (c := 10) rfl (by omega) (by decide) | exact mo_in hS (c := 25) rfl (by omega) (by decide) | exact mo_in hS (c := 6) rfl (by omega) (by decide) | exact mo_in hS (c := 72) rfl (by omega) (by decide) | exact mo_in hS (c := 120) rfl (by omega) (by decide) | exact mo_in hS (c := 300) rfl (by omega) (by decide) | exact mo_in hS (c := 150) rfl (by omega) (by decide) | exact mo_in hS (c := 1800) rfl (by omega) (by decide)) ?_
  rw [nI_clamp (show k < 2 ^ 31 by omega)]
  refine tb_aload_0 d_Mo_perform_95 rfl ?_
  refine g_Mo_80 d_Mo_perform_96 rfl rfl (by first | exact hS.k rfl) ?_
  refine tb_topR (y := 214) (hS.mr 32 (by decide)) ?_
  refine tb_iload_1 d_Mo_perform_99 rfl ?_
  refine tb_aload_0 d_Mo_perform_100 rfl ?_
  refine g_Mo_40 d_Mo_perform_101 rfl rfl (by first | exact hS.k rfl) ?_
  refine tb_topR (y := 201) (hS.mr 14 (by decide)) ?_
  refine tb_iload_3 d_Mo_perform_104 rfl ?_
  refine tb_iaload d_Mo_perform_105 rfl (by first | exact hS.k rfl) (by first | exact mo_in hS (c := 12) rfl (by omega) (by decide) | exact mo_in hS (c := 10) rfl (by omega) (by decide) | exact mo_in hS (c := 25) rfl (by omega) (by decide) | exact mo_in hS (c := 6) rfl (by omega) (by decide) | exact mo_in hS (c := 72) rfl (by omega) (by decide) | exact mo_in hS (c := 120) rfl (by omega) (by decide) | exact mo_in hS (c := 300) rfl (by omega) (by decide) | exact mo_in hS (c := 150) rfl (by omega) (by decide) | exact mo_in hS (c := 1800) rfl (by omega) (by decide)) ?_
  refine tb_topI (y := tAk x) (by rw [nI_clamp (show t < 2 ^ 31 by omega)]; rw [sI_of _ _ _ (by decide)]; exact hTa) ?_
  refine tb_iastore d_Mo_perform_106 rfl (by first | exact hS.k rfl) (by first | exact mo_in hS (c := 12) rfl (by omega) (by decide) | exact mo_in hS (c := 10) rfl (by omega) (by decide) | exact mo_in hS (c := 25) rfl (by omega) (by decide) | exact mo_in hS (c := 6) rfl (by omega) (by decide) | exact mo_in hS (c := 72) rfl (by omega) (by decide) | exact mo_in hS (c := 120) rfl (by omega) (by decide) | exact mo_in hS (c := 300) rfl (by omega) (by decide) | exact mo_in hS (c := 150) rfl (by omega) (by decide) | exact mo_in hS (c := 1800) rfl (by omega) (by decide)) ?_
  rw [nI_clamp (show k < 2 ^ 31 by omega)]
  refine tb_aload_0 d_Mo_perform_107 rfl ?_
  refine g_Mo_83 d_Mo_perform_108 rfl rfl (by first | exact hS.k rfl) ?_
  refine tb_topR (y := 215) (hS.mr 33 (by decide)) ?_
  refine tb_iload_1 d_Mo_perform_111 rfl ?_
  refine tb_aload_0 d_Mo_perform_112 rfl ?_
  refine g_Mo_52 d_Mo_perform_113 rfl rfl (by first | exact hS.k rfl) ?_
  refine tb_topR (y := 205) (hS.mr 18 (by decide)) ?_
  refine tb_iload_3 d_Mo_perform_116 rfl ?_
  refine tb_iaload d_Mo_perform_117 rfl (by first | exact hS.k rfl) (by first | exact mo_in hS (c := 12) rfl (by omega) (by decide) | exact mo_in hS (c := 10) rfl (by omega) (by decide) | exact mo_in hS (c := 25) rfl (by omega) (by decide) | exact mo_in hS (c := 6) rfl (by omega) (by decide) | exact mo_in hS (c := 72) rfl (by omega) (by decide) | exact mo_in hS (c := 120) rfl (by omega) (by decide) | exact mo_in hS (c := 300) rfl (by omega) (by decide) | exact mo_in hS (c := 150) rfl (by omega) (by decide) | exact mo_in hS (c := 1800) rfl (by omega) (by decide)) ?_
  refine tb_topI (y := tWr x) (by rw [nI_clamp (show t < 2 ^ 31 by omega)]; rw [sI_of _ _ _ (by decide), sI_of _ _ _ (by decide)]; exact hTw) ?_
  refine tb_iastore d_Mo_perform_118 rfl (by first | exact hS.k rfl) (by first | exact mo_in hS (c := 12) rfl (by omega) (by decide) | exact mo_in hS (c := 10) rfl (by omega) (by decide) | exact mo_in hS (c := 25) rfl (by omega) (by decide) | exact mo_in hS (c := 6) rfl (by omega) (by decide) | exact mo_in hS (c := 72) rfl (by omega) (by decide) | exact mo_in hS (c := 120) rfl (by omega) (by decide) | exact mo_in hS (c := 300) rfl (by omega) (by decide) | exact mo_in hS (c := 150) rfl (by omega) (by decide) | exact mo_in hS (c := 1800) rfl (by omega) (by decide)) ?_
  rw [nI_clamp (show k < 2 ^ 31 by omega)]
  generalize (tb_sI (tb_sI (tb_sI M 213 k (tRd x)) 214 k (tAk x)) 215 k (tWr x)) = MA at oA a13 a14 a15
  have hSA := oA.sh hS
  have hFA := hF.of (M1 := MA) (oA.i (by omega)) (oA.i (by omega))
  have hTA := hT.of (M1 := MA) (fun q _ _ => oA.i (by omega))
  have hfin : ∀ MB tu, tu = turA x fs → On MA MB (fun q => q = 191 ∨ q = 192) → MFs MB (wrA fs x) → Q (.inl none) (tb_sI (tb_sI (tb_sI MB 216 k tu) 209 k 1) 210 k ah) := by
    intro MB tu htu oB hFB
    have oC : On MB (tb_sI (tb_sI (tb_sI MB 216 k tu) 209 k 1) 210 k ah) (fun q => q = 216 ∨ q = 209 ∨ q = 210) := by
      refine ((On.sI ?_).trans (On.sI ?_)).trans (On.sI ?_) <;> simp
    refine hQ _ ⟨((oA.mono (fun q hq => by omega)).trans (oB.mono (fun q hq => by omega))).trans (oC.mono (fun q hq => by omega)), hFB.of (oC.i (by omega)) (oC.i (by omega)), ?_, ?_, ?_, ?_, ?_, ?_⟩
    · rw [sI_of _ _ _ (by decide), sI_at, sI_of _ _ _ (by decide), oB.i (by omega), oA.i (by omega)]
    · rw [sI_at, sI_of _ _ _ (by decide), sI_of _ _ _ (by decide), oB.i (by omega), oA.i (by omega)]
    · rw [oC.i (by omega), oB.i (by omega), a13]
    · rw [oC.i (by omega), oB.i (by omega), a14]
    · rw [oC.i (by omega), oB.i (by omega), a15]
    · rw [sI_of _ _ _ (by decide), sI_of _ _ _ (by decide), sI_at, oB.i (by omega), oA.i (by omega), htu]
  rcases hwf with hw | ⟨f, hf, hw⟩
  · refine tb_aload_0 d_Mo_perform_119 rfl ?_
    refine g_Mo_83 d_Mo_perform_120 rfl rfl (by first | exact hSA.k rfl) ?_
    refine tb_topR (y := 215) (hSA.mr 33 (by decide)) ?_
    refine tb_iload_1 d_Mo_perform_123 rfl ?_
    refine tb_iaload d_Mo_perform_124 rfl (by first | exact hSA.k rfl) (by first | exact mo_in hSA (c := 12) rfl (by omega) (by decide) | exact mo_in hSA (c := 10) rfl (by omega) (by decide) | exact mo_in hSA (c := 25) rfl (by omega) (by decide) | exact mo_in hSA (c := 6) rfl (by omega) (by decide) | exact mo_in hSA (c := 72) rfl (by omega) (by decide) | exact mo_in hSA (c := 120) rfl (by omega) (by decide) | exact mo_in hSA (c := 300) rfl (by omega) (by decide) | exact mo_in hSA (c := 150) rfl (by omega) (by decide) | exact mo_in hSA (c := 1800) rfl (by omega) (by decide)) ?_
    refine tb_topI (y := -1) (by rw [nI_clamp (show k < 2 ^ 31 by omega)]; rw [a15]; simp [va_up, hw]) ?_
    refine tb_if_lt 146 d_Mo_perform_125 (by decide) rfl (fun h125 => ?_) (fun h125 => ?_)
    · refine tb_iconst (0) (by decide) d_Mo_perform_146 rfl ?_
      refine tb_istore_4 d_Mo_perform_147 rfl (by decide) ?_
      refine tb_aload_0 d_Mo_perform_149 rfl ?_
      refine tb_iload_3 d_Mo_perform_150 rfl ?_
      refine tb_callVq c_Mo_206 d_Mo_perform_151 rfl rfl rfl (Nat.le_of_ble_eq_true rfl) (by first | exact hSA.k rfl) (ok_Mo_write hG hSA hTA ht hFA d) (fun v2 MB hP => ?_)
      obtain ⟨rfl, oB, hFB⟩ := hP
      have hSB := oB.sh hSA
      refine tb_aload_0 d_Mo_perform_154 rfl ?_
      refine g_Mo_86 d_Mo_perform_155 rfl rfl (by exact hSB.k rfl) ?_
      refine tb_topR (y := 216) (hSB.mr 34 (by decide)) ?_
      refine tb_iload_1 d_Mo_perform_158 rfl ?_
      refine tb_aload_0 d_Mo_perform_159 rfl ?_
      refine g_Mo_83 d_Mo_perform_160 rfl rfl (by exact hSB.k rfl) ?_
      refine tb_topR (y := 215) (hSB.mr 33 (by decide)) ?_
      refine tb_iload_1 d_Mo_perform_163 rfl ?_
      refine tb_iaload d_Mo_perform_164 rfl (by exact hSB.k rfl) (by first | exact mo_in hSB (c := 12) rfl (by omega) (by decide) | exact mo_in hSB (c := 10) rfl (by omega) (by decide) | exact mo_in hSB (c := 25) rfl (by omega) (by decide) | exact mo_in hSB (c := 6) rfl (by omega) (by decide) | exact mo_in hSB (c := 72) rfl (by omega) (by decide) | exact mo_in hSB (c := 120) rfl (by omega) (by decide) | exact mo_in hSB (c := 300) rfl (by omega) (by decide) | exact mo_in hSB (c := 150) rfl (by omega) (by decide) | exact mo_in hSB (c := 1800) rfl (by omega) (by decide)) ?_
      refine tb_topI (y := -1) (by rw [nI_clamp (show k < 2 ^ 31 by omega)]; rw [oB.i (by decide), a15]; simp [va_up, hw]) ?_
      refine tb_if_lt 196 d_Mo_perform_165 (by decide) rfl (fun h165 => ?_) (fun h165 => ?_)
      · refine tb_iconst (0) (by decide) d_Mo_perform_196 rfl ?_
        refine tb_zastore d_Mo_perform_197 rfl (by exact hSB.k rfl) (by first | exact mo_in hSB (c := 12) rfl (by omega) (by decide) | exact mo_in hSB (c := 10) rfl (by omega) (by decide) | exact mo_in hSB (c := 25) rfl (by omega) (by decide) | exact mo_in hSB (c := 6) rfl (by omega) (by decide) | exact mo_in hSB (c := 72) rfl (by omega) (by decide) | exact mo_in hSB (c := 120) rfl (by omega) (by decide) | exact mo_in hSB (c := 300) rfl (by omega) (by decide) | exact mo_in hSB (c := 150) rfl (by omega) (by decide) | exact mo_in hSB (c := 1800) rfl (by omega) (by decide)) ?_
        rw [nI_clamp (show k < 2 ^ 31 by omega)]
        refine tb_aload_0 d_Mo_perform_198 rfl ?_
        refine g_Mo_64 d_Mo_perform_199 rfl rfl (by exact hSB.k rfl) ?_
        refine tb_topR (y := 209) (hSB.mr 27 (by decide)) ?_
        refine tb_iload_1 d_Mo_perform_202 rfl ?_
        refine tb_iconst (1) (by decide) d_Mo_perform_203 rfl ?_
        refine tb_zastore d_Mo_perform_204 rfl (by exact hSB.k rfl) (by first | exact mo_in hSB (c := 12) rfl (by omega) (by decide) | exact mo_in hSB (c := 10) rfl (by omega) (by decide) | exact mo_in hSB (c := 25) rfl (by omega) (by decide) | exact mo_in hSB (c := 6) rfl (by omega) (by decide) | exact mo_in hSB (c := 72) rfl (by omega) (by decide) | exact mo_in hSB (c := 120) rfl (by omega) (by decide) | exact mo_in hSB (c := 300) rfl (by omega) (by decide) | exact mo_in hSB (c := 150) rfl (by omega) (by decide) | exact mo_in hSB (c := 1800) rfl (by omega) (by decide)) ?_
        rw [nI_clamp (show k < 2 ^ 31 by omega)]
        refine tb_aload_0 d_Mo_perform_205 rfl ?_
        refine g_Mo_68 d_Mo_perform_206 rfl rfl (by exact hSB.k rfl) ?_
        refine tb_topR (y := 210) (hSB.mr 28 (by decide)) ?_
        refine tb_iload_1 d_Mo_perform_209 rfl ?_
        refine tb_iload_2 d_Mo_perform_210 rfl ?_
        refine tb_zastore d_Mo_perform_211 rfl (by exact hSB.k rfl) (by first | exact mo_in hSB (c := 12) rfl (by omega) (by decide) | exact mo_in hSB (c := 10) rfl (by omega) (by decide) | exact mo_in hSB (c := 25) rfl (by omega) (by decide) | exact mo_in hSB (c := 6) rfl (by omega) (by decide) | exact mo_in hSB (c := 72) rfl (by omega) (by decide) | exact mo_in hSB (c := 120) rfl (by omega) (by decide) | exact mo_in hSB (c := 300) rfl (by omega) (by decide) | exact mo_in hSB (c := 150) rfl (by omega) (by decide) | exact mo_in hSB (c := 1800) rfl (by omega) (by decide)) ?_
        rw [nI_clamp (show k < 2 ^ 31 by omega)]
        refine tb_vreturn d_Mo_perform_212 rfl ?_
        simp only [nb0, nb1, nb hah]
        exact hfin MB _ (tur_m1 hw).symm oB hFB
      · exact absurd (by decide) h165
    · exact absurd (by decide) h125
  · have hle : (cl (tRs x)).length ≤ 6 := by
      have h8 := hT.2.2.2.2.2.2.2 (by rw [hw]; exact nI_nm1 (by omega))
      have := (pl_len (M := M) (s := 205) h8.1).2
      rw [h8.2] at this
      exact this
    refine tb_aload_0 d_Mo_perform_119 rfl ?_
    refine g_Mo_83 d_Mo_perform_120 rfl rfl (by first | exact hSA.k rfl) ?_
    refine tb_topR (y := 215) (hSA.mr 33 (by decide)) ?_
    refine tb_iload_1 d_Mo_perform_123 rfl ?_
    refine tb_iaload d_Mo_perform_124 rfl (by first | exact hSA.k rfl) (by first | exact mo_in hSA (c := 12) rfl (by omega) (by decide) | exact mo_in hSA (c := 10) rfl (by omega) (by decide) | exact mo_in hSA (c := 25) rfl (by omega) (by decide) | exact mo_in hSA (c := 6) rfl (by omega) (by decide) | exact mo_in hSA (c := 72) rfl (by omega) (by decide) | exact mo_in hSA (c := 120) rfl (by omega) (by decide) | exact mo_in hSA (c := 300) rfl (by omega) (by decide) | exact mo_in hSA (c := 150) rfl (by omega) (by decide) | exact mo_in hSA (c := 1800) rfl (by omega) (by decide)) ?_
    refine tb_topI (y := nI f) (by rw [nI_clamp (show k < 2 ^ 31 by omega)]; rw [a15]; simp [va_up, hw]) ?_
    refine tb_if_lt 146 d_Mo_perform_125 (by decide) rfl (fun h125 => ?_) (fun h125 => ?_)
    · exact absurd h125 (nI_pos (by omega))
    · refine tb_aload_0 d_Mo_perform_128 rfl ?_
      refine g_Mo_7 d_Mo_perform_129 rfl rfl (by first | exact hSA.k rfl) ?_
      refine tb_topR (y := 191) (hSA.mr 1 (by decide)) ?_
      refine tb_aload_0 d_Mo_perform_132 rfl ?_
      refine g_Mo_83 d_Mo_perform_133 rfl rfl (by first | exact hSA.k rfl) ?_
      refine tb_topR (y := 215) (hSA.mr 33 (by decide)) ?_
      refine tb_iload_1 d_Mo_perform_136 rfl ?_
      refine tb_iaload d_Mo_perform_137 rfl (by first | exact hSA.k rfl) (by first | exact mo_in hSA (c := 12) rfl (by omega) (by decide) | exact mo_in hSA (c := 10) rfl (by omega) (by decide) | exact mo_in hSA (c := 25) rfl (by omega) (by decide) | exact mo_in hSA (c := 6) rfl (by omega) (by decide) | exact mo_in hSA (c := 72) rfl (by omega) (by decide) | exact mo_in hSA (c := 120) rfl (by omega) (by decide) | exact mo_in hSA (c := 300) rfl (by omega) (by decide) | exact mo_in hSA (c := 150) rfl (by omega) (by decide) | exact mo_in hSA (c := 1800) rfl (by omega) (by decide)) ?_
      refine tb_topI (y := nI f) (by rw [nI_clamp (show k < 2 ^ 31 by omega)]; rw [a15]; simp [va_up, hw]) ?_
      refine tb_iaload d_Mo_perform_138 rfl (by first | exact hSA.k rfl) (by first | exact mo_in hSA (c := 12) rfl (by omega) (by decide) | exact mo_in hSA (c := 10) rfl (by omega) (by decide) | exact mo_in hSA (c := 25) rfl (by omega) (by decide) | exact mo_in hSA (c := 6) rfl (by omega) (by decide) | exact mo_in hSA (c := 72) rfl (by omega) (by decide) | exact mo_in hSA (c := 120) rfl (by omega) (by decide) | exact mo_in hSA (c := 300) rfl (by omega) (by decide) | exact mo_in hSA (c := 150) rfl (by omega) (by decide) | exact mo_in hSA (c := 1800) rfl (by omega) (by decide)) ?_
      refine tb_topI (y := szV (fs f)) (by rw [nI_clamp (show f < 2 ^ 31 by omega)]; exact hFA.sz hf) ?_
      refine tb_if_lt 146 d_Mo_perform_139 (by decide) rfl (fun h139 => ?_) (fun h139 => ?_)
      · have hwas : bI (fs f ≠ none) = 0 := bI_f (fun z => z ((sz_neg (hF.le hf)).mp h139))
        refine tb_iconst (0) (by decide) d_Mo_perform_146 rfl ?_
        refine tb_topI (y := bI (fs f ≠ none)) hwas.symm ?_
        refine tb_istore_4 d_Mo_perform_147 rfl (by decide) ?_
        refine tb_aload_0 d_Mo_perform_149 rfl ?_
        refine tb_iload_3 d_Mo_perform_150 rfl ?_
        refine tb_callVq c_Mo_206 d_Mo_perform_151 rfl rfl rfl (Nat.le_of_ble_eq_true rfl) (by first | exact hSA.k rfl) (ok_Mo_write hG hSA hTA ht hFA d) (fun v2 MB hP => ?_)
        obtain ⟨rfl, oB, hFB⟩ := hP
        have hSB := oB.sh hSA
        refine tb_aload_0 d_Mo_perform_154 rfl ?_
        refine g_Mo_86 d_Mo_perform_155 rfl rfl (by exact hSB.k rfl) ?_
        refine tb_topR (y := 216) (hSB.mr 34 (by decide)) ?_
        refine tb_iload_1 d_Mo_perform_158 rfl ?_
        refine tb_aload_0 d_Mo_perform_159 rfl ?_
        refine g_Mo_83 d_Mo_perform_160 rfl rfl (by exact hSB.k rfl) ?_
        refine tb_topR (y := 215) (hSB.mr 33 (by decide)) ?_
        refine tb_iload_1 d_Mo_perform_163 rfl ?_
        refine tb_iaload d_Mo_perform_164 rfl (by exact hSB.k rfl) (by first | exact mo_in hSB (c := 12) rfl (by omega) (by decide) | exact mo_in hSB (c := 10) rfl (by omega) (by decide) | exact mo_in hSB (c := 25) rfl (by omega) (by decide) | exact mo_in hSB (c := 6) rfl (by omega) (by decide) | exact mo_in hSB (c := 72) rfl (by omega) (by decide) | exact mo_in hSB (c := 120) rfl (by omega) (by decide) | exact mo_in hSB (c := 300) rfl (by omega) (by decide) | exact mo_in hSB (c := 150) rfl (by omega) (by decide) | exact mo_in hSB (c := 1800) rfl (by omega) (by decide)) ?_
        refine tb_topI (y := nI f) (by rw [nI_clamp (show k < 2 ^ 31 by omega)]; rw [oB.i (by decide), a15]; simp [va_up, hw]) ?_
        refine tb_if_lt 196 d_Mo_perform_165 (by decide) rfl (fun h165 => ?_) (fun h165 => ?_)
        · exact absurd h165 (nI_pos (by omega))
        · refine tb_iload_4 d_Mo_perform_168 rfl ?_
          refine tb_aload_0 d_Mo_perform_170 rfl ?_
          refine g_Mo_7 d_Mo_perform_171 rfl rfl (by exact hSB.k rfl) ?_
          refine tb_topR (y := 191) (hSB.mr 1 (by decide)) ?_
          refine tb_aload_0 d_Mo_perform_174 rfl ?_
          refine g_Mo_83 d_Mo_perform_175 rfl rfl (by exact hSB.k rfl) ?_
          refine tb_topR (y := 215) (hSB.mr 33 (by decide)) ?_
          refine tb_iload_1 d_Mo_perform_178 rfl ?_
          refine tb_iaload d_Mo_perform_179 rfl (by exact hSB.k rfl) (by first | exact mo_in hSB (c := 12) rfl (by omega) (by decide) | exact mo_in hSB (c := 10) rfl (by omega) (by decide) | exact mo_in hSB (c := 25) rfl (by omega) (by decide) | exact mo_in hSB (c := 6) rfl (by omega) (by decide) | exact mo_in hSB (c := 72) rfl (by omega) (by decide) | exact mo_in hSB (c := 120) rfl (by omega) (by decide) | exact mo_in hSB (c := 300) rfl (by omega) (by decide) | exact mo_in hSB (c := 150) rfl (by omega) (by decide) | exact mo_in hSB (c := 1800) rfl (by omega) (by decide)) ?_
          refine tb_topI (y := nI f) (by rw [nI_clamp (show k < 2 ^ 31 by omega)]; rw [oB.i (by decide), a15]; simp [va_up, hw]) ?_
          refine tb_iaload d_Mo_perform_180 rfl (by exact hSB.k rfl) (by first | exact mo_in hSB (c := 12) rfl (by omega) (by decide) | exact mo_in hSB (c := 10) rfl (by omega) (by decide) | exact mo_in hSB (c := 25) rfl (by omega) (by decide) | exact mo_in hSB (c := 6) rfl (by omega) (by decide) | exact mo_in hSB (c := 72) rfl (by omega) (by decide) | exact mo_in hSB (c := 120) rfl (by omega) (by decide) | exact mo_in hSB (c := 300) rfl (by omega) (by decide) | exact mo_in hSB (c := 150) rfl (by omega) (by decide) | exact mo_in hSB (c := 1800) rfl (by omega) (by decide)) ?_
          refine tb_topI (y := szV (tRs x)) (by rw [nI_clamp (show f < 2 ^ 31 by omega)]; rw [hFB.sz hf]; unfold wrA; rw [if_pos hw]) ?_
          refine tb_if_lt 188 d_Mo_perform_181 (by decide) rfl (fun h181 => ?_) (fun h181 => ?_)
          · have hnow : bI (tRs x ≠ none) = 0 := bI_f (fun z => z ((sz_neg hle).mp h181))
            refine tb_iconst (0) (by decide) d_Mo_perform_188 rfl ?_
            refine tb_topI (y := bI (tRs x ≠ none)) hnow.symm ?_
            refine tb_icmp_eq 196 d_Mo_perform_189 (by decide) rfl (fun h189 => ?_) (fun h189 => ?_)
            · have htu : (0 : Int32) = turA x fs := by
                rw [tur_iff hf hw]
                refine (bI_f (fun z => z ?_)).symm
                have h189b : bI (fs f ≠ none) = bI (tRs x ≠ none) := h189
                by_cases c : fs f = none
                · rw [bI_f (fun z => z c)] at h189b
                  exact ⟨fun _ => Classical.not_not.mp (bI_0.mp h189b.symm), fun _ => c⟩
                · rw [bI_t c] at h189b
                  refine ⟨fun z => absurd z c, fun z => ?_⟩
                  rw [bI_f (fun q => q z)] at h189b
                  exact absurd h189b (by decide)
              refine tb_iconst (0) (by decide) d_Mo_perform_196 rfl ?_
              refine tb_zastore d_Mo_perform_197 rfl (by exact hSB.k rfl) (by first | exact mo_in hSB (c := 12) rfl (by omega) (by decide) | exact mo_in hSB (c := 10) rfl (by omega) (by decide) | exact mo_in hSB (c := 25) rfl (by omega) (by decide) | exact mo_in hSB (c := 6) rfl (by omega) (by decide) | exact mo_in hSB (c := 72) rfl (by omega) (by decide) | exact mo_in hSB (c := 120) rfl (by omega) (by decide) | exact mo_in hSB (c := 300) rfl (by omega) (by decide) | exact mo_in hSB (c := 150) rfl (by omega) (by decide) | exact mo_in hSB (c := 1800) rfl (by omega) (by decide)) ?_
              rw [nI_clamp (show k < 2 ^ 31 by omega)]
              refine tb_aload_0 d_Mo_perform_198 rfl ?_
              refine g_Mo_64 d_Mo_perform_199 rfl rfl (by exact hSB.k rfl) ?_
              refine tb_topR (y := 209) (hSB.mr 27 (by decide)) ?_
              refine tb_iload_1 d_Mo_perform_202 rfl ?_
              refine tb_iconst (1) (by decide) d_Mo_perform_203 rfl ?_
              refine tb_zastore d_Mo_perform_204 rfl (by exact hSB.k rfl) (by first | exact mo_in hSB (c := 12) rfl (by omega) (by decide) | exact mo_in hSB (c := 10) rfl (by omega) (by decide) | exact mo_in hSB (c := 25) rfl (by omega) (by decide) | exact mo_in hSB (c := 6) rfl (by omega) (by decide) | exact mo_in hSB (c := 72) rfl (by omega) (by decide) | exact mo_in hSB (c := 120) rfl (by omega) (by decide) | exact mo_in hSB (c := 300) rfl (by omega) (by decide) | exact mo_in hSB (c := 150) rfl (by omega) (by decide) | exact mo_in hSB (c := 1800) rfl (by omega) (by decide)) ?_
              rw [nI_clamp (show k < 2 ^ 31 by omega)]
              refine tb_aload_0 d_Mo_perform_205 rfl ?_
              refine g_Mo_68 d_Mo_perform_206 rfl rfl (by exact hSB.k rfl) ?_
              refine tb_topR (y := 210) (hSB.mr 28 (by decide)) ?_
              refine tb_iload_1 d_Mo_perform_209 rfl ?_
              refine tb_iload_2 d_Mo_perform_210 rfl ?_
              refine tb_zastore d_Mo_perform_211 rfl (by exact hSB.k rfl) (by first | exact mo_in hSB (c := 12) rfl (by omega) (by decide) | exact mo_in hSB (c := 10) rfl (by omega) (by decide) | exact mo_in hSB (c := 25) rfl (by omega) (by decide) | exact mo_in hSB (c := 6) rfl (by omega) (by decide) | exact mo_in hSB (c := 72) rfl (by omega) (by decide) | exact mo_in hSB (c := 120) rfl (by omega) (by decide) | exact mo_in hSB (c := 300) rfl (by omega) (by decide) | exact mo_in hSB (c := 150) rfl (by omega) (by decide) | exact mo_in hSB (c := 1800) rfl (by omega) (by decide)) ?_
              rw [nI_clamp (show k < 2 ^ 31 by omega)]
              refine tb_vreturn d_Mo_perform_212 rfl ?_
              simp only [nb0, nb1, nb hah]
              exact hfin MB _ htu oB hFB
            · have htu : (1 : Int32) = turA x fs := by
                rw [tur_iff hf hw]
                exact (bI_t (fun z => h189 (bI_iff (not_congr z)))).symm
              refine tb_iconst (1) (by decide) d_Mo_perform_192 rfl ?_
              refine tb_goto 197 d_Mo_perform_193 (by decide) ?_
              refine tb_zastore d_Mo_perform_197 rfl (by exact hSB.k rfl) (by first | exact mo_in hSB (c := 12) rfl (by omega) (by decide) | exact mo_in hSB (c := 10) rfl (by omega) (by decide) | exact mo_in hSB (c := 25) rfl (by omega) (by decide) | exact mo_in hSB (c := 6) rfl (by omega) (by decide) | exact mo_in hSB (c := 72) rfl (by omega) (by decide) | exact mo_in hSB (c := 120) rfl (by omega) (by decide) | exact mo_in hSB (c := 300) rfl (by omega) (by decide) | exact mo_in hSB (c := 150) rfl (by omega) (by decide) | exact mo_in hSB (c := 1800) rfl (by omega) (by decide)) ?_
              rw [nI_clamp (show k < 2 ^ 31 by omega)]
              refine tb_aload_0 d_Mo_perform_198 rfl ?_
              refine g_Mo_64 d_Mo_perform_199 rfl rfl (by exact hSB.k rfl) ?_
              refine tb_topR (y := 209) (hSB.mr 27 (by decide)) ?_
              refine tb_iload_1 d_Mo_perform_202 rfl ?_
              refine tb_iconst (1) (by decide) d_Mo_perform_203 rfl ?_
              refine tb_zastore d_Mo_perform_204 rfl (by exact hSB.k rfl) (by first | exact mo_in hSB (c := 12) rfl (by omega) (by decide) | exact mo_in hSB (c := 10) rfl (by omega) (by decide) | exact mo_in hSB (c := 25) rfl (by omega) (by decide) | exact mo_in hSB (c := 6) rfl (by omega) (by decide) | exact mo_in hSB (c := 72) rfl (by omega) (by decide) | exact mo_in hSB (c := 120) rfl (by omega) (by decide) | exact mo_in hSB (c := 300) rfl (by omega) (by decide) | exact mo_in hSB (c := 150) rfl (by omega) (by decide) | exact mo_in hSB (c := 1800) rfl (by omega) (by decide)) ?_
              rw [nI_clamp (show k < 2 ^ 31 by omega)]
              refine tb_aload_0 d_Mo_perform_205 rfl ?_
              refine g_Mo_68 d_Mo_perform_206 rfl rfl (by exact hSB.k rfl) ?_
              refine tb_topR (y := 210) (hSB.mr 28 (by decide)) ?_
              refine tb_iload_1 d_Mo_perform_209 rfl ?_
              refine tb_iload_2 d_Mo_perform_210 rfl ?_
              refine tb_zastore d_Mo_perform_211 rfl (by exact hSB.k rfl) (by first | exact mo_in hSB (c := 12) rfl (by omega) (by decide) | exact mo_in hSB (c := 10) rfl (by omega) (by decide) | exact mo_in hSB (c := 25) rfl (by omega) (by decide) | exact mo_in hSB (c := 6) rfl (by omega) (by decide) | exact mo_in hSB (c := 72) rfl (by omega) (by decide) | exact mo_in hSB (c := 120) rfl (by omega) (by decide) | exact mo_in hSB (c := 300) rfl (by omega) (by decide) | exact mo_in hSB (c := 150) rfl (by omega) (by decide) | exact mo_in hSB (c := 1800) rfl (by omega) (by decide)) ?_
              rw [nI_clamp (show k < 2 ^ 31 by omega)]
              refine tb_vreturn d_Mo_perform_212 rfl ?_
              simp only [nb0, nb1, nb hah]
              exact hfin MB _ htu oB hFB
          · have hnow : bI (tRs x ≠ none) = 1 := bI_t (fun z => h181 ((sz_neg hle).mpr z))
            refine tb_iconst (1) (by decide) d_Mo_perform_184 rfl ?_
            refine tb_goto 189 d_Mo_perform_185 (by decide) ?_
            refine tb_topI (y := bI (tRs x ≠ none)) hnow.symm ?_
            refine tb_icmp_eq 196 d_Mo_perform_189 (by decide) rfl (fun h189 => ?_) (fun h189 => ?_)
            · have htu : (0 : Int32) = turA x fs := by
                rw [tur_iff hf hw]
                refine (bI_f (fun z => z ?_)).symm
                have h189b : bI (fs f ≠ none) = bI (tRs x ≠ none) := h189
                by_cases c : fs f = none
                · rw [bI_f (fun z => z c)] at h189b
                  exact ⟨fun _ => Classical.not_not.mp (bI_0.mp h189b.symm), fun _ => c⟩
                · rw [bI_t c] at h189b
                  refine ⟨fun z => absurd z c, fun z => ?_⟩
                  rw [bI_f (fun q => q z)] at h189b
                  exact absurd h189b (by decide)
              refine tb_iconst (0) (by decide) d_Mo_perform_196 rfl ?_
              refine tb_zastore d_Mo_perform_197 rfl (by exact hSB.k rfl) (by first | exact mo_in hSB (c := 12) rfl (by omega) (by decide) | exact mo_in hSB (c := 10) rfl (by omega) (by decide) | exact mo_in hSB (c := 25) rfl (by omega) (by decide) | exact mo_in hSB (c := 6) rfl (by omega) (by decide) | exact mo_in hSB (c := 72) rfl (by omega) (by decide) | exact mo_in hSB (c := 120) rfl (by omega) (by decide) | exact mo_in hSB (c := 300) rfl (by omega) (by decide) | exact mo_in hSB (c := 150) rfl (by omega) (by decide) | exact mo_in hSB (c := 1800) rfl (by omega) (by decide)) ?_
              rw [nI_clamp (show k < 2 ^ 31 by omega)]
              refine tb_aload_0 d_Mo_perform_198 rfl ?_
              refine g_Mo_64 d_Mo_perform_199 rfl rfl (by exact hSB.k rfl) ?_
              refine tb_topR (y := 209) (hSB.mr 27 (by decide)) ?_
              refine tb_iload_1 d_Mo_perform_202 rfl ?_
              refine tb_iconst (1) (by decide) d_Mo_perform_203 rfl ?_
              refine tb_zastore d_Mo_perform_204 rfl (by exact hSB.k rfl) (by first | exact mo_in hSB (c := 12) rfl (by omega) (by decide) | exact mo_in hSB (c := 10) rfl (by omega) (by decide) | exact mo_in hSB (c := 25) rfl (by omega) (by decide) | exact mo_in hSB (c := 6) rfl (by omega) (by decide) | exact mo_in hSB (c := 72) rfl (by omega) (by decide) | exact mo_in hSB (c := 120) rfl (by omega) (by decide) | exact mo_in hSB (c := 300) rfl (by omega) (by decide) | exact mo_in hSB (c := 150) rfl (by omega) (by decide) | exact mo_in hSB (c := 1800) rfl (by omega) (by decide)) ?_
              rw [nI_clamp (show k < 2 ^ 31 by omega)]
              refine tb_aload_0 d_Mo_perform_205 rfl ?_
              refine g_Mo_68 d_Mo_perform_206 rfl rfl (by exact hSB.k rfl) ?_
              refine tb_topR (y := 210) (hSB.mr 28 (by decide)) ?_
              refine tb_iload_1 d_Mo_perform_209 rfl ?_
              refine tb_iload_2 d_Mo_perform_210 rfl ?_
              refine tb_zastore d_Mo_perform_211 rfl (by exact hSB.k rfl) (by first | exact mo_in hSB (c := 12) rfl (by omega) (by decide) | exact mo_in hSB (c := 10) rfl (by omega) (by decide) | exact mo_in hSB (c := 25) rfl (by omega) (by decide) | exact mo_in hSB (c := 6) rfl (by omega) (by decide) | exact mo_in hSB (c := 72) rfl (by omega) (by decide) | exact mo_in hSB (c := 120) rfl (by omega) (by decide) | exact mo_in hSB (c := 300) rfl (by omega) (by decide) | exact mo_in hSB (c := 150) rfl (by omega) (by decide) | exact mo_in hSB (c := 1800) rfl (by omega) (by decide)) ?_
              rw [nI_clamp (show k < 2 ^ 31 by omega)]
              refine tb_vreturn d_Mo_perform_212 rfl ?_
              simp only [nb0, nb1, nb hah]
              exact hfin MB _ htu oB hFB
            · have htu : (1 : Int32) = turA x fs := by
                rw [tur_iff hf hw]
                exact (bI_t (fun z => h189 (bI_iff (not_congr z)))).symm
              refine tb_iconst (1) (by decide) d_Mo_perform_192 rfl ?_
              refine tb_goto 197 d_Mo_perform_193 (by decide) ?_
              refine tb_zastore d_Mo_perform_197 rfl (by exact hSB.k rfl) (by first | exact mo_in hSB (c := 12) rfl (by omega) (by decide) | exact mo_in hSB (c := 10) rfl (by omega) (by decide) | exact mo_in hSB (c := 25) rfl (by omega) (by decide) | exact mo_in hSB (c := 6) rfl (by omega) (by decide) | exact mo_in hSB (c := 72) rfl (by omega) (by decide) | exact mo_in hSB (c := 120) rfl (by omega) (by decide) | exact mo_in hSB (c := 300) rfl (by omega) (by decide) | exact mo_in hSB (c := 150) rfl (by omega) (by decide) | exact mo_in hSB (c := 1800) rfl (by omega) (by decide)) ?_
              rw [nI_clamp (show k < 2 ^ 31 by omega)]
              refine tb_aload_0 d_Mo_perform_198 rfl ?_
              refine g_Mo_64 d_Mo_perform_199 rfl rfl (by exact hSB.k rfl) ?_
              refine tb_topR (y := 209) (hSB.mr 27 (by decide)) ?_
              refine tb_iload_1 d_Mo_perform_202 rfl ?_
              refine tb_iconst (1) (by decide) d_Mo_perform_203 rfl ?_
              refine tb_zastore d_Mo_perform_204 rfl (by exact hSB.k rfl) (by first | exact mo_in hSB (c := 12) rfl (by omega) (by decide) | exact mo_in hSB (c := 10) rfl (by omega) (by decide) | exact mo_in hSB (c := 25) rfl (by omega) (by decide) | exact mo_in hSB (c := 6) rfl (by omega) (by decide) | exact mo_in hSB (c := 72) rfl (by omega) (by decide) | exact mo_in hSB (c := 120) rfl (by omega) (by decide) | exact mo_in hSB (c := 300) rfl (by omega) (by decide) | exact mo_in hSB (c := 150) rfl (by omega) (by decide) | exact mo_in hSB (c := 1800) rfl (by omega) (by decide)) ?_
              rw [nI_clamp (show k < 2 ^ 31 by omega)]
              refine tb_aload_0 d_Mo_perform_205 rfl ?_
              refine g_Mo_68 d_Mo_perform_206 rfl rfl (by exact hSB.k rfl) ?_
              refine tb_topR (y := 210) (hSB.mr 28 (by decide)) ?_
              refine tb_iload_1 d_Mo_perform_209 rfl ?_
              refine tb_iload_2 d_Mo_perform_210 rfl ?_
              refine tb_zastore d_Mo_perform_211 rfl (by exact hSB.k rfl) (by first | exact mo_in hSB (c := 12) rfl (by omega) (by decide) | exact mo_in hSB (c := 10) rfl (by omega) (by decide) | exact mo_in hSB (c := 25) rfl (by omega) (by decide) | exact mo_in hSB (c := 6) rfl (by omega) (by decide) | exact mo_in hSB (c := 72) rfl (by omega) (by decide) | exact mo_in hSB (c := 120) rfl (by omega) (by decide) | exact mo_in hSB (c := 300) rfl (by omega) (by decide) | exact mo_in hSB (c := 150) rfl (by omega) (by decide) | exact mo_in hSB (c := 1800) rfl (by omega) (by decide)) ?_
              rw [nI_clamp (show k < 2 ^ 31 by omega)]
              refine tb_vreturn d_Mo_perform_212 rfl ?_
              simp only [nb0, nb1, nb hah]
              exact hfin MB _ htu oB hFB
      · have hwas : bI (fs f ≠ none) = 1 := bI_t (fun z => h139 ((sz_neg (hF.le hf)).mpr z))
        refine tb_iconst (1) (by decide) d_Mo_perform_142 rfl ?_
        refine tb_goto 147 d_Mo_perform_143 (by decide) ?_
        refine tb_topI (y := bI (fs f ≠ none)) hwas.symm ?_
        refine tb_istore_4 d_Mo_perform_147 rfl (by decide) ?_
        refine tb_aload_0 d_Mo_perform_149 rfl ?_
        refine tb_iload_3 d_Mo_perform_150 rfl ?_
        refine tb_callVq c_Mo_206 d_Mo_perform_151 rfl rfl rfl (Nat.le_of_ble_eq_true rfl) (by first | exact hSA.k rfl) (ok_Mo_write hG hSA hTA ht hFA d) (fun v2 MB hP => ?_)
        obtain ⟨rfl, oB, hFB⟩ := hP
        have hSB := oB.sh hSA
        refine tb_aload_0 d_Mo_perform_154 rfl ?_
        refine g_Mo_86 d_Mo_perform_155 rfl rfl (by exact hSB.k rfl) ?_
        refine tb_topR (y := 216) (hSB.mr 34 (by decide)) ?_
        refine tb_iload_1 d_Mo_perform_158 rfl ?_
        refine tb_aload_0 d_Mo_perform_159 rfl ?_
        refine g_Mo_83 d_Mo_perform_160 rfl rfl (by exact hSB.k rfl) ?_
        refine tb_topR (y := 215) (hSB.mr 33 (by decide)) ?_
        refine tb_iload_1 d_Mo_perform_163 rfl ?_
        refine tb_iaload d_Mo_perform_164 rfl (by exact hSB.k rfl) (by first | exact mo_in hSB (c := 12) rfl (by omega) (by decide) | exact mo_in hSB (c := 10) rfl (by omega) (by decide) | exact mo_in hSB (c := 25) rfl (by omega) (by decide) | exact mo_in hSB (c := 6) rfl (by omega) (by decide) | exact mo_in hSB (c := 72) rfl (by omega) (by decide) | exact mo_in hSB (c := 120) rfl (by omega) (by decide) | exact mo_in hSB (c := 300) rfl (by omega) (by decide) | exact mo_in hSB (c := 150) rfl (by omega) (by decide) | exact mo_in hSB (c := 1800) rfl (by omega) (by decide)) ?_
        refine tb_topI (y := nI f) (by rw [nI_clamp (show k < 2 ^ 31 by omega)]; rw [oB.i (by decide), a15]; simp [va_up, hw]) ?_
        refine tb_if_lt 196 d_Mo_perform_165 (by decide) rfl (fun h165 => ?_) (fun h165 => ?_)
        · exact absurd h165 (nI_pos (by omega))
        · refine tb_iload_4 d_Mo_perform_168 rfl ?_
          refine tb_aload_0 d_Mo_perform_170 rfl ?_
          refine g_Mo_7 d_Mo_perform_171 rfl rfl (by exact hSB.k rfl) ?_
          refine tb_topR (y := 191) (hSB.mr 1 (by decide)) ?_
          refine tb_aload_0 d_Mo_perform_174 rfl ?_
          refine g_Mo_83 d_Mo_perform_175 rfl rfl (by exact hSB.k rfl) ?_
          refine tb_topR (y := 215) (hSB.mr 33 (by decide)) ?_
          refine tb_iload_1 d_Mo_perform_178 rfl ?_
          refine tb_iaload d_Mo_perform_179 rfl (by exact hSB.k rfl) (by first | exact mo_in hSB (c := 12) rfl (by omega) (by decide) | exact mo_in hSB (c := 10) rfl (by omega) (by decide) | exact mo_in hSB (c := 25) rfl (by omega) (by decide) | exact mo_in hSB (c := 6) rfl (by omega) (by decide) | exact mo_in hSB (c := 72) rfl (by omega) (by decide) | exact mo_in hSB (c := 120) rfl (by omega) (by decide) | exact mo_in hSB (c := 300) rfl (by omega) (by decide) | exact mo_in hSB (c := 150) rfl (by omega) (by decide) | exact mo_in hSB (c := 1800) rfl (by omega) (by decide)) ?_
          refine tb_topI (y := nI f) (by rw [nI_clamp (show k < 2 ^ 31 by omega)]; rw [oB.i (by decide), a15]; simp [va_up, hw]) ?_
          refine tb_iaload d_Mo_perform_180 rfl (by exact hSB.k rfl) (by first | exact mo_in hSB (c := 12) rfl (by omega) (by decide) | exact mo_in hSB (c := 10) rfl (by omega) (by decide) | exact mo_in hSB (c := 25) rfl (by omega) (by decide) | exact mo_in hSB (c := 6) rfl (by omega) (by decide) | exact mo_in hSB (c := 72) rfl (by omega) (by decide) | exact mo_in hSB (c := 120) rfl (by omega) (by decide) | exact mo_in hSB (c := 300) rfl (by omega) (by decide) | exact mo_in hSB (c := 150) rfl (by omega) (by decide) | exact mo_in hSB (c := 1800) rfl (by omega) (by decide)) ?_
          refine tb_topI (y := szV (tRs x)) (by rw [nI_clamp (show f < 2 ^ 31 by omega)]; rw [hFB.sz hf]; unfold wrA; rw [if_pos hw]) ?_
          refine tb_if_lt 188 d_Mo_perform_181 (by decide) rfl (fun h181 => ?_) (fun h181 => ?_)
          · have hnow : bI (tRs x ≠ none) = 0 := bI_f (fun z => z ((sz_neg hle).mp h181))
            refine tb_iconst (0) (by decide) d_Mo_perform_188 rfl ?_
            refine tb_topI (y := bI (tRs x ≠ none)) hnow.symm ?_
            refine tb_icmp_eq 196 d_Mo_perform_189 (by decide) rfl (fun h189 => ?_) (fun h189 => ?_)
            · have htu : (0 : Int32) = turA x fs := by
                rw [tur_iff hf hw]
                refine (bI_f (fun z => z ?_)).symm
                have h189b : bI (fs f ≠ none) = bI (tRs x ≠ none) := h189
                by_cases c : fs f = none
                · rw [bI_f (fun z => z c)] at h189b
                  exact ⟨fun _ => Classical.not_not.mp (bI_0.mp h189b.symm), fun _ => c⟩
                · rw [bI_t c] at h189b
                  refine ⟨fun z => absurd z c, fun z => ?_⟩
                  rw [bI_f (fun q => q z)] at h189b
                  exact absurd h189b (by decide)
              refine tb_iconst (0) (by decide) d_Mo_perform_196 rfl ?_
              refine tb_zastore d_Mo_perform_197 rfl (by exact hSB.k rfl) (by first | exact mo_in hSB (c := 12) rfl (by omega) (by decide) | exact mo_in hSB (c := 10) rfl (by omega) (by decide) | exact mo_in hSB (c := 25) rfl (by omega) (by decide) | exact mo_in hSB (c := 6) rfl (by omega) (by decide) | exact mo_in hSB (c := 72) rfl (by omega) (by decide) | exact mo_in hSB (c := 120) rfl (by omega) (by decide) | exact mo_in hSB (c := 300) rfl (by omega) (by decide) | exact mo_in hSB (c := 150) rfl (by omega) (by decide) | exact mo_in hSB (c := 1800) rfl (by omega) (by decide)) ?_
              rw [nI_clamp (show k < 2 ^ 31 by omega)]
              refine tb_aload_0 d_Mo_perform_198 rfl ?_
              refine g_Mo_64 d_Mo_perform_199 rfl rfl (by exact hSB.k rfl) ?_
              refine tb_topR (y := 209) (hSB.mr 27 (by decide)) ?_
              refine tb_iload_1 d_Mo_perform_202 rfl ?_
              refine tb_iconst (1) (by decide) d_Mo_perform_203 rfl ?_
              refine tb_zastore d_Mo_perform_204 rfl (by exact hSB.k rfl) (by first | exact mo_in hSB (c := 12) rfl (by omega) (by decide) | exact mo_in hSB (c := 10) rfl (by omega) (by decide) | exact mo_in hSB (c := 25) rfl (by omega) (by decide) | exact mo_in hSB (c := 6) rfl (by omega) (by decide) | exact mo_in hSB (c := 72) rfl (by omega) (by decide) | exact mo_in hSB (c := 120) rfl (by omega) (by decide) | exact mo_in hSB (c := 300) rfl (by omega) (by decide) | exact mo_in hSB (c := 150) rfl (by omega) (by decide) | exact mo_in hSB (c := 1800) rfl (by omega) (by decide)) ?_
              rw [nI_clamp (show k < 2 ^ 31 by omega)]
              refine tb_aload_0 d_Mo_perform_205 rfl ?_
              refine g_Mo_68 d_Mo_perform_206 rfl rfl (by exact hSB.k rfl) ?_
              refine tb_topR (y := 210) (hSB.mr 28 (by decide)) ?_
              refine tb_iload_1 d_Mo_perform_209 rfl ?_
              refine tb_iload_2 d_Mo_perform_210 rfl ?_
              refine tb_zastore d_Mo_perform_211 rfl (by exact hSB.k rfl) (by first | exact mo_in hSB (c := 12) rfl (by omega) (by decide) | exact mo_in hSB (c := 10) rfl (by omega) (by decide) | exact mo_in hSB (c := 25) rfl (by omega) (by decide) | exact mo_in hSB (c := 6) rfl (by omega) (by decide) | exact mo_in hSB (c := 72) rfl (by omega) (by decide) | exact mo_in hSB (c := 120) rfl (by omega) (by decide) | exact mo_in hSB (c := 300) rfl (by omega) (by decide) | exact mo_in hSB (c := 150) rfl (by omega) (by decide) | exact mo_in hSB (c := 1800) rfl (by omega) (by decide)) ?_
              rw [nI_clamp (show k < 2 ^ 31 by omega)]
              refine tb_vreturn d_Mo_perform_212 rfl ?_
              simp only [nb0, nb1, nb hah]
              exact hfin MB _ htu oB hFB
            · have htu : (1 : Int32) = turA x fs := by
                rw [tur_iff hf hw]
                exact (bI_t (fun z => h189 (bI_iff (not_congr z)))).symm
              refine tb_iconst (1) (by decide) d_Mo_perform_192 rfl ?_
              refine tb_goto 197 d_Mo_perform_193 (by decide) ?_
              refine tb_zastore d_Mo_perform_197 rfl (by exact hSB.k rfl) (by first | exact mo_in hSB (c := 12) rfl (by omega) (by decide) | exact mo_in hSB (c := 10) rfl (by omega) (by decide) | exact mo_in hSB (c := 25) rfl (by omega) (by decide) | exact mo_in hSB (c := 6) rfl (by omega) (by decide) | exact mo_in hSB (c := 72) rfl (by omega) (by decide) | exact mo_in hSB (c := 120) rfl (by omega) (by decide) | exact mo_in hSB (c := 300) rfl (by omega) (by decide) | exact mo_in hSB (c := 150) rfl (by omega) (by decide) | exact mo_in hSB (c := 1800) rfl (by omega) (by decide)) ?_
              rw [nI_clamp (show k < 2 ^ 31 by omega)]
              refine tb_aload_0 d_Mo_perform_198 rfl ?_
              refine g_Mo_64 d_Mo_perform_199 rfl rfl (by exact hSB.k rfl) ?_
              refine tb_topR (y := 209) (hSB.mr 27 (by decide)) ?_
              refine tb_iload_1 d_Mo_perform_202 rfl ?_
              refine tb_iconst (1) (by decide) d_Mo_perform_203 rfl ?_
              refine tb_zastore d_Mo_perform_204 rfl (by exact hSB.k rfl) (by first | exact mo_in hSB (c := 12) rfl (by omega) (by decide) | exact mo_in hSB (c := 10) rfl (by omega) (by decide) | exact mo_in hSB (c := 25) rfl (by omega) (by decide) | exact mo_in hSB (c := 6) rfl (by omega) (by decide) | exact mo_in hSB (c := 72) rfl (by omega) (by decide) | exact mo_in hSB (c := 120) rfl (by omega) (by decide) | exact mo_in hSB (c := 300) rfl (by omega) (by decide) | exact mo_in hSB (c := 150) rfl (by omega) (by decide) | exact mo_in hSB (c := 1800) rfl (by omega) (by decide)) ?_
              rw [nI_clamp (show k < 2 ^ 31 by omega)]
              refine tb_aload_0 d_Mo_perform_205 rfl ?_
              refine g_Mo_68 d_Mo_perform_206 rfl rfl (by exact hSB.k rfl) ?_
              refine tb_topR (y := 210) (hSB.mr 28 (by decide)) ?_
              refine tb_iload_1 d_Mo_perform_209 rfl ?_
              refine tb_iload_2 d_Mo_perform_210 rfl ?_
              refine tb_zastore d_Mo_perform_211 rfl (by exact hSB.k rfl) (by first | exact mo_in hSB (c := 12) rfl (by omega) (by decide) | exact mo_in hSB (c := 10) rfl (by omega) (by decide) | exact mo_in hSB (c := 25) rfl (by omega) (by decide) | exact mo_in hSB (c := 6) rfl (by omega) (by decide) | exact mo_in hSB (c := 72) rfl (by omega) (by decide) | exact mo_in hSB (c := 120) rfl (by omega) (by decide) | exact mo_in hSB (c := 300) rfl (by omega) (by decide) | exact mo_in hSB (c := 150) rfl (by omega) (by decide) | exact mo_in hSB (c := 1800) rfl (by omega) (by decide)) ?_
              rw [nI_clamp (show k < 2 ^ 31 by omega)]
              refine tb_vreturn d_Mo_perform_212 rfl ?_
              simp only [nb0, nb1, nb hah]
              exact hfin MB _ htu oB hFB
          · have hnow : bI (tRs x ≠ none) = 1 := bI_t (fun z => h181 ((sz_neg hle).mpr z))
            refine tb_iconst (1) (by decide) d_Mo_perform_184 rfl ?_
            refine tb_goto 189 d_Mo_perform_185 (by decide) ?_
            refine tb_topI (y := bI (tRs x ≠ none)) hnow.symm ?_
            refine tb_icmp_eq 196 d_Mo_perform_189 (by decide) rfl (fun h189 => ?_) (fun h189 => ?_)
            · have htu : (0 : Int32) = turA x fs := by
                rw [tur_iff hf hw]
                refine (bI_f (fun z => z ?_)).symm
                have h189b : bI (fs f ≠ none) = bI (tRs x ≠ none) := h189
                by_cases c : fs f = none
                · rw [bI_f (fun z => z c)] at h189b
                  exact ⟨fun _ => Classical.not_not.mp (bI_0.mp h189b.symm), fun _ => c⟩
                · rw [bI_t c] at h189b
                  refine ⟨fun z => absurd z c, fun z => ?_⟩
                  rw [bI_f (fun q => q z)] at h189b
                  exact absurd h189b (by decide)
              refine tb_iconst (0) (by decide) d_Mo_perform_196 rfl ?_
              refine tb_zastore d_Mo_perform_197 rfl (by exact hSB.k rfl) (by first | exact mo_in hSB (c := 12) rfl (by omega) (by decide) | exact mo_in hSB (c := 10) rfl (by omega) (by decide) | exact mo_in hSB (c := 25) rfl (by omega) (by decide) | exact mo_in hSB (c := 6) rfl (by omega) (by decide) | exact mo_in hSB (c := 72) rfl (by omega) (by decide) | exact mo_in hSB (c := 120) rfl (by omega) (by decide) | exact mo_in hSB (c := 300) rfl (by omega) (by decide) | exact mo_in hSB (c := 150) rfl (by omega) (by decide) | exact mo_in hSB (c := 1800) rfl (by omega) (by decide)) ?_
              rw [nI_clamp (show k < 2 ^ 31 by omega)]
              refine tb_aload_0 d_Mo_perform_198 rfl ?_
              refine g_Mo_64 d_Mo_perform_199 rfl rfl (by exact hSB.k rfl) ?_
              refine tb_topR (y := 209) (hSB.mr 27 (by decide)) ?_
              refine tb_iload_1 d_Mo_perform_202 rfl ?_
              refine tb_iconst (1) (by decide) d_Mo_perform_203 rfl ?_
              refine tb_zastore d_Mo_perform_204 rfl (by exact hSB.k rfl) (by first | exact mo_in hSB (c := 12) rfl (by omega) (by decide) | exact mo_in hSB (c := 10) rfl (by omega) (by decide) | exact mo_in hSB (c := 25) rfl (by omega) (by decide) | exact mo_in hSB (c := 6) rfl (by omega) (by decide) | exact mo_in hSB (c := 72) rfl (by omega) (by decide) | exact mo_in hSB (c := 120) rfl (by omega) (by decide) | exact mo_in hSB (c := 300) rfl (by omega) (by decide) | exact mo_in hSB (c := 150) rfl (by omega) (by decide) | exact mo_in hSB (c := 1800) rfl (by omega) (by decide)) ?_
              rw [nI_clamp (show k < 2 ^ 31 by omega)]
              refine tb_aload_0 d_Mo_perform_205 rfl ?_
              refine g_Mo_68 d_Mo_perform_206 rfl rfl (by exact hSB.k rfl) ?_
              refine tb_topR (y := 210) (hSB.mr 28 (by decide)) ?_
              refine tb_iload_1 d_Mo_perform_209 rfl ?_
              refine tb_iload_2 d_Mo_perform_210 rfl ?_
              refine tb_zastore d_Mo_perform_211 rfl (by exact hSB.k rfl) (by first | exact mo_in hSB (c := 12) rfl (by omega) (by decide) | exact mo_in hSB (c := 10) rfl (by omega) (by decide) | exact mo_in hSB (c := 25) rfl (by omega) (by decide) | exact mo_in hSB (c := 6) rfl (by omega) (by decide) | exact mo_in hSB (c := 72) rfl (by omega) (by decide) | exact mo_in hSB (c := 120) rfl (by omega) (by decide) | exact mo_in hSB (c := 300) rfl (by omega) (by decide) | exact mo_in hSB (c := 150) rfl (by omega) (by decide) | exact mo_in hSB (c := 1800) rfl (by omega) (by decide)) ?_
              rw [nI_clamp (show k < 2 ^ 31 by omega)]
              refine tb_vreturn d_Mo_perform_212 rfl ?_
              simp only [nb0, nb1, nb hah]
              exact hfin MB _ htu oB hFB
            · have htu : (1 : Int32) = turA x fs := by
                rw [tur_iff hf hw]
                exact (bI_t (fun z => h189 (bI_iff (not_congr z)))).symm
              refine tb_iconst (1) (by decide) d_Mo_perform_192 rfl ?_
              refine tb_goto 197 d_Mo_perform_193 (by decide) ?_
              refine tb_zastore d_Mo_perform_197 rfl (by exact hSB.k rfl) (by first | exact mo_in hSB (c := 12) rfl (by omega) (by decide) | exact mo_in hSB (c := 10) rfl (by omega) (by decide) | exact mo_in hSB (c := 25) rfl (by omega) (by decide) | exact mo_in hSB (c := 6) rfl (by omega) (by decide) | exact mo_in hSB (c := 72) rfl (by omega) (by decide) | exact mo_in hSB (c := 120) rfl (by omega) (by decide) | exact mo_in hSB (c := 300) rfl (by omega) (by decide) | exact mo_in hSB (c := 150) rfl (by omega) (by decide) | exact mo_in hSB (c := 1800) rfl (by omega) (by decide)) ?_
              rw [nI_clamp (show k < 2 ^ 31 by omega)]
              refine tb_aload_0 d_Mo_perform_198 rfl ?_
              refine g_Mo_64 d_Mo_perform_199 rfl rfl (by exact hSB.k rfl) ?_
              refine tb_topR (y := 209) (hSB.mr 27 (by decide)) ?_
              refine tb_iload_1 d_Mo_perform_202 rfl ?_
              refine tb_iconst (1) (by decide) d_Mo_perform_203 rfl ?_
              refine tb_zastore d_Mo_perform_204 rfl (by exact hSB.k rfl) (by first | exact mo_in hSB (c := 12) rfl (by omega) (by decide) | exact mo_in hSB (c := 10) rfl (by omega) (by decide) | exact mo_in hSB (c := 25) rfl (by omega) (by decide) | exact mo_in hSB (c := 6) rfl (by omega) (by decide) | exact mo_in hSB (c := 72) rfl (by omega) (by decide) | exact mo_in hSB (c := 120) rfl (by omega) (by decide) | exact mo_in hSB (c := 300) rfl (by omega) (by decide) | exact mo_in hSB (c := 150) rfl (by omega) (by decide) | exact mo_in hSB (c := 1800) rfl (by omega) (by decide)) ?_
              rw [nI_clamp (show k < 2 ^ 31 by omega)]
              refine tb_aload_0 d_Mo_perform_205 rfl ?_
              refine g_Mo_68 d_Mo_perform_206 rfl rfl (by exact hSB.k rfl) ?_
              refine tb_topR (y := 210) (hSB.mr 28 (by decide)) ?_
              refine tb_iload_1 d_Mo_perform_209 rfl ?_
              refine tb_iload_2 d_Mo_perform_210 rfl ?_
              refine tb_zastore d_Mo_perform_211 rfl (by exact hSB.k rfl) (by first | exact mo_in hSB (c := 12) rfl (by omega) (by decide) | exact mo_in hSB (c := 10) rfl (by omega) (by decide) | exact mo_in hSB (c := 25) rfl (by omega) (by decide) | exact mo_in hSB (c := 6) rfl (by omega) (by decide) | exact mo_in hSB (c := 72) rfl (by omega) (by decide) | exact mo_in hSB (c := 120) rfl (by omega) (by decide) | exact mo_in hSB (c := 300) rfl (by omega) (by decide) | exact mo_in hSB (c := 150) rfl (by omega) (by decide) | exact mo_in hSB (c := 1800) rfl (by omega) (by decide)) ?_
              rw [nI_clamp (show k < 2 ^ 31 by omega)]
              refine tb_vreturn d_Mo_perform_212 rfl ?_
              simp only [nb0, nb1, nb hah]
              exact hfin MB _ htu oB hFB
end Mo20
