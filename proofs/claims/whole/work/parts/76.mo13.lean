/-! The reference: a trace's writing. -/
section Mo13
variable {E : tb_E} {M M1 : tb_M} {fs : Fs} {t : Nat} {x : TrV}
def WrP (M M1 : tb_M) (t f j : Nat) : Prop := On M M1 (fun q => q = 191 ∨ q = 192) ∧ tb_I M1 191 = va_up (tb_I M 191) f (tb_I M 206 t) ∧ tb_I M1 192 = fun p => if 6 * f ≤ p ∧ p < 6 * f + j then tb_I M 207 (6 * t + (p - 6 * f)) else tb_I M 192 p
theorem lp_Mo_write (hS : Sh M) (ht : t < 25) {f c : Nat} (hf : f < 12) (hc : c ≤ 6) (hv : tb_I M 206 t = nI c ∨ (tb_I M 206 t = -1 ∧ c = 0)) {d rc rs : Nat} {Q : tb_O → tb_M → Prop} (hQ : ∀ M1, WrP M M1 t f c → Q (.inl none) M1) : ∀ (m j : Nat), c - j = m → j ≤ c → ∀ M1, WrP M M1 t f j → tb_Wp E m_Mo_write d rc rs 26 [some (.inr 190), some (.inl (nI t)), some (.inl (nI f)), some (.inl (nI j))] [] M1 Q := by
  intro m
  induction m using Nat.strongRecOn with
  | ind m ih =>
    intro j hm hj M1 hW
    have hS1 := hW.1.sh hS
    refine tb_iload_3 d_Mo_write_26 rfl ?_
    refine tb_aload_0 d_Mo_write_27 rfl ?_
    refine g_Mo_55 d_Mo_write_28 rfl rfl (by first | exact hS1.k rfl) ?_
    refine tb_topR (y := 206) (hS1.mr 19 (by decide)) ?_
    refine tb_iload_1 d_Mo_write_31 rfl ?_
    refine tb_iaload d_Mo_write_32 rfl (by first | exact hS1.k rfl) (by first | exact mo_in hS1 (c := 12) rfl (by omega) (by decide) | exact mo_in hS1 (c := 10) rfl (by omega) (by decide) | exact mo_in hS1 (c := 25) rfl (by omega) (by decide) | exact mo_in hS1 (c := 6) rfl (by omega) (by decide) | exact mo_in hS1 (c := 72) rfl (by omega) (by decide) | exact mo_in hS1 (c := 120) rfl (by omega) (by decide) | exact mo_in hS1 (c := 300) rfl (by omega) (by decide) | exact mo_in hS1 (c := 150) rfl (by omega) (by decide) | exact mo_in hS1 (c := 1800) rfl (by omega) (by decide)) ?_
    refine tb_topI (y := tb_I M 206 t) (by rw [nI_clamp (show t < 2 ^ 31 by omega)]; rw [hW.1.i (by decide)]) ?_
    refine tb_icmp_ge 64 d_Mo_write_33 (by decide) rfl (fun h33 => ?_) (fun h33 => ?_)
    · have hje2 : j = c := by
        rcases hv with q | q
        · rw [q] at h33
          have := (nI_leI (a := c) (b := j) (by omega) (by omega)).mp h33
          omega
        · omega
      subst hje2
      refine tb_vreturn d_Mo_write_64 rfl ?_
      exact hQ M1 hW
    · have hlt : j < c := by
        rcases hv with q | q
        · rw [q] at h33
          exact Nat.lt_of_not_le (fun z => h33 ((nI_leI (a := c) (b := j) (by omega) (by omega)).mpr z))
        · rw [q.1] at h33
          exact absurd (Int32.le_trans (b := 0) (by decide) (nI_pos' (by omega))) h33
      refine tb_aload_0 d_Mo_write_36 rfl ?_
      refine g_Mo_13 d_Mo_write_37 rfl rfl (by first | exact hS1.k rfl) ?_
      refine tb_topR (y := 192) (hS1.mr 2 (by decide)) ?_
      refine tb_bipush (6) (by decide) d_Mo_write_40 rfl ?_
      refine tb_iload_2 d_Mo_write_42 rfl ?_
      refine tb_imul d_Mo_write_43 rfl ?_
      refine tb_topI (show (6 : Int32) * nI f = nI (6 * (f)) from nI_mul 6 (f)) ?_
      refine tb_iload_3 d_Mo_write_44 rfl ?_
      refine tb_iadd d_Mo_write_45 rfl ?_
      rw [nI_add]
      refine tb_aload_0 d_Mo_write_46 rfl ?_
      refine g_Mo_58 d_Mo_write_47 rfl rfl (by first | exact hS1.k rfl) ?_
      refine tb_topR (y := 207) (hS1.mr 20 (by decide)) ?_
      refine tb_bipush (6) (by decide) d_Mo_write_50 rfl ?_
      refine tb_iload_1 d_Mo_write_52 rfl ?_
      refine tb_imul d_Mo_write_53 rfl ?_
      refine tb_topI (show (6 : Int32) * nI t = nI (6 * (t)) from nI_mul 6 (t)) ?_
      refine tb_iload_3 d_Mo_write_54 rfl ?_
      refine tb_iadd d_Mo_write_55 rfl ?_
      rw [nI_add]
      refine tb_iaload d_Mo_write_56 rfl (by first | exact hS1.k rfl) (by first | exact mo_in hS1 (c := 12) rfl (by omega) (by decide) | exact mo_in hS1 (c := 10) rfl (by omega) (by decide) | exact mo_in hS1 (c := 25) rfl (by omega) (by decide) | exact mo_in hS1 (c := 6) rfl (by omega) (by decide) | exact mo_in hS1 (c := 72) rfl (by omega) (by decide) | exact mo_in hS1 (c := 120) rfl (by omega) (by decide) | exact mo_in hS1 (c := 300) rfl (by omega) (by decide) | exact mo_in hS1 (c := 150) rfl (by omega) (by decide) | exact mo_in hS1 (c := 1800) rfl (by omega) (by decide)) ?_
      refine tb_topI (y := tb_I M 207 (6 * t + j)) (by rw [nI_clamp (show 6 * t + j < 2 ^ 31 by omega)]; rw [hW.1.i (by decide)]) ?_
      refine tb_iastore d_Mo_write_57 rfl (by first | exact hS1.k rfl) (by first | exact mo_in hS1 (c := 12) rfl (by omega) (by decide) | exact mo_in hS1 (c := 10) rfl (by omega) (by decide) | exact mo_in hS1 (c := 25) rfl (by omega) (by decide) | exact mo_in hS1 (c := 6) rfl (by omega) (by decide) | exact mo_in hS1 (c := 72) rfl (by omega) (by decide) | exact mo_in hS1 (c := 120) rfl (by omega) (by decide) | exact mo_in hS1 (c := 300) rfl (by omega) (by decide) | exact mo_in hS1 (c := 150) rfl (by omega) (by decide) | exact mo_in hS1 (c := 1800) rfl (by omega) (by decide)) ?_
      rw [nI_clamp (show 6 * f + j < 2 ^ 31 by omega)]
      refine tb_iinc_3 (1) d_Mo_write_58 rfl (by decide) (by decide) ?_
      refine tb_goto 26 d_Mo_write_61 (by decide) ?_
      rw [nI_1]
      refine ih (c - (j + 1)) (by omega) (j + 1) rfl (by omega) _ ⟨hW.1.trans (On.sI (Or.inr rfl)), by rw [sI_of _ _ _ (by decide)]; exact hW.2.1, ?_⟩
      rw [sI_at, hW.2.2]
      funext p
      unfold va_up
      by_cases h : p = 6 * f + j
      · rw [if_pos h, if_pos (by omega), h, show 6 * f + j - 6 * f = j by omega]
      · rw [if_neg h]
        show (if 6 * f ≤ p ∧ p < 6 * f + j then tb_I M 207 (6 * t + (p - 6 * f)) else tb_I M 192 p) = _
        by_cases h2 : 6 * f ≤ p ∧ p < 6 * f + j
        · rw [if_pos h2, if_pos (by omega)]
        · rw [if_neg h2, if_neg (by omega)]
theorem ok_Mo_write (hG : tb_G E) (hS : Sh M) (hT : MTr M t x) (ht : t < 25) (hF : MFs M fs) (d : Nat) : tb_Rel E m_Mo_write d [.inr (.inl 190), .inl (nI t)] M (fun v M1 => v = none ∧ On M M1 (fun q => q = 191 ∨ q = 192) ∧ MFs M1 (wrA fs x)) := by
  rcases hT.2.2.2.2.2.2.1 with hw | ⟨f, hf, hw⟩
  · refine tb_okOf hG (by decide) rfl (Nat.le_of_ble_eq_true rfl) rfl ?_
    refine tb_aload_0 d_Mo_write_0 rfl ?_
    refine g_Mo_52 d_Mo_write_1 rfl rfl (by first | exact hS.k rfl) ?_
    refine tb_topR (y := 205) (hS.mr 18 (by decide)) ?_
    refine tb_iload_1 d_Mo_write_4 rfl ?_
    refine tb_iaload d_Mo_write_5 rfl (by first | exact hS.k rfl) (by first | exact mo_in hS (c := 12) rfl (by omega) (by decide) | exact mo_in hS (c := 10) rfl (by omega) (by decide) | exact mo_in hS (c := 25) rfl (by omega) (by decide) | exact mo_in hS (c := 6) rfl (by omega) (by decide) | exact mo_in hS (c := 72) rfl (by omega) (by decide) | exact mo_in hS (c := 120) rfl (by omega) (by decide) | exact mo_in hS (c := 300) rfl (by omega) (by decide) | exact mo_in hS (c := 150) rfl (by omega) (by decide) | exact mo_in hS (c := 1800) rfl (by omega) (by decide)) ?_
    refine tb_topI (y := -1) (by rw [nI_clamp (show t < 2 ^ 31 by omega)]; exact hT.2.2.2.2.2.1.trans hw) ?_
    refine tb_istore_2 d_Mo_write_6 rfl (by decide) ?_
    refine tb_iload_2 d_Mo_write_7 rfl ?_
    refine tb_if_ge 12 d_Mo_write_8 (by decide) rfl (fun h8 => ?_) (fun h8 => ?_)
    · exact absurd h8 (by decide)
    · refine tb_vreturn d_Mo_write_11 rfl ?_
      refine ⟨none, rfl, rfl, On.rf, hF.1, fun g hg => ?_⟩
      unfold wrA
      rw [if_neg (fun z => by rw [hw] at z; exact nI_nm1 (by omega) z.symm)]
      exact hF.2 g hg
  · have h8 := hT.2.2.2.2.2.2.2 (by rw [hw]; exact nI_nm1 (by omega))
    have hl := pl_len (M := M) (s := 205) h8.1
    obtain ⟨c, hc, hv⟩ : ∃ c, c ≤ 6 ∧ (tb_I M 206 t = nI c ∨ (tb_I M 206 t = -1 ∧ c = 0)) := by
      rcases h8.1 with q | ⟨n, hn, q⟩
      · exact ⟨0, by omega, Or.inr ⟨q, rfl⟩⟩
      · exact ⟨n, hn, Or.inl q⟩
    refine tb_okOf hG (by decide) rfl (Nat.le_of_ble_eq_true rfl) rfl ?_
    refine tb_aload_0 d_Mo_write_0 rfl ?_
    refine g_Mo_52 d_Mo_write_1 rfl rfl (by first | exact hS.k rfl) ?_
    refine tb_topR (y := 205) (hS.mr 18 (by decide)) ?_
    refine tb_iload_1 d_Mo_write_4 rfl ?_
    refine tb_iaload d_Mo_write_5 rfl (by first | exact hS.k rfl) (by first | exact mo_in hS (c := 12) rfl (by omega) (by decide) | exact mo_in hS (c := 10) rfl (by omega) (by decide) | exact mo_in hS (c := 25) rfl (by omega) (by decide) | exact mo_in hS (c := 6) rfl (by omega) (by decide) | exact mo_in hS (c := 72) rfl (by omega) (by decide) | exact mo_in hS (c := 120) rfl (by omega) (by decide) | exact mo_in hS (c := 300) rfl (by omega) (by decide) | exact mo_in hS (c := 150) rfl (by omega) (by decide) | exact mo_in hS (c := 1800) rfl (by omega) (by decide)) ?_
    refine tb_topI (y := nI f) (by rw [nI_clamp (show t < 2 ^ 31 by omega)]; exact hT.2.2.2.2.2.1.trans hw) ?_
    refine tb_istore_2 d_Mo_write_6 rfl (by decide) ?_
    refine tb_iload_2 d_Mo_write_7 rfl ?_
    refine tb_if_ge 12 d_Mo_write_8 (by decide) rfl (fun h8_ => ?_) (fun h8_ => ?_)
    · refine tb_aload_0 d_Mo_write_12 rfl ?_
      refine g_Mo_7 d_Mo_write_13 rfl rfl (by first | exact hS.k rfl) ?_
      refine tb_topR (y := 191) (hS.mr 1 (by decide)) ?_
      refine tb_iload_2 d_Mo_write_16 rfl ?_
      refine tb_aload_0 d_Mo_write_17 rfl ?_
      refine g_Mo_55 d_Mo_write_18 rfl rfl (by first | exact hS.k rfl) ?_
      refine tb_topR (y := 206) (hS.mr 19 (by decide)) ?_
      refine tb_iload_1 d_Mo_write_21 rfl ?_
      refine tb_iaload d_Mo_write_22 rfl (by first | exact hS.k rfl) (by first | exact mo_in hS (c := 12) rfl (by omega) (by decide) | exact mo_in hS (c := 10) rfl (by omega) (by decide) | exact mo_in hS (c := 25) rfl (by omega) (by decide) | exact mo_in hS (c := 6) rfl (by omega) (by decide) | exact mo_in hS (c := 72) rfl (by omega) (by decide) | exact mo_in hS (c := 120) rfl (by omega) (by decide) | exact mo_in hS (c := 300) rfl (by omega) (by decide) | exact mo_in hS (c := 150) rfl (by omega) (by decide) | exact mo_in hS (c := 1800) rfl (by omega) (by decide)) ?_
      refine tb_topI (y := tb_I M 206 t) (by rw [nI_clamp (show t < 2 ^ 31 by omega)]) ?_
      refine tb_iastore d_Mo_write_23 rfl (by first | exact hS.k rfl) (by first | exact mo_in hS (c := 12) rfl (by omega) (by decide) | exact mo_in hS (c := 10) rfl (by omega) (by decide) | exact mo_in hS (c := 25) rfl (by omega) (by decide) | exact mo_in hS (c := 6) rfl (by omega) (by decide) | exact mo_in hS (c := 72) rfl (by omega) (by decide) | exact mo_in hS (c := 120) rfl (by omega) (by decide) | exact mo_in hS (c := 300) rfl (by omega) (by decide) | exact mo_in hS (c := 150) rfl (by omega) (by decide) | exact mo_in hS (c := 1800) rfl (by omega) (by decide)) ?_
      rw [nI_clamp (show f < 2 ^ 31 by omega)]
      refine tb_iconst (0) (by decide) d_Mo_write_24 rfl ?_
      refine tb_istore_3 d_Mo_write_25 rfl (by decide) ?_
      refine lp_Mo_write hS ht hf hc hv (fun M1 hW => ⟨none, rfl, rfl, hW.1, ?_, fun g hg => ?_⟩) c 0 rfl (Nat.zero_le _) _ ⟨On.sI (Or.inl rfl), sI_at _ _ _ _, ?_⟩
      · rw [sI_of _ _ _ (by decide)]
        funext p
        rw [if_neg (by omega)]
      · intro g hg
        rw [hW.2.1]
        unfold va_up
        by_cases e : g = f
        · rw [if_pos e]; exact h8.1
        · rw [if_neg e]; exact hF.1 g hg
      · unfold wrA
        by_cases e : g = f
        · subst e
          rw [if_pos hw, ← h8.2]
          have e1 : tb_I M1 191 g = tb_I M 206 t := by rw [hW.2.1]; simp [va_up]
          unfold pl
          show (if tb_I M1 191 g = -1 then none else some ((List.range (tb_I M1 191 g).toNatClampNeg).map (fun i => tb_I M1 192 (6 * g + i)))) = (if tb_I M 206 t = -1 then none else some ((List.range (tb_I M 206 t).toNatClampNeg).map (fun i => tb_I M 207 (6 * t + i))))
          rw [e1]
          rcases hv with q | q
          · rw [q, if_neg (nI_nm1 (by omega)), if_neg (nI_nm1 (by omega)), nI_clamp (by omega)]
            congr 1
            apply List.map_congr_left
            intro i hi
            have := List.mem_range.mp hi
            rw [hW.2.2]
            show (if 6 * g ≤ 6 * g + i ∧ 6 * g + i < 6 * g + c then tb_I M 207 (6 * t + (6 * g + i - 6 * g)) else tb_I M 192 (6 * g + i)) = _
            rw [if_pos (by omega), show 6 * g + i - 6 * g = i by omega]
          · rw [q.1, if_pos rfl, if_pos rfl]
        · rw [if_neg (fun z => e ((nI_eq (by omega) (by omega)).mp (z.symm.trans hw))), ← hF.2 g hg]
          have e3 : tb_I M1 191 g = tb_I M 191 g := by rw [hW.2.1]; simp [va_up, e]
          refine pl_eq (M' := M) (s := 190) (s' := 190) e3 (fun i hi => ?_) (by rw [show tb_I M1 (190 + 1) g = _ from e3]; exact hF.1 g hg)
          show tb_I M1 192 (6 * g + i) = tb_I M 192 (6 * g + i)
          rw [hW.2.2]
          show (if 6 * f ≤ 6 * g + i ∧ 6 * g + i < 6 * f + c then tb_I M 207 (6 * t + (6 * g + i - 6 * f)) else tb_I M 192 (6 * g + i)) = _
          rw [if_neg (by omega)]
    · exact absurd (nI_pos' (by omega)) h8_
/-- a trace's cells, wherever they stand -/
theorem MTr.cong {t' : Nat} (h : MTr M t x) (e : ∀ q, q = 198 ∨ q = 200 ∨ q = 201 ∨ q = 202 ∨ q = 205 ∨ q = 206 → tb_I M1 q t' = tb_I M q t) (e9 : ∀ i, i < 12 → tb_I M1 199 (12 * t' + i) = tb_I M 199 (12 * t + i)) (e3 : ∀ f, f < 12 → tb_I M1 203 (12 * t' + f) = tb_I M 203 (12 * t + f)) (e4 : ∀ i, i < 72 → tb_I M1 204 (72 * t' + i) = tb_I M 204 (72 * t + i)) (e7 : ∀ i, i < 6 → tb_I M1 207 (6 * t' + i) = tb_I M 207 (6 * t + i)) : MTr M1 t' x := by
  obtain ⟨⟨a1, a2, a3⟩, a4, a5, a6, a7, a8, a9, a10⟩ := h
  refine ⟨⟨by rw [e 198 (by omega)]; exact a1, a2, fun i hi => by rw [e9 i (by omega)]; exact a3 i hi⟩, by rw [e 200 (by omega)]; exact a4, by rw [e 201 (by omega)]; exact a5, by rw [e 202 (by omega)]; exact a6, fun f hf => ⟨by rw [e3 f hf]; exact (a7 f hf).1, ?_⟩, by rw [e 205 (by omega)]; exact a8, a9, fun z => ⟨by rw [e 206 (by omega)]; exact (a10 z).1, ?_⟩⟩
  · rw [← (a7 f hf).2]
    refine pl_eq (M' := M) (s := 202) (s' := 202) (e3 f hf) (fun i hi => ?_) (by rw [show tb_I M1 (202 + 1) (12 * t' + f) = _ from e3 f hf]; exact (a7 f hf).1)
    show tb_I M1 204 (6 * (12 * t' + f) + i) = tb_I M 204 (6 * (12 * t + f) + i)
    have := e4 (6 * f + i) (by omega)
    rw [show 6 * (12 * t' + f) + i = 72 * t' + (6 * f + i) by omega, show 6 * (12 * t + f) + i = 72 * t + (6 * f + i) by omega]
    exact this
  · rw [← (a10 z).2]
    exact pl_eq (M' := M) (s := 205) (s' := 205) (e 206 (by omega)) (fun i hi => e7 i hi) (by rw [show tb_I M1 (205 + 1) t' = _ from e 206 (by omega)]; exact (a10 z).1)
end Mo13
