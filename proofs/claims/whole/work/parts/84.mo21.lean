/-! The reference: perform. -/
section Mo21
variable {E : tb_E} {M M1 M2 : tb_M} {fs : Fs} {k n : Nat} {x : TrV} {tx : List Int32} {S : StV} {sc : Nat → List Int32} {R : RS}
theorem MDe.at {z : DeV} (hh : MDe M k z) (hI : ∀ q, 209 ≤ q → q < 217 → tb_I M1 q k = tb_I M q k) : MDe M1 k z := by
  unfold MDe
  simp only [hI 209 (by omega) (by omega), hI 210 (by omega) (by omega), hI 211 (by omega) (by omega), hI 212 (by omega) (by omega), hI 213 (by omega) (by omega), hI 214 (by omega) (by omega), hI 215 (by omega) (by omega), hI 216 (by omega) (by omega)]
  exact hh
/-- the cells that a run of the reference may write, and the fields that it leaves -/
abbrev AR : Nat → Prop := fun q => 190 ≤ q ∧ q < 217 ∧ ¬ (193 ≤ q ∧ q ≤ 197)
def RF (M M1 : tb_M) : Prop := On M M1 AR ∧ ∀ j, j ≠ 10 → ¬ (21 ≤ j ∧ j ≤ 24) → ¬ (35 ≤ j ∧ j ≤ 38) → tb_I M1 190 j = tb_I M 190 j
def PrP (M M1 : tb_M) (n : Nat) (R : RS) : Prop := On M M1 AR ∧ (∀ j, j ≠ 10 → ¬ (21 ≤ j ∧ j ≤ 24) → tb_I M1 190 j = tb_I M 190 j) ∧ MFs M1 R.1 ∧ MSt M1 R.2.1 ∧ ∀ i, i < n → MDe M1 i (R.2.2.1 i)
theorem RF.rfl' : RF M M := ⟨On.rf, fun _ _ _ _ => rfl⟩
theorem RF.trans (h : RF M M1) (h2 : RF M1 M2) : RF M M2 := ⟨h.1.trans h2.1, fun j a b c => by rw [h2.2 j a b c, h.2 j a b c]⟩
theorem vu_at (f : Nat → Int32) (k : Nat) (v : Int32) : va_up f k v k = v := by simp [va_up]
theorem vu_ne (f : Nat → Int32) {k i : Nat} (v : Int32) (h : i ≠ k) : va_up f k v i = f i := by simp [va_up, h]
/-- the deeds after one -/
theorem de_fin {D : Nat → DeV} (hD : ∀ i, i < n → MDe M i (D i)) (h1 : ∀ q, 209 ≤ q → q < 217 → ∀ i, i ≠ k → tb_I M1 q i = tb_I M q i) {o ah y : Int32} (ho : o = 1 ∨ o = 2 ∨ o = 3) (hah : ah = 0 ∨ ah = 1) (h211 : tb_I M1 211 k = o) (hy : o = 1 → tb_I M1 212 k = y) (hy2 : ¬ o = 1 → y = -1) (hwf : WfT x) (hP : PfP M1 M2 k fs x ah) : ∀ i, i < n → MDe M2 i (if i = k then (o, ah, y, tRd x, tAk x, tWr x, turA x fs) else D i) := by
  obtain ⟨oP, -, p09, p10, p13, p14, p15, p16⟩ := hP
  have e11 : tb_I M2 211 = tb_I M1 211 := oP.i (by omega)
  have e12 : tb_I M2 212 = tb_I M1 212 := oP.i (by omega)
  have hno : ¬ o = 0 := by rcases ho with rfl | rfl | rfl <;> decide
  intro i hi
  by_cases c : i = k
  · subst c
    rw [if_pos rfl]
    refine ⟨⟨Or.inr ho, hah, fun z => absurd z hno⟩, ?_, ?_, ?_, fun z => ?_, hy2, fun _ => ⟨hwf, ?_, ?_, ?_, ?_, ?_⟩⟩
    · rw [p09, vu_at]; exact (bI_t hno).symm
    · rw [p10, vu_at]
    · rw [e11]; exact h211
    · rw [e12]; exact hy z
    · exact bI_01 _
    · rw [p13, vu_at]
    · rw [p14, vu_at]
    · rw [p15, vu_at]
    · rw [p16, vu_at]
  · rw [if_neg c]
    refine (hD i hi).at (fun q a b => ?_)
    rw [← h1 q a b i c]
    rcases (show q = 209 ∨ q = 210 ∨ q = 211 ∨ q = 212 ∨ q = 213 ∨ q = 214 ∨ q = 215 ∨ q = 216 by omega) with rfl | rfl | rfl | rfl | rfl | rfl | rfl | rfl
    · rw [p09, vu_ne _ _ c]
    · rw [p10, vu_ne _ _ c]
    · rw [e11]
    · rw [e12]
    · rw [p13, vu_ne _ _ c]
    · rw [p14, vu_ne _ _ c]
    · rw [p15, vu_ne _ _ c]
    · rw [p16, vu_ne _ _ c]
theorem perA_some {t : Nat} {ah : Int32} (h : fitIx R.2.1 tx R.1 = some t) : perA tx k n ah R = finA k n R.1 R.2.1 R.2.2.1 (R.2.1.2 t) (@ite _ (chgW (R.2.1.2 t) R.1) (Classical.propDecidable _) 3 2) ah (-1) := by
  unfold perA
  simp only [h]
theorem perA_none {ah : Int32} (h : fitIx R.2.1 tx R.1 = none) : perA tx k n ah R = finA k n R.1 (appS R.2.1 (craftV tx R.1)) R.2.2.1 (craftV tx R.1) 1 ah (whyA R.2.1 tx R.1) := by
  unfold perA
  simp only [h]
theorem appS_at (S : StV) (x : TrV) (h : S.1 ≤ 24) : ∃ t, t < 24 ∧ (appS S x).1 = t + 1 ∧ (appS S x).2 t = x := by
  unfold appS
  by_cases c : S.1 < 24
  · rw [if_pos c]
    exact ⟨S.1, c, rfl, if_pos rfl⟩
  · rw [if_neg c]
    refine ⟨23, by decide, rfl, ?_⟩
    show (if 23 < 23 then S.2 (23 + 1) else x) = x
    rw [if_neg (by decide)]
/-- work is done and recorded -/
theorem lp_Mo_pf3 (hG : tb_G E) (hS : Sh M) (hSt : MSt M S) (hK : TxM M k tx) (hC : isC tx) (hF : MFs M fs) {ah : Int32} (hah : ah = 0 ∨ ah = 1) {d rc rs : Nat} {l3 l4 : tb_L} {Q : tb_O → tb_M → Prop} (hQ : ∀ M1 M2, On M M1 (fun q => q = 190 ∨ (198 ≤ q ∧ q ≤ 208)) → (∀ j, j ≠ 10 → ¬ (21 ≤ j ∧ j ≤ 24) → tb_I M1 190 j = tb_I M 190 j) → MSt M1 (appS S (craftV tx fs)) → PfP M1 M2 k fs (craftV tx fs) ah → Q (.inl none) M2) : tb_Wp E m_Mo_perform (d + 4) rc rs 66 [some (.inr 190), some (.inl (nI k)), some (.inl ah), l3, l4] [] M Q := by
  have hk := hK.1
  refine tb_aload_0 d_Mo_perform_66 rfl ?_
  refine tb_iload_1 d_Mo_perform_67 rfl ?_
  refine tb_callVq c_Mo_200 d_Mo_perform_68 rfl rfl rfl (Nat.le_of_ble_eq_true rfl) (by first | exact hS.k rfl) (ok_Mo_work hG hS hF hK hC d) (fun v2 MB hW => ?_)
  obtain ⟨rfl, oB, jB, b21, b22, b23, hmk⟩ := hW
  have hSB := oB.sh hS
  have hStB := hSt.of (M1 := MB) (jB 10 (by omega)) (fun q _ _ => oB.i (by omega))
  have hKB := hK.of (M1 := MB) (oB.i (by omega)) (oB.i (by omega))
  have hFB := hF.of (M1 := MB) (oB.i (by omega)) (oB.i (by omega))
  refine tb_aload_0 d_Mo_perform_71 rfl ?_
  refine tb_iload_1 d_Mo_perform_72 rfl ?_
  refine tb_callVq c_Mo_203 d_Mo_perform_73 rfl rfl rfl (Nat.le_of_ble_eq_true rfl) (by exact hSB.k rfl) (ok_Mo_record hG hSB hStB hKB hFB b21 b22 b23 hmk (d + 2)) (fun v2 MC hP => ?_)
  obtain ⟨rfl, oC, jC, hStC⟩ := hP
  have hSC := oC.sh hSB
  obtain ⟨t, ht, e1, e2⟩ := appS_at S (craftV tx fs) hSt.2.1
  refine tb_aload_0 d_Mo_perform_76 rfl ?_
  refine g_Mo_176 d_Mo_perform_77 rfl rfl (by exact hSC.k rfl) ?_
  refine tb_topI (y := nI (t + 1)) (by rw [← e1]; exact hStC.1) ?_
  refine tb_iconst (1) (by decide) d_Mo_perform_80 rfl ?_
  refine tb_isub d_Mo_perform_81 rfl ?_
  rw [nI_m1]
  refine tb_istore_3 d_Mo_perform_82 rfl (by decide) ?_
  have hTC : MTr MC t (craftV tx fs) := by
    have := hStC.2.2 t (by omega)
    rw [e2] at this
    exact this
  exact lp_Mo_pfin hG hSC hk (by omega) hTC (hFB.of (oC.i (by omega)) (oC.i (by omega))) hah (fun M2 hP => hQ MC M2 ((oB.mono (fun q hq => by omega)).trans (oC.mono (fun q hq => by omega))) (fun j a b => by rw [jC j a, jB j b]) hStC hP)
/-- perform -/
theorem lp_Mo_perform (hG : tb_G E) (hS : Sh M) (hR : RM M n sc R) (hk : k < n) {ah : Int32} (hah : ah = 0 ∨ ah = 1) {d rc rs : Nat} {l3 l4 : tb_L} {Q : tb_O → tb_M → Prop} (hQ : ∀ M1, PrP M M1 n (perA (sc k) k n ah R) → Q (.inl none) M1) : tb_Wp E m_Mo_perform (d + 4) rc rs 0 [some (.inr 190), some (.inl (nI k)), some (.inl ah), l3, l4] [] M Q := by
  obtain ⟨hC, hF, hSt, hD, -⟩ := hR
  have hn := hC.2.1
  have hK := hC.tx hk
  have hcm := (hC.2.2 k hk).2.2.2
  have hc := hSt.2.1
  have hcf := ok_Mo_fitting hG hS hSt hK hF (d + 1)
  have oA : ∀ o, On M (tb_sI M 211 k o) (fun q => q = 211) := fun o => On.sI rfl
  have aA : ∀ o, tb_I (tb_sI M 211 k o) 211 = va_up (tb_I M 211) k o := fun o => sI_at _ _ _ _
  cases hfit : fitIx R.2.1 (sc k) R.1 with
  | some t =>
    rw [hfit] at hcf
    have ht := fitIx_lt hfit
    have hT := hSt.2.2 t ht
    have hfin : ∀ (o : Int32) (l4 : tb_L), (@ite Int32 (chgW (R.2.1.2 t) R.1) (Classical.propDecidable _) 3 2) = o → (o = 2 ∨ o = 3) → tb_Wp E m_Mo_perform (d + 4) rc rs 83 [some (.inr 190), some (.inl (nI k)), some (.inl ah), some (.inl (nI t)), l4] [] (tb_sI M 211 k o) Q := by
      intro o l4 he ho
      have o1 := oA o
      have a1 := aA o
      generalize tb_sI M 211 k o = MA at o1 a1
      refine lp_Mo_pfin (d := d + 3) hG (o1.sh hS) (by omega) (by omega) (hT.of (fun q _ _ => o1.i (by omega))) (hF.of (o1.i (by omega)) (o1.i (by omega))) hah (fun M2 hP => hQ M2 ?_)
      rw [perA_some hfit, he]
      refine ⟨(o1.mono (fun q hq => by show 190 ≤ q ∧ q < 217 ∧ _; omega)).trans (hP.1.mono (fun q hq => by show 190 ≤ q ∧ q < 217 ∧ _; omega)), fun j _ _ => ?_, hP.2.1, ?_, ?_⟩
      · rw [hP.1.i (by omega), o1.i (by omega)]
      · exact hSt.of (by rw [hP.1.i (by omega), o1.i (by omega)]) (fun q _ _ => by rw [hP.1.i (by omega), o1.i (by omega)])
      · refine de_fin hD (fun q a b i c => ?_) (Or.inr ho) hah (by rw [a1, vu_at]) (fun z => ?_) (fun _ => rfl) hT.2.2.2.2.2.2.1 hP
        · by_cases e : q = 211
          · rw [e, a1, vu_ne _ _ c]
          · rw [o1.i e]
        · rcases ho with q | q <;> rw [q] at z <;> exact absurd z (by decide)
    refine tb_aload_0 d_Mo_perform_0 rfl ?_
    refine tb_iload_1 d_Mo_perform_1 rfl ?_
    refine tb_callVr c_Mo_191 d_Mo_perform_2 rfl rfl rfl (Nat.le_of_ble_eq_true rfl) (by first | exact hS.k rfl) (hcf) ?_
    refine tb_topI (y := nI t) rfl ?_
    refine tb_istore_3 d_Mo_perform_5 rfl (by decide) ?_
    refine tb_aload_0 d_Mo_perform_6 rfl ?_
    refine g_Mo_71 d_Mo_perform_7 rfl rfl (by first | exact hS.k rfl) ?_
    refine tb_topR (y := 211) (hS.mr 29 (by decide)) ?_
    refine tb_iload_1 d_Mo_perform_10 rfl ?_
    refine tb_iload_3 d_Mo_perform_11 rfl ?_
    refine tb_if_ge 19 d_Mo_perform_12 (by decide) rfl (fun h12 => ?_) (fun h12 => ?_)
    · refine tb_aload_0 d_Mo_perform_19 rfl ?_
      refine tb_iload_3 d_Mo_perform_20 rfl ?_
      refine tb_callVr c_Mo_194 d_Mo_perform_21 rfl rfl rfl (Nat.le_of_ble_eq_true rfl) (by first | exact hS.k rfl) (ok_Mo_isWritten hG hS hT (by omega) hF (d + 3)) ?_
      refine tb_if_eq 31 d_Mo_perform_24 (by decide) rfl (fun h24 => ?_) (fun h24 => ?_)
      · have ho : (@ite Int32 (chgW (R.2.1.2 t) R.1) (Classical.propDecidable _) 3 2) = 3 := if_pos (Classical.not_not.mp (bI_0.mp h24))
        refine tb_iconst (3) (by decide) d_Mo_perform_31 rfl ?_
        refine tb_iastore d_Mo_perform_32 rfl (by first | exact hS.k rfl) (by first | exact mo_in hS (c := 12) rfl (by omega) (by decide) | exact mo_in hS (c := 10) rfl (by omega) (by decide) | exact mo_in hS (c := 25) rfl (by omega) (by decide) | exact mo_in hS (c := 6) rfl (by omega) (by decide) | exact mo_in hS (c := 72) rfl (by omega) (by decide) | exact mo_in hS (c := 120) rfl (by omega) (by decide) | exact mo_in hS (c := 300) rfl (by omega) (by decide) | exact mo_in hS (c := 150) rfl (by omega) (by decide) | exact mo_in hS (c := 1800) rfl (by omega) (by decide)) ?_
        rw [nI_clamp (show k < 2 ^ 31 by omega)]
        refine tb_iload_3 d_Mo_perform_33 rfl ?_
        refine tb_if_ge 83 d_Mo_perform_34 (by decide) rfl (fun h34 => ?_) (fun h34 => ?_)
        · exact hfin _ _ ho (by first | exact Or.inl rfl | exact Or.inr rfl)
        · exact absurd (nI_pos' (by omega)) h34
      · have ho : (@ite Int32 (chgW (R.2.1.2 t) R.1) (Classical.propDecidable _) 3 2) = 2 := if_neg (fun z => h24 (bI_f (fun q => q z)))
        refine tb_iconst (2) (by decide) d_Mo_perform_27 rfl ?_
        refine tb_goto 32 d_Mo_perform_28 (by decide) ?_
        refine tb_iastore d_Mo_perform_32 rfl (by first | exact hS.k rfl) (by first | exact mo_in hS (c := 12) rfl (by omega) (by decide) | exact mo_in hS (c := 10) rfl (by omega) (by decide) | exact mo_in hS (c := 25) rfl (by omega) (by decide) | exact mo_in hS (c := 6) rfl (by omega) (by decide) | exact mo_in hS (c := 72) rfl (by omega) (by decide) | exact mo_in hS (c := 120) rfl (by omega) (by decide) | exact mo_in hS (c := 300) rfl (by omega) (by decide) | exact mo_in hS (c := 150) rfl (by omega) (by decide) | exact mo_in hS (c := 1800) rfl (by omega) (by decide)) ?_
        rw [nI_clamp (show k < 2 ^ 31 by omega)]
        refine tb_iload_3 d_Mo_perform_33 rfl ?_
        refine tb_if_ge 83 d_Mo_perform_34 (by decide) rfl (fun h34 => ?_) (fun h34 => ?_)
        · exact hfin _ _ ho (by first | exact Or.inl rfl | exact Or.inr rfl)
        · exact absurd (nI_pos' (by omega)) h34
    · exact absurd (nI_pos' (by omega)) h12
  | none =>
    rw [hfit] at hcf
    have hfin : ∀ (M1 : tb_M) (y : Int32) (l3 l4 : tb_L), y = whyA R.2.1 (sc k) R.1 → On M M1 (fun q => q = 211 ∨ q = 212) → tb_I M1 211 = va_up (tb_I M 211) k 1 → tb_I M1 212 = va_up (tb_I M 212) k y → tb_Wp E m_Mo_perform (d + 4) rc rs 66 [some (.inr 190), some (.inl (nI k)), some (.inl ah), l3, l4] [] M1 Q := by
      intro MA y l3 l4 hy o1 a11 a12
      refine lp_Mo_pf3 hG (o1.sh hS) (hSt.of (by rw [o1.i (by omega)]) (fun q _ _ => o1.i (by omega))) (hK.of (o1.i (by omega)) (o1.i (by omega))) hcm (hF.of (o1.i (by omega)) (o1.i (by omega))) hah (fun MB MC oB jB hSB hP => hQ MC ?_)
      rw [perA_none hfit, ← hy]
      refine ⟨((o1.mono (fun q hq => by show 190 ≤ q ∧ q < 217 ∧ _; omega)).trans (oB.mono (fun q hq => by show 190 ≤ q ∧ q < 217 ∧ _; omega))).trans (hP.1.mono (fun q hq => by show 190 ≤ q ∧ q < 217 ∧ _; omega)), fun j a b => ?_, hP.2.1, ?_, ?_⟩
      · rw [hP.1.i (by omega), jB j a b, o1.i (by omega)]
      · exact hSB.of (by rw [hP.1.i (by omega)]) (fun q _ _ => hP.1.i (by omega))
      · refine de_fin hD (fun q a b i c => ?_) (Or.inl rfl) hah (by rw [oB.i (by omega), a11, vu_at]) (fun _ => by rw [oB.i (by omega), a12, vu_at]) (fun z => absurd rfl z) (craftV_wf _ _) hP
        rw [oB.i (by omega)]
        by_cases e : q = 211
        · rw [e, a11, vu_ne _ _ c]
        · by_cases e2 : q = 212
          · rw [e2, a12, vu_ne _ _ c]
          · rw [o1.i (by omega)]
    have oA1 := oA 1
    have aA1 := aA 1
    refine tb_aload_0 d_Mo_perform_0 rfl ?_
    refine tb_iload_1 d_Mo_perform_1 rfl ?_
    refine tb_callVr c_Mo_191 d_Mo_perform_2 rfl rfl rfl (Nat.le_of_ble_eq_true rfl) (by first | exact hS.k rfl) (hcf) ?_
    refine tb_topI (y := -1) rfl ?_
    refine tb_istore_3 d_Mo_perform_5 rfl (by decide) ?_
    refine tb_aload_0 d_Mo_perform_6 rfl ?_
    refine g_Mo_71 d_Mo_perform_7 rfl rfl (by first | exact hS.k rfl) ?_
    refine tb_topR (y := 211) (hS.mr 29 (by decide)) ?_
    refine tb_iload_1 d_Mo_perform_10 rfl ?_
    refine tb_iload_3 d_Mo_perform_11 rfl ?_
    refine tb_if_ge 19 d_Mo_perform_12 (by decide) rfl (fun h12 => ?_) (fun h12 => ?_)
    · exact absurd h12 (by decide)
    · refine tb_iconst (1) (by decide) d_Mo_perform_15 rfl ?_
      refine tb_goto 32 d_Mo_perform_16 (by decide) ?_
      refine tb_iastore d_Mo_perform_32 rfl (by first | exact hS.k rfl) (by first | exact mo_in hS (c := 12) rfl (by omega) (by decide) | exact mo_in hS (c := 10) rfl (by omega) (by decide) | exact mo_in hS (c := 25) rfl (by omega) (by decide) | exact mo_in hS (c := 6) rfl (by omega) (by decide) | exact mo_in hS (c := 72) rfl (by omega) (by decide) | exact mo_in hS (c := 120) rfl (by omega) (by decide) | exact mo_in hS (c := 300) rfl (by omega) (by decide) | exact mo_in hS (c := 150) rfl (by omega) (by decide) | exact mo_in hS (c := 1800) rfl (by omega) (by decide)) ?_
      rw [nI_clamp (show k < 2 ^ 31 by omega)]
      refine tb_iload_3 d_Mo_perform_33 rfl ?_
      refine tb_if_ge 83 d_Mo_perform_34 (by decide) rfl (fun h34 => ?_) (fun h34 => ?_)
      · exact absurd h34 (by decide)
      · generalize tb_sI M 211 k 1 = MA at oA1 aA1
        have hSA := oA1.sh hS
        have hStA := hSt.of (M1 := MA) (by rw [oA1.i (by omega)]) (fun q _ _ => oA1.i (by omega))
        have hFA := hF.of (M1 := MA) (oA1.i (by omega)) (oA1.i (by omega))
        have hcl := ok_Mo_latest hG hSA hStA (hK.of (M1 := MA) (oA1.i (by omega)) (oA1.i (by omega))) (d + 2)
        have hend : ∀ y, On M (tb_sI MA 212 k y) (fun q => q = 211 ∨ q = 212) ∧ tb_I (tb_sI MA 212 k y) 211 = va_up (tb_I M 211) k 1 ∧ tb_I (tb_sI MA 212 k y) 212 = va_up (tb_I M 212) k y := by
          intro y
          have o2 : On MA (tb_sI MA 212 k y) (fun q => q = 212) := On.sI rfl
          exact ⟨(oA1.mono (fun q hq => Or.inl hq)).trans (o2.mono (fun q hq => Or.inr hq)), by rw [o2.i (by omega), aA1], by rw [sI_at, oA1.i (by omega)]⟩
        cases hlat : latA R.2.1 (sc k) with
        | none =>
          rw [hlat] at hcl
          have hy : (12 : Int32) = whyA R.2.1 (sc k) R.1 := by
            unfold whyA
            simp only [hlat]
          refine tb_aload_0 d_Mo_perform_37 rfl ?_
          refine tb_iload_1 d_Mo_perform_38 rfl ?_
          refine tb_callVr c_Mo_197 d_Mo_perform_39 rfl rfl rfl (Nat.le_of_ble_eq_true rfl) (by first | exact hSA.k rfl) (hcl) ?_
          refine tb_topI (y := -1) rfl ?_
          refine tb_istore_4 d_Mo_perform_42 rfl (by decide) ?_
          refine tb_aload_0 d_Mo_perform_44 rfl ?_
          refine g_Mo_74 d_Mo_perform_45 rfl rfl (by first | exact hSA.k rfl) ?_
          refine tb_topR (y := 212) (hSA.mr 30 (by decide)) ?_
          refine tb_iload_1 d_Mo_perform_48 rfl ?_
          refine tb_iload_4 d_Mo_perform_49 rfl ?_
          refine tb_if_ge 59 d_Mo_perform_51 (by decide) rfl (fun h51 => ?_) (fun h51 => ?_)
          · exact absurd h51 (by decide)
          · refine tb_bipush (12) (by decide) d_Mo_perform_54 rfl ?_
            refine tb_goto 65 d_Mo_perform_56 (by decide) ?_
            refine tb_iastore d_Mo_perform_65 rfl (by first | exact hSA.k rfl) (by first | exact mo_in hSA (c := 12) rfl (by omega) (by decide) | exact mo_in hSA (c := 10) rfl (by omega) (by decide) | exact mo_in hSA (c := 25) rfl (by omega) (by decide) | exact mo_in hSA (c := 6) rfl (by omega) (by decide) | exact mo_in hSA (c := 72) rfl (by omega) (by decide) | exact mo_in hSA (c := 120) rfl (by omega) (by decide) | exact mo_in hSA (c := 300) rfl (by omega) (by decide) | exact mo_in hSA (c := 150) rfl (by omega) (by decide) | exact mo_in hSA (c := 1800) rfl (by omega) (by decide)) ?_
            rw [nI_clamp (show k < 2 ^ 31 by omega)]
            obtain ⟨q1, q2, q3⟩ := hend _
            exact hfin _ _ _ _ hy q1 q2 q3
        | some u =>
          rw [hlat] at hcl
          have hu := latA_lt hlat
          have hy : chgF (R.2.1.2 u) R.1 = whyA R.2.1 (sc k) R.1 := by
            unfold whyA
            simp only [hlat]
          refine tb_aload_0 d_Mo_perform_37 rfl ?_
          refine tb_iload_1 d_Mo_perform_38 rfl ?_
          refine tb_callVr c_Mo_197 d_Mo_perform_39 rfl rfl rfl (Nat.le_of_ble_eq_true rfl) (by first | exact hSA.k rfl) (hcl) ?_
          refine tb_topI (y := nI u) rfl ?_
          refine tb_istore_4 d_Mo_perform_42 rfl (by decide) ?_
          refine tb_aload_0 d_Mo_perform_44 rfl ?_
          refine g_Mo_74 d_Mo_perform_45 rfl rfl (by first | exact hSA.k rfl) ?_
          refine tb_topR (y := 212) (hSA.mr 30 (by decide)) ?_
          refine tb_iload_1 d_Mo_perform_48 rfl ?_
          refine tb_iload_4 d_Mo_perform_49 rfl ?_
          refine tb_if_ge 59 d_Mo_perform_51 (by decide) rfl (fun h51 => ?_) (fun h51 => ?_)
          · refine tb_aload_0 d_Mo_perform_59 rfl ?_
            refine tb_iload_4 d_Mo_perform_60 rfl ?_
            refine tb_callVr c_Mo_185 d_Mo_perform_62 rfl rfl rfl (Nat.le_of_ble_eq_true rfl) (by first | exact hSA.k rfl) (ok_Mo_chg hG hSA (hStA.2.2 u hu) (by omega) hFA (d + 2)) ?_
            refine tb_iastore d_Mo_perform_65 rfl (by first | exact hSA.k rfl) (by first | exact mo_in hSA (c := 12) rfl (by omega) (by decide) | exact mo_in hSA (c := 10) rfl (by omega) (by decide) | exact mo_in hSA (c := 25) rfl (by omega) (by decide) | exact mo_in hSA (c := 6) rfl (by omega) (by decide) | exact mo_in hSA (c := 72) rfl (by omega) (by decide) | exact mo_in hSA (c := 120) rfl (by omega) (by decide) | exact mo_in hSA (c := 300) rfl (by omega) (by decide) | exact mo_in hSA (c := 150) rfl (by omega) (by decide) | exact mo_in hSA (c := 1800) rfl (by omega) (by decide)) ?_
            rw [nI_clamp (show k < 2 ^ 31 by omega)]
            obtain ⟨q1, q2, q3⟩ := hend _
            exact hfin _ _ _ _ hy q1 q2 q3
          · exact absurd (nI_pos' (by omega)) h51
theorem ok_Mo_perform (hG : tb_G E) (hS : Sh M) (hR : RM M n sc R) (hk : k < n) {ah : Int32} (hah : ah = 0 ∨ ah = 1) (d : Nat) : tb_Rel E m_Mo_perform (d + 4) [.inr (.inl 190), .inl (nI k), .inl ah] M (fun v M1 => v = none ∧ PrP M M1 n (perA (sc k) k n ah R)) := by
  refine tb_okOf hG (by decide) rfl (Nat.le_of_ble_eq_true rfl) rfl ?_
  exact lp_Mo_perform hG hS hR hk hah (fun M1 h => ⟨_, rfl, rfl, h⟩)
end Mo21
