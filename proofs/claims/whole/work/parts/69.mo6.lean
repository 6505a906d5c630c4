/-! The reference: work. -/
def TxM (M : tb_M) (k : Nat) (tx : List Int32) : Prop := k < 10 ∧ tb_I M 196 k = nI tx.length ∧ tx.length ≤ 12 ∧ ∀ i, i < tx.length → tb_I M 197 (12 * k + i) = la tx i
theorem f97 {x : Int32} {f : Nat} (hf : f < 12) (h : fOf x = nI f) : x - 97 = nI f := by
  unfold fOf at h
  by_cases c : 97 ≤ x ∧ x ≤ 108
  · rw [if_pos c] at h; exact h
  · rw [if_neg c] at h; exact absurd h.symm (nI_nm1 (by omega))
theorem d48 {x : Int32} (h : dOf x ≠ -1) : x - 48 = dOf x := by
  unfold dOf
  rw [if_pos (dOf_iff.mp h)]
/-- made so far, as an array -/
def MWf (M M1 : tb_M) (rd ak tg : Int32) (n : Nat) (b : Nat → Int32) : Prop := On M M1 (fun q => q = 190 ∨ q = 208) ∧ (∀ j, ¬ (21 ≤ j ∧ j ≤ 24) → tb_I M1 190 j = tb_I M 190 j) ∧ tb_I M1 190 21 = rd ∧ tb_I M1 190 22 = ak ∧ tb_I M1 190 23 = tg ∧ tb_I M1 190 24 = nI n ∧ n ≤ 6 ∧ ∀ i, i < n → tb_I M1 208 i = b i
section Mo6
variable {E : tb_E} {M M1 : tb_M} {fs : Fs} {rd ak tg : Int32} {l tx : List Int32} {k n : Nat} {b : Nat → Int32}
theorem MWk.f (h : MWk M M1 rd ak tg l) : MWf M M1 rd ak tg l.length (la l) := by
  obtain ⟨h1, h2, h3, h4, h5, h6, h7, h8⟩ := h
  refine ⟨h1, h2, h3, h4, h5, h6, h7, fun i hi => ?_⟩
  rw [h8 i hi]
  unfold la
  rw [List.getD_eq_getElem?_getD, List.getElem?_eq_getElem hi]
  rfl
theorem MWf.kk (h : MWf M M1 rd ak tg n b) : MWk M M1 rd ak tg ((List.range n).map b) := by
  obtain ⟨h1, h2, h3, h4, h5, h6, h7, h8⟩ := h
  have hl : ((List.range n).map b).length = n := by rw [List.length_map, List.length_range]
  refine ⟨h1, h2, h3, h4, h5, by rw [hl]; exact h6, by rw [hl]; exact h7, fun i hi => ?_⟩
  rw [List.getElem_map, List.getElem_range]
  exact h8 i (by rw [hl] at hi; exact hi)
theorem MWf.put (h : MWf M M1 rd ak tg n b) {i : Nat} {x : Int32} : MWf M (tb_sI M1 208 i x) rd ak tg n (va_up b i x) := by
  obtain ⟨h1, h2, h3, h4, h5, h6, h7, h8⟩ := h
  have e : tb_I (tb_sI M1 208 i x) 190 = tb_I M1 190 := sI_of _ _ _ (by decide)
  refine ⟨h1.trans (On.sI (Or.inr rfl)), by rw [e]; exact h2, by rw [e]; exact h3, by rw [e]; exact h4, by rw [e]; exact h5, by rw [e]; exact h6, h7, fun q hq => ?_⟩
  rw [sI_at]
  unfold va_up
  by_cases c : q = i
  · rw [if_pos c, if_pos c]
  · rw [if_neg c, if_neg c]; exact h8 q hq
theorem MWf.congr {b' : Nat → Int32} (h : MWf M M1 rd ak tg n b) (hb : ∀ i, i < n → b i = b' i) : MWf M M1 rd ak tg n b' := ⟨h.1, h.2.1, h.2.2.1, h.2.2.2.1, h.2.2.2.2.1, h.2.2.2.2.2.1, h.2.2.2.2.2.2.1, fun i hi => by rw [h.2.2.2.2.2.2.2 i hi]; exact hb i hi⟩
/-- while the i-th is let down to j -/
def curS (b : Nat → Int32) (i j : Nat) (q : Nat) : Int32 := if q < j then b q else if q = j then b i else if q ≤ i then b (q - 1) else b q

theorem lp_Mo_sort_in (hS : Sh M) {i : Nat} (hi : i < n) (hn : n ≤ 6) {d rc rs : Nat} {Q : tb_O → tb_M → Prop}
    (hQ : ∀ M2 l3 g, g ≤ i → MWf M M2 rd ak tg n (curS b i g) → (∀ q, g ≤ q → q < i → b i < b q) → (g = 0 ∨ ¬ b i < b (g - 1)) → tb_Wp E m_Mo_sort d rc rs 69 [some (.inr 190), some (.inl (nI i)), some (.inl (nI g)), l3] [] M2 Q) :
    ∀ (j : Nat) (l3 : tb_L), j ≤ i → ∀ M1, MWf M M1 rd ak tg n (curS b i j) → (∀ q, j ≤ q → q < i → b i < b q) → tb_Wp E m_Mo_sort d rc rs 12 [some (.inr 190), some (.inl (nI i)), some (.inl (nI j)), l3] [] M1 Q := by
  intro j
  induction j with
  | zero =>
    intro l3 hj M1 hW hall
    refine tb_iload_2 d_Mo_sort_12 rfl ?_
    refine tb_if_le 69 d_Mo_sort_13 (by decide) rfl (fun h13 => ?_) (fun h13 => ?_)
    · exact hQ M1 l3 0 hj hW hall (Or.inl rfl)
    · exact absurd (by decide) h13
  | succ j ih =>
    intro l3 hj M1 hW hall
    have hS1 := hW.1.sh hS
    refine tb_iload_2 d_Mo_sort_12 rfl ?_
    refine tb_if_le 69 d_Mo_sort_13 (by decide) rfl (fun h13 => ?_) (fun h13 => ?_)
    · exact absurd h13 (nI_nle (by omega) (by omega))
    · refine tb_aload_0 d_Mo_sort_16 rfl ?_
      refine g_Mo_61 d_Mo_sort_17 rfl rfl (by first | exact hS1.k rfl) ?_
      refine tb_topR (y := 208) (hS1.mr 25 (by decide)) ?_
      refine tb_iload_2 d_Mo_sort_20 rfl ?_
      refine tb_iconst (1) (by decide) d_Mo_sort_21 rfl ?_
      refine tb_isub d_Mo_sort_22 rfl ?_
      rw [nI_pred]
      refine tb_iaload d_Mo_sort_23 rfl (by first | exact hS1.k rfl) (by first | exact mo_in hS1 (c := 12) rfl (by omega) (by decide) | exact mo_in hS1 (c := 10) rfl (by omega) (by decide) | exact mo_in hS1 (c := 25) rfl (by omega) (by decide) | exact mo_in hS1 (c := 6) rfl (by omega) (by decide) | exact mo_in hS1 (c := 72) rfl (by omega) (by decide) | exact mo_in hS1 (c := 120) rfl (by omega) (by decide) | exact mo_in hS1 (c := 300) rfl (by omega) (by decide) | exact mo_in hS1 (c := 150) rfl (by omega) (by decide) | exact mo_in hS1 (c := 1800) rfl (by omega) (by decide)) ?_
      refine tb_topI (y := b j) (by rw [nI_clamp (show j < 2 ^ 31 by omega), hW.2.2.2.2.2.2.2 _ (by omega)]; unfold curS; rw [if_pos (by omega)]) ?_
      refine tb_aload_0 d_Mo_sort_24 rfl ?_
      refine g_Mo_61 d_Mo_sort_25 rfl rfl (by first | exact hS1.k rfl) ?_
      refine tb_topR (y := 208) (hS1.mr 25 (by decide)) ?_
      refine tb_iload_2 d_Mo_sort_28 rfl ?_
      refine tb_iaload d_Mo_sort_29 rfl (by first | exact hS1.k rfl) (by first | exact mo_in hS1 (c := 12) rfl (by omega) (by decide) | exact mo_in hS1 (c := 10) rfl (by omega) (by decide) | exact mo_in hS1 (c := 25) rfl (by omega) (by decide) | exact mo_in hS1 (c := 6) rfl (by omega) (by decide) | exact mo_in hS1 (c := 72) rfl (by omega) (by decide) | exact mo_in hS1 (c := 120) rfl (by omega) (by decide) | exact mo_in hS1 (c := 300) rfl (by omega) (by decide) | exact mo_in hS1 (c := 150) rfl (by omega) (by decide) | exact mo_in hS1 (c := 1800) rfl (by omega) (by decide)) ?_
      refine tb_topI (y := b i) (by rw [nI_clamp (show j + 1 < 2 ^ 31 by omega), hW.2.2.2.2.2.2.2 _ (by omega)]; unfold curS; rw [if_neg (by omega), if_pos rfl]) ?_
      refine tb_icmp_le 69 d_Mo_sort_30 (by decide) rfl (fun h30 => ?_) (fun h30 => ?_)
      · exact hQ M1 l3 (j + 1) hj hW hall (Or.inr (by rw [Nat.add_sub_cancel]; exact fun z => Int32.not_lt.mpr h30 z))
      · have hlt : b i < b j := Int32.not_le.mp h30
        refine tb_aload_0 d_Mo_sort_33 rfl ?_
        refine g_Mo_61 d_Mo_sort_34 rfl rfl (by first | exact hS1.k rfl) ?_
        refine tb_topR (y := 208) (hS1.mr 25 (by decide)) ?_
        refine tb_iload_2 d_Mo_sort_37 rfl ?_
        refine tb_iaload d_Mo_sort_38 rfl (by first | exact hS1.k rfl) (by first | exact mo_in hS1 (c := 12) rfl (by omega) (by decide) | exact mo_in hS1 (c := 10) rfl (by omega) (by decide) | exact mo_in hS1 (c := 25) rfl (by omega) (by decide) | exact mo_in hS1 (c := 6) rfl (by omega) (by decide) | exact mo_in hS1 (c := 72) rfl (by omega) (by decide) | exact mo_in hS1 (c := 120) rfl (by omega) (by decide) | exact mo_in hS1 (c := 300) rfl (by omega) (by decide) | exact mo_in hS1 (c := 150) rfl (by omega) (by decide) | exact mo_in hS1 (c := 1800) rfl (by omega) (by decide)) ?_
        refine tb_topI (y := b i) (by rw [nI_clamp (show j + 1 < 2 ^ 31 by omega), hW.2.2.2.2.2.2.2 _ (by omega)]; unfold curS; rw [if_neg (by omega), if_pos rfl]) ?_
        refine tb_istore_3 d_Mo_sort_39 rfl (by decide) ?_
        refine tb_aload_0 d_Mo_sort_40 rfl ?_
        refine g_Mo_61 d_Mo_sort_41 rfl rfl (by first | exact hS1.k rfl) ?_
        refine tb_topR (y := 208) (hS1.mr 25 (by decide)) ?_
        refine tb_iload_2 d_Mo_sort_44 rfl ?_
        refine tb_aload_0 d_Mo_sort_45 rfl ?_
        refine g_Mo_61 d_Mo_sort_46 rfl rfl (by first | exact hS1.k rfl) ?_
        refine tb_topR (y := 208) (hS1.mr 25 (by decide)) ?_
        refine tb_iload_2 d_Mo_sort_49 rfl ?_
        refine tb_iconst (1) (by decide) d_Mo_sort_50 rfl ?_
        refine tb_isub d_Mo_sort_51 rfl ?_
        rw [nI_pred]
        refine tb_iaload d_Mo_sort_52 rfl (by first | exact hS1.k rfl) (by first | exact mo_in hS1 (c := 12) rfl (by omega) (by decide) | exact mo_in hS1 (c := 10) rfl (by omega) (by decide) | exact mo_in hS1 (c := 25) rfl (by omega) (by decide) | exact mo_in hS1 (c := 6) rfl (by omega) (by decide) | exact mo_in hS1 (c := 72) rfl (by omega) (by decide) | exact mo_in hS1 (c := 120) rfl (by omega) (by decide) | exact mo_in hS1 (c := 300) rfl (by omega) (by decide) | exact mo_in hS1 (c := 150) rfl (by omega) (by decide) | exact mo_in hS1 (c := 1800) rfl (by omega) (by decide)) ?_
        refine tb_topI (y := b j) (by rw [nI_clamp (show j < 2 ^ 31 by omega), hW.2.2.2.2.2.2.2 _ (by omega)]; unfold curS; rw [if_pos (by omega)]) ?_
        refine tb_iastore d_Mo_sort_53 rfl (by first | exact hS1.k rfl) (by first | exact mo_in hS1 (c := 12) rfl (by omega) (by decide) | exact mo_in hS1 (c := 10) rfl (by omega) (by decide) | exact mo_in hS1 (c := 25) rfl (by omega) (by decide) | exact mo_in hS1 (c := 6) rfl (by omega) (by decide) | exact mo_in hS1 (c := 72) rfl (by omega) (by decide) | exact mo_in hS1 (c := 120) rfl (by omega) (by decide) | exact mo_in hS1 (c := 300) rfl (by omega) (by decide) | exact mo_in hS1 (c := 150) rfl (by omega) (by decide) | exact mo_in hS1 (c := 1800) rfl (by omega) (by decide)) ?_
        rw [nI_clamp (show j + 1 < 2 ^ 31 by omega)]
        refine tb_aload_0 d_Mo_sort_54 rfl ?_
        refine g_Mo_61 d_Mo_sort_55 rfl rfl (by first | exact hS1.k rfl) ?_
        refine tb_topR (y := 208) (hS1.mr 25 (by decide)) ?_
        refine tb_iload_2 d_Mo_sort_58 rfl ?_
        refine tb_iconst (1) (by decide) d_Mo_sort_59 rfl ?_
        refine tb_isub d_Mo_sort_60 rfl ?_
        rw [nI_pred]
        refine tb_iload_3 d_Mo_sort_61 rfl ?_
        refine tb_iastore d_Mo_sort_62 rfl (by first | exact hS1.k rfl) (by first | exact mo_in hS1 (c := 12) rfl (by omega) (by decide) | exact mo_in hS1 (c := 10) rfl (by omega) (by decide) | exact mo_in hS1 (c := 25) rfl (by omega) (by decide) | exact mo_in hS1 (c := 6) rfl (by omega) (by decide) | exact mo_in hS1 (c := 72) rfl (by omega) (by decide) | exact mo_in hS1 (c := 120) rfl (by omega) (by decide) | exact mo_in hS1 (c := 300) rfl (by omega) (by decide) | exact mo_in hS1 (c := 150) rfl (by omega) (by decide) | exact mo_in hS1 (c := 1800) rfl (by omega) (by decide)) ?_
        rw [nI_clamp (show j < 2 ^ 31 by omega)]
        refine tb_iinc_2 (-1) d_Mo_sort_63 rfl (by decide) (by decide) ?_
        rw [nI_dec]
        refine tb_goto 12 d_Mo_sort_66 (by decide) ?_
        refine ih _ (by omega) _ (((hW.put).put).congr (fun q hq => ?_)) (fun q h1 h2 => ?_)
        · unfold va_up curS
          by_cases c : q = j
          · rw [if_pos c, if_neg (by omega), if_pos c]
          · rw [if_neg c]
            by_cases c2 : q = j + 1
            · rw [if_pos c2, if_neg (by omega), if_neg (by omega), if_pos (by omega), show q - 1 = j by omega]
            · rw [if_neg c2]
              by_cases c3 : q < j
              · rw [if_pos (by omega), if_pos c3]
              · rw [if_neg (by omega), if_neg (by omega), if_neg c3, if_neg c]
        · by_cases c : q = j
          · rw [c]; exact hlt
          · exact hall q (by omega) h2
theorem lp_Mo_sort (hS : Sh M) {a : Nat → Int32} (hn : n ≤ 6) {d rc rs : Nat} {Q : tb_O → tb_M → Prop} (hQ : ∀ M2 b, MWf M M2 rd ak tg n b → rp b n = srtR ((List.range n).map a) → Q (.inl none) M2) :
    ∀ (m i : Nat) (l2 l3 : tb_L), n - i = m → 1 ≤ i ∧ i ≤ 7 → (n = 0 ∨ i ≤ n) → ∀ M1 b, MWf M M1 rd ak tg n b → (n = 0 ∨ rp b i = srtR ((List.range i).map a)) → (∀ q, i ≤ q → q < n → b q = a q) → tb_Wp E m_Mo_sort d rc rs 2 [some (.inr 190), some (.inl (nI i)), l2, l3] [] M1 Q := by
  intro m
  induction m using Nat.strongRecOn with
  | ind m ih =>
    intro i l2 l3 hm hi1 hin M1 b hW hrp hrest
    have hS1 := hW.1.sh hS
    have hi31 : i < 2 ^ 31 ∨ n = 0 := by omega
    refine tb_iload_1 d_Mo_sort_2 rfl ?_
    refine tb_aload_0 d_Mo_sort_3 rfl ?_
    refine g_Mo_132 d_Mo_sort_4 rfl rfl (by first | exact hS1.k rfl) ?_
    refine tb_topI hW.2.2.2.2.2.1 ?_
    refine tb_icmp_ge 75 d_Mo_sort_7 (by decide) rfl (fun h7 => ?_) (fun h7 => ?_)
    · have hge : n ≤ i := by
        rcases Nat.lt_or_ge i n with z | z
        · exact absurd h7 (nI_ge z (by omega))
        · exact z
      refine tb_vreturn d_Mo_sort_75 rfl ?_
      refine hQ M1 b hW ?_
      rcases hin with q | q
      · subst q; rfl
      · have e : i = n := by omega
        subst e
        rcases hrp with z | z
        · omega
        · exact z
    · have hlt : i < n := by
        rcases Nat.lt_or_ge i n with z | z
        · exact z
        · rcases hin with q | q
          · exfalso
            subst q
            exact h7 (nI_le (a := 0) (Nat.zero_le _) (by omega))
          · exact absurd (nI_le z (by omega)) h7
      refine tb_iload_1 d_Mo_sort_10 rfl ?_
      refine tb_istore_2 d_Mo_sort_11 rfl (by decide) ?_
      refine lp_Mo_sort_in (b := b) hS hlt hn (fun M2 l3' g hg hW2 hall hx => ?_) i _ (Nat.le_refl _) _ (hW.congr (fun q hq => ?_)) (fun q h1 h2 => absurd h2 (by omega))
      · refine tb_iinc_1 (1) d_Mo_sort_69 rfl (by decide) (by decide) ?_
        refine tb_goto 2 d_Mo_sort_72 (by decide) ?_
        rw [nI_1]
        refine ih (n - (i + 1)) (by omega) (i + 1) _ _ rfl ⟨by omega, by omega⟩ (Or.inr (by omega)) M2 _ hW2 (Or.inr ?_) (fun q h1 h2 => ?_)
        · rw [srtR_succ, ← hrest i (Nat.le_refl _) hlt]
          rcases hrp with z | z
          · omega
          rw [← z]
          refine (ins_rp (a := b) (a' := curS b i g) (x := b i) (g := g) i hg (fun q hq => ?_) ?_ (fun q h1 h2 => ?_) hall hx).symm
          · unfold curS; rw [if_pos hq]
          · unfold curS; rw [if_neg (by omega), if_pos rfl]
          · unfold curS; rw [if_neg (by omega), if_neg (by omega), if_pos h2]
        · unfold curS
          rw [if_neg (by omega), if_neg (by omega), if_neg (by omega)]
          exact hrest q (by omega) h2
      · unfold curS
        by_cases c : q < i
        · rw [if_pos c]
        · rw [if_neg c]
          by_cases c2 : q = i
          · rw [if_pos c2, c2]
          · rw [if_neg c2, if_neg (by omega)]
theorem ok_Mo_sort (hG : tb_G E) (hS : Sh M) (hW : MWk M M1 rd ak tg l) (d : Nat) : tb_Rel E m_Mo_sort d [.inr (.inl 190)] M1 (fun v M2 => v = none ∧ MWk M M2 rd ak tg (srt l)) := by
  have hn := hW.2.2.2.2.2.2.1
  have hl : (List.range l.length).map (la l) = l := by
    apply List.ext_getElem?
    intro i
    by_cases c : i < l.length
    · rw [List.getElem?_map, List.getElem?_range c, List.getElem?_eq_getElem c]
      show some (la l i) = _
      unfold la
      rw [List.getD_eq_getElem?_getD, List.getElem?_eq_getElem c]
      rfl
    · rw [List.getElem?_eq_none (by rw [List.length_map, List.length_range]; omega), List.getElem?_eq_none (by omega)]
  refine tb_okOf hG (by decide) rfl (Nat.le_of_ble_eq_true rfl) rfl ?_
  refine tb_iconst (1) (by decide) d_Mo_sort_0 rfl ?_
  refine tb_istore_1 d_Mo_sort_1 rfl (by decide) ?_
  refine lp_Mo_sort (a := la l) hS hn (fun M2 b h1 h2 => ⟨none, rfl, rfl, ?_⟩) _ 1 _ _ rfl ⟨by omega, by omega⟩ (by omega) M1 _ hW.f (by
    by_cases c : l.length = 0
    · exact Or.inl c
    · right; rfl) (fun q _ _ => rfl)
  have := h1.kk
  rw [← rp_rev, h2, hl] at this
  exact this
theorem ok_Mo_letter (hG : tb_G E) (hS : Sh M) (hT : TxM M k tx) {i : Nat} (hi : i < tx.length) (d : Nat) : tb_Ret E m_Mo_letter d [.inr (.inl 190), .inl (nI k), .inl (nI i)] M (some (.inl (la tx i - 97))) M := by
  have hk := hT.1
  have h12 := hT.2.2.1
  refine tb_okOf hG (by decide) rfl (Nat.le_of_ble_eq_true rfl) rfl ?_
  refine tb_aload_0 d_Mo_letter_0 rfl ?_
  refine g_Mo_28 d_Mo_letter_1 rfl rfl (by first | exact hS.k rfl) ?_
  refine tb_topR (y := 197) (hS.mr 9 (by decide)) ?_
  refine tb_bipush (12) (by decide) d_Mo_letter_4 rfl ?_
  refine tb_iload_1 d_Mo_letter_6 rfl ?_
  refine tb_imul d_Mo_letter_7 rfl ?_
  refine tb_topI (show (12 : Int32) * nI k = nI (12 * k) from nI_mul 12 k) ?_
  refine tb_iload_2 d_Mo_letter_8 rfl ?_
  refine tb_iadd d_Mo_letter_9 rfl ?_
  rw [nI_add]
  refine tb_iaload d_Mo_letter_10 rfl (by first | exact hS.k rfl) (by first | exact mo_in hS (c := 12) rfl (by omega) (by decide) | exact mo_in hS (c := 10) rfl (by omega) (by decide) | exact mo_in hS (c := 25) rfl (by omega) (by decide) | exact mo_in hS (c := 6) rfl (by omega) (by decide) | exact mo_in hS (c := 72) rfl (by omega) (by decide) | exact mo_in hS (c := 120) rfl (by omega) (by decide) | exact mo_in hS (c := 300) rfl (by omega) (by decide) | exact mo_in hS (c := 150) rfl (by omega) (by decide) | exact mo_in hS (c := 1800) rfl (by omega) (by decide)) ?_
  refine tb_topI (y := la tx i) (by rw [nI_clamp (show 12 * k + i < 2 ^ 31 by omega)]; exact hT.2.2.2 i hi) ?_
  refine tb_bipush (97) (by decide) d_Mo_letter_11 rfl ?_
  refine tb_isub d_Mo_letter_13 rfl ?_
  refine tb_ireturn d_Mo_letter_14 rfl (by first | rfl | assumption) ?_
  exact ⟨rfl, rfl⟩
theorem TxM.of (h : TxM M k tx) (h1 : tb_I M1 196 = tb_I M 196) (h2 : tb_I M1 197 = tb_I M 197) : TxM M1 k tx := ⟨h.1, by rw [h1]; exact h.2.1, h.2.2.1, by rw [h2]; exact h.2.2.2⟩
theorem lp_Mo_digits (hG : tb_G E) (hS : Sh M) (hT : TxM M k tx) {s : Nat} (hs : s + 1 ≤ tx.length) (hd : ∀ i, s ≤ i → i + 1 < tx.length → dOf (la tx i) ≠ -1) {d rc rs : Nat} {Q : tb_O → tb_M → Prop} (hQ : ∀ M2, MWk M M2 rd ak tg (aL l (digL (la tx) s (tx.length - 1))) → Q (.inl none) M2) : ∀ (m j : Nat), tx.length - j = m → s ≤ j ∧ j + 1 ≤ tx.length → ∀ M1, MWk M M1 rd ak tg (aL l (digL (la tx) s j)) → tb_Wp E m_Mo_digits (d + 1) rc rs 2 [some (.inr 190), some (.inl (nI k)), some (.inl (nI s)), some (.inl (nI j))] [] M1 Q := by
  have hk := hT.1
  have h12 := hT.2.2.1
  intro m
  induction m using Nat.strongRecOn with
  | ind m ih =>
    intro j hm hj M1 hW
    have hS1 := hW.1.sh hS
    have hT1 := hT.of (M1 := M1) (hW.1.i (by decide)) (hW.1.i (by decide))
    refine tb_iload_3 d_Mo_digits_2 rfl ?_
    refine tb_aload_0 d_Mo_digits_3 rfl ?_
    refine g_Mo_25 d_Mo_digits_4 rfl rfl (by first | exact hS1.k rfl) ?_
    refine tb_topR (y := 196) (hS1.mr 8 (by decide)) ?_
    refine tb_iload_1 d_Mo_digits_7 rfl ?_
    refine tb_iaload d_Mo_digits_8 rfl (by first | exact hS1.k rfl) (by first | exact mo_in hS1 (c := 12) rfl (by omega) (by decide) | exact mo_in hS1 (c := 10) rfl (by omega) (by decide) | exact mo_in hS1 (c := 25) rfl (by omega) (by decide) | exact mo_in hS1 (c := 6) rfl (by omega) (by decide) | exact mo_in hS1 (c := 72) rfl (by omega) (by decide) | exact mo_in hS1 (c := 120) rfl (by omega) (by decide) | exact mo_in hS1 (c := 300) rfl (by omega) (by decide) | exact mo_in hS1 (c := 150) rfl (by omega) (by decide) | exact mo_in hS1 (c := 1800) rfl (by omega) (by decide)) ?_
    refine tb_topI (y := nI tx.length) (by rw [nI_clamp (show k < 2 ^ 31 by omega)]; exact hT1.2.1) ?_
    refine tb_iconst (1) (by decide) d_Mo_digits_9 rfl ?_
    refine tb_isub d_Mo_digits_10 rfl ?_
    rw [nI_sub1 (by omega)]
    refine tb_icmp_ge 38 d_Mo_digits_11 (by decide) rfl (fun h11 => ?_) (fun h11 => ?_)
    · have hje : tx.length - 1 ≤ j := (nI_leI (a := tx.length - 1) (b := j) (by omega) (by omega)).mp h11
      have hje2 : j = tx.length - 1 := by omega
      refine tb_vreturn d_Mo_digits_38 rfl ?_
      refine hQ _ ?_
      rw [hje2] at hW
      exact hW
    · have hlt : j < tx.length - 1 := Nat.lt_of_not_le (fun q => h11 ((nI_leI (a := tx.length - 1) (b := j) (by omega) (by omega)).mpr q))
      refine tb_aload_0 d_Mo_digits_14 rfl ?_
      refine tb_aload_0 d_Mo_digits_15 rfl ?_
      refine g_Mo_28 d_Mo_digits_16 rfl rfl (by first | exact hS1.k rfl) ?_
      refine tb_topR (y := 197) (hS1.mr 9 (by decide)) ?_
      refine tb_bipush (12) (by decide) d_Mo_digits_19 rfl ?_
      refine tb_iload_1 d_Mo_digits_21 rfl ?_
      refine tb_imul d_Mo_digits_22 rfl ?_
      refine tb_topI (show (12 : Int32) * nI k = nI (12 * k) from nI_mul 12 k) ?_
      refine tb_iload_3 d_Mo_digits_23 rfl ?_
      refine tb_iadd d_Mo_digits_24 rfl ?_
      rw [nI_add]
      refine tb_iaload d_Mo_digits_25 rfl (by first | exact hS1.k rfl) (by first | exact mo_in hS1 (c := 12) rfl (by omega) (by decide) | exact mo_in hS1 (c := 10) rfl (by omega) (by decide) | exact mo_in hS1 (c := 25) rfl (by omega) (by decide) | exact mo_in hS1 (c := 6) rfl (by omega) (by decide) | exact mo_in hS1 (c := 72) rfl (by omega) (by decide) | exact mo_in hS1 (c := 120) rfl (by omega) (by decide) | exact mo_in hS1 (c := 300) rfl (by omega) (by decide) | exact mo_in hS1 (c := 150) rfl (by omega) (by decide) | exact mo_in hS1 (c := 1800) rfl (by omega) (by decide)) ?_
      refine tb_topI (y := la tx j) (by rw [nI_clamp (show 12 * k + j < 2 ^ 31 by omega)]; exact hT1.2.2.2 j (by omega)) ?_
      refine tb_bipush (48) (by decide) d_Mo_digits_26 rfl ?_
      refine tb_isub d_Mo_digits_28 rfl ?_
      refine tb_topI (d48 (hd j hj.1 (by omega))) ?_
      refine tb_callVq c_Mo_141 d_Mo_digits_29 rfl rfl rfl (Nat.le_of_ble_eq_true rfl) (by first | exact hS1.k rfl) (ok_Mo_add hG hS hW _ d) (fun v2 M2 hP => ?_)
      obtain ⟨rfl, hP⟩ := hP
      refine tb_iinc_3 (1) d_Mo_digits_32 rfl (by decide) (by decide) ?_
      refine tb_goto 2 d_Mo_digits_35 (by decide) ?_
      rw [nI_1]
      refine ih (tx.length - (j + 1)) (by omega) (j + 1) rfl (by omega) _ ?_
      rw [digL_1 _ hj.1, aL_1]
      exact hP
theorem ok_Mo_digits (hG : tb_G E) (hS : Sh M) (hT : TxM M k tx) (hW : MWk M M1 rd ak tg l) {s : Nat} (hs : s + 1 ≤ tx.length) (hd : ∀ i, s ≤ i → i + 1 < tx.length → dOf (la tx i) ≠ -1) (d : Nat) : tb_Rel E m_Mo_digits (d + 1) [.inr (.inl 190), .inl (nI k), .inl (nI s)] M1 (fun v M2 => v = none ∧ MWk M M2 rd ak tg (aL l (digL (la tx) s (tx.length - 1)))) := by
  refine tb_okOf hG (by decide) rfl (Nat.le_of_ble_eq_true rfl) rfl ?_
  refine tb_iload_2 d_Mo_digits_0 rfl ?_
  refine tb_istore_3 d_Mo_digits_1 rfl (by decide) ?_
  refine lp_Mo_digits hG hS hT hs hd (fun M2 h => ⟨none, rfl, rfl, h⟩) _ s rfl ⟨Nat.le_refl _, hs⟩ M1 ?_
  unfold digL
  rw [Nat.sub_self]
  exact hW
end Mo6
