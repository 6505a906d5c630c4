/-! The reference: a trace is recorded. -/
def sg2 (c : Nat) (A B : Nat → Int32) (to off j p : Nat) : Int32 := if c * to ≤ p ∧ p < c * to + j then B (off + (p - c * to)) else A p
theorem sg2_0 (c : Nat) (A B : Nat → Int32) (to off : Nat) : A = sg2 c A B to off 0 := by
  funext p
  unfold sg2
  rw [if_neg (by omega)]
section Mo14
variable {E : tb_E} {M M1 : tb_M} {fs : Fs} {t k c : Nat} {x : TrV} {tx : List Int32} {S : StV}
theorem sg2_st12 (A B : Nat → Int32) (to off : Nat) {j : Nat} (hj : j < 12) : va_up (sg2 12 A B to off j) (12 * to + j) (B (off + j)) = sg2 12 A B to off (j + 1) := by
  funext p
  unfold va_up sg2
  by_cases h : p = 12 * to + j
  · rw [if_pos h, if_pos (by omega), h, show 12 * to + j - 12 * to = j by omega]
  · rw [if_neg h]
    by_cases h2 : 12 * to ≤ p ∧ p < 12 * to + j
    · rw [if_pos h2, if_pos (by omega)]
    · rw [if_neg h2, if_neg (by omega)]
theorem sg2_in12 (A B : Nat → Int32) (to off : Nat) {j : Nat} (hj : j < 12) : sg2 12 A B to off 12 (12 * to + j) = B (off + j) := by
  unfold sg2
  rw [if_pos (by omega), show 12 * to + j - 12 * to = j by omega]
theorem sg2_out12 (A B : Nat → Int32) (to off : Nat) {t j : Nat} (hj : j < 12) (hne : t ≠ to) : sg2 12 A B to off 12 (12 * t + j) = A (12 * t + j) := by
  unfold sg2
  rw [if_neg (by omega)]
theorem sg2_st72 (A B : Nat → Int32) (to off : Nat) {j : Nat} (hj : j < 72) : va_up (sg2 72 A B to off j) (72 * to + j) (B (off + j)) = sg2 72 A B to off (j + 1) := by
  funext p
  unfold va_up sg2
  by_cases h : p = 72 * to + j
  · rw [if_pos h, if_pos (by omega), h, show 72 * to + j - 72 * to = j by omega]
  · rw [if_neg h]
    by_cases h2 : 72 * to ≤ p ∧ p < 72 * to + j
    · rw [if_pos h2, if_pos (by omega)]
    · rw [if_neg h2, if_neg (by omega)]
theorem sg2_in72 (A B : Nat → Int32) (to off : Nat) {j : Nat} (hj : j < 72) : sg2 72 A B to off 72 (72 * to + j) = B (off + j) := by
  unfold sg2
  rw [if_pos (by omega), show 72 * to + j - 72 * to = j by omega]
theorem sg2_out72 (A B : Nat → Int32) (to off : Nat) {t j : Nat} (hj : j < 72) (hne : t ≠ to) : sg2 72 A B to off 72 (72 * t + j) = A (72 * t + j) := by
  unfold sg2
  rw [if_neg (by omega)]
theorem sg2_st6 (A B : Nat → Int32) (to off : Nat) {j : Nat} (hj : j < 6) : va_up (sg2 6 A B to off j) (6 * to + j) (B (off + j)) = sg2 6 A B to off (j + 1) := by
  funext p
  unfold va_up sg2
  by_cases h : p = 6 * to + j
  · rw [if_pos h, if_pos (by omega), h, show 6 * to + j - 6 * to = j by omega]
  · rw [if_neg h]
    by_cases h2 : 6 * to ≤ p ∧ p < 6 * to + j
    · rw [if_pos h2, if_pos (by omega)]
    · rw [if_neg h2, if_neg (by omega)]
theorem sg2_in6 (A B : Nat → Int32) (to off : Nat) {j : Nat} (hj : j < 6) : sg2 6 A B to off 6 (6 * to + j) = B (off + j) := by
  unfold sg2
  rw [if_pos (by omega), show 6 * to + j - 6 * to = j by omega]
theorem sg2_out6 (A B : Nat → Int32) (to off : Nat) {t j : Nat} (hj : j < 6) (hne : t ≠ to) : sg2 6 A B to off 6 (6 * t + j) = A (6 * t + j) := by
  unfold sg2
  rw [if_neg (by omega)]
theorem craftW_wr {a : Nat → Int32} {n : Nat} {F : Fs} : ∀ w s rd, (craftW a n F w s rd).2.2.1 = -1 ∨ (craftW a n F w s rd).2.2.1 = fOf (a (n - 1)) := by
  intro w
  induction w with
  | zero => intro s rd; exact Or.inl rfl
  | succ w ih =>
    intro s rd
    simp only [craftW]
    split
    · split
      · exact Or.inl rfl
      · exact ih _ _
    · right
      unfold plainW
      repeat (split; rfl)
      rfl
theorem craftV_wf (tx : List Int32) (fs : Fs) : WfT (craftV tx fs) := by
  have h := craftW_wr (a := la tx) (n := tx.length) (F := fs) 8 0 0
  show (craftW (la tx) tx.length fs 8 0 0).2.2.1 = -1 ∨ ∃ f, f < 12 ∧ (craftW (la tx) tx.length fs 8 0 0).2.2.1 = nI f
  rcases h with h | h
  · exact Or.inl h
  · rw [h]
    by_cases e : fOf (la tx (tx.length - 1)) = -1
    · exact Or.inl e
    · exact Or.inr (fOf_n e)
theorem lp_Mo_rc199 (hS : Sh M) (hk : k < 10) (ht : t < 25) {d rc rs : Nat} {Q : tb_O → tb_M → Prop} (hQ : ∀ M1 l3, On M M1 (fun q => q = 199) → tb_I M1 199 = sg2 12 (tb_I M 199) (tb_I M 197) t (12 * k) 12 → tb_Wp E m_Mo_record d rc rs 53 [some (.inr 190), some (.inl (nI k)), some (.inl (nI t)), l3] [] M1 Q) : ∀ (m j : Nat), 12 - j = m → j ≤ 12 → ∀ M1, On M M1 (fun q => q = 199) → tb_I M1 199 = sg2 12 (tb_I M 199) (tb_I M 197) t (12 * k) j → tb_Wp E m_Mo_record d rc rs 19 [some (.inr 190), some (.inl (nI k)), some (.inl (nI t)), some (.inl (nI j))] [] M1 Q := by
  intro m
  induction m using Nat.strongRecOn with
  | ind m ih =>
    intro j hm hj M1 o1 hW
    have hS1 := o1.sh hS
    refine tb_iload_3 d_Mo_record_19 rfl ?_
    refine tb_bipush (12) (by decide) d_Mo_record_20 rfl ?_
    refine tb_icmp_ge 53 d_Mo_record_22 (by decide) rfl (fun h22 => ?_) (fun h22 => ?_)
    · have hje : 12 ≤ j := (nI_leI (a := 12) (b := j) (by decide) (by omega)).mp h22
      have hje2 : j = 12 := by omega
      subst hje2
      exact hQ M1 _ o1 hW
    · have hlt : j < 12 := Nat.lt_of_not_le (fun q => h22 ((nI_leI (a := 12) (b := j) (by decide) (by omega)).mpr q))
      refine tb_aload_0 d_Mo_record_25 rfl ?_
      refine g_Mo_34 d_Mo_record_26 rfl rfl (by first | exact hS1.k rfl) ?_
      refine tb_topR (y := 199) (hS1.mr 12 (by decide)) ?_
      refine tb_bipush (12) (by decide) d_Mo_record_29 rfl ?_
      refine tb_iload_2 d_Mo_record_31 rfl ?_
      refine tb_imul d_Mo_record_32 rfl ?_
      refine tb_topI (show (12 : Int32) * nI t = nI (12 * (t)) from nI_mul 12 (t)) ?_
      refine tb_iload_3 d_Mo_record_33 rfl ?_
      refine tb_iadd d_Mo_record_34 rfl ?_
      rw [nI_add]
      refine tb_aload_0 d_Mo_record_35 rfl ?_
      refine g_Mo_28 d_Mo_record_36 rfl rfl (by first | exact hS1.k rfl) ?_
      refine tb_topR (y := 197) (hS1.mr 9 (by decide)) ?_
      refine tb_bipush (12) (by decide) d_Mo_record_39 rfl ?_
      refine tb_iload_1 d_Mo_record_41 rfl ?_
      refine tb_imul d_Mo_record_42 rfl ?_
      refine tb_topI (show (12 : Int32) * nI k = nI (12 * (k)) from nI_mul 12 (k)) ?_
      refine tb_iload_3 d_Mo_record_43 rfl ?_
      refine tb_iadd d_Mo_record_44 rfl ?_
      rw [nI_add]
      refine tb_iaload d_Mo_record_45 rfl (by first | exact hS1.k rfl) (by first | exact mo_in hS1 (c := 12) rfl (by omega) (by decide) | exact mo_in hS1 (c := 10) rfl (by omega) (by decide) | exact mo_in hS1 (c := 25) rfl (by omega) (by decide) | exact mo_in hS1 (c := 6) rfl (by omega) (by decide) | exact mo_in hS1 (c := 72) rfl (by omega) (by decide) | exact mo_in hS1 (c := 120) rfl (by omega) (by decide) | exact mo_in hS1 (c := 300) rfl (by omega) (by decide) | exact mo_in hS1 (c := 150) rfl (by omega) (by decide) | exact mo_in hS1 (c := 1800) rfl (by omega) (by decide)) ?_
      refine tb_topI (y := tb_I M 197 (12 * k + j)) (by rw [nI_clamp (show 12 * k + j < 2 ^ 31 by omega)]; rw [o1.i (by decide)]) ?_
      refine tb_iastore d_Mo_record_46 rfl (by first | exact hS1.k rfl) (by first | exact mo_in hS1 (c := 12) rfl (by omega) (by decide) | exact mo_in hS1 (c := 10) rfl (by omega) (by decide) | exact mo_in hS1 (c := 25) rfl (by omega) (by decide) | exact mo_in hS1 (c := 6) rfl (by omega) (by decide) | exact mo_in hS1 (c := 72) rfl (by omega) (by decide) | exact mo_in hS1 (c := 120) rfl (by omega) (by decide) | exact mo_in hS1 (c := 300) rfl (by omega) (by decide) | exact mo_in hS1 (c := 150) rfl (by omega) (by decide) | exact mo_in hS1 (c := 1800) rfl (by omega) (by decide)) ?_
      rw [nI_clamp (show 12 * t + j < 2 ^ 31 by omega)]
      refine tb_iinc_3 (1) d_Mo_record_47 rfl (by decide) (by decide) ?_
      refine tb_goto 19 d_Mo_record_50 (by decide) ?_
      rw [nI_1]
      exact ih (12 - (j + 1)) (by omega) (j + 1) rfl (by omega) _ (o1.trans (On.sI rfl)) (by rw [sI_at, hW]; exact sg2_st12 _ _ t _ hlt)
theorem lp_Mo_rc204 (hS : Sh M) (hk : k < 10) (ht : t < 25) {d rc rs : Nat} {Q : tb_O → tb_M → Prop} (hQ : ∀ M1 l3, On M M1 (fun q => q = 204) → tb_I M1 204 = sg2 72 (tb_I M 204) (tb_I M 192) t (0) 72 → tb_Wp E m_Mo_record d rc rs 167 [some (.inr 190), some (.inl (nI k)), some (.inl (nI t)), l3] [] M1 Q) : ∀ (m j : Nat), 72 - j = m → j ≤ 72 → ∀ M1, On M M1 (fun q => q = 204) → tb_I M1 204 = sg2 72 (tb_I M 204) (tb_I M 192) t (0) j → tb_Wp E m_Mo_record d rc rs 138 [some (.inr 190), some (.inl (nI k)), some (.inl (nI t)), some (.inl (nI j))] [] M1 Q := by
  intro m
  induction m using Nat.strongRecOn with
  | ind m ih =>
    intro j hm hj M1 o1 hW
    have hS1 := o1.sh hS
    refine tb_iload_3 d_Mo_record_138 rfl ?_
    refine tb_bipush (72) (by decide) d_Mo_record_139 rfl ?_
    refine tb_icmp_ge 167 d_Mo_record_141 (by decide) rfl (fun h141 => ?_) (fun h141 => ?_)
    · have hje : 72 ≤ j := (nI_leI (a := 72) (b := j) (by decide) (by omega)).mp h141
      have hje2 : j = 72 := by omega
      subst hje2
      exact hQ M1 _ o1 hW
    · have hlt : j < 72 := Nat.lt_of_not_le (fun q => h141 ((nI_leI (a := 72) (b := j) (by decide) (by omega)).mpr q))
      refine tb_aload_0 d_Mo_record_144 rfl ?_
      refine g_Mo_49 d_Mo_record_145 rfl rfl (by first | exact hS1.k rfl) ?_
      refine tb_topR (y := 204) (hS1.mr 17 (by decide)) ?_
      refine tb_bipush (72) (by decide) d_Mo_record_148 rfl ?_
      refine tb_iload_2 d_Mo_record_150 rfl ?_
      refine tb_imul d_Mo_record_151 rfl ?_
      refine tb_topI (show (72 : Int32) * nI t = nI (72 * (t)) from nI_mul 72 (t)) ?_
      refine tb_iload_3 d_Mo_record_152 rfl ?_
      refine tb_iadd d_Mo_record_153 rfl ?_
      rw [nI_add]
      refine tb_aload_0 d_Mo_record_154 rfl ?_
      refine g_Mo_13 d_Mo_record_155 rfl rfl (by first | exact hS1.k rfl) ?_
      refine tb_topR (y := 192) (hS1.mr 2 (by decide)) ?_
      refine tb_iload_3 d_Mo_record_158 rfl ?_
      refine tb_iaload d_Mo_record_159 rfl (by first | exact hS1.k rfl) (by first | exact mo_in hS1 (c := 12) rfl (by omega) (by decide) | exact mo_in hS1 (c := 10) rfl (by omega) (by decide) | exact mo_in hS1 (c := 25) rfl (by omega) (by decide) | exact mo_in hS1 (c := 6) rfl (by omega) (by decide) | exact mo_in hS1 (c := 72) rfl (by omega) (by decide) | exact mo_in hS1 (c := 120) rfl (by omega) (by decide) | exact mo_in hS1 (c := 300) rfl (by omega) (by decide) | exact mo_in hS1 (c := 150) rfl (by omega) (by decide) | exact mo_in hS1 (c := 1800) rfl (by omega) (by decide)) ?_
      refine tb_topI (y := tb_I M 192 (0 + j)) (by rw [nI_clamp (show j < 2 ^ 31 by omega)]; rw [o1.i (by decide), Nat.zero_add]) ?_
      refine tb_iastore d_Mo_record_160 rfl (by first | exact hS1.k rfl) (by first | exact mo_in hS1 (c := 12) rfl (by omega) (by decide) | exact mo_in hS1 (c := 10) rfl (by omega) (by decide) | exact mo_in hS1 (c := 25) rfl (by omega) (by decide) | exact mo_in hS1 (c := 6) rfl (by omega) (by decide) | exact mo_in hS1 (c := 72) rfl (by omega) (by decide) | exact mo_in hS1 (c := 120) rfl (by omega) (by decide) | exact mo_in hS1 (c := 300) rfl (by omega) (by decide) | exact mo_in hS1 (c := 150) rfl (by omega) (by decide) | exact mo_in hS1 (c := 1800) rfl (by omega) (by decide)) ?_
      rw [nI_clamp (show 72 * t + j < 2 ^ 31 by omega)]
      refine tb_iinc_3 (1) d_Mo_record_161 rfl (by decide) (by decide) ?_
      refine tb_goto 138 d_Mo_record_164 (by decide) ?_
      rw [nI_1]
      exact ih (72 - (j + 1)) (by omega) (j + 1) rfl (by omega) _ (o1.trans (On.sI rfl)) (by rw [sI_at, hW]; exact sg2_st72 _ _ t _ hlt)
theorem lp_Mo_rc207 (hS : Sh M) (hk : k < 10) (ht : t < 25) {d rc rs : Nat} {Q : tb_O → tb_M → Prop} (hQ : ∀ M1 l3, On M M1 (fun q => q = 207) → tb_I M1 207 = sg2 6 (tb_I M 207) (tb_I M 208) t (0) 6 → tb_Wp E m_Mo_record d rc rs 218 [some (.inr 190), some (.inl (nI k)), some (.inl (nI t)), l3] [] M1 Q) : ∀ (m j : Nat), 6 - j = m → j ≤ 6 → ∀ M1, On M M1 (fun q => q = 207) → tb_I M1 207 = sg2 6 (tb_I M 207) (tb_I M 208) t (0) j → tb_Wp E m_Mo_record d rc rs 189 [some (.inr 190), some (.inl (nI k)), some (.inl (nI t)), some (.inl (nI j))] [] M1 Q := by
  intro m
  induction m using Nat.strongRecOn with
  | ind m ih =>
    intro j hm hj M1 o1 hW
    have hS1 := o1.sh hS
    refine tb_iload_3 d_Mo_record_189 rfl ?_
    refine tb_bipush (6) (by decide) d_Mo_record_190 rfl ?_
    refine tb_icmp_ge 218 d_Mo_record_192 (by decide) rfl (fun h192 => ?_) (fun h192 => ?_)
    · have hje : 6 ≤ j := (nI_leI (a := 6) (b := j) (by decide) (by omega)).mp h192
      have hje2 : j = 6 := by omega
      subst hje2
      exact hQ M1 _ o1 hW
    · have hlt : j < 6 := Nat.lt_of_not_le (fun q => h192 ((nI_leI (a := 6) (b := j) (by decide) (by omega)).mpr q))
      refine tb_aload_0 d_Mo_record_195 rfl ?_
      refine g_Mo_58 d_Mo_record_196 rfl rfl (by first | exact hS1.k rfl) ?_
      refine tb_topR (y := 207) (hS1.mr 20 (by decide)) ?_
      refine tb_bipush (6) (by decide) d_Mo_record_199 rfl ?_
      refine tb_iload_2 d_Mo_record_201 rfl ?_
      refine tb_imul d_Mo_record_202 rfl ?_
      refine tb_topI (show (6 : Int32) * nI t = nI (6 * (t)) from nI_mul 6 (t)) ?_
      refine tb_iload_3 d_Mo_record_203 rfl ?_
      refine tb_iadd d_Mo_record_204 rfl ?_
      rw [nI_add]
      refine tb_aload_0 d_Mo_record_205 rfl ?_
      refine g_Mo_61 d_Mo_record_206 rfl rfl (by first | exact hS1.k rfl) ?_
      refine tb_topR (y := 208) (hS1.mr 25 (by decide)) ?_
      refine tb_iload_3 d_Mo_record_209 rfl ?_
      refine tb_iaload d_Mo_record_210 rfl (by first | exact hS1.k rfl) (by first | exact mo_in hS1 (c := 12) rfl (by omega) (by decide) | exact mo_in hS1 (c := 10) rfl (by omega) (by decide) | exact mo_in hS1 (c := 25) rfl (by omega) (by decide) | exact mo_in hS1 (c := 6) rfl (by omega) (by decide) | exact mo_in hS1 (c := 72) rfl (by omega) (by decide) | exact mo_in hS1 (c := 120) rfl (by omega) (by decide) | exact mo_in hS1 (c := 300) rfl (by omega) (by decide) | exact mo_in hS1 (c := 150) rfl (by omega) (by decide) | exact mo_in hS1 (c := 1800) rfl (by omega) (by decide)) ?_
      refine tb_topI (y := tb_I M 208 (0 + j)) (by rw [nI_clamp (show j < 2 ^ 31 by omega)]; rw [o1.i (by decide), Nat.zero_add]) ?_
      refine tb_iastore d_Mo_record_211 rfl (by first | exact hS1.k rfl) (by first | exact mo_in hS1 (c := 12) rfl (by omega) (by decide) | exact mo_in hS1 (c := 10) rfl (by omega) (by decide) | exact mo_in hS1 (c := 25) rfl (by omega) (by decide) | exact mo_in hS1 (c := 6) rfl (by omega) (by decide) | exact mo_in hS1 (c := 72) rfl (by omega) (by decide) | exact mo_in hS1 (c := 120) rfl (by omega) (by decide) | exact mo_in hS1 (c := 300) rfl (by omega) (by decide) | exact mo_in hS1 (c := 150) rfl (by omega) (by decide) | exact mo_in hS1 (c := 1800) rfl (by omega) (by decide)) ?_
      rw [nI_clamp (show 6 * t + j < 2 ^ 31 by omega)]
      refine tb_iinc_3 (1) d_Mo_record_212 rfl (by decide) (by decide) ?_
      refine tb_goto 189 d_Mo_record_215 (by decide) ?_
      rw [nI_1]
      exact ih (6 - (j + 1)) (by omega) (j + 1) rfl (by omega) _ (o1.trans (On.sI rfl)) (by rw [sI_at, hW]; exact sg2_st6 _ _ t _ hlt)
theorem lp_Mo_rc203 (hS : Sh M) (hF : MFs M fs) (hk : k < 10) (ht : t < 25) {d rc rs : Nat} {Q : tb_O → tb_M → Prop} (hQ : ∀ M1 l3, On M M1 (fun q => q = 202 ∨ q = 203) → tb_I M1 203 = sg2 12 (tb_I M 203) (tb_I M 191) t 0 12 → tb_I M1 202 = va_up (tb_I M 202) t (msk (fun f => fs f ≠ none) 12) → tb_Wp E m_Mo_record d rc rs 136 [some (.inr 190), some (.inl (nI k)), some (.inl (nI t)), l3] [] M1 Q) : ∀ (m j : Nat), 12 - j = m → j ≤ 12 → ∀ M1, On M M1 (fun q => q = 202 ∨ q = 203) → tb_I M1 203 = sg2 12 (tb_I M 203) (tb_I M 191) t 0 j → tb_I M1 202 = va_up (tb_I M 202) t (msk (fun f => fs f ≠ none) j) → tb_Wp E m_Mo_record d rc rs 82 [some (.inr 190), some (.inl (nI k)), some (.inl (nI t)), some (.inl (nI j))] [] M1 Q := by
  intro m
  induction m using Nat.strongRecOn with
  | ind m ih =>
    intro j hm hj M1 o1 hW hV
    have hS1 := o1.sh hS
    have hF1 := hF.of (M1 := M1) (o1.i (by decide)) (o1.i (by decide))
    refine tb_iload_3 d_Mo_record_82 rfl ?_
    refine tb_bipush (12) (by decide) d_Mo_record_83 rfl ?_
    refine tb_icmp_ge 136 d_Mo_record_85 (by decide) rfl (fun h85 => ?_) (fun h85 => ?_)
    · have hje : 12 ≤ j := (nI_leI (a := 12) (b := j) (by decide) (by omega)).mp h85
      have hje2 : j = 12 := by omega
      subst hje2
      exact hQ M1 _ o1 hW hV
    · have hlt : j < 12 := Nat.lt_of_not_le (fun q => h85 ((nI_leI (a := 12) (b := j) (by omega) (by omega)).mpr q))
      have hle := hF.le hlt
      refine tb_aload_0 d_Mo_record_88 rfl ?_
      refine g_Mo_43 d_Mo_record_89 rfl rfl (by first | exact hS1.k rfl) ?_
      refine tb_topR (y := 202) (hS1.mr 15 (by decide)) ?_
      refine tb_iload_2 d_Mo_record_92 rfl ?_
      refine tb_dup2 d_Mo_record_93 rfl ?_
      refine tb_iaload d_Mo_record_94 rfl (by first | exact hS1.k rfl) (by first | exact mo_in hS1 (c := 12) rfl (by omega) (by decide) | exact mo_in hS1 (c := 10) rfl (by omega) (by decide) | exact mo_in hS1 (c := 25) rfl (by omega) (by decide) | exact mo_in hS1 (c := 6) rfl (by omega) (by decide) | exact mo_in hS1 (c := 72) rfl (by omega) (by decide) | exact mo_in hS1 (c := 120) rfl (by omega) (by decide) | exact mo_in hS1 (c := 300) rfl (by omega) (by decide) | exact mo_in hS1 (c := 150) rfl (by omega) (by decide) | exact mo_in hS1 (c := 1800) rfl (by omega) (by decide)) ?_
      refine tb_topI (y := msk (fun f => fs f ≠ none) j) (by rw [nI_clamp (show t < 2 ^ 31 by omega)]; rw [hV]; simp [va_up]) ?_
      refine tb_aload_0 d_Mo_record_95 rfl ?_
      refine g_Mo_7 d_Mo_record_96 rfl rfl (by first | exact hS1.k rfl) ?_
      refine tb_topR (y := 191) (hS1.mr 1 (by decide)) ?_
      refine tb_iload_3 d_Mo_record_99 rfl ?_
      refine tb_iaload d_Mo_record_100 rfl (by first | exact hS1.k rfl) (by first | exact mo_in hS1 (c := 12) rfl (by omega) (by decide) | exact mo_in hS1 (c := 10) rfl (by omega) (by decide) | exact mo_in hS1 (c := 25) rfl (by omega) (by decide) | exact mo_in hS1 (c := 6) rfl (by omega) (by decide) | exact mo_in hS1 (c := 72) rfl (by omega) (by decide) | exact mo_in hS1 (c := 120) rfl (by omega) (by decide) | exact mo_in hS1 (c := 300) rfl (by omega) (by decide) | exact mo_in hS1 (c := 150) rfl (by omega) (by decide) | exact mo_in hS1 (c := 1800) rfl (by omega) (by decide)) ?_
      refine tb_topI (y := szV (fs j)) (by rw [nI_clamp (show j < 2 ^ 31 by omega)]; exact hF1.sz hlt) ?_
      refine tb_if_lt 110 d_Mo_record_101 (by decide) rfl (fun h101 => ?_) (fun h101 => ?_)
      · have e : msk (fun f => fs f ≠ none) j ||| 0 = msk (fun f => fs f ≠ none) (j + 1) := by rw [msk_f (fun z => z ((sz_neg hle).mp h101))]; exact Int32.or_zero
        refine tb_iconst (0) (by decide) d_Mo_record_110 rfl ?_
        refine tb_ior d_Mo_record_111 rfl ?_
        refine tb_topI e ?_
        refine tb_iastore d_Mo_record_112 rfl (by first | exact hS1.k rfl) (by first | exact mo_in hS1 (c := 12) rfl (by omega) (by decide) | exact mo_in hS1 (c := 10) rfl (by omega) (by decide) | exact mo_in hS1 (c := 25) rfl (by omega) (by decide) | exact mo_in hS1 (c := 6) rfl (by omega) (by decide) | exact mo_in hS1 (c := 72) rfl (by omega) (by decide) | exact mo_in hS1 (c := 120) rfl (by omega) (by decide) | exact mo_in hS1 (c := 300) rfl (by omega) (by decide) | exact mo_in hS1 (c := 150) rfl (by omega) (by decide) | exact mo_in hS1 (c := 1800) rfl (by omega) (by decide)) ?_
        rw [nI_clamp (show t < 2 ^ 31 by omega)]
        refine tb_aload_0 d_Mo_record_113 rfl ?_
        refine g_Mo_46 d_Mo_record_114 rfl rfl (by first | exact hS1.k rfl) ?_
        refine tb_topR (y := 203) (hS1.mr 16 (by decide)) ?_
        refine tb_bipush (12) (by decide) d_Mo_record_117 rfl ?_
        refine tb_iload_2 d_Mo_record_119 rfl ?_
        refine tb_imul d_Mo_record_120 rfl ?_
        refine tb_topI (show (12 : Int32) * nI t = nI (12 * (t)) from nI_mul 12 (t)) ?_
        refine tb_iload_3 d_Mo_record_121 rfl ?_
        refine tb_iadd d_Mo_record_122 rfl ?_
        rw [nI_add]
        refine tb_aload_0 d_Mo_record_123 rfl ?_
        refine g_Mo_7 d_Mo_record_124 rfl rfl (by first | exact hS1.k rfl) ?_
        refine tb_topR (y := 191) (hS1.mr 1 (by decide)) ?_
        refine tb_iload_3 d_Mo_record_127 rfl ?_
        refine tb_iaload d_Mo_record_128 rfl (by first | exact hS1.k rfl) (by first | exact mo_in hS1 (c := 12) rfl (by omega) (by decide) | exact mo_in hS1 (c := 10) rfl (by omega) (by decide) | exact mo_in hS1 (c := 25) rfl (by omega) (by decide) | exact mo_in hS1 (c := 6) rfl (by omega) (by decide) | exact mo_in hS1 (c := 72) rfl (by omega) (by decide) | exact mo_in hS1 (c := 120) rfl (by omega) (by decide) | exact mo_in hS1 (c := 300) rfl (by omega) (by decide) | exact mo_in hS1 (c := 150) rfl (by omega) (by decide) | exact mo_in hS1 (c := 1800) rfl (by omega) (by decide)) ?_
        refine tb_topI (y := tb_I M 191 (0 + j)) (by rw [nI_clamp (show j < 2 ^ 31 by omega)]; rw [sI_of _ _ _ (by decide), o1.i (by decide), Nat.zero_add]) ?_
        refine tb_iastore d_Mo_record_129 rfl (by first | exact hS1.k rfl) (by first | exact mo_in hS1 (c := 12) rfl (by omega) (by decide) | exact mo_in hS1 (c := 10) rfl (by omega) (by decide) | exact mo_in hS1 (c := 25) rfl (by omega) (by decide) | exact mo_in hS1 (c := 6) rfl (by omega) (by decide) | exact mo_in hS1 (c := 72) rfl (by omega) (by decide) | exact mo_in hS1 (c := 120) rfl (by omega) (by decide) | exact mo_in hS1 (c := 300) rfl (by omega) (by decide) | exact mo_in hS1 (c := 150) rfl (by omega) (by decide) | exact mo_in hS1 (c := 1800) rfl (by omega) (by decide)) ?_
        rw [nI_clamp (show 12 * t + j < 2 ^ 31 by omega)]
        refine tb_iinc_3 (1) d_Mo_record_130 rfl (by decide) (by decide) ?_
        refine tb_goto 82 d_Mo_record_133 (by decide) ?_
        rw [nI_1]
        refine ih (12 - (j + 1)) (by omega) (j + 1) rfl (by omega) _ ((o1.trans (On.sI (Or.inl rfl))).trans (On.sI (Or.inr rfl))) (by rw [sI_at, sI_of _ _ _ (by decide), hW]; exact sg2_st12 _ _ t _ hlt) ?_
        rw [sI_of _ _ _ (by decide), sI_at, hV]
        funext p
        unfold va_up
        by_cases c : p = t
        · rw [if_pos c, if_pos c]
        · rw [if_neg c, if_neg c, if_neg c]
      · have e : msk (fun f => fs f ≠ none) j ||| ((1 : Int32) <<< (nI j &&& 31)) = msk (fun f => fs f ≠ none) (j + 1) := (msk_t (b := fun f => fs f ≠ none) (fun z => h101 ((sz_neg hle).mpr z))).symm
        refine tb_iconst (1) (by decide) d_Mo_record_104 rfl ?_
        refine tb_iload_3 d_Mo_record_105 rfl ?_
        refine tb_ishl d_Mo_record_106 rfl ?_
        refine tb_goto 111 d_Mo_record_107 (by decide) ?_
        refine tb_ior d_Mo_record_111 rfl ?_
        refine tb_topI e ?_
        refine tb_iastore d_Mo_record_112 rfl (by first | exact hS1.k rfl) (by first | exact mo_in hS1 (c := 12) rfl (by omega) (by decide) | exact mo_in hS1 (c := 10) rfl (by omega) (by decide) | exact mo_in hS1 (c := 25) rfl (by omega) (by decide) | exact mo_in hS1 (c := 6) rfl (by omega) (by decide) | exact mo_in hS1 (c := 72) rfl (by omega) (by decide) | exact mo_in hS1 (c := 120) rfl (by omega) (by decide) | exact mo_in hS1 (c := 300) rfl (by omega) (by decide) | exact mo_in hS1 (c := 150) rfl (by omega) (by decide) | exact mo_in hS1 (c := 1800) rfl (by omega) (by decide)) ?_
        rw [nI_clamp (show t < 2 ^ 31 by omega)]
        refine tb_aload_0 d_Mo_record_113 rfl ?_
        refine g_Mo_46 d_Mo_record_114 rfl rfl (by first | exact hS1.k rfl) ?_
        refine tb_topR (y := 203) (hS1.mr 16 (by decide)) ?_
        refine tb_bipush (12) (by decide) d_Mo_record_117 rfl ?_
        refine tb_iload_2 d_Mo_record_119 rfl ?_
        refine tb_imul d_Mo_record_120 rfl ?_
        refine tb_topI (show (12 : Int32) * nI t = nI (12 * (t)) from nI_mul 12 (t)) ?_
        refine tb_iload_3 d_Mo_record_121 rfl ?_
        refine tb_iadd d_Mo_record_122 rfl ?_
        rw [nI_add]
        refine tb_aload_0 d_Mo_record_123 rfl ?_
        refine g_Mo_7 d_Mo_record_124 rfl rfl (by first | exact hS1.k rfl) ?_
        refine tb_topR (y := 191) (hS1.mr 1 (by decide)) ?_
        refine tb_iload_3 d_Mo_record_127 rfl ?_
        refine tb_iaload d_Mo_record_128 rfl (by first | exact hS1.k rfl) (by first | exact mo_in hS1 (c := 12) rfl (by omega) (by decide) | exact mo_in hS1 (c := 10) rfl (by omega) (by decide) | exact mo_in hS1 (c := 25) rfl (by omega) (by decide) | exact mo_in hS1 (c := 6) rfl (by omega) (by decide) | exact mo_in hS1 (c := 72) rfl (by omega) (by decide) | exact mo_in hS1 (c := 120) rfl (by omega) (by decide) | exact mo_in hS1 (c := 300) rfl (by omega) (by decide) | exact mo_in hS1 (c := 150) rfl (by omega) (by decide) | exact mo_in hS1 (c := 1800) rfl (by omega) (by decide)) ?_
        refine tb_topI (y := tb_I M 191 (0 + j)) (by rw [nI_clamp (show j < 2 ^ 31 by omega)]; rw [sI_of _ _ _ (by decide), o1.i (by decide), Nat.zero_add]) ?_
        refine tb_iastore d_Mo_record_129 rfl (by first | exact hS1.k rfl) (by first | exact mo_in hS1 (c := 12) rfl (by omega) (by decide) | exact mo_in hS1 (c := 10) rfl (by omega) (by decide) | exact mo_in hS1 (c := 25) rfl (by omega) (by decide) | exact mo_in hS1 (c := 6) rfl (by omega) (by decide) | exact mo_in hS1 (c := 72) rfl (by omega) (by decide) | exact mo_in hS1 (c := 120) rfl (by omega) (by decide) | exact mo_in hS1 (c := 300) rfl (by omega) (by decide) | exact mo_in hS1 (c := 150) rfl (by omega) (by decide) | exact mo_in hS1 (c := 1800) rfl (by omega) (by decide)) ?_
        rw [nI_clamp (show 12 * t + j < 2 ^ 31 by omega)]
        refine tb_iinc_3 (1) d_Mo_record_130 rfl (by decide) (by decide) ?_
        refine tb_goto 82 d_Mo_record_133 (by decide) ?_
        rw [nI_1]
        refine ih (12 - (j + 1)) (by omega) (j + 1) rfl (by omega) _ ((o1.trans (On.sI (Or.inl rfl))).trans (On.sI (Or.inr rfl))) (by rw [sI_at, sI_of _ _ _ (by decide), hW]; exact sg2_st12 _ _ t _ hlt) ?_
        rw [sI_of _ _ _ (by decide), sI_at, hV]
        funext p
        unfold va_up
        by_cases c : p = t
        · rw [if_pos c, if_pos c]
        · rw [if_neg c, if_neg c, if_neg c]
end Mo14
