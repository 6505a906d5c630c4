/-! The reference: a trace is copied. -/
def seg (c : Nat) (A : Nat → Int32) (fr to j p : Nat) : Int32 := if c * to ≤ p ∧ p < c * to + j then A (c * fr + (p - c * to)) else A p
def SegP (M M1 : tb_M) (a c fr to j : Nat) : Prop := On M M1 (fun q => q = a) ∧ tb_I M1 a = seg c (tb_I M a) fr to j
theorem seg_0 (c : Nat) (A : Nat → Int32) (fr to : Nat) : A = seg c A fr to 0 := by
  funext p
  unfold seg
  rw [if_neg (by omega)]
/-- the trace at fr stands at to as well -/
def CpP (M M1 : tb_M) (fr to : Nat) : Prop := On M M1 (fun q => 198 ≤ q ∧ q < 208) ∧ (∀ q, q = 198 ∨ q = 200 ∨ q = 201 ∨ q = 202 ∨ q = 205 ∨ q = 206 → tb_I M1 q = va_up (tb_I M q) to (tb_I M q fr)) ∧ tb_I M1 199 = seg 12 (tb_I M 199) fr to 12 ∧ tb_I M1 203 = seg 12 (tb_I M 203) fr to 12 ∧ tb_I M1 204 = seg 72 (tb_I M 204) fr to 72 ∧ tb_I M1 207 = seg 6 (tb_I M 207) fr to 6
section Mo12
variable {E : tb_E} {M M1 : tb_M} {fr to : Nat}
theorem seg_at12 (A : Nat → Int32) (fr to : Nat) {j : Nat} (hj : j < 12) : seg 12 A fr to j (12 * fr + j) = A (12 * fr + j) := by
  unfold seg
  by_cases h : 12 * to ≤ 12 * fr + j ∧ 12 * fr + j < 12 * to + j
  · exfalso; omega
  · rw [if_neg h]
theorem seg_st12 (A : Nat → Int32) (fr to : Nat) {j : Nat} (hj : j < 12) : va_up (seg 12 A fr to j) (12 * to + j) (A (12 * fr + j)) = seg 12 A fr to (j + 1) := by
  funext p
  unfold va_up seg
  by_cases h : p = 12 * to + j
  · rw [if_pos h, if_pos (by omega), h, show 12 * to + j - 12 * to = j by omega]
  · rw [if_neg h]
    by_cases h2 : 12 * to ≤ p ∧ p < 12 * to + j
    · rw [if_pos h2, if_pos (by omega)]
    · rw [if_neg h2, if_neg (by omega)]
theorem seg_at72 (A : Nat → Int32) (fr to : Nat) {j : Nat} (hj : j < 72) : seg 72 A fr to j (72 * fr + j) = A (72 * fr + j) := by
  unfold seg
  by_cases h : 72 * to ≤ 72 * fr + j ∧ 72 * fr + j < 72 * to + j
  · exfalso; omega
  · rw [if_neg h]
theorem seg_st72 (A : Nat → Int32) (fr to : Nat) {j : Nat} (hj : j < 72) : va_up (seg 72 A fr to j) (72 * to + j) (A (72 * fr + j)) = seg 72 A fr to (j + 1) := by
  funext p
  unfold va_up seg
  by_cases h : p = 72 * to + j
  · rw [if_pos h, if_pos (by omega), h, show 72 * to + j - 72 * to = j by omega]
  · rw [if_neg h]
    by_cases h2 : 72 * to ≤ p ∧ p < 72 * to + j
    · rw [if_pos h2, if_pos (by omega)]
    · rw [if_neg h2, if_neg (by omega)]
theorem seg_at6 (A : Nat → Int32) (fr to : Nat) {j : Nat} (hj : j < 6) : seg 6 A fr to j (6 * fr + j) = A (6 * fr + j) := by
  unfold seg
  by_cases h : 6 * to ≤ 6 * fr + j ∧ 6 * fr + j < 6 * to + j
  · exfalso; omega
  · rw [if_neg h]
theorem seg_st6 (A : Nat → Int32) (fr to : Nat) {j : Nat} (hj : j < 6) : va_up (seg 6 A fr to j) (6 * to + j) (A (6 * fr + j)) = seg 6 A fr to (j + 1) := by
  funext p
  unfold va_up seg
  by_cases h : p = 6 * to + j
  · rw [if_pos h, if_pos (by omega), h, show 6 * to + j - 6 * to = j by omega]
  · rw [if_neg h]
    by_cases h2 : 6 * to ≤ p ∧ p < 6 * to + j
    · rw [if_pos h2, if_pos (by omega)]
    · rw [if_neg h2, if_neg (by omega)]
theorem lp_Mo_cp199 (hS : Sh M) (hfr : fr < 25) (hto : to < 25) {d rc rs : Nat} {Q : tb_O → tb_M → Prop} (hQ : ∀ M1 l3, SegP M M1 199 12 fr to 12 → tb_Wp E m_Mo_copyTrace d rc rs 108 [some (.inr 190), some (.inl (nI fr)), some (.inl (nI to)), l3] [] M1 Q) : ∀ (m j : Nat), 12 - j = m → j ≤ 12 → ∀ M1, SegP M M1 199 12 fr to j → tb_Wp E m_Mo_copyTrace d rc rs 74 [some (.inr 190), some (.inl (nI fr)), some (.inl (nI to)), some (.inl (nI j))] [] M1 Q := by
  intro m
  induction m using Nat.strongRecOn with
  | ind m ih =>
    intro j hm hj M1 hW
    have hS1 := hW.1.sh hS
    refine tb_iload_3 d_Mo_copyTrace_74 rfl ?_
    refine tb_bipush (12) (by decide) d_Mo_copyTrace_75 rfl ?_
    refine tb_icmp_ge 108 d_Mo_copyTrace_77 (by decide) rfl (fun h77 => ?_) (fun h77 => ?_)
    · have hje : 12 ≤ j := (nI_leI (a := 12) (b := j) (by decide) (by omega)).mp h77
      have hje2 : j = 12 := by omega
      subst hje2
      exact hQ M1 _ hW
    · have hlt : j < 12 := Nat.lt_of_not_le (fun q => h77 ((nI_leI (a := 12) (b := j) (by decide) (by omega)).mpr q))
      refine tb_aload_0 d_Mo_copyTrace_80 rfl ?_
      refine g_Mo_34 d_Mo_copyTrace_81 rfl rfl (by first | exact hS1.k rfl) ?_
      refine tb_topR (y := 199) (hS1.mr 12 (by decide)) ?_
      refine tb_bipush (12) (by decide) d_Mo_copyTrace_84 rfl ?_
      refine tb_iload_2 d_Mo_copyTrace_86 rfl ?_
      refine tb_imul d_Mo_copyTrace_87 rfl ?_
      refine tb_topI (show (12 : Int32) * nI to = nI (12 * (to)) from nI_mul 12 (to)) ?_
      refine tb_iload_3 d_Mo_copyTrace_88 rfl ?_
      refine tb_iadd d_Mo_copyTrace_89 rfl ?_
      rw [nI_add]
      refine tb_aload_0 d_Mo_copyTrace_90 rfl ?_
      refine g_Mo_34 d_Mo_copyTrace_91 rfl rfl (by first | exact hS1.k rfl) ?_
      refine tb_topR (y := 199) (hS1.mr 12 (by decide)) ?_
      refine tb_bipush (12) (by decide) d_Mo_copyTrace_94 rfl ?_
      refine tb_iload_1 d_Mo_copyTrace_96 rfl ?_
      refine tb_imul d_Mo_copyTrace_97 rfl ?_
      refine tb_topI (show (12 : Int32) * nI fr = nI (12 * (fr)) from nI_mul 12 (fr)) ?_
      refine tb_iload_3 d_Mo_copyTrace_98 rfl ?_
      refine tb_iadd d_Mo_copyTrace_99 rfl ?_
      rw [nI_add]
      refine tb_iaload d_Mo_copyTrace_100 rfl (by first | exact hS1.k rfl) (by first | exact mo_in hS1 (c := 12) rfl (by omega) (by decide) | exact mo_in hS1 (c := 10) rfl (by omega) (by decide) | exact mo_in hS1 (c := 25) rfl (by omega) (by decide) | exact mo_in hS1 (c := 6) rfl (by omega) (by decide) | exact mo_in hS1 (c := 72) rfl (by omega) (by decide) | exact mo_in hS1 (c := 120) rfl (by omega) (by decide) | exact mo_in hS1 (c := 300) rfl (by omega) (by decide) | exact mo_in hS1 (c := 150) rfl (by omega) (by decide) | exact mo_in hS1 (c := 1800) rfl (by omega) (by decide)) ?_
      refine tb_topI (y := tb_I M 199 (12 * fr + j)) (by rw [nI_clamp (show 12 * fr + j < 2 ^ 31 by omega)]; rw [hW.2]; exact seg_at12 _ fr to hlt) ?_
      refine tb_iastore d_Mo_copyTrace_101 rfl (by first | exact hS1.k rfl) (by first | exact mo_in hS1 (c := 12) rfl (by omega) (by decide) | exact mo_in hS1 (c := 10) rfl (by omega) (by decide) | exact mo_in hS1 (c := 25) rfl (by omega) (by decide) | exact mo_in hS1 (c := 6) rfl (by omega) (by decide) | exact mo_in hS1 (c := 72) rfl (by omega) (by decide) | exact mo_in hS1 (c := 120) rfl (by omega) (by decide) | exact mo_in hS1 (c := 300) rfl (by omega) (by decide) | exact mo_in hS1 (c := 150) rfl (by omega) (by decide) | exact mo_in hS1 (c := 1800) rfl (by omega) (by decide)) ?_
      rw [nI_clamp (show 12 * to + j < 2 ^ 31 by omega)]
      refine tb_iinc_3 (1) d_Mo_copyTrace_102 rfl (by decide) (by decide) ?_
      refine tb_goto 74 d_Mo_copyTrace_105 (by decide) ?_
      rw [nI_1]
      exact ih (12 - (j + 1)) (by omega) (j + 1) rfl (by omega) _ ⟨hW.1.trans (On.sI rfl), by rw [sI_at, hW.2]; exact seg_st12 _ fr to hlt⟩
theorem lp_Mo_cp203 (hS : Sh M) (hfr : fr < 25) (hto : to < 25) {d rc rs : Nat} {Q : tb_O → tb_M → Prop} (hQ : ∀ M1 l3, SegP M M1 203 12 fr to 12 → tb_Wp E m_Mo_copyTrace d rc rs 144 [some (.inr 190), some (.inl (nI fr)), some (.inl (nI to)), l3] [] M1 Q) : ∀ (m j : Nat), 12 - j = m → j ≤ 12 → ∀ M1, SegP M M1 203 12 fr to j → tb_Wp E m_Mo_copyTrace d rc rs 110 [some (.inr 190), some (.inl (nI fr)), some (.inl (nI to)), some (.inl (nI j))] [] M1 Q := by
  intro m
  induction m using Nat.strongRecOn with
  | ind m ih =>
    intro j hm hj M1 hW
    have hS1 := hW.1.sh hS
    refine tb_iload_3 d_Mo_copyTrace_110 rfl ?_
    refine tb_bipush (12) (by decide) d_Mo_copyTrace_111 rfl ?_
    refine tb_icmp_ge 144 d_Mo_copyTrace_113 (by decide) rfl (fun h113 => ?_) (fun h113 => ?_)
    · have hje : 12 ≤ j := (nI_leI (a := 12) (b := j) (by decide) (by omega)).mp h113
      have hje2 : j = 12 := by omega
      subst hje2
      exact hQ M1 _ hW
    · have hlt : j < 12 := Nat.lt_of_not_le (fun q => h113 ((nI_leI (a := 12) (b := j) (by decide) (by omega)).mpr q))
      refine tb_aload_0 d_Mo_copyTrace_116 rfl ?_
      refine g_Mo_46 d_Mo_copyTrace_117 rfl rfl (by first | exact hS1.k rfl) ?_
      refine tb_topR (y := 203) (hS1.mr 16 (by decide)) ?_
      refine tb_bipush (12) (by decide) d_Mo_copyTrace_120 rfl ?_
      refine tb_iload_2 d_Mo_copyTrace_122 rfl ?_
      refine tb_imul d_Mo_copyTrace_123 rfl ?_
      refine tb_topI (show (12 : Int32) * nI to = nI (12 * (to)) from nI_mul 12 (to)) ?_
      refine tb_iload_3 d_Mo_copyTrace_124 rfl ?_
      refine tb_iadd d_Mo_copyTrace_125 rfl ?_
      rw [nI_add]
      refine tb_aload_0 d_Mo_copyTrace_126 rfl ?_
      refine g_Mo_46 d_Mo_copyTrace_127 rfl rfl (by first | exact hS1.k rfl) ?_
      refine tb_topR (y := 203) (hS1.mr 16 (by decide)) ?_
      refine tb_bipush (12) (by decide) d_Mo_copyTrace_130 rfl ?_
      refine tb_iload_1 d_Mo_copyTrace_132 rfl ?_
      refine tb_imul d_Mo_copyTrace_133 rfl ?_
      refine tb_topI (show (12 : Int32) * nI fr = nI (12 * (fr)) from nI_mul 12 (fr)) ?_
      refine tb_iload_3 d_Mo_copyTrace_134 rfl ?_
      refine tb_iadd d_Mo_copyTrace_135 rfl ?_
      rw [nI_add]
      refine tb_iaload d_Mo_copyTrace_136 rfl (by first | exact hS1.k rfl) (by first | exact mo_in hS1 (c := 12) rfl (by omega) (by decide) | exact mo_in hS1 (c := 10) rfl (by omega) (by decide) | exact mo_in hS1 (c := 25) rfl (by omega) (by decide) | exact mo_in hS1 (c := 6) rfl (by omega) (by decide) | exact mo_in hS1 (c := 72) rfl (by omega) (by decide) | exact mo_in hS1 (c := 120) rfl (by omega) (by decide) | exact mo_in hS1 (c := 300) rfl (by omega) (by decide) | exact mo_in hS1 (c := 150) rfl (by omega) (by decide) | exact mo_in hS1 (c := 1800) rfl (by omega) (by decide)) ?_
      refine tb_topI (y := tb_I M 203 (12 * fr + j)) (by rw [nI_clamp (show 12 * fr + j < 2 ^ 31 by omega)]; rw [hW.2]; exact seg_at12 _ fr to hlt) ?_
      refine tb_iastore d_Mo_copyTrace_137 rfl (by first | exact hS1.k rfl) (by first | exact mo_in hS1 (c := 12) rfl (by omega) (by decide) | exact mo_in hS1 (c := 10) rfl (by omega) (by decide) | exact mo_in hS1 (c := 25) rfl (by omega) (by decide) | exact mo_in hS1 (c := 6) rfl (by omega) (by decide) | exact mo_in hS1 (c := 72) rfl (by omega) (by decide) | exact mo_in hS1 (c := 120) rfl (by omega) (by decide) | exact mo_in hS1 (c := 300) rfl (by omega) (by decide) | exact mo_in hS1 (c := 150) rfl (by omega) (by decide) | exact mo_in hS1 (c := 1800) rfl (by omega) (by decide)) ?_
      rw [nI_clamp (show 12 * to + j < 2 ^ 31 by omega)]
      refine tb_iinc_3 (1) d_Mo_copyTrace_138 rfl (by decide) (by decide) ?_
      refine tb_goto 110 d_Mo_copyTrace_141 (by decide) ?_
      rw [nI_1]
      exact ih (12 - (j + 1)) (by omega) (j + 1) rfl (by omega) _ ⟨hW.1.trans (On.sI rfl), by rw [sI_at, hW.2]; exact seg_st12 _ fr to hlt⟩
theorem lp_Mo_cp204 (hS : Sh M) (hfr : fr < 25) (hto : to < 25) {d rc rs : Nat} {Q : tb_O → tb_M → Prop} (hQ : ∀ M1 l3, SegP M M1 204 72 fr to 72 → tb_Wp E m_Mo_copyTrace d rc rs 180 [some (.inr 190), some (.inl (nI fr)), some (.inl (nI to)), l3] [] M1 Q) : ∀ (m j : Nat), 72 - j = m → j ≤ 72 → ∀ M1, SegP M M1 204 72 fr to j → tb_Wp E m_Mo_copyTrace d rc rs 146 [some (.inr 190), some (.inl (nI fr)), some (.inl (nI to)), some (.inl (nI j))] [] M1 Q := by
  intro m
  induction m using Nat.strongRecOn with
  | ind m ih =>
    intro j hm hj M1 hW
    have hS1 := hW.1.sh hS
    refine tb_iload_3 d_Mo_copyTrace_146 rfl ?_
    refine tb_bipush (72) (by decide) d_Mo_copyTrace_147 rfl ?_
    refine tb_icmp_ge 180 d_Mo_copyTrace_149 (by decide) rfl (fun h149 => ?_) (fun h149 => ?_)
    · have hje : 72 ≤ j := (nI_leI (a := 72) (b := j) (by decide) (by omega)).mp h149
      have hje2 : j = 72 := by omega
      subst hje2
      exact hQ M1 _ hW
    · have hlt : j < 72 := Nat.lt_of_not_le (fun q => h149 ((nI_leI (a := 72) (b := j) (by decide) (by omega)).mpr q))
      refine tb_aload_0 d_Mo_copyTrace_152 rfl ?_
      refine g_Mo_49 d_Mo_copyTrace_153 rfl rfl (by first | exact hS1.k rfl) ?_
      refine tb_topR (y := 204) (hS1.mr 17 (by decide)) ?_
      refine tb_bipush (72) (by decide) d_Mo_copyTrace_156 rfl ?_
      refine tb_iload_2 d_Mo_copyTrace_158 rfl ?_
      refine tb_imul d_Mo_copyTrace_159 rfl ?_
      refine tb_topI (show (72 : Int32) * nI to = nI (72 * (to)) from nI_mul 72 (to)) ?_
      refine tb_iload_3 d_Mo_copyTrace_160 rfl ?_
      refine tb_iadd d_Mo_copyTrace_161 rfl ?_
      rw [nI_add]
      refine tb_aload_0 d_Mo_copyTrace_162 rfl ?_
      refine g_Mo_49 d_Mo_copyTrace_163 rfl rfl (by first | exact hS1.k rfl) ?_
      refine tb_topR (y := 204) (hS1.mr 17 (by decide)) ?_
      refine tb_bipush (72) (by decide) d_Mo_copyTrace_166 rfl ?_
      refine tb_iload_1 d_Mo_copyTrace_168 rfl ?_
      refine tb_imul d_Mo_copyTrace_169 rfl ?_
      refine tb_topI (show (72 : Int32) * nI fr = nI (72 * (fr)) from nI_mul 72 (fr)) ?_
      refine tb_iload_3 d_Mo_copyTrace_170 rfl ?_
      refine tb_iadd d_Mo_copyTrace_171 rfl ?_
      rw [nI_add]
      refine tb_iaload d_Mo_copyTrace_172 rfl (by first | exact hS1.k rfl) (by first | exact mo_in hS1 (c := 12) rfl (by omega) (by decide) | exact mo_in hS1 (c := 10) rfl (by omega) (by decide) | exact mo_in hS1 (c := 25) rfl (by omega) (by decide) | exact mo_in hS1 (c := 6) rfl (by omega) (by decide) | exact mo_in hS1 (c := 72) rfl (by omega) (by decide) | exact mo_in hS1 (c := 120) rfl (by omega) (by decide) | exact mo_in hS1 (c := 300) rfl (by omega) (by decide) | exact mo_in hS1 (c := 150) rfl (by omega) (by decide) | exact mo_in hS1 (c := 1800) rfl (by omega) (by decide)) ?_
      refine tb_topI (y := tb_I M 204 (72 * fr + j)) (by rw [nI_clamp (show 72 * fr + j < 2 ^ 31 by omega)]; rw [hW.2]; exact seg_at72 _ fr to hlt) ?_
      refine tb_iastore d_Mo_copyTrace_173 rfl (by first | exact hS1.k rfl) (by first | exact mo_in hS1 (c := 12) rfl (by omega) (by decide) | exact mo_in hS1 (c := 10) rfl (by omega) (by decide) | exact mo_in hS1 (c := 25) rfl (by omega) (by decide) | exact mo_in hS1 (c := 6) rfl (by omega) (by decide) | exact mo_in hS1 (c := 72) rfl (by omega) (by decide) | exact mo_in hS1 (c := 120) rfl (by omega) (by decide) | exact mo_in hS1 (c := 300) rfl (by omega) (by decide) | exact mo_in hS1 (c := 150) rfl (by omega) (by decide) | exact mo_in hS1 (c := 1800) rfl (by omega) (by decide)) ?_
      rw [nI_clamp (show 72 * to + j < 2 ^ 31 by omega)]
      refine tb_iinc_3 (1) d_Mo_copyTrace_174 rfl (by decide) (by decide) ?_
      refine tb_goto 146 d_Mo_copyTrace_177 (by decide) ?_
      rw [nI_1]
      exact ih (72 - (j + 1)) (by omega) (j + 1) rfl (by omega) _ ⟨hW.1.trans (On.sI rfl), by rw [sI_at, hW.2]; exact seg_st72 _ fr to hlt⟩
theorem lp_Mo_cp207 (hS : Sh M) (hfr : fr < 25) (hto : to < 25) {d rc rs : Nat} {Q : tb_O → tb_M → Prop} (hQ : ∀ M1 l3, SegP M M1 207 6 fr to 6 → tb_Wp E m_Mo_copyTrace d rc rs 216 [some (.inr 190), some (.inl (nI fr)), some (.inl (nI to)), l3] [] M1 Q) : ∀ (m j : Nat), 6 - j = m → j ≤ 6 → ∀ M1, SegP M M1 207 6 fr to j → tb_Wp E m_Mo_copyTrace d rc rs 182 [some (.inr 190), some (.inl (nI fr)), some (.inl (nI to)), some (.inl (nI j))] [] M1 Q := by
  intro m
  induction m using Nat.strongRecOn with
  | ind m ih =>
    intro j hm hj M1 hW
    have hS1 := hW.1.sh hS
    refine tb_iload_3 d_Mo_copyTrace_182 rfl ?_
    refine tb_bipush (6) (by decide) d_Mo_copyTrace_183 rfl ?_
    refine tb_icmp_ge 216 d_Mo_copyTrace_185 (by decide) rfl (fun h185 => ?_) (fun h185 => ?_)
    · have hje : 6 ≤ j := (nI_leI (a := 6) (b := j) (by decide) (by omega)).mp h185
      have hje2 : j = 6 := by omega
      subst hje2
      exact hQ M1 _ hW
    · have hlt : j < 6 := Nat.lt_of_not_le (fun q => h185 ((nI_leI (a := 6) (b := j) (by decide) (by omega)).mpr q))
      refine tb_aload_0 d_Mo_copyTrace_188 rfl ?_
      refine g_Mo_58 d_Mo_copyTrace_189 rfl rfl (by first | exact hS1.k rfl) ?_
      refine tb_topR (y := 207) (hS1.mr 20 (by decide)) ?_
      refine tb_bipush (6) (by decide) d_Mo_copyTrace_192 rfl ?_
      refine tb_iload_2 d_Mo_copyTrace_194 rfl ?_
      refine tb_imul d_Mo_copyTrace_195 rfl ?_
      refine tb_topI (show (6 : Int32) * nI to = nI (6 * (to)) from nI_mul 6 (to)) ?_
      refine tb_iload_3 d_Mo_copyTrace_196 rfl ?_
      refine tb_iadd d_Mo_copyTrace_197 rfl ?_
      rw [nI_add]
      refine tb_aload_0 d_Mo_copyTrace_198 rfl ?_
      refine g_Mo_58 d_Mo_copyTrace_199 rfl rfl (by first | exact hS1.k rfl) ?_
      refine tb_topR (y := 207) (hS1.mr 20 (by decide)) ?_
      refine tb_bipush (6) (by decide) d_Mo_copyTrace_202 rfl ?_
      refine tb_iload_1 d_Mo_copyTrace_204 rfl ?_
      refine tb_imul d_Mo_copyTrace_205 rfl ?_
      refine tb_topI (show (6 : Int32) * nI fr = nI (6 * (fr)) from nI_mul 6 (fr)) ?_
      refine tb_iload_3 d_Mo_copyTrace_206 rfl ?_
      refine tb_iadd d_Mo_copyTrace_207 rfl ?_
      rw [nI_add]
      refine tb_iaload d_Mo_copyTrace_208 rfl (by first | exact hS1.k rfl) (by first | exact mo_in hS1 (c := 12) rfl (by omega) (by decide) | exact mo_in hS1 (c := 10) rfl (by omega) (by decide) | exact mo_in hS1 (c := 25) rfl (by omega) (by decide) | exact mo_in hS1 (c := 6) rfl (by omega) (by decide) | exact mo_in hS1 (c := 72) rfl (by omega) (by decide) | exact mo_in hS1 (c := 120) rfl (by omega) (by decide) | exact mo_in hS1 (c := 300) rfl (by omega) (by decide) | exact mo_in hS1 (c := 150) rfl (by omega) (by decide) | exact mo_in hS1 (c := 1800) rfl (by omega) (by decide)) ?_
      refine tb_topI (y := tb_I M 207 (6 * fr + j)) (by rw [nI_clamp (show 6 * fr + j < 2 ^ 31 by omega)]; rw [hW.2]; exact seg_at6 _ fr to hlt) ?_
      refine tb_iastore d_Mo_copyTrace_209 rfl (by first | exact hS1.k rfl) (by first | exact mo_in hS1 (c := 12) rfl (by omega) (by decide) | exact mo_in hS1 (c := 10) rfl (by omega) (by decide) | exact mo_in hS1 (c := 25) rfl (by omega) (by decide) | exact mo_in hS1 (c := 6) rfl (by omega) (by decide) | exact mo_in hS1 (c := 72) rfl (by omega) (by decide) | exact mo_in hS1 (c := 120) rfl (by omega) (by decide) | exact mo_in hS1 (c := 300) rfl (by omega) (by decide) | exact mo_in hS1 (c := 150) rfl (by omega) (by decide) | exact mo_in hS1 (c := 1800) rfl (by omega) (by decide)) ?_
      rw [nI_clamp (show 6 * to + j < 2 ^ 31 by omega)]
      refine tb_iinc_3 (1) d_Mo_copyTrace_210 rfl (by decide) (by decide) ?_
      refine tb_goto 182 d_Mo_copyTrace_213 (by decide) ?_
      rw [nI_1]
      exact ih (6 - (j + 1)) (by omega) (j + 1) rfl (by omega) _ ⟨hW.1.trans (On.sI rfl), by rw [sI_at, hW.2]; exact seg_st6 _ fr to hlt⟩
theorem ok_Mo_copy (hG : tb_G E) (hS : Sh M) (hfr : fr < 25) (hto : to < 25) (d : Nat) : tb_Rel E m_Mo_copyTrace d [.inr (.inl 190), .inl (nI fr), .inl (nI to)] M (fun v M1 => v = none ∧ CpP M M1 fr to) := by
  refine tb_okOf hG (by decide) rfl (Nat.le_of_ble_eq_true rfl) rfl ?_
  refine tb_aload_0 d_Mo_copyTrace_0 rfl ?_
  refine g_Mo_31 d_Mo_copyTrace_1 rfl rfl (by first | exact hS.k rfl) ?_
  refine tb_topR (y := 198) (hS.mr 11 (by decide)) ?_
  refine tb_iload_2 d_Mo_copyTrace_4 rfl ?_
  refine tb_aload_0 d_Mo_copyTrace_5 rfl ?_
  refine g_Mo_31 d_Mo_copyTrace_6 rfl rfl (by first | exact hS.k rfl) ?_
  refine tb_topR (y := 198) (hS.mr 11 (by decide)) ?_
  refine tb_iload_1 d_Mo_copyTrace_9 rfl ?_
  refine tb_iaload d_Mo_copyTrace_10 rfl (by first | exact hS.k rfl) (by first | exact mo_in hS (c := 12) rfl (by omega) (by decide) | exact mo_in hS (c := 10) rfl (by omega) (by decide) | exact mo_in hS (c := 25) rfl (by omega) (by decide) | exact mo_in hS (c := 6) rfl (by omega) (by decide) | exact mo_in hS (c := 72) rfl (by omega) (by decide) | exact mo_in hS (c := 120) rfl (by omega) (by decide) | exact mo_in hS (c := 300) rfl (by omega) (by decide) | exact mo_in hS (c := 150) rfl (by omega) (by decide) | exact mo_in hS (c := 1800) rfl (by omega) (by decide)) ?_
  refine tb_topI (y := tb_I M 198 fr) (by rw [nI_clamp (show fr < 2 ^ 31 by omega)]; first | rfl | (repeat rw [sI_of _ _ _ (by decide)])) ?_
  refine tb_iastore d_Mo_copyTrace_11 rfl (by first | exact hS.k rfl) (by first | exact mo_in hS (c := 12) rfl (by omega) (by decide) | exact mo_in hS (c := 10) rfl (by omega) (by decide) | exact mo_in hS (c := 25) rfl (by omega) (by decide) | exact mo_in hS (c := 6) rfl (by omega) (by decide) | exact mo_in hS (c := 72) rfl (by omega) (by decide) | exact mo_in hS (c := 120) rfl (by omega) (by decide) | exact mo_in hS (c := 300) rfl (by omega) (by decide) | exact mo_in hS (c := 150) rfl (by omega) (by decide) | exact mo_in hS (c := 1800) rfl (by omega) (by decide)) ?_
  rw [nI_clamp (show to < 2 ^ 31 by omega)]
  refine tb_aload_0 d_Mo_copyTrace_12 rfl ?_
  refine g_Mo_37 d_Mo_copyTrace_13 rfl rfl (by first | exact hS.k rfl) ?_
  refine tb_topR (y := 200) (hS.mr 13 (by decide)) ?_
  refine tb_iload_2 d_Mo_copyTrace_16 rfl ?_
  refine tb_aload_0 d_Mo_copyTrace_17 rfl ?_
  refine g_Mo_37 d_Mo_copyTrace_18 rfl rfl (by first | exact hS.k rfl) ?_
  refine tb_topR (y := 200) (hS.mr 13 (by decide)) ?_
  refine tb_iload_1 d_Mo_copyTrace_21 rfl ?_
  refine tb_iaload d_Mo_copyTrace_22 rfl (by first | exact hS.k rfl) (by first | exact mo_in hS (c := 12) rfl (by omega) (by decide) | exact mo_in hS (c := 10) rfl (by omega) (by decide) | exact mo_in hS (c := 25) rfl (by omega) (by decide) | exact mo_in hS (c := 6) rfl (by omega) (by decide) | exact mo_in hS (c := 72) rfl (by omega) (by decide) | exact mo_in hS (c := 120) rfl (by omega) (by decide) | exact mo_in hS (c := 300) rfl (by omega) (by decide) | exact mo_in hS (c := 150) rfl (by omega) (by decide) | exact mo_in hS (c := 1800) rfl (by omega) (by decide)) ?_
  refine tb_topI (y := tb_I M 200 fr) (by rw [nI_clamp (show fr < 2 ^ 31 by omega)]; first | rfl | (repeat rw [sI_of _ _ _ (by decide)])) ?_
  refine tb_iastore d_Mo_copyTrace_23 rfl (by first | exact hS.k rfl) (by first | exact mo_in hS (c := 12) rfl (by omega) (by decide) | exact mo_in hS (c := 10) rfl (by omega) (by decide) | exact mo_in hS (c := 25) rfl (by omega) (by decide) | exact mo_in hS (c := 6) rfl (by omega) (by decide) | exact mo_in hS (c := 72) rfl (by omega) (by decide) | exact mo_in hS (c := 120) rfl (by omega) (by decide) | exact mo_in hS (c := 300) rfl (by omega) (by decide) | exact mo_in hS (c := 150) rfl (by omega) (by decide) | exact mo_in hS (c := 1800) rfl (by omega) (by decide)) ?_
  rw [nI_clamp (show to < 2 ^ 31 by omega)]
  refine tb_aload_0 d_Mo_copyTrace_24 rfl ?_
  refine g_Mo_40 d_Mo_copyTrace_25 rfl rfl (by first | exact hS.k rfl) ?_
  refine tb_topR (y := 201) (hS.mr 14 (by decide)) ?_
  refine tb_iload_2 d_Mo_copyTrace_28 rfl ?_
  refine tb_aload_0 d_Mo_copyTrace_29 rfl ?_
  refine g_Mo_40 d_Mo_copyTrace_30 rfl rfl (by first | exact hS.k rfl) ?_
  refine tb_topR (y := 201) (hS.mr 14 (by decide)) ?_
  refine tb_iload_1 d_Mo_copyTrace_33 rfl ?_
  refine tb_iaload d_Mo_copyTrace_34 rfl (by first | exact hS.k rfl) (by first | exact mo_in hS (c := 12) rfl (by omega) (by decide) | exact mo_in hS (c := 10) rfl (by omega) (by decide) | exact mo_in hS (c := 25) rfl (by omega) (by decide) | exact mo_in hS (c := 6) rfl (by omega) (by decide) | exact mo_in hS (c := 72) rfl (by omega) (by decide) | exact mo_in hS (c := 120) rfl (by omega) (by decide) | exact mo_in hS (c := 300) rfl (by omega) (by decide) | exact mo_in hS (c := 150) rfl (by omega) (by decide) | exact mo_in hS (c := 1800) rfl (by omega) (by decide)) ?_
  refine tb_topI (y := tb_I M 201 fr) (by rw [nI_clamp (show fr < 2 ^ 31 by omega)]; first | rfl | (repeat rw [sI_of _ _ _ (by decide)])) ?_
  refine tb_iastore d_Mo_copyTrace_35 rfl (by first | exact hS.k rfl) (by first | exact mo_in hS (c := 12) rfl (by omega) (by decide) | exact mo_in hS (c := 10) rfl (by omega) (by decide) | exact mo_in hS (c := 25) rfl (by omega) (by decide) | exact mo_in hS (c := 6) rfl (by omega) (by decide) | exact mo_in hS (c := 72) rfl (by omega) (by decide) | exact mo_in hS (c := 120) rfl (by omega) (by decide) | exact mo_in hS (c := 300) rfl (by omega) (by decide) | exact mo_in hS (c := 150) rfl (by omega) (by decide) | exact mo_in hS (c := 1800) rfl (by omega) (by decide)) ?_
  rw [nI_clamp (show to < 2 ^ 31 by omega)]
  refine tb_aload_0 d_Mo_copyTrace_36 rfl ?_
  refine g_Mo_43 d_Mo_copyTrace_37 rfl rfl (by first | exact hS.k rfl) ?_
  refine tb_topR (y := 202) (hS.mr 15 (by decide)) ?_
  refine tb_iload_2 d_Mo_copyTrace_40 rfl ?_
  refine tb_aload_0 d_Mo_copyTrace_41 rfl ?_
  refine g_Mo_43 d_Mo_copyTrace_42 rfl rfl (by first | exact hS.k rfl) ?_
  refine tb_topR (y := 202) (hS.mr 15 (by decide)) ?_
  refine tb_iload_1 d_Mo_copyTrace_45 rfl ?_
  refine tb_iaload d_Mo_copyTrace_46 rfl (by first | exact hS.k rfl) (by first | exact mo_in hS (c := 12) rfl (by omega) (by decide) | exact mo_in hS (c := 10) rfl (by omega) (by decide) | exact mo_in hS (c := 25) rfl (by omega) (by decide) | exact mo_in hS (c := 6) rfl (by omega) (by decide) | exact mo_in hS (c := 72) rfl (by omega) (by decide) | exact mo_in hS (c := 120) rfl (by omega) (by decide) | exact mo_in hS (c := 300) rfl (by omega) (by decide) | exact mo_in hS (c := 150) rfl (by omega) (by decide) | exact mo_in hS (c := 1800) rfl (by omega) (by decide)) ?_
  refine tb_topI (y := tb_I M 202 fr) (by rw [nI_clamp (show fr < 2 ^ 31 by omega)]; first | rfl | (repeat rw [sI_of _ _ _ (by decide)])) ?_
  refine tb_iastore d_Mo_copyTrace_47 rfl (by first | exact hS.k rfl) (by first | exact mo_in hS (c := 12) rfl (by omega) (by decide) | exact mo_in hS (c := 10) rfl (by omega) (by decide) | exact mo_in hS (c := 25) rfl (by omega) (by decide) | exact mo_in hS (c := 6) rfl (by omega) (by decide) | exact mo_in hS (c := 72) rfl (by omega) (by decide) | exact mo_in hS (c := 120) rfl (by omega) (by decide) | exact mo_in hS (c := 300) rfl (by omega) (by decide) | exact mo_in hS (c := 150) rfl (by omega) (by decide) | exact mo_in hS (c := 1800) rfl (by omega) (by decide)) ?_
  rw [nI_clamp (show to < 2 ^ 31 by omega)]
  refine tb_aload_0 d_Mo_copyTrace_48 rfl ?_
  refine g_Mo_52 d_Mo_copyTrace_49 rfl rfl (by first | exact hS.k rfl) ?_
  refine tb_topR (y := 205) (hS.mr 18 (by decide)) ?_
  refine tb_iload_2 d_Mo_copyTrace_52 rfl ?_
  refine tb_aload_0 d_Mo_copyTrace_53 rfl ?_
  refine g_Mo_52 d_Mo_copyTrace_54 rfl rfl (by first | exact hS.k rfl) ?_
  refine tb_topR (y := 205) (hS.mr 18 (by decide)) ?_
  refine tb_iload_1 d_Mo_copyTrace_57 rfl ?_
  refine tb_iaload d_Mo_copyTrace_58 rfl (by first | exact hS.k rfl) (by first | exact mo_in hS (c := 12) rfl (by omega) (by decide) | exact mo_in hS (c := 10) rfl (by omega) (by decide) | exact mo_in hS (c := 25) rfl (by omega) (by decide) | exact mo_in hS (c := 6) rfl (by omega) (by decide) | exact mo_in hS (c := 72) rfl (by omega) (by decide) | exact mo_in hS (c := 120) rfl (by omega) (by decide) | exact mo_in hS (c := 300) rfl (by omega) (by decide) | exact mo_in hS (c := 150) rfl (by omega) (by decide) | exact mo_in hS (c := 1800) rfl (by omega) (by decide)) ?_
  refine tb_topI (y := tb_I M 205 fr) (by rw [nI_clamp (show fr < 2 ^ 31 by omega)]; first | rfl | (repeat rw [sI_of _ _ _ (by decide)])) ?_
  refine tb_iastore d_Mo_copyTrace_59 rfl (by first | exact hS.k rfl) (by first | exact mo_in hS (c := 12) rfl (by omega) (by decide) | exact mo_in hS (c := 10) rfl (by omega) (by decide) | exact mo_in hS (c := 25) rfl (by omega) (by decide) | exact mo_in hS (c := 6) rfl (by omega) (by decide) | exact mo_in hS (c := 72) rfl (by omega) (by decide) | exact mo_in hS (c := 120) rfl (by omega) (by decide) | exact mo_in hS (c := 300) rfl (by omega) (by decide) | exact mo_in hS (c := 150) rfl (by omega) (by decide) | exact mo_in hS (c := 1800) rfl (by omega) (by decide)) ?_
  rw [nI_clamp (show to < 2 ^ 31 by omega)]
  refine tb_aload_0 d_Mo_copyTrace_60 rfl ?_
  refine g_Mo_55 d_Mo_copyTrace_61 rfl rfl (by first | exact hS.k rfl) ?_
  refine tb_topR (y := 206) (hS.mr 19 (by decide)) ?_
  refine tb_iload_2 d_Mo_copyTrace_64 rfl ?_
  refine tb_aload_0 d_Mo_copyTrace_65 rfl ?_
  refine g_Mo_55 d_Mo_copyTrace_66 rfl rfl (by first | exact hS.k rfl) ?_
  refine tb_topR (y := 206) (hS.mr 19 (by decide)) ?_
  refine tb_iload_1 d_Mo_copyTrace_69 rfl ?_
  refine tb_iaload d_Mo_copyTrace_70 rfl (by first | exact hS.k rfl) (by first | exact mo_in hS (c := 12) rfl (by omega) (by decide) | exact mo_in hS (c := 10) rfl (by omega) (by decide) | exact mo_in hS (c := 25) rfl (by omega) (by decide) | exact mo_in hS (c := 6) rfl (by omega) (by decide) | exact mo_in hS (c := 72) rfl (by omega) (by decide) | exact mo_in hS (c := 120) rfl (by omega) (by decide) | exact mo_in hS (c := 300) rfl (by omega) (by decide) | exact mo_in hS (c := 150) rfl (by omega) (by decide) | exact mo_in hS (c := 1800) rfl (by omega) (by decide)) ?_
  refine tb_topI (y := tb_I M 206 fr) (by rw [nI_clamp (show fr < 2 ^ 31 by omega)]; first | rfl | (repeat rw [sI_of _ _ _ (by decide)])) ?_
  refine tb_iastore d_Mo_copyTrace_71 rfl (by first | exact hS.k rfl) (by first | exact mo_in hS (c := 12) rfl (by omega) (by decide) | exact mo_in hS (c := 10) rfl (by omega) (by decide) | exact mo_in hS (c := 25) rfl (by omega) (by decide) | exact mo_in hS (c := 6) rfl (by omega) (by decide) | exact mo_in hS (c := 72) rfl (by omega) (by decide) | exact mo_in hS (c := 120) rfl (by omega) (by decide) | exact mo_in hS (c := 300) rfl (by omega) (by decide) | exact mo_in hS (c := 150) rfl (by omega) (by decide) | exact mo_in hS (c := 1800) rfl (by omega) (by decide)) ?_
  rw [nI_clamp (show to < 2 ^ 31 by omega)]
  refine tb_iconst (0) (by decide) d_Mo_copyTrace_72 rfl ?_
  refine tb_istore_3 d_Mo_copyTrace_73 rfl (by decide) ?_
  have oA : On M (tb_sI (tb_sI (tb_sI (tb_sI (tb_sI (tb_sI M 198 to (tb_I M 198 fr)) 200 to (tb_I M 200 fr)) 201 to (tb_I M 201 fr)) 202 to (tb_I M 202 fr)) 205 to (tb_I M 205 fr)) 206 to (tb_I M 206 fr)) (fun q => q = 198 ∨ q = 200 ∨ q = 201 ∨ q = 202 ∨ q = 205 ∨ q = 206) := by
    refine (((((On.sI ?_).trans (On.sI ?_)).trans (On.sI ?_)).trans (On.sI ?_)).trans (On.sI ?_)).trans (On.sI ?_) <;> simp
  have vA : ∀ q, q = 198 ∨ q = 200 ∨ q = 201 ∨ q = 202 ∨ q = 205 ∨ q = 206 → tb_I (tb_sI (tb_sI (tb_sI (tb_sI (tb_sI (tb_sI M 198 to (tb_I M 198 fr)) 200 to (tb_I M 200 fr)) 201 to (tb_I M 201 fr)) 202 to (tb_I M 202 fr)) 205 to (tb_I M 205 fr)) 206 to (tb_I M 206 fr)) q = va_up (tb_I M q) to (tb_I M q fr) := by
    intro q hq
    rcases hq with rfl | rfl | rfl | rfl | rfl | rfl <;> (repeat (first | rw [sI_at] | rw [sI_of _ _ _ (by decide)]))
  generalize (tb_sI (tb_sI (tb_sI (tb_sI (tb_sI (tb_sI M 198 to (tb_I M 198 fr)) 200 to (tb_I M 200 fr)) 201 to (tb_I M 201 fr)) 202 to (tb_I M 202 fr)) 205 to (tb_I M 205 fr)) 206 to (tb_I M 206 fr)) = MA at oA vA
  have hSA := oA.sh hS
  refine lp_Mo_cp199 hSA hfr hto (fun MB l3 hB => ?_) 12 0 rfl (by omega) MA ⟨On.rf, seg_0 _ _ _ _⟩
  have hSB := hB.1.sh hSA
  refine tb_iconst (0) (by decide) d_Mo_copyTrace_108 rfl ?_
  refine tb_istore_3 d_Mo_copyTrace_109 rfl (by decide) ?_
  refine lp_Mo_cp203 hSB hfr hto (fun MC l3 hC => ?_) 12 0 rfl (by omega) MB ⟨On.rf, seg_0 _ _ _ _⟩
  have hSC := hC.1.sh hSB
  refine tb_iconst (0) (by decide) d_Mo_copyTrace_144 rfl ?_
  refine tb_istore_3 d_Mo_copyTrace_145 rfl (by decide) ?_
  refine lp_Mo_cp204 hSC hfr hto (fun MD l3 hD => ?_) 72 0 rfl (by omega) MC ⟨On.rf, seg_0 _ _ _ _⟩
  have hSD := hD.1.sh hSC
  refine tb_iconst (0) (by decide) d_Mo_copyTrace_180 rfl ?_
  refine tb_istore_3 d_Mo_copyTrace_181 rfl (by decide) ?_
  refine lp_Mo_cp207 hSD hfr hto (fun ME l3 hE => ?_) 6 0 rfl (by omega) MD ⟨On.rf, seg_0 _ _ _ _⟩
  refine tb_vreturn d_Mo_copyTrace_216 rfl ?_
  refine ⟨none, rfl, rfl, ?_, fun q hq => ?_, ?_, ?_, ?_, ?_⟩
  · exact ((((oA.mono (fun q hq => by omega)).trans (hB.1.mono (fun q hq => by omega))).trans (hC.1.mono (fun q hq => by omega))).trans (hD.1.mono (fun q hq => by omega))).trans (hE.1.mono (fun q hq => by omega))
  · rw [hE.1.i (by omega), hD.1.i (by omega), hC.1.i (by omega), hB.1.i (by omega)]; exact vA q hq
  · rw [hE.1.i (by omega), hD.1.i (by omega), hC.1.i (by omega), hB.2, oA.i (by omega)]
  · rw [hE.1.i (by omega), hD.1.i (by omega), hC.2, hB.1.i (by omega), oA.i (by omega)]
  · rw [hE.1.i (by omega), hD.2, hC.1.i (by omega), hB.1.i (by omega), oA.i (by omega)]
  · rw [hE.2, hD.1.i (by omega), hC.1.i (by omega), hB.1.i (by omega), oA.i (by omega)]
theorem CpP.at {x : TrV} (h : CpP M M1 fr to) (hT : MTr M fr x) : MTr M1 to x := by
  obtain ⟨h0, h1, h2, h3, h4, h5⟩ := h
  obtain ⟨⟨a1, a2, a3⟩, a4, a5, a6, a7, a8, a9, a10⟩ := hT
  have e : ∀ q, q = 198 ∨ q = 200 ∨ q = 201 ∨ q = 202 ∨ q = 205 ∨ q = 206 → tb_I M1 q to = tb_I M q fr := fun q hq => by rw [h1 q hq]; simp [va_up]
  have e3 : ∀ f, f < 12 → tb_I M1 203 (12 * to + f) = tb_I M 203 (12 * fr + f) := fun f hf => by
    rw [h3]; unfold seg; rw [if_pos (by omega), show 12 * to + f - 12 * to = f by omega]
  refine ⟨⟨by rw [e 198 (by omega)]; exact a1, a2, fun i hi => ?_⟩, by rw [e 200 (by omega)]; exact a4, by rw [e 201 (by omega)]; exact a5, by rw [e 202 (by omega)]; exact a6, fun f hf => ⟨by rw [e3 f hf]; exact (a7 f hf).1, ?_⟩, by rw [e 205 (by omega)]; exact a8, a9, fun z => ⟨by rw [e 206 (by omega)]; exact (a10 z).1, ?_⟩⟩
  · rw [h2]; unfold seg; rw [if_pos (by omega), show 12 * to + i - 12 * to = i by omega]; exact a3 i hi
  · rw [← (a7 f hf).2]
    refine pl_eq (M' := M) (s := 202) (s' := 202) (e3 f hf) (fun i hi => ?_) (by rw [show tb_I M1 (202 + 1) (12 * to + f) = _ from e3 f hf]; exact (a7 f hf).1)
    show tb_I M1 204 (6 * (12 * to + f) + i) = tb_I M 204 (6 * (12 * fr + f) + i)
    rw [h4]; unfold seg; rw [if_pos (by omega)]
    congr 1
    omega
  · rw [← (a10 z).2]
    refine pl_eq (M' := M) (s := 205) (s' := 205) (e 206 (by omega)) (fun i hi => ?_) (by rw [show tb_I M1 (205 + 1) to = _ from e 206 (by omega)]; exact (a10 z).1)
    show tb_I M1 207 (6 * to + i) = tb_I M 207 (6 * fr + i)
    rw [h5]; unfold seg; rw [if_pos (by omega), show 6 * to + i - 6 * to = i by omega]
theorem CpP.ne {x : TrV} {t : Nat} (h : CpP M M1 fr to) (hne : t ≠ to) (hT : MTr M t x) : MTr M1 t x := by
  obtain ⟨h0, h1, h2, h3, h4, h5⟩ := h
  obtain ⟨⟨a1, a2, a3⟩, a4, a5, a6, a7, a8, a9, a10⟩ := hT
  have e : ∀ q, q = 198 ∨ q = 200 ∨ q = 201 ∨ q = 202 ∨ q = 205 ∨ q = 206 → tb_I M1 q t = tb_I M q t := fun q hq => by rw [h1 q hq]; simp [va_up, hne]
  have e3 : ∀ f, f < 12 → tb_I M1 203 (12 * t + f) = tb_I M 203 (12 * t + f) := fun f hf => by
    rw [h3]; unfold seg; rw [if_neg (by omega)]
  refine ⟨⟨by rw [e 198 (by omega)]; exact a1, a2, fun i hi => ?_⟩, by rw [e 200 (by omega)]; exact a4, by rw [e 201 (by omega)]; exact a5, by rw [e 202 (by omega)]; exact a6, fun f hf => ⟨by rw [e3 f hf]; exact (a7 f hf).1, ?_⟩, by rw [e 205 (by omega)]; exact a8, a9, fun z => ⟨by rw [e 206 (by omega)]; exact (a10 z).1, ?_⟩⟩
  · rw [h2]; unfold seg; rw [if_neg (by omega)]; exact a3 i hi
  · rw [← (a7 f hf).2]
    refine pl_eq (M' := M) (s := 202) (s' := 202) (e3 f hf) (fun i hi => ?_) (by rw [show tb_I M1 (202 + 1) (12 * t + f) = _ from e3 f hf]; exact (a7 f hf).1)
    show tb_I M1 204 (6 * (12 * t + f) + i) = tb_I M 204 (6 * (12 * t + f) + i)
    rw [h4]; unfold seg; rw [if_neg (by omega)]
  · rw [← (a10 z).2]
    refine pl_eq (M' := M) (s := 205) (s' := 205) (e 206 (by omega)) (fun i hi => ?_) (by rw [show tb_I M1 (205 + 1) t = _ from e 206 (by omega)]; exact (a10 z).1)
    show tb_I M1 207 (6 * t + i) = tb_I M 207 (6 * t + i)
    rw [h5]; unfold seg; rw [if_neg (by omega)]
end Mo12
