/-! The reference: what is typed. -/
theorem nI_mul (a b : Nat) : nI a * nI b = nI (a * b) := by
  unfold nI
  rw [Int32.ofNat_mul]
theorem mo_in {M : tb_M} (hS : Sh M) {o c i : Nat} (hc : gL o = c) (h : i < c) (hb : c < 2 ^ 31) : vp_in (nI i) (tb_Ln M o) := by
  rw [hS.l hc]
  exact vp_in_nI h hb
theorem Sh.mr {M : tb_M} (h : Sh M) (j : Nat) (hj : gMo j ≠ 0) : tb_R M 190 j = gMo j := h.2.2.2.2.2.2.2 j hj
/-- what is typed, as the reference has it -/
def MHd (M : tb_M) (h : List Int32) : Prop := tb_I M 190 5 = nI h.length ∧ h.length ≤ 12 ∧ ∀ i, i < h.length → tb_I M 195 i = la h i
theorem la_out {h : List Int32} {i : Nat} (hi : h.length ≤ i) : la h i = 0 := by
  unfold la
  rw [List.getD_eq_getElem?_getD, List.getElem?_eq_none hi]
  rfl
theorem fOf_0 : fOf 0 = -1 := by decide
theorem fOf_in {x : Int32} (h : inI (x - 97) 12) : fOf x = x - 97 := by
  obtain ⟨j, hj, e⟩ := inI_n (by decide) h
  have hx : x = nI (97 + j) := by
    rw [← Int32.sub_add_cancel x 97, e]
    show nI j + nI 97 = _
    rw [nI_add, Nat.add_comm]
  unfold fOf
  rw [if_pos]
  rw [hx]
  exact ⟨nI_le (a := 97) (by omega) (by omega), nI_le (b := 108) (by omega) (by decide)⟩
theorem fOf_out {x : Int32} (h : ¬ inI (x - 97) 12) : fOf x = -1 := by
  refine Classical.byContradiction fun z => ?_
  obtain ⟨f, hf, e⟩ := fOf_n z
  unfold fOf at e z
  by_cases c : 97 ≤ x ∧ x ≤ 108
  · rw [if_pos c] at e
    rw [e] at h
    exact h (inI_of (by decide) hf)
  · rw [if_neg c] at z; exact z rfl
section Mo1
variable {E : tb_E} {M : tb_M} {h : List Int32}
theorem ok_Mo_isFile (hG : tb_G E) (x : Int32) (d : Nat) : tb_Ret E m_Mo_isFile d [.inl x] M (some (.inl (bI (inI x 12)))) M := by
  refine tb_okOf hG (by decide) rfl (Nat.le_of_ble_eq_true rfl) rfl ?_
  refine tb_iload_0 d_Mo_isFile_0 rfl ?_
  refine tb_if_lt 14 d_Mo_isFile_1 (by decide) rfl (fun h1 => ?_) (fun h1 => ?_)
  · rw [bI_f (show ¬ inI x 12 from fun z => Int32.not_lt.mpr z.1 h1)]
    refine tb_iconst (0) (by decide) d_Mo_isFile_14 rfl ?_
    refine tb_ireturn d_Mo_isFile_15 rfl (by first | rfl | assumption) ?_
    exact ⟨rfl, rfl⟩
  · refine tb_iload_0 d_Mo_isFile_4 rfl ?_
    refine tb_bipush (12) (by decide) d_Mo_isFile_5 rfl ?_
    refine tb_icmp_ge 14 d_Mo_isFile_7 (by decide) rfl (fun h7 => ?_) (fun h7 => ?_)
    · rw [bI_f (show ¬ inI x 12 from fun z => Int32.not_lt.mpr h7 z.2)]
      refine tb_iconst (0) (by decide) d_Mo_isFile_14 rfl ?_
      refine tb_ireturn d_Mo_isFile_15 rfl (by first | rfl | assumption) ?_
      exact ⟨rfl, rfl⟩
    · rw [bI_t (show inI x 12 from ⟨Int32.not_lt.mp h1, Int32.not_le.mp h7⟩)]
      refine tb_iconst (1) (by decide) d_Mo_isFile_10 rfl ?_
      refine tb_goto 15 d_Mo_isFile_11 (by decide) ?_
      refine tb_ireturn d_Mo_isFile_15 rfl (by first | rfl | assumption) ?_
      exact ⟨rfl, rfl⟩
theorem ok_Mo_fileAt (hG : tb_G E) (hS : Sh M) (hH : MHd M h) {j : Nat} (hj : j < 2 ^ 31) (d : Nat) : tb_Ret E m_Mo_fileAt (d + 1) [.inr (.inl 190), .inl (nI j)] M (some (.inl (fOf (la h j)))) M := by
  have h12 := hH.2.1
  refine tb_okOf hG (by decide) rfl (Nat.le_of_ble_eq_true rfl) rfl ?_
  refine tb_iload_1 d_Mo_fileAt_0 rfl ?_
  refine tb_aload_0 d_Mo_fileAt_1 rfl ?_
  refine g_Mo_93 d_Mo_fileAt_2 rfl rfl (by first | exact hS.k rfl) ?_
  refine tb_topI hH.1 ?_
  refine tb_icmp_ge 20 d_Mo_fileAt_5 (by decide) rfl (fun h5 => ?_) (fun h5 => ?_)
  · have hje : h.length ≤ j := (nI_leI (a := h.length) (b := j) (by omega) hj).mp h5
    have e : fOf (la h j) = -1 := by rw [la_out hje]; exact fOf_0
    refine tb_iconst (-1) (by decide) d_Mo_fileAt_20 rfl ?_
    refine tb_istore_2 d_Mo_fileAt_21 rfl (by decide) ?_
    refine tb_iload_2 d_Mo_fileAt_22 rfl ?_
    refine tb_callSr c_Mo_96 d_Mo_fileAt_23 rfl rfl rfl (Nat.le_of_ble_eq_true rfl) (ok_Mo_isFile hG _ d) ?_
    refine tb_if_eq 33 d_Mo_fileAt_26 (by decide) rfl (fun h26 => ?_) (fun h26 => ?_)
    · refine tb_iconst (-1) (by decide) d_Mo_fileAt_33 rfl ?_
      refine tb_ireturn d_Mo_fileAt_34 rfl (by first | rfl | assumption) ?_
      rw [e]
      exact ⟨rfl, rfl⟩
    · exact absurd (bI_f (fun z => absurd z.1 (by decide))) h26
  · have hlt : j < h.length := Nat.lt_of_not_le (fun q => h5 ((nI_leI (a := h.length) (b := j) (by omega) hj).mpr q))
    refine tb_aload_0 d_Mo_fileAt_8 rfl ?_
    refine g_Mo_22 d_Mo_fileAt_9 rfl rfl (by first | exact hS.k rfl) ?_
    refine tb_topR (y := 195) (hS.mr 6 (by decide)) ?_
    refine tb_iload_1 d_Mo_fileAt_12 rfl ?_
    refine tb_iaload d_Mo_fileAt_13 rfl (by first | exact hS.k rfl) (by first | exact mo_in hS (c := 12) rfl (by omega) (by decide) | exact mo_in hS (c := 10) rfl (by omega) (by decide) | exact mo_in hS (c := 25) rfl (by omega) (by decide) | exact mo_in hS (c := 6) rfl (by omega) (by decide) | exact mo_in hS (c := 72) rfl (by omega) (by decide) | exact mo_in hS (c := 120) rfl (by omega) (by decide) | exact mo_in hS (c := 300) rfl (by omega) (by decide) | exact mo_in hS (c := 150) rfl (by omega) (by decide) | exact mo_in hS (c := 1800) rfl (by omega) (by decide)) ?_
    refine tb_topI (y := la h j) (by rw [nI_clamp hj]; exact hH.2.2 j hlt) ?_
    refine tb_bipush (97) (by decide) d_Mo_fileAt_14 rfl ?_
    refine tb_isub d_Mo_fileAt_16 rfl ?_
    refine tb_goto 21 d_Mo_fileAt_17 (by decide) ?_
    refine tb_istore_2 d_Mo_fileAt_21 rfl (by decide) ?_
    refine tb_iload_2 d_Mo_fileAt_22 rfl ?_
    refine tb_callSr c_Mo_96 d_Mo_fileAt_23 rfl rfl rfl (Nat.le_of_ble_eq_true rfl) (ok_Mo_isFile hG _ d) ?_
    refine tb_if_eq 33 d_Mo_fileAt_26 (by decide) rfl (fun h26 => ?_) (fun h26 => ?_)
    · rw [fOf_out (bI_0.mp h26)]
      refine tb_iconst (-1) (by decide) d_Mo_fileAt_33 rfl ?_
      refine tb_ireturn d_Mo_fileAt_34 rfl (by first | rfl | assumption) ?_
      exact ⟨rfl, rfl⟩
    · rw [fOf_in (Classical.not_not.mp (fun z => h26 (bI_f z)))]
      refine tb_iload_2 d_Mo_fileAt_29 rfl ?_
      refine tb_goto 34 d_Mo_fileAt_30 (by decide) ?_
      refine tb_ireturn d_Mo_fileAt_34 rfl (by first | rfl | assumption) ?_
      exact ⟨rfl, rfl⟩
theorem dOf_iff {x : Int32} : dOf x ≠ -1 ↔ 49 ≤ x ∧ x ≤ 57 := by
  unfold dOf
  by_cases c : 49 ≤ x ∧ x ≤ 57
  · rw [if_pos c]
    refine ⟨fun _ => c, fun _ z => ?_⟩
    have hx : x = 47 := by rw [← Int32.sub_add_cancel x 48, z]; decide
    rw [hx] at c
    exact absurd c.1 (by decide)
  · rw [if_neg c]
    exact ⟨fun z => absurd rfl z, fun z => absurd z c⟩
theorem ok_Mo_isDigit (hG : tb_G E) (hS : Sh M) (hH : MHd M h) {j : Nat} (hj : j < 2 ^ 31) (d : Nat) : tb_Ret E m_Mo_isDigit d [.inr (.inl 190), .inl (nI j)] M (some (.inl (bI (dOf (la h j) ≠ -1)))) M := by
  have h12 := hH.2.1
  refine tb_okOf hG (by decide) rfl (Nat.le_of_ble_eq_true rfl) rfl ?_
  refine tb_iload_1 d_Mo_isDigit_0 rfl ?_
  refine tb_aload_0 d_Mo_isDigit_1 rfl ?_
  refine g_Mo_93 d_Mo_isDigit_2 rfl rfl (by first | exact hS.k rfl) ?_
  refine tb_topI hH.1 ?_
  refine tb_icmp_ge 34 d_Mo_isDigit_5 (by decide) rfl (fun h5 => ?_) (fun h5 => ?_)
  · have hje : h.length ≤ j := (nI_leI (a := h.length) (b := j) (by omega) hj).mp h5
    rw [bI_f (show ¬ dOf (la h j) ≠ -1 by rw [la_out hje]; decide)]
    refine tb_iconst (0) (by decide) d_Mo_isDigit_34 rfl ?_
    refine tb_ireturn d_Mo_isDigit_35 rfl (by first | rfl | assumption) ?_
    exact ⟨rfl, rfl⟩
  · have hlt : j < h.length := Nat.lt_of_not_le (fun q => h5 ((nI_leI (a := h.length) (b := j) (by omega) hj).mpr q))
    refine tb_aload_0 d_Mo_isDigit_8 rfl ?_
    refine g_Mo_22 d_Mo_isDigit_9 rfl rfl (by first | exact hS.k rfl) ?_
    refine tb_topR (y := 195) (hS.mr 6 (by decide)) ?_
    refine tb_iload_1 d_Mo_isDigit_12 rfl ?_
    refine tb_iaload d_Mo_isDigit_13 rfl (by first | exact hS.k rfl) (by first | exact mo_in hS (c := 12) rfl (by omega) (by decide) | exact mo_in hS (c := 10) rfl (by omega) (by decide) | exact mo_in hS (c := 25) rfl (by omega) (by decide) | exact mo_in hS (c := 6) rfl (by omega) (by decide) | exact mo_in hS (c := 72) rfl (by omega) (by decide) | exact mo_in hS (c := 120) rfl (by omega) (by decide) | exact mo_in hS (c := 300) rfl (by omega) (by decide) | exact mo_in hS (c := 150) rfl (by omega) (by decide) | exact mo_in hS (c := 1800) rfl (by omega) (by decide)) ?_
    refine tb_topI (y := la h j) (by rw [nI_clamp hj]; exact hH.2.2 j hlt) ?_
    refine tb_bipush (49) (by decide) d_Mo_isDigit_14 rfl ?_
    refine tb_icmp_lt 34 d_Mo_isDigit_16 (by decide) rfl (fun h16 => ?_) (fun h16 => ?_)
    · rw [bI_f (fun z => Int32.not_lt.mpr (dOf_iff.mp z).1 h16)]
      refine tb_iconst (0) (by decide) d_Mo_isDigit_34 rfl ?_
      refine tb_ireturn d_Mo_isDigit_35 rfl (by first | rfl | assumption) ?_
      exact ⟨rfl, rfl⟩
    · refine tb_aload_0 d_Mo_isDigit_19 rfl ?_
      refine g_Mo_22 d_Mo_isDigit_20 rfl rfl (by first | exact hS.k rfl) ?_
      refine tb_topR (y := 195) (hS.mr 6 (by decide)) ?_
      refine tb_iload_1 d_Mo_isDigit_23 rfl ?_
      refine tb_iaload d_Mo_isDigit_24 rfl (by first | exact hS.k rfl) (by first | exact mo_in hS (c := 12) rfl (by omega) (by decide) | exact mo_in hS (c := 10) rfl (by omega) (by decide) | exact mo_in hS (c := 25) rfl (by omega) (by decide) | exact mo_in hS (c := 6) rfl (by omega) (by decide) | exact mo_in hS (c := 72) rfl (by omega) (by decide) | exact mo_in hS (c := 120) rfl (by omega) (by decide) | exact mo_in hS (c := 300) rfl (by omega) (by decide) | exact mo_in hS (c := 150) rfl (by omega) (by decide) | exact mo_in hS (c := 1800) rfl (by omega) (by decide)) ?_
      refine tb_topI (y := la h j) (by rw [nI_clamp hj]; exact hH.2.2 j hlt) ?_
      refine tb_bipush (57) (by decide) d_Mo_isDigit_25 rfl ?_
      refine tb_icmp_gt 34 d_Mo_isDigit_27 (by decide) rfl (fun h27 => ?_) (fun h27 => ?_)
      · rw [bI_f (fun z => Int32.not_lt.mpr (dOf_iff.mp z).2 h27)]
        refine tb_iconst (0) (by decide) d_Mo_isDigit_34 rfl ?_
        refine tb_ireturn d_Mo_isDigit_35 rfl (by first | rfl | assumption) ?_
        exact ⟨rfl, rfl⟩
      · rw [bI_t (dOf_iff.mpr ⟨Int32.not_lt.mp h16, Int32.not_lt.mp h27⟩)]
        refine tb_iconst (1) (by decide) d_Mo_isDigit_30 rfl ?_
        refine tb_goto 35 d_Mo_isDigit_31 (by decide) ?_
        refine tb_ireturn d_Mo_isDigit_35 rfl (by first | rfl | assumption) ?_
        exact ⟨rfl, rfl⟩
theorem fOf_ge {x : Int32} : fOf x < 0 ↔ fOf x = -1 := by
  constructor
  · intro z
    refine Classical.byContradiction fun q => ?_
    obtain ⟨f, hf, e⟩ := fOf_n q
    rw [e] at z
    exact nI_pos (by omega) z
  · intro z; rw [z]; decide
theorem lp_Mo_files (hG : tb_G E) (hS : Sh M) (hH : MHd M h) {i mm : Nat} (hi : i ≤ 64) (hm : mm ≤ 4) {d rc rs : Nat} {Q : tb_O → tb_M → Prop} (hQ : Q (.inl (some (.inl (bI (filesP (la h) h.length i mm))))) M) : ∀ (m j : Nat), i + mm - j = m → i ≤ j → j ≤ i + mm → tb_Wp E m_Mo_files (d + 2) rc rs 19 [some (.inr 190), some (.inl (nI i)), some (.inl (nI mm)), some (.inl (bI (h.length = i + mm ∧ ∀ k, i ≤ k → k < j → fOf (la h k) ≠ -1))), some (.inl (nI j))] [] M Q := by
  intro m
  induction m using Nat.strongRecOn with
  | ind m ih =>
    intro j hm' hij hj
    refine tb_iload_4 d_Mo_files_19 rfl ?_
    refine tb_iload_1 d_Mo_files_21 rfl ?_
    refine tb_iload_2 d_Mo_files_22 rfl ?_
    refine tb_iadd d_Mo_files_23 rfl ?_
    rw [nI_add]
    refine tb_icmp_ge 52 d_Mo_files_24 (by decide) rfl (fun h24 => ?_) (fun h24 => ?_)
    · have hje : i + mm ≤ j := (nI_leI (a := i + mm) (b := j) (by omega) (by omega)).mp h24
      have hje2 : j = i + mm := by omega
      refine tb_iload_3 d_Mo_files_52 rfl ?_
      refine tb_ireturn d_Mo_files_53 rfl (by exact bI_nar _) ?_
      have hq : bI (h.length = i + mm ∧ ∀ k, i ≤ k → k < j → fOf (la h k) ≠ -1) = bI (filesP (la h) h.length i mm) := bI_iff (by
        unfold filesP
        constructor
        · rintro ⟨a, b⟩; exact ⟨a, fun k c e => b k c (by omega)⟩
        · rintro ⟨a, b⟩; exact ⟨a, fun k c e => b k c (by omega)⟩)
      rw [hq]
      exact hQ
    · have hlt : j < i + mm := Nat.lt_of_not_le (fun q => h24 ((nI_leI (a := i + mm) (b := j) (by omega) (by omega)).mpr q))
      refine tb_iload_3 d_Mo_files_27 rfl ?_
      refine tb_if_eq 44 d_Mo_files_28 (by decide) rfl (fun h28 => ?_) (fun h28 => ?_)
      · have e : bI (h.length = i + mm ∧ ∀ k, i ≤ k → k < j + 1 → fOf (la h k) ≠ -1) = 0 := bI_f (fun z => bI_0.mp h28 ⟨z.1, fun k a b => z.2 k a (by omega)⟩)
        refine tb_iconst (0) (by decide) d_Mo_files_44 rfl ?_
        refine tb_topI (y := bI (h.length = i + mm ∧ ∀ k, i ≤ k → k < j + 1 → fOf (la h k) ≠ -1)) e.symm ?_
        refine tb_istore_3 d_Mo_files_45 rfl (by decide) ?_
        refine tb_iinc_4 (1) d_Mo_files_46 rfl (by decide) (by decide) ?_
        refine tb_goto 19 d_Mo_files_49 (by decide) ?_
        rw [nI_1]
        exact ih (i + mm - (j + 1)) (by omega) (j + 1) rfl (by omega) (by omega)
      · have hg := Classical.not_not.mp (fun z => h28 (bI_f z))
        refine tb_aload_0 d_Mo_files_31 rfl ?_
        refine tb_iload_4 d_Mo_files_32 rfl ?_
        refine tb_callVr c_Mo_100 d_Mo_files_34 rfl rfl rfl (Nat.le_of_ble_eq_true rfl) (by first | exact hS.k rfl) (ok_Mo_fileAt hG hS hH (j := j) (by omega) d) ?_
        refine tb_if_lt 44 d_Mo_files_37 (by decide) rfl (fun h37 => ?_) (fun h37 => ?_)
        · have e : bI (h.length = i + mm ∧ ∀ k, i ≤ k → k < j + 1 → fOf (la h k) ≠ -1) = 0 := bI_f (fun z => z.2 j hij (by omega) (fOf_ge.mp h37))
          refine tb_iconst (0) (by decide) d_Mo_files_44 rfl ?_
          refine tb_topI (y := bI (h.length = i + mm ∧ ∀ k, i ≤ k → k < j + 1 → fOf (la h k) ≠ -1)) e.symm ?_
          refine tb_istore_3 d_Mo_files_45 rfl (by decide) ?_
          refine tb_iinc_4 (1) d_Mo_files_46 rfl (by decide) (by decide) ?_
          refine tb_goto 19 d_Mo_files_49 (by decide) ?_
          rw [nI_1]
          exact ih (i + mm - (j + 1)) (by omega) (j + 1) rfl (by omega) (by omega)
        · have e : bI (h.length = i + mm ∧ ∀ k, i ≤ k → k < j + 1 → fOf (la h k) ≠ -1) = 1 := bI_t ⟨hg.1, fun k a b => by
            by_cases c : k = j
            · subst c; exact fun z => h37 (fOf_ge.mpr z)
            · exact hg.2 k a (by omega)⟩
          refine tb_iconst (1) (by decide) d_Mo_files_40 rfl ?_
          refine tb_goto 45 d_Mo_files_41 (by decide) ?_
          refine tb_topI (y := bI (h.length = i + mm ∧ ∀ k, i ≤ k → k < j + 1 → fOf (la h k) ≠ -1)) e.symm ?_
          refine tb_istore_3 d_Mo_files_45 rfl (by decide) ?_
          refine tb_iinc_4 (1) d_Mo_files_46 rfl (by decide) (by decide) ?_
          refine tb_goto 19 d_Mo_files_49 (by decide) ?_
          rw [nI_1]
          exact ih (i + mm - (j + 1)) (by omega) (j + 1) rfl (by omega) (by omega)
theorem ok_Mo_files (hG : tb_G E) (hS : Sh M) (hH : MHd M h) {i mm : Nat} (hi : i ≤ 64) (hm : mm ≤ 4) (d : Nat) : tb_Ret E m_Mo_files (d + 2) [.inr (.inl 190), .inl (nI i), .inl (nI mm)] M (some (.inl (bI (filesP (la h) h.length i mm)))) M := by
  have h12 := hH.2.1
  refine tb_okOf hG (by decide) rfl (Nat.le_of_ble_eq_true rfl) rfl ?_
  refine tb_aload_0 d_Mo_files_0 rfl ?_
  refine g_Mo_93 d_Mo_files_1 rfl rfl (by first | exact hS.k rfl) ?_
  refine tb_topI hH.1 ?_
  refine tb_iload_1 d_Mo_files_4 rfl ?_
  refine tb_iload_2 d_Mo_files_5 rfl ?_
  refine tb_iadd d_Mo_files_6 rfl ?_
  rw [nI_add]
  refine tb_icmp_ne 14 d_Mo_files_7 (by decide) rfl (fun h7 => ?_) (fun h7 => ?_)
  · have e : bI (h.length = i + mm ∧ ∀ k, i ≤ k → k < i → fOf (la h k) ≠ -1) = 0 := bI_f (fun z => h7 (by rw [z.1]))
    refine tb_iconst (0) (by decide) d_Mo_files_14 rfl ?_
    refine tb_topI (y := bI (h.length = i + mm ∧ ∀ k, i ≤ k → k < i → fOf (la h k) ≠ -1)) e.symm ?_
    refine tb_istore_3 d_Mo_files_15 rfl (by decide) ?_
    refine tb_iload_1 d_Mo_files_16 rfl ?_
    refine tb_istore_4 d_Mo_files_17 rfl (by decide) ?_
    exact lp_Mo_files hG hS hH hi hm ⟨rfl, rfl⟩ mm i (by omega) (Nat.le_refl _) (by omega)
  · have e : bI (h.length = i + mm ∧ ∀ k, i ≤ k → k < i → fOf (la h k) ≠ -1) = 1 := bI_t ⟨(nI_eq (by omega) (by omega)).mp h7, fun k a b => absurd b (by omega)⟩
    refine tb_iconst (1) (by decide) d_Mo_files_10 rfl ?_
    refine tb_goto 15 d_Mo_files_11 (by decide) ?_
    refine tb_topI (y := bI (h.length = i + mm ∧ ∀ k, i ≤ k → k < i → fOf (la h k) ≠ -1)) e.symm ?_
    refine tb_istore_3 d_Mo_files_15 rfl (by decide) ?_
    refine tb_iload_1 d_Mo_files_16 rfl ?_
    refine tb_istore_4 d_Mo_files_17 rfl (by decide) ?_
    exact lp_Mo_files hG hS hH hi hm ⟨rfl, rfl⟩ mm i (by omega) (Nat.le_refl _) (by omega)
theorem dig_iff {a : Nat → Int32} {n i m : Nat} (hm : m ≤ 5) (hd : ∀ k, k < m → dOf (a (i + k)) ≠ -1) (hx : m = 5 ∨ ¬ dOf (a (i + m)) ≠ -1) : digsP a n i ↔ (1 ≤ m ∧ m ≤ 4 ∧ filesP a n (i + m) 1) := by
  constructor
  · rintro ⟨h1, h2, h3, h4⟩
    have hnd : ¬ dOf (a (n - 1)) ≠ -1 := fun z => by
      have z1 := dOf_iff.mp z
      obtain ⟨f, hf, e⟩ := fOf_n h4
      unfold fOf at e
      by_cases c : 97 ≤ a (n - 1) ∧ a (n - 1) ≤ 108
      · exact absurd (Int32.le_trans c.1 z1.2) (by decide)
      · rw [if_neg c] at e; exact nI_nm1 (by omega) e.symm
    have hmn : m = n - 1 - i := by
      rcases Nat.lt_trichotomy m (n - 1 - i) with z | z | z
      · rcases hx with hx | hx
        · omega
        · exact absurd (h3 (i + m) (by omega) (by omega)) hx
      · exact z
      · exact absurd (by have := hd (n - 1 - i) z; rw [show i + (n - 1 - i) = n - 1 by omega] at this; exact this) hnd
    refine ⟨by omega, by omega, by omega, fun k a1 a2 => ?_⟩
    rw [show k = n - 1 by omega]; exact h4
  · rintro ⟨h1, h2, h3, h4⟩
    refine ⟨by omega, by omega, fun k a1 a2 => ?_, h4 (n - 1) (by omega) (by omega)⟩
    have := hd (k - i) (by omega)
    rw [show i + (k - i) = k by omega] at this
    exact this
theorem lp_Mo_digs (hG : tb_G E) (hS : Sh M) (hH : MHd M h) {i : Nat} (hi : i ≤ 50) {d rc rs : Nat} {Q : tb_O → tb_M → Prop} (hQ : Q (.inl (some (.inl (bI (digsP (la h) h.length i))))) M) : ∀ (w m : Nat), 5 - m = w → m ≤ 5 → (∀ k, k < m → dOf (la h (i + k)) ≠ -1) → tb_Wp E m_Mo_digitsAndFile (d + 3) rc rs 2 [some (.inr 190), some (.inl (nI i)), some (.inl (nI m))] [] M Q := by
  intro w
  induction w using Nat.strongRecOn with
  | ind w ih =>
    intro m hw hm hall
    have hend : (m = 5 ∨ ¬ dOf (la h (i + m)) ≠ -1) → tb_Wp E m_Mo_digitsAndFile (d + 3) rc rs 23 [some (.inr 190), some (.inl (nI i)), some (.inl (nI m))] [] M Q := by
      intro hx
      rw [bI_iff (dig_iff hm hall hx)] at hQ
      refine tb_iload_2 d_Mo_digitsAndFile_23 rfl ?_
      refine tb_iconst (1) (by decide) d_Mo_digitsAndFile_24 rfl ?_
      refine tb_icmp_lt 48 d_Mo_digitsAndFile_25 (by decide) rfl (fun h25 => ?_) (fun h25 => ?_)
      · rw [bI_f (fun z => Int32.not_lt.mpr (nI_le (a := 1) z.1 (by omega)) h25)] at hQ
        refine tb_iconst (0) (by decide) d_Mo_digitsAndFile_48 rfl ?_
        refine tb_ireturn d_Mo_digitsAndFile_49 rfl (by first | rfl | assumption) ?_
        exact hQ
      · have h1 : 1 ≤ m := Nat.le_of_not_lt (fun z => h25 (nI_lt (b := 1) z (by decide)))
        refine tb_iload_2 d_Mo_digitsAndFile_28 rfl ?_
        refine tb_iconst (4) (by decide) d_Mo_digitsAndFile_29 rfl ?_
        refine tb_icmp_gt 48 d_Mo_digitsAndFile_30 (by decide) rfl (fun h30 => ?_) (fun h30 => ?_)
        · rw [bI_f (fun z => Int32.not_lt.mpr (nI_le (b := 4) z.2.1 (by decide)) h30)] at hQ
          refine tb_iconst (0) (by decide) d_Mo_digitsAndFile_48 rfl ?_
          refine tb_ireturn d_Mo_digitsAndFile_49 rfl (by first | rfl | assumption) ?_
          exact hQ
        · have h4 : m ≤ 4 := Nat.le_of_not_lt (fun z => h30 (nI_lt (a := 4) z (by omega)))
          refine tb_aload_0 d_Mo_digitsAndFile_33 rfl ?_
          refine tb_iload_1 d_Mo_digitsAndFile_34 rfl ?_
          refine tb_iload_2 d_Mo_digitsAndFile_35 rfl ?_
          refine tb_iadd d_Mo_digitsAndFile_36 rfl ?_
          rw [nI_add]
          refine tb_iconst (1) (by decide) d_Mo_digitsAndFile_37 rfl ?_
          refine tb_callVr c_Mo_104 d_Mo_digitsAndFile_38 rfl rfl rfl (Nat.le_of_ble_eq_true rfl) (by first | exact hS.k rfl) (ok_Mo_files hG hS hH (i := i + m) (mm := 1) (by omega) (by omega) d) ?_
          refine tb_if_eq 48 d_Mo_digitsAndFile_41 (by decide) rfl (fun h41 => ?_) (fun h41 => ?_)
          · rw [bI_f (fun z => bI_0.mp h41 z.2.2)] at hQ
            refine tb_iconst (0) (by decide) d_Mo_digitsAndFile_48 rfl ?_
            refine tb_ireturn d_Mo_digitsAndFile_49 rfl (by first | rfl | assumption) ?_
            exact hQ
          · rw [bI_t ⟨h1, h4, Classical.not_not.mp (fun z => h41 (bI_f z))⟩] at hQ
            refine tb_iconst (1) (by decide) d_Mo_digitsAndFile_44 rfl ?_
            refine tb_goto 49 d_Mo_digitsAndFile_45 (by decide) ?_
            refine tb_ireturn d_Mo_digitsAndFile_49 rfl (by first | rfl | assumption) ?_
            exact hQ
    refine tb_iload_2 d_Mo_digitsAndFile_2 rfl ?_
    refine tb_iconst (5) (by decide) d_Mo_digitsAndFile_3 rfl ?_
    refine tb_icmp_ge 23 d_Mo_digitsAndFile_4 (by decide) rfl (fun h4 => ?_) (fun h4 => ?_)
    · exact hend (Or.inl (by have := (nI_leI (a := 5) (b := m) (by decide) (by omega)).mp h4; omega))
    · have hlt : m < 5 := Nat.lt_of_not_le (fun q => h4 ((nI_leI (a := 5) (b := m) (by decide) (by omega)).mpr q))
      refine tb_aload_0 d_Mo_digitsAndFile_7 rfl ?_
      refine tb_iload_1 d_Mo_digitsAndFile_8 rfl ?_
      refine tb_iload_2 d_Mo_digitsAndFile_9 rfl ?_
      refine tb_iadd d_Mo_digitsAndFile_10 rfl ?_
      rw [nI_add]
      refine tb_callVr c_Mo_108 d_Mo_digitsAndFile_11 rfl rfl rfl (Nat.le_of_ble_eq_true rfl) (by first | exact hS.k rfl) (ok_Mo_isDigit hG hS hH (j := i + m) (by omega) (d + 2)) ?_
      refine tb_if_eq 23 d_Mo_digitsAndFile_14 (by decide) rfl (fun h14 => ?_) (fun h14 => ?_)
      · exact hend (Or.inr (bI_0.mp h14))
      · have hd := Classical.not_not.mp (fun z => h14 (bI_f z))
        refine tb_iinc_2 (1) d_Mo_digitsAndFile_17 rfl (by decide) (by decide) ?_
        refine tb_goto 2 d_Mo_digitsAndFile_20 (by decide) ?_
        rw [nI_1]
        exact ih (5 - (m + 1)) (by omega) (m + 1) rfl (by omega) (fun k hk => by
          by_cases c : k = m
          · subst c; exact hd
          · exact hall k (by omega))
theorem ok_Mo_digs (hG : tb_G E) (hS : Sh M) (hH : MHd M h) {i : Nat} (hi : i ≤ 50) (d : Nat) : tb_Ret E m_Mo_digitsAndFile (d + 3) [.inr (.inl 190), .inl (nI i)] M (some (.inl (bI (digsP (la h) h.length i)))) M := by
  refine tb_okOf hG (by decide) rfl (Nat.le_of_ble_eq_true rfl) rfl ?_
  refine tb_iconst (0) (by decide) d_Mo_digitsAndFile_0 rfl ?_
  refine tb_istore_2 d_Mo_digitsAndFile_1 rfl (by decide) ?_
  exact lp_Mo_digs hG hS hH hi ⟨rfl, rfl⟩ 5 0 rfl (by omega) (fun k hk => absurd hk (by omega))
theorem plain_in {n s : Nat} (hp : plainP (la h) n s) : s < h.length := by
  refine Nat.lt_of_not_le fun z => ?_
  have := la_out z
  unfold plainP at hp
  rw [this] at hp
  rcases hp with q | q | q | q | q | q | q | q | q <;> exact absurd q.1 (by decide)
theorem cmd_at {a : Nat → Int32} {n j : Nat} (hall : ∀ i, i < j → askP a n (2 * i)) (hn : ¬ askP a n (2 * j)) : cmdP a n ↔ plainP a n (2 * j) := by
  constructor
  · rintro ⟨q, h1, h2, h3⟩
    have : q = j := by
      rcases Nat.lt_trichotomy q j with z | z | z
      · exact absurd (hall q z) h2
      · exact z
      · exact absurd (h1 j z) hn
    rw [← this]; exact h3
  · intro hp; exact ⟨j, hall, hn, hp⟩
theorem lp_Mo_cmd (hG : tb_G E) (hS : Sh M) (hH : MHd M h) {d rc rs : Nat} {Q : tb_O → tb_M → Prop} (hQ : Q (.inl (some (.inl (bI (isC h))))) M) : ∀ (m j : Nat), h.length + 2 - 2 * j = m → 2 * j ≤ h.length + 2 → (∀ i, i < j → askP (la h) h.length (2 * i)) → tb_Wp E m_Mo_isCommand (d + 4) rc rs 2 [some (.inr 190), some (.inl (nI (2 * j)))] [] M Q := by
  have h12 := hH.2.1
  intro m
  induction m using Nat.strongRecOn with
  | ind m ih =>
    intro j hm hj hall
    have hend : ¬ askP (la h) h.length (2 * j) → tb_Wp E m_Mo_isCommand (d + 4) rc rs 39 [some (.inr 190), some (.inl (nI (2 * j)))] [] M Q := by
      intro hna
      have hiff : isC h ↔ plainP (la h) h.length (2 * j) := cmd_at hall hna
      rw [bI_iff hiff] at hQ
      refine tb_iload_1 d_Mo_isCommand_39 rfl ?_
      refine tb_aload_0 d_Mo_isCommand_40 rfl ?_
      refine g_Mo_93 d_Mo_isCommand_41 rfl rfl (by first | exact hS.k rfl) ?_
      refine tb_topI hH.1 ?_
      refine tb_icmp_lt 49 d_Mo_isCommand_44 (by decide) rfl (fun h44 => ?_) (fun h44 => ?_)
      · have hlt : 2 * j < h.length := (nI_ltI (by omega) (by omega)).mp h44
        refine tb_aload_0 d_Mo_isCommand_49 rfl ?_
        refine g_Mo_22 d_Mo_isCommand_50 rfl rfl (by first | exact hS.k rfl) ?_
        refine tb_topR (y := 195) (hS.mr 6 (by decide)) ?_
        refine tb_iload_1 d_Mo_isCommand_53 rfl ?_
        refine tb_iaload d_Mo_isCommand_54 rfl (by first | exact hS.k rfl) (by first | exact mo_in hS (c := 12) rfl (by omega) (by decide) | exact mo_in hS (c := 10) rfl (by omega) (by decide) | exact mo_in hS (c := 25) rfl (by omega) (by decide) | exact mo_in hS (c := 6) rfl (by omega) (by decide) | exact mo_in hS (c := 72) rfl (by omega) (by decide) | exact mo_in hS (c := 120) rfl (by omega) (by decide) | exact mo_in hS (c := 300) rfl (by omega) (by decide) | exact mo_in hS (c := 150) rfl (by omega) (by decide) | exact mo_in hS (c := 1800) rfl (by omega) (by decide)) ?_
        refine tb_topI (y := la h (2 * j)) (by rw [nI_clamp (by omega)]; exact hH.2.2 (2 * j) hlt) ?_
        by_cases e43 : la h (2 * j) = 43
        · refine tb_lookup (90) 145 d_Mo_isCommand_55 (by decide) (by rw [e43]; decide +kernel) (by decide) ?_
          first
            | (rw [bI_iff (show plainP (la h) h.length (2 * j) ↔ filesP (la h) h.length (2 * j + 1) 3 by unfold plainP; rw [e43]; simp)] at hQ)
            | (rw [bI_iff (show plainP (la h) h.length (2 * j) ↔ filesP (la h) h.length (2 * j + 1) 3 by unfold plainP; rw [e106]; simp)] at hQ)
          refine tb_aload_0 d_Mo_isCommand_145 rfl ?_
          refine tb_iload_1 d_Mo_isCommand_146 rfl ?_
          refine tb_iconst (1) (by decide) d_Mo_isCommand_147 rfl ?_
          refine tb_iadd d_Mo_isCommand_148 rfl ?_
          rw [nI_1]
          refine tb_iconst (3) (by decide) d_Mo_isCommand_149 rfl ?_
          refine tb_callVr c_Mo_104 d_Mo_isCommand_150 rfl rfl rfl (Nat.le_of_ble_eq_true rfl) (by first | exact hS.k rfl) (ok_Mo_files hG hS hH (i := 2 * j + 1) (mm := 3) (by omega) (by omega) (d + 1)) ?_
          refine tb_ireturn d_Mo_isCommand_153 rfl (by exact bI_nar _) ?_
          exact hQ
        by_cases e99 : la h (2 * j) = 99
        · refine tb_lookup (81) 136 d_Mo_isCommand_55 (by decide) (by rw [e99]; decide +kernel) (by decide) ?_
          first
            | (rw [bI_iff (show plainP (la h) h.length (2 * j) ↔ filesP (la h) h.length (2 * j + 1) 2 by unfold plainP; rw [e99]; simp)] at hQ)
            | (rw [bI_iff (show plainP (la h) h.length (2 * j) ↔ filesP (la h) h.length (2 * j + 1) 2 by unfold plainP; rw [e112]; simp)] at hQ)
            | (rw [bI_iff (show plainP (la h) h.length (2 * j) ↔ filesP (la h) h.length (2 * j + 1) 2 by unfold plainP; rw [e115]; simp)] at hQ)
          refine tb_aload_0 d_Mo_isCommand_136 rfl ?_
          refine tb_iload_1 d_Mo_isCommand_137 rfl ?_
          refine tb_iconst (1) (by decide) d_Mo_isCommand_138 rfl ?_
          refine tb_iadd d_Mo_isCommand_139 rfl ?_
          rw [nI_1]
          refine tb_iconst (2) (by decide) d_Mo_isCommand_140 rfl ?_
          refine tb_callVr c_Mo_104 d_Mo_isCommand_141 rfl rfl rfl (Nat.le_of_ble_eq_true rfl) (by first | exact hS.k rfl) (ok_Mo_files hG hS hH (i := 2 * j + 1) (mm := 2) (by omega) (by omega) (d + 1)) ?_
          refine tb_ireturn d_Mo_isCommand_144 rfl (by exact bI_nar _) ?_
          exact hQ
        by_cases e102 : la h (2 * j) = 102
        · refine tb_lookup (99) 154 d_Mo_isCommand_55 (by decide) (by rw [e102]; decide +kernel) (by decide) ?_
          first
            | (rw [bI_iff (show plainP (la h) h.length (2 * j) ↔ dOf (la h (2 * j + 1)) ≠ -1 ∧ filesP (la h) h.length (2 * j + 2) 2 by unfold plainP; rw [e102]; simp)] at hQ)
          refine tb_aload_0 d_Mo_isCommand_154 rfl ?_
          refine tb_iload_1 d_Mo_isCommand_155 rfl ?_
          refine tb_iconst (1) (by decide) d_Mo_isCommand_156 rfl ?_
          refine tb_iadd d_Mo_isCommand_157 rfl ?_
          rw [nI_1]
          refine tb_callVr c_Mo_108 d_Mo_isCommand_158 rfl rfl rfl (Nat.le_of_ble_eq_true rfl) (by first | exact hS.k rfl) (ok_Mo_isDigit hG hS hH (j := 2 * j + 1) (by omega) (d + 3)) ?_
          refine tb_if_eq 179 d_Mo_isCommand_161 (by decide) rfl (fun h161 => ?_) (fun h161 => ?_)
          · rw [bI_f (fun z => bI_0.mp h161 z.1)] at hQ
            refine tb_iconst (0) (by decide) d_Mo_isCommand_179 rfl ?_
            refine tb_ireturn d_Mo_isCommand_180 rfl (by first | rfl | assumption) ?_
            exact hQ
          · have hd := Classical.not_not.mp (fun z => h161 (bI_f z))
            refine tb_aload_0 d_Mo_isCommand_164 rfl ?_
            refine tb_iload_1 d_Mo_isCommand_165 rfl ?_
            refine tb_iconst (2) (by decide) d_Mo_isCommand_166 rfl ?_
            refine tb_iadd d_Mo_isCommand_167 rfl ?_
            rw [show nI (2 * j) + 2 = nI (2 * j + 2) from nI_add (2 * j) 2]
            refine tb_iconst (2) (by decide) d_Mo_isCommand_168 rfl ?_
            refine tb_callVr c_Mo_104 d_Mo_isCommand_169 rfl rfl rfl (Nat.le_of_ble_eq_true rfl) (by first | exact hS.k rfl) (ok_Mo_files hG hS hH (i := 2 * j + 2) (mm := 2) (by omega) (by omega) (d + 1)) ?_
            refine tb_if_eq 179 d_Mo_isCommand_172 (by decide) rfl (fun h172 => ?_) (fun h172 => ?_)
            · rw [bI_f (fun z => bI_0.mp h172 z.2)] at hQ
              refine tb_iconst (0) (by decide) d_Mo_isCommand_179 rfl ?_
              refine tb_ireturn d_Mo_isCommand_180 rfl (by first | rfl | assumption) ?_
              exact hQ
            · rw [bI_t ⟨hd, Classical.not_not.mp (fun z => h172 (bI_f z))⟩] at hQ
              refine tb_iconst (1) (by decide) d_Mo_isCommand_175 rfl ?_
              refine tb_goto 180 d_Mo_isCommand_176 (by decide) ?_
              refine tb_ireturn d_Mo_isCommand_180 rfl (by first | rfl | assumption) ?_
              exact hQ
        by_cases e106 : la h (2 * j) = 106
        · refine tb_lookup (90) 145 d_Mo_isCommand_55 (by decide) (by rw [e106]; decide +kernel) (by decide) ?_
          first
            | (rw [bI_iff (show plainP (la h) h.length (2 * j) ↔ filesP (la h) h.length (2 * j + 1) 3 by unfold plainP; rw [e43]; simp)] at hQ)
            | (rw [bI_iff (show plainP (la h) h.length (2 * j) ↔ filesP (la h) h.length (2 * j + 1) 3 by unfold plainP; rw [e106]; simp)] at hQ)
          refine tb_aload_0 d_Mo_isCommand_145 rfl ?_
          refine tb_iload_1 d_Mo_isCommand_146 rfl ?_
          refine tb_iconst (1) (by decide) d_Mo_isCommand_147 rfl ?_
          refine tb_iadd d_Mo_isCommand_148 rfl ?_
          rw [nI_1]
          refine tb_iconst (3) (by decide) d_Mo_isCommand_149 rfl ?_
          refine tb_callVr c_Mo_104 d_Mo_isCommand_150 rfl rfl rfl (Nat.le_of_ble_eq_true rfl) (by first | exact hS.k rfl) (ok_Mo_files hG hS hH (i := 2 * j + 1) (mm := 3) (by omega) (by omega) (d + 1)) ?_
          refine tb_ireturn d_Mo_isCommand_153 rfl (by exact bI_nar _) ?_
          exact hQ
        by_cases e108 : la h (2 * j) = 108
        · refine tb_lookup (126) 181 d_Mo_isCommand_55 (by decide) (by rw [e108]; decide +kernel) (by decide) ?_
          first
            | (rw [bI_iff (show plainP (la h) h.length (2 * j) ↔ filesP (la h) h.length (2 * j + 1) 1 by unfold plainP; rw [e108]; simp)] at hQ)
            | (rw [bI_iff (show plainP (la h) h.length (2 * j) ↔ filesP (la h) h.length (2 * j + 1) 1 by unfold plainP; rw [e120]; simp)] at hQ)
          refine tb_aload_0 d_Mo_isCommand_181 rfl ?_
          refine tb_iload_1 d_Mo_isCommand_182 rfl ?_
          refine tb_iconst (1) (by decide) d_Mo_isCommand_183 rfl ?_
          refine tb_iadd d_Mo_isCommand_184 rfl ?_
          rw [nI_1]
          refine tb_iconst (1) (by decide) d_Mo_isCommand_185 rfl ?_
          refine tb_callVr c_Mo_104 d_Mo_isCommand_186 rfl rfl rfl (Nat.le_of_ble_eq_true rfl) (by first | exact hS.k rfl) (ok_Mo_files hG hS hH (i := 2 * j + 1) (mm := 1) (by omega) (by omega) (d + 1)) ?_
          refine tb_ireturn d_Mo_isCommand_189 rfl (by exact bI_nar _) ?_
          exact hQ
        by_cases e110 : la h (2 * j) = 110
        · refine tb_lookup (135) 190 d_Mo_isCommand_55 (by decide) (by rw [e110]; decide +kernel) (by decide) ?_
          first
            | (rw [bI_iff (show plainP (la h) h.length (2 * j) ↔ digsP (la h) h.length (2 * j + 1) by unfold plainP; rw [e110]; simp)] at hQ)
          refine tb_aload_0 d_Mo_isCommand_190 rfl ?_
          refine tb_iload_1 d_Mo_isCommand_191 rfl ?_
          refine tb_iconst (1) (by decide) d_Mo_isCommand_192 rfl ?_
          refine tb_iadd d_Mo_isCommand_193 rfl ?_
          rw [nI_1]
          refine tb_callVr c_Mo_111 d_Mo_isCommand_194 rfl rfl rfl (Nat.le_of_ble_eq_true rfl) (by first | exact hS.k rfl) (ok_Mo_digs hG hS hH (i := 2 * j + 1) (by omega) d) ?_
          refine tb_ireturn d_Mo_isCommand_197 rfl (by exact bI_nar _) ?_
          exact hQ
        by_cases e112 : la h (2 * j) = 112
        · refine tb_lookup (81) 136 d_Mo_isCommand_55 (by decide) (by rw [e112]; decide +kernel) (by decide) ?_
          first
            | (rw [bI_iff (show plainP (la h) h.length (2 * j) ↔ filesP (la h) h.length (2 * j + 1) 2 by unfold plainP; rw [e99]; simp)] at hQ)
            | (rw [bI_iff (show plainP (la h) h.length (2 * j) ↔ filesP (la h) h.length (2 * j + 1) 2 by unfold plainP; rw [e112]; simp)] at hQ)
            | (rw [bI_iff (show plainP (la h) h.length (2 * j) ↔ filesP (la h) h.length (2 * j + 1) 2 by unfold plainP; rw [e115]; simp)] at hQ)
          refine tb_aload_0 d_Mo_isCommand_136 rfl ?_
          refine tb_iload_1 d_Mo_isCommand_137 rfl ?_
          refine tb_iconst (1) (by decide) d_Mo_isCommand_138 rfl ?_
          refine tb_iadd d_Mo_isCommand_139 rfl ?_
          rw [nI_1]
          refine tb_iconst (2) (by decide) d_Mo_isCommand_140 rfl ?_
          refine tb_callVr c_Mo_104 d_Mo_isCommand_141 rfl rfl rfl (Nat.le_of_ble_eq_true rfl) (by first | exact hS.k rfl) (ok_Mo_files hG hS hH (i := 2 * j + 1) (mm := 2) (by omega) (by omega) (d + 1)) ?_
          refine tb_ireturn d_Mo_isCommand_144 rfl (by exact bI_nar _) ?_
          exact hQ
        by_cases e115 : la h (2 * j) = 115
        · refine tb_lookup (81) 136 d_Mo_isCommand_55 (by decide) (by rw [e115]; decide +kernel) (by decide) ?_
          first
            | (rw [bI_iff (show plainP (la h) h.length (2 * j) ↔ filesP (la h) h.length (2 * j + 1) 2 by unfold plainP; rw [e99]; simp)] at hQ)
            | (rw [bI_iff (show plainP (la h) h.length (2 * j) ↔ filesP (la h) h.length (2 * j + 1) 2 by unfold plainP; rw [e112]; simp)] at hQ)
            | (rw [bI_iff (show plainP (la h) h.length (2 * j) ↔ filesP (la h) h.length (2 * j + 1) 2 by unfold plainP; rw [e115]; simp)] at hQ)
          refine tb_aload_0 d_Mo_isCommand_136 rfl ?_
          refine tb_iload_1 d_Mo_isCommand_137 rfl ?_
          refine tb_iconst (1) (by decide) d_Mo_isCommand_138 rfl ?_
          refine tb_iadd d_Mo_isCommand_139 rfl ?_
          rw [nI_1]
          refine tb_iconst (2) (by decide) d_Mo_isCommand_140 rfl ?_
          refine tb_callVr c_Mo_104 d_Mo_isCommand_141 rfl rfl rfl (Nat.le_of_ble_eq_true rfl) (by first | exact hS.k rfl) (ok_Mo_files hG hS hH (i := 2 * j + 1) (mm := 2) (by omega) (by omega) (d + 1)) ?_
          refine tb_ireturn d_Mo_isCommand_144 rfl (by exact bI_nar _) ?_
          exact hQ
        by_cases e120 : la h (2 * j) = 120
        · refine tb_lookup (126) 181 d_Mo_isCommand_55 (by decide) (by rw [e120]; decide +kernel) (by decide) ?_
          first
            | (rw [bI_iff (show plainP (la h) h.length (2 * j) ↔ filesP (la h) h.length (2 * j + 1) 1 by unfold plainP; rw [e108]; simp)] at hQ)
            | (rw [bI_iff (show plainP (la h) h.length (2 * j) ↔ filesP (la h) h.length (2 * j + 1) 1 by unfold plainP; rw [e120]; simp)] at hQ)
          refine tb_aload_0 d_Mo_isCommand_181 rfl ?_
          refine tb_iload_1 d_Mo_isCommand_182 rfl ?_
          refine tb_iconst (1) (by decide) d_Mo_isCommand_183 rfl ?_
          refine tb_iadd d_Mo_isCommand_184 rfl ?_
          rw [nI_1]
          refine tb_iconst (1) (by decide) d_Mo_isCommand_185 rfl ?_
          refine tb_callVr c_Mo_104 d_Mo_isCommand_186 rfl rfl rfl (Nat.le_of_ble_eq_true rfl) (by first | exact hS.k rfl) (ok_Mo_files hG hS hH (i := 2 * j + 1) (mm := 1) (by omega) (by omega) (d + 1)) ?_
          refine tb_ireturn d_Mo_isCommand_189 rfl (by exact bI_nar _) ?_
          exact hQ
        refine tb_lookup (143) 198 d_Mo_isCommand_55 (by decide) (by show Op.lookupswitch.offset [(43, 90), (99, 81), (102, 99), (106, 90), (108, 126), (110, 135), (112, 81), (115, 81), (120, 126)] (143) _ = _; rw [lv_osw e43 (by decide), lv_osw e99 (by decide), lv_osw e102 (by decide), lv_osw e106 (by decide), lv_osw e108 (by decide), lv_osw e110 (by decide), lv_osw e112 (by decide), lv_osw e115 (by decide), lv_osw e120 (by decide)]; rfl) (by decide) ?_
        refine tb_iconst (0) (by decide) d_Mo_isCommand_198 rfl ?_
        refine tb_ireturn d_Mo_isCommand_199 rfl (by first | rfl | assumption) ?_
        rw [bI_f (fun z => by unfold plainP at z; rcases z with q | q | q | q | q | q | q | q | q <;> first | exact e43 q.1 | exact e99 q.1 | exact e102 q.1 | exact e106 q.1 | exact e108 q.1 | exact e110 q.1 | exact e112 q.1 | exact e115 q.1 | exact e120 q.1)] at hQ
        exact hQ
      · rw [bI_f (fun z => h44 (nI_lt (plain_in z) (by omega)))] at hQ
        refine tb_iconst (0) (by decide) d_Mo_isCommand_47 rfl ?_
        refine tb_ireturn d_Mo_isCommand_48 rfl (by first | rfl | assumption) ?_
        exact hQ
    refine tb_iload_1 d_Mo_isCommand_2 rfl ?_
    refine tb_aload_0 d_Mo_isCommand_3 rfl ?_
    refine g_Mo_93 d_Mo_isCommand_4 rfl rfl (by first | exact hS.k rfl) ?_
    refine tb_topI hH.1 ?_
    refine tb_icmp_ge 39 d_Mo_isCommand_7 (by decide) rfl (fun h7 => ?_) (fun h7 => ?_)
    · exact hend (fun z => by have := (nI_leI (a := h.length) (b := 2 * j) (by omega) (by omega)).mp h7; have := z.1; omega)
    · have hlt : 2 * j < h.length := Nat.lt_of_not_le (fun q => h7 ((nI_leI (a := h.length) (b := 2 * j) (by omega) (by omega)).mpr q))
      refine tb_aload_0 d_Mo_isCommand_10 rfl ?_
      refine g_Mo_22 d_Mo_isCommand_11 rfl rfl (by first | exact hS.k rfl) ?_
      refine tb_topR (y := 195) (hS.mr 6 (by decide)) ?_
      refine tb_iload_1 d_Mo_isCommand_14 rfl ?_
      refine tb_iaload d_Mo_isCommand_15 rfl (by first | exact hS.k rfl) (by first | exact mo_in hS (c := 12) rfl (by omega) (by decide) | exact mo_in hS (c := 10) rfl (by omega) (by decide) | exact mo_in hS (c := 25) rfl (by omega) (by decide) | exact mo_in hS (c := 6) rfl (by omega) (by decide) | exact mo_in hS (c := 72) rfl (by omega) (by decide) | exact mo_in hS (c := 120) rfl (by omega) (by decide) | exact mo_in hS (c := 300) rfl (by omega) (by decide) | exact mo_in hS (c := 150) rfl (by omega) (by decide) | exact mo_in hS (c := 1800) rfl (by omega) (by decide)) ?_
      refine tb_topI (y := la h (2 * j)) (by rw [nI_clamp (by omega)]; exact hH.2.2 (2 * j) hlt) ?_
      refine tb_bipush (63) (by decide) d_Mo_isCommand_16 rfl ?_
      refine tb_icmp_ne 39 d_Mo_isCommand_18 (by decide) rfl (fun h18 => ?_) (fun h18 => ?_)
      · exact hend (fun z => h18 z.2.1)
      · refine tb_aload_0 d_Mo_isCommand_21 rfl ?_
        refine tb_iload_1 d_Mo_isCommand_22 rfl ?_
        refine tb_iconst (1) (by decide) d_Mo_isCommand_23 rfl ?_
        refine tb_iadd d_Mo_isCommand_24 rfl ?_
        rw [nI_1]
        refine tb_callVr c_Mo_100 d_Mo_isCommand_25 rfl rfl rfl (Nat.le_of_ble_eq_true rfl) (by first | exact hS.k rfl) (ok_Mo_fileAt hG hS hH (j := 2 * j + 1) (by omega) (d + 2)) ?_
        refine tb_if_ge 33 d_Mo_isCommand_28 (by decide) rfl (fun h28 => ?_) (fun h28 => ?_)
        · have hfo : fOf (la h (2 * j + 1)) ≠ -1 := fun z => Int32.not_lt.mpr h28 (fOf_ge.mpr z)
          refine tb_iinc_1 (2) d_Mo_isCommand_33 rfl (by decide) (by decide) ?_
          refine tb_goto 2 d_Mo_isCommand_36 (by decide) ?_
          rw [show nI (2 * j) + 2 = nI (2 * (j + 1)) from nI_add (2 * j) 2]
          exact ih (h.length + 2 - 2 * (j + 1)) (by omega) (j + 1) rfl (by omega) (fun i hi => by
            by_cases c : i = j
            · subst c; exact ⟨hlt, h18, hfo⟩
            · exact hall i (by omega))
        · have hna : ¬ askP (la h) h.length (2 * j) := fun z => z.2.2 (fOf_ge.mp (Int32.not_le.mp h28))
          have hno : ¬ isC h := fun z => plain_63 ((cmd_at hall hna).mp z) h18
          rw [bI_f hno] at hQ
          refine tb_iconst (0) (by decide) d_Mo_isCommand_31 rfl ?_
          refine tb_ireturn d_Mo_isCommand_32 rfl (by first | rfl | assumption) ?_
          exact hQ
theorem ok_Mo_cmd (hG : tb_G E) (hS : Sh M) (hH : MHd M h) (d : Nat) : tb_Ret E m_Mo_isCommand (d + 4) [.inr (.inl 190)] M (some (.inl (bI (isC h)))) M := by
  refine tb_okOf hG (by decide) rfl (Nat.le_of_ble_eq_true rfl) rfl ?_
  refine tb_iconst (0) (by decide) d_Mo_isCommand_0 rfl ?_
  refine tb_istore_1 d_Mo_isCommand_1 rfl (by decide) ?_
  exact lp_Mo_cmd hG hS hH ⟨rfl, rfl⟩ _ 0 rfl (by omega) (fun i hi => absurd hi (by omega))
end Mo1
