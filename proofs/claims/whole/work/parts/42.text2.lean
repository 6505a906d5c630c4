/-! Text: is it a command? In words on its characters a (0 behind its end) and its length n. -/
def filesP (a : Nat → Int32) (n f m : Nat) : Prop := n = f + m ∧ ∀ i, f ≤ i → i < n → fOf (a i) ≠ -1
def digsP (a : Nat → Int32) (n f : Nat) : Prop := f + 2 ≤ n ∧ n ≤ f + 5 ∧ (∀ i, f ≤ i → i + 1 < n → dOf (a i) ≠ -1) ∧ fOf (a (n - 1)) ≠ -1
def plainP (a : Nat → Int32) (n s : Nat) : Prop :=
  (a s = 43 ∧ filesP a n (s + 1) 3) ∨ (a s = 99 ∧ filesP a n (s + 1) 2) ∨ (a s = 102 ∧ dOf (a (s + 1)) ≠ -1 ∧ filesP a n (s + 2) 2) ∨ (a s = 106 ∧ filesP a n (s + 1) 3) ∨ (a s = 108 ∧ filesP a n (s + 1) 1) ∨
  (a s = 110 ∧ digsP a n (s + 1)) ∨ (a s = 112 ∧ filesP a n (s + 1) 2) ∨ (a s = 115 ∧ filesP a n (s + 1) 2) ∨ (a s = 120 ∧ filesP a n (s + 1) 1)
/-- a question and its file at s -/
def askP (a : Nat → Int32) (n s : Nat) : Prop := s < n ∧ a s = 63 ∧ fOf (a (s + 1)) ≠ -1
def cmdP (a : Nat → Int32) (n : Nat) : Prop := ∃ q, (∀ i, i < q → askP a n (2 * i)) ∧ ¬ askP a n (2 * q) ∧ plainP a n (2 * q)
section Text2
variable {E : tb_E} {M : tb_M} {t n : Nat}
theorem lp_Tx_files (hG : tb_G E) (hS : Sh M) (hT : TxOk M t n) {f mm : Nat} (hf : f ≤ 64) (hm0 : n = f + mm) {d rc rs : Nat} {Q : tb_O → tb_M → Prop} (hQ : Q (.inl (some (.inl (bI (filesP (ta M t n) n f mm))))) M) : ∀ (m j : Nat), n - j = m → f ≤ j → j ≤ n → (∀ i, f ≤ i → i < j → fOf (ta M t n i) ≠ -1) → tb_Wp E m_Tx_isFilesToEnd (d + 2) rc rs 14 [some (.inr t), some (.inl (nI f)), some (.inl (nI mm)), some (.inl (nI j))] [] M Q := by
  obtain ⟨k1, r0, k2, l2⟩ := hS.tx hT.1
  have hI := hT.2.1
  have hn := hT.2.2.1
  intro m
  induction m using Nat.strongRecOn with
  | ind m ih =>
    intro j hm hfj hj hall
    refine tb_iload_3 d_Tx_isFilesToEnd_14 rfl ?_
    refine tb_aload_0 d_Tx_isFilesToEnd_15 rfl ?_
    refine g_Tx_15 d_Tx_isFilesToEnd_16 rfl rfl (by first | exact k1) ?_
    refine tb_topI hI ?_
    refine tb_icmp_ge 39 d_Tx_isFilesToEnd_19 (by decide) rfl (fun h19 => ?_) (fun h19 => ?_)
    · have hje : j = n := by have := (nI_leI (a := n) (b := j) (by omega) (by omega)).mp h19; omega
      subst hje
      refine tb_iconst (1) (by decide) d_Tx_isFilesToEnd_39 rfl ?_
      refine tb_ireturn d_Tx_isFilesToEnd_40 rfl (by first | rfl | assumption) ?_
      rw [bI_t ⟨hm0, hall⟩] at hQ
      exact hQ
    · have hlt : j < n := by
        have : ¬ n ≤ j := fun q => h19 ((nI_leI (a := n) (b := j) (by omega) (by omega)).mpr q)
        omega
      refine tb_aload_0 d_Tx_isFilesToEnd_22 rfl ?_
      refine tb_iload_3 d_Tx_isFilesToEnd_23 rfl ?_
      refine tb_callVr c_Tx_23 d_Tx_isFilesToEnd_24 rfl rfl rfl (by decide) (by first | exact k1) (ok_Tx_fileAt hG hS hT (show j < 2 ^ 31 by omega) d) ?_
      refine tb_iconst (-1) (by decide) d_Tx_isFilesToEnd_27 rfl ?_
      refine tb_icmp_ne 33 d_Tx_isFilesToEnd_28 (by decide) rfl (fun h28 => ?_) (fun h28 => ?_)
      · refine tb_iinc_3 (1) d_Tx_isFilesToEnd_33 rfl (by decide) (by decide) ?_
        refine tb_goto 14 d_Tx_isFilesToEnd_36 (by decide) ?_
        rw [nI_1]
        exact ih (n - (j + 1)) (by omega) (j + 1) rfl (by omega) (by omega) (fun i h1 h2 => by
          by_cases e : i = j
          · subst e; exact h28
          · exact hall i h1 (by omega))
      · refine tb_iconst (0) (by decide) d_Tx_isFilesToEnd_31 rfl ?_
        refine tb_ireturn d_Tx_isFilesToEnd_32 rfl (by first | rfl | assumption) ?_
        rw [bI_f (fun q => q.2 j hfj hlt h28)] at hQ
        exact hQ
theorem ok_Tx_files (hG : tb_G E) (hS : Sh M) (hT : TxOk M t n) {f mm : Nat} (hf : f ≤ 64) (hm : mm ≤ 4) (d : Nat) : tb_Ret E m_Tx_isFilesToEnd (d + 2) [.inr (.inl t), .inl (nI f), .inl (nI mm)] M (some (.inl (bI (filesP (ta M t n) n f mm)))) M := by
  obtain ⟨k1, r0, k2, l2⟩ := hS.tx hT.1
  have hI := hT.2.1
  have hn := hT.2.2.1
  refine tb_okOf hG (by decide) rfl (Nat.le_of_ble_eq_true rfl) rfl ?_
  refine tb_aload_0 d_Tx_isFilesToEnd_0 rfl ?_
  refine g_Tx_15 d_Tx_isFilesToEnd_1 rfl rfl (by first | exact k1) ?_
  refine tb_topI hI ?_
  refine tb_iload_1 d_Tx_isFilesToEnd_4 rfl ?_
  refine tb_iload_2 d_Tx_isFilesToEnd_5 rfl ?_
  refine tb_iadd d_Tx_isFilesToEnd_6 rfl ?_
  rw [nI_add]
  refine tb_icmp_eq 12 d_Tx_isFilesToEnd_7 (by decide) rfl (fun h7 => ?_) (fun h7 => ?_)
  · have hm0 : n = f + mm := (nI_eq (by omega) (by omega)).mp h7
    refine tb_iload_1 d_Tx_isFilesToEnd_12 rfl ?_
    refine tb_istore_3 d_Tx_isFilesToEnd_13 rfl (by decide) ?_
    exact lp_Tx_files hG hS hT hf hm0 ⟨rfl, rfl⟩ (n - f) f rfl (Nat.le_refl _) (by omega) (fun i h1 h2 => absurd h2 (by omega))
  · have hm0 : ¬ n = f + mm := fun q => h7 (by rw [q])
    refine tb_iconst (0) (by decide) d_Tx_isFilesToEnd_10 rfl ?_
    refine tb_ireturn d_Tx_isFilesToEnd_11 rfl (by first | rfl | assumption) ?_
    exact ⟨by rw [bI_f (fun q => hm0 q.1)], rfl⟩
theorem lp_Tx_digs (hG : tb_G E) (hS : Sh M) (hT : TxOk M t n) {f : Nat} (hf : f ≤ 64) (hb : f + 2 ≤ n ∧ n ≤ f + 5) {d rc rs : Nat} {Q : tb_O → tb_M → Prop} (hQ : Q (.inl (some (.inl (bI (digsP (ta M t n) n f))))) M) : ∀ (m j : Nat), n - j = m → f ≤ j → j + 1 ≤ n → (∀ i, f ≤ i → i < j → dOf (ta M t n i) ≠ -1) → tb_Wp E m_Tx_isDigitsAndFile (d + 2) rc rs 25 [some (.inr t), some (.inl (nI f)), some (.inl (nI (n - 1))), some (.inl (nI j))] [] M Q := by
  obtain ⟨k1, r0, k2, l2⟩ := hS.tx hT.1
  have hI := hT.2.1
  have hn := hT.2.2.1
  intro m
  induction m using Nat.strongRecOn with
  | ind m ih =>
    intro j hm hfj hj hall
    refine tb_iload_3 d_Tx_isDigitsAndFile_25 rfl ?_
    refine tb_iload_2 d_Tx_isDigitsAndFile_26 rfl ?_
    refine tb_icmp_ge 47 d_Tx_isDigitsAndFile_27 (by decide) rfl (fun h27 => ?_) (fun h27 => ?_)
    · have hje : j + 1 = n := by have := (nI_leI (a := n - 1) (b := j) (by omega) (by omega)).mp h27; omega
      refine tb_aload_0 d_Tx_isDigitsAndFile_47 rfl ?_
      refine tb_iload_2 d_Tx_isDigitsAndFile_48 rfl ?_
      refine tb_callVr c_Tx_23 d_Tx_isDigitsAndFile_49 rfl rfl rfl (by decide) (by first | exact k1) (ok_Tx_fileAt hG hS hT (show n - 1 < 2 ^ 31 by omega) d) ?_
      refine tb_iconst (-1) (by decide) d_Tx_isDigitsAndFile_52 rfl ?_
      refine tb_icmp_eq 60 d_Tx_isDigitsAndFile_53 (by decide) rfl (fun h53 => ?_) (fun h53 => ?_)
      · have hfin : ¬ digsP (ta M t n) n f := fun q => q.2.2.2 h53
        rw [bI_f hfin] at hQ
        refine tb_iconst (0) (by decide) d_Tx_isDigitsAndFile_60 rfl ?_
        refine tb_ireturn d_Tx_isDigitsAndFile_61 rfl (by first | rfl | assumption) ?_
        exact hQ
      · have hfin : digsP (ta M t n) n f := ⟨hb.1, hb.2, fun i h1 h2 => hall i h1 (by omega), h53⟩
        rw [bI_t hfin] at hQ
        refine tb_iconst (1) (by decide) d_Tx_isDigitsAndFile_56 rfl ?_
        refine tb_goto 61 d_Tx_isDigitsAndFile_57 (by decide) ?_
        refine tb_ireturn d_Tx_isDigitsAndFile_61 rfl (by first | rfl | assumption) ?_
        exact hQ
    · have hlt : j + 1 < n := by
        have : ¬ n - 1 ≤ j := fun q => h27 ((nI_leI (a := n - 1) (b := j) (by omega) (by omega)).mpr q)
        omega
      refine tb_aload_0 d_Tx_isDigitsAndFile_30 rfl ?_
      refine tb_iload_3 d_Tx_isDigitsAndFile_31 rfl ?_
      refine tb_callVr c_Tx_35 d_Tx_isDigitsAndFile_32 rfl rfl rfl (by decide) (by first | exact k1) (ok_Tx_digitAt hG hS hT (show j < 2 ^ 31 by omega) d) ?_
      refine tb_iconst (-1) (by decide) d_Tx_isDigitsAndFile_35 rfl ?_
      refine tb_icmp_ne 41 d_Tx_isDigitsAndFile_36 (by decide) rfl (fun h36 => ?_) (fun h36 => ?_)
      · refine tb_iinc_3 (1) d_Tx_isDigitsAndFile_41 rfl (by decide) (by decide) ?_
        refine tb_goto 25 d_Tx_isDigitsAndFile_44 (by decide) ?_
        rw [nI_1]
        exact ih (n - (j + 1)) (by omega) (j + 1) rfl (by omega) (by omega) (fun i h1 h2 => by
          by_cases e : i = j
          · subst e; exact h36
          · exact hall i h1 (by omega))
      · refine tb_iconst (0) (by decide) d_Tx_isDigitsAndFile_39 rfl ?_
        refine tb_ireturn d_Tx_isDigitsAndFile_40 rfl (by first | rfl | assumption) ?_
        rw [bI_f (fun q => q.2.2.1 j hfj hlt h36)] at hQ
        exact hQ
theorem nI_sub1 {n : Nat} (h : 1 ≤ n) : nI n - 1 = nI (n - 1) := by
  obtain ⟨k, rfl⟩ : ∃ k, n = k + 1 := ⟨n - 1, by omega⟩
  exact nI_pred k
theorem ok_Tx_digs (hG : tb_G E) (hS : Sh M) (hT : TxOk M t n) {f : Nat} (hf : f ≤ 64) (d : Nat) : tb_Ret E m_Tx_isDigitsAndFile (d + 2) [.inr (.inl t), .inl (nI f)] M (some (.inl (bI (digsP (ta M t n) n f)))) M := by
  obtain ⟨k1, r0, k2, l2⟩ := hS.tx hT.1
  have hI := hT.2.1
  have hn := hT.2.2.1
  by_cases hn0 : n = 0
  · subst hn0
    have hno : ¬ digsP (ta M t 0) 0 f := fun q => by have := q.1; omega
    rw [bI_f hno]
    refine tb_okOf hG (by decide) rfl (Nat.le_of_ble_eq_true rfl) rfl ?_
    refine tb_aload_0 d_Tx_isDigitsAndFile_0 rfl ?_
    refine g_Tx_15 d_Tx_isDigitsAndFile_1 rfl rfl (by first | exact k1) ?_
    refine tb_topI hI ?_
    refine tb_iconst (1) (by decide) d_Tx_isDigitsAndFile_4 rfl ?_
    refine tb_isub d_Tx_isDigitsAndFile_5 rfl ?_
    refine tb_istore_2 d_Tx_isDigitsAndFile_6 rfl (by decide) ?_
    refine tb_iload_2 d_Tx_isDigitsAndFile_7 rfl ?_
    refine tb_iload_1 d_Tx_isDigitsAndFile_8 rfl ?_
    refine tb_iconst (1) (by decide) d_Tx_isDigitsAndFile_9 rfl ?_
    refine tb_iadd d_Tx_isDigitsAndFile_10 rfl ?_
    rw [nI_1]
    refine tb_icmp_lt 21 d_Tx_isDigitsAndFile_11 (by decide) rfl (fun h11 => ?_) (fun h11 => ?_)
    · refine tb_iconst (0) (by decide) d_Tx_isDigitsAndFile_21 rfl ?_
      refine tb_ireturn d_Tx_isDigitsAndFile_22 rfl (by first | rfl | assumption) ?_
      exact ⟨rfl, rfl⟩
    · exact absurd (show nI 0 - 1 < nI (f + 1) from Int32.lt_iff_toInt_lt.mpr (by rw [nI_toInt (by omega)]; show (-1 : Int) < _; omega)) h11
  · have hs1 : nI n - 1 = nI (n - 1) := nI_sub1 (by omega)
    refine tb_okOf hG (by decide) rfl (Nat.le_of_ble_eq_true rfl) rfl ?_
    refine tb_aload_0 d_Tx_isDigitsAndFile_0 rfl ?_
    refine g_Tx_15 d_Tx_isDigitsAndFile_1 rfl rfl (by first | exact k1) ?_
    refine tb_topI hI ?_
    refine tb_iconst (1) (by decide) d_Tx_isDigitsAndFile_4 rfl ?_
    refine tb_isub d_Tx_isDigitsAndFile_5 rfl ?_
    rw [hs1]
    refine tb_istore_2 d_Tx_isDigitsAndFile_6 rfl (by decide) ?_
    refine tb_iload_2 d_Tx_isDigitsAndFile_7 rfl ?_
    refine tb_iload_1 d_Tx_isDigitsAndFile_8 rfl ?_
    refine tb_iconst (1) (by decide) d_Tx_isDigitsAndFile_9 rfl ?_
    refine tb_iadd d_Tx_isDigitsAndFile_10 rfl ?_
    rw [nI_1]
    refine tb_icmp_lt 21 d_Tx_isDigitsAndFile_11 (by decide) rfl (fun h11 => ?_) (fun h11 => ?_)
    · have hb : ¬ f + 2 ≤ n := by have := (nI_ltI (by omega) (by omega)).mp h11; omega
      refine tb_iconst (0) (by decide) d_Tx_isDigitsAndFile_21 rfl ?_
      refine tb_ireturn d_Tx_isDigitsAndFile_22 rfl (by first | rfl | assumption) ?_
      have hno : ¬ digsP (ta M t n) n f := fun q => by first | exact hb q.1 | exact hb q.2.1
      exact ⟨by rw [bI_f hno], rfl⟩
    · have hb1 : f + 2 ≤ n := by
        have : ¬ n - 1 < f + 1 := fun q => h11 ((nI_ltI (by omega) (by omega)).mpr q)
        omega
      refine tb_iload_2 d_Tx_isDigitsAndFile_14 rfl ?_
      refine tb_iload_1 d_Tx_isDigitsAndFile_15 rfl ?_
      refine tb_iconst (4) (by decide) d_Tx_isDigitsAndFile_16 rfl ?_
      refine tb_iadd d_Tx_isDigitsAndFile_17 rfl ?_
      rw [show nI f + 4 = nI (f + 4) from nI_add f 4]
      refine tb_icmp_le 23 d_Tx_isDigitsAndFile_18 (by decide) rfl (fun h18 => ?_) (fun h18 => ?_)
      · have hb2 : n ≤ f + 5 := by have := (nI_leI (by omega) (by omega)).mp h18; omega
        refine tb_iload_1 d_Tx_isDigitsAndFile_23 rfl ?_
        refine tb_istore_3 d_Tx_isDigitsAndFile_24 rfl (by decide) ?_
        exact lp_Tx_digs hG hS hT hf ⟨hb1, hb2⟩ ⟨rfl, rfl⟩ (n - f) f rfl (Nat.le_refl _) (by omega) (fun i h1 h2 => absurd h2 (by omega))
      · have hb : ¬ n ≤ f + 5 := fun q => h18 ((nI_leI (by omega) (by omega)).mpr (by omega))
        refine tb_iconst (0) (by decide) d_Tx_isDigitsAndFile_21 rfl ?_
        refine tb_ireturn d_Tx_isDigitsAndFile_22 rfl (by first | rfl | assumption) ?_
        have hno : ¬ digsP (ta M t n) n f := fun q => by first | exact hb q.1 | exact hb q.2.1
        exact ⟨by rw [bI_f hno], rfl⟩
theorem ok_Tx_plain (hG : tb_G E) (hS : Sh M) (hT : TxOk M t n) {s : Nat} (hs : s ≤ 60) (d : Nat) : tb_Ret E m_Tx_isPlainCommand (d + 3) [.inr (.inl t), .inl (nI s)] M (some (.inl (bI (plainP (ta M t n) n s)))) M := by
  obtain ⟨k1, r0, k2, l2⟩ := hS.tx hT.1
  have hI := hT.2.1
  have hn := hT.2.2.1
  refine tb_okOf hG (by decide) rfl (Nat.le_of_ble_eq_true rfl) rfl ?_
  refine tb_aload_0 d_Tx_isPlainCommand_0 rfl ?_
  refine tb_iload_1 d_Tx_isPlainCommand_1 rfl ?_
  refine tb_callVr c_Tx_19 d_Tx_isPlainCommand_2 rfl rfl rfl (by decide) (by first | exact k1) (ok_Tx_at hG hS hT (show s < 2 ^ 31 by omega) (d + 2)) ?_
  refine tb_istore_2 d_Tx_isPlainCommand_5 rfl (by decide) ?_
  refine tb_iload_2 d_Tx_isPlainCommand_6 rfl ?_
  by_cases e43 : ta M t n s = 43
  · refine tb_lookup (99) 106 d_Tx_isPlainCommand_7 (by decide) (by rw [e43]; decide +kernel) (by decide) ?_
    refine tb_aload_0 d_Tx_isPlainCommand_106 rfl ?_
    refine tb_iload_1 d_Tx_isPlainCommand_107 rfl ?_
    refine tb_iconst (1) (by decide) d_Tx_isPlainCommand_108 rfl ?_
    refine tb_iadd d_Tx_isPlainCommand_109 rfl ?_
    rw [nI_1]
    refine tb_iconst (3) (by decide) d_Tx_isPlainCommand_110 rfl ?_
    refine tb_callVr c_Tx_31 d_Tx_isPlainCommand_111 rfl rfl rfl (by decide) (by first | exact k1) (ok_Tx_files (mm := 3) hG hS hT (show s + 1 ≤ 64 by omega) (by decide) d) ?_
    refine tb_ireturn d_Tx_isPlainCommand_114 rfl (by first | rfl | exact bI_nar _) ?_
    exact ⟨by congr 3; exact bI_iff (by simp [plainP, *]), rfl⟩
  by_cases e99 : ta M t n s = 99
  · refine tb_lookup (90) 97 d_Tx_isPlainCommand_7 (by decide) (by rw [e99]; decide +kernel) (by decide) ?_
    refine tb_aload_0 d_Tx_isPlainCommand_97 rfl ?_
    refine tb_iload_1 d_Tx_isPlainCommand_98 rfl ?_
    refine tb_iconst (1) (by decide) d_Tx_isPlainCommand_99 rfl ?_
    refine tb_iadd d_Tx_isPlainCommand_100 rfl ?_
    rw [nI_1]
    refine tb_iconst (2) (by decide) d_Tx_isPlainCommand_101 rfl ?_
    refine tb_callVr c_Tx_31 d_Tx_isPlainCommand_102 rfl rfl rfl (by decide) (by first | exact k1) (ok_Tx_files (mm := 2) hG hS hT (show s + 1 ≤ 64 by omega) (by decide) d) ?_
    refine tb_ireturn d_Tx_isPlainCommand_105 rfl (by first | rfl | exact bI_nar _) ?_
    exact ⟨by congr 3; exact bI_iff (by simp [plainP, *]), rfl⟩
  by_cases e102 : ta M t n s = 102
  · refine tb_lookup (108) 115 d_Tx_isPlainCommand_7 (by decide) (by rw [e102]; decide +kernel) (by decide) ?_
    refine tb_aload_0 d_Tx_isPlainCommand_115 rfl ?_
    refine tb_iload_1 d_Tx_isPlainCommand_116 rfl ?_
    refine tb_iconst (1) (by decide) d_Tx_isPlainCommand_117 rfl ?_
    refine tb_iadd d_Tx_isPlainCommand_118 rfl ?_
    rw [nI_1]
    refine tb_callVr c_Tx_35 d_Tx_isPlainCommand_119 rfl rfl rfl (by decide) (by first | exact k1) (ok_Tx_digitAt hG hS hT (show s + 1 < 2 ^ 31 by omega) (d + 1)) ?_
    refine tb_iconst (-1) (by decide) d_Tx_isPlainCommand_122 rfl ?_
    refine tb_icmp_eq 141 d_Tx_isPlainCommand_123 (by decide) rfl (fun h123 => ?_) (fun h123 => ?_)
    · have hfin : bI (plainP (ta M t n) n s) = 0 := bI_f (by simp [plainP, *])
      refine tb_iconst (0) (by decide) d_Tx_isPlainCommand_141 rfl ?_
      refine tb_ireturn d_Tx_isPlainCommand_142 rfl (by first | rfl | exact bI_nar _) ?_
      exact ⟨by rw [hfin], rfl⟩
    · refine tb_aload_0 d_Tx_isPlainCommand_126 rfl ?_
      refine tb_iload_1 d_Tx_isPlainCommand_127 rfl ?_
      refine tb_iconst (2) (by decide) d_Tx_isPlainCommand_128 rfl ?_
      refine tb_iadd d_Tx_isPlainCommand_129 rfl ?_
      rw [show nI s + 2 = nI (s + 2) from nI_add s 2]
      refine tb_iconst (2) (by decide) d_Tx_isPlainCommand_130 rfl ?_
      refine tb_callVr c_Tx_31 d_Tx_isPlainCommand_131 rfl rfl rfl (by decide) (by first | exact k1) (ok_Tx_files (mm := 2) hG hS hT (show s + 2 ≤ 64 by omega) (by decide) d) ?_
      refine tb_if_eq 141 d_Tx_isPlainCommand_134 (by decide) rfl (fun h134 => ?_) (fun h134 => ?_)
      · have hh : ¬ filesP (ta M t n) n (s + 2) 2 := bI_0.mp h134
        have hfin : bI (plainP (ta M t n) n s) = 0 := bI_f (by simp [plainP, *])
        refine tb_iconst (0) (by decide) d_Tx_isPlainCommand_141 rfl ?_
        refine tb_ireturn d_Tx_isPlainCommand_142 rfl (by first | rfl | exact bI_nar _) ?_
        exact ⟨by rw [hfin], rfl⟩
      · have hh : filesP (ta M t n) n (s + 2) 2 := Classical.not_not.mp (fun q => h134 (bI_0.mpr q))
        have hfin : bI (plainP (ta M t n) n s) = 1 := bI_t (by simp [plainP, *])
        refine tb_iconst (1) (by decide) d_Tx_isPlainCommand_137 rfl ?_
        refine tb_goto 142 d_Tx_isPlainCommand_138 (by decide) ?_
        refine tb_ireturn d_Tx_isPlainCommand_142 rfl (by first | rfl | exact bI_nar _) ?_
        exact ⟨by rw [hfin], rfl⟩
  by_cases e106 : ta M t n s = 106
  · refine tb_lookup (99) 106 d_Tx_isPlainCommand_7 (by decide) (by rw [e106]; decide +kernel) (by decide) ?_
    refine tb_aload_0 d_Tx_isPlainCommand_106 rfl ?_
    refine tb_iload_1 d_Tx_isPlainCommand_107 rfl ?_
    refine tb_iconst (1) (by decide) d_Tx_isPlainCommand_108 rfl ?_
    refine tb_iadd d_Tx_isPlainCommand_109 rfl ?_
    rw [nI_1]
    refine tb_iconst (3) (by decide) d_Tx_isPlainCommand_110 rfl ?_
    refine tb_callVr c_Tx_31 d_Tx_isPlainCommand_111 rfl rfl rfl (by decide) (by first | exact k1) (ok_Tx_files (mm := 3) hG hS hT (show s + 1 ≤ 64 by omega) (by decide) d) ?_
    refine tb_ireturn d_Tx_isPlainCommand_114 rfl (by first | rfl | exact bI_nar _) ?_
    exact ⟨by congr 3; exact bI_iff (by simp [plainP, *]), rfl⟩
  by_cases e108 : ta M t n s = 108
  · refine tb_lookup (81) 88 d_Tx_isPlainCommand_7 (by decide) (by rw [e108]; decide +kernel) (by decide) ?_
    refine tb_aload_0 d_Tx_isPlainCommand_88 rfl ?_
    refine tb_iload_1 d_Tx_isPlainCommand_89 rfl ?_
    refine tb_iconst (1) (by decide) d_Tx_isPlainCommand_90 rfl ?_
    refine tb_iadd d_Tx_isPlainCommand_91 rfl ?_
    rw [nI_1]
    refine tb_iconst (1) (by decide) d_Tx_isPlainCommand_92 rfl ?_
    refine tb_callVr c_Tx_31 d_Tx_isPlainCommand_93 rfl rfl rfl (by decide) (by first | exact k1) (ok_Tx_files (mm := 1) hG hS hT (show s + 1 ≤ 64 by omega) (by decide) d) ?_
    refine tb_ireturn d_Tx_isPlainCommand_96 rfl (by first | rfl | exact bI_nar _) ?_
    exact ⟨by congr 3; exact bI_iff (by simp [plainP, *]), rfl⟩
  by_cases e110 : ta M t n s = 110
  · refine tb_lookup (136) 143 d_Tx_isPlainCommand_7 (by decide) (by rw [e110]; decide +kernel) (by decide) ?_
    refine tb_aload_0 d_Tx_isPlainCommand_143 rfl ?_
    refine tb_iload_1 d_Tx_isPlainCommand_144 rfl ?_
    refine tb_iconst (1) (by decide) d_Tx_isPlainCommand_145 rfl ?_
    refine tb_iadd d_Tx_isPlainCommand_146 rfl ?_
    rw [nI_1]
    refine tb_callVr c_Tx_38 d_Tx_isPlainCommand_147 rfl rfl rfl (by decide) (by first | exact k1) (ok_Tx_digs hG hS hT (show s + 1 ≤ 64 by omega) d) ?_
    refine tb_ireturn d_Tx_isPlainCommand_150 rfl (by first | rfl | exact bI_nar _) ?_
    exact ⟨by congr 3; exact bI_iff (by simp [plainP, *]), rfl⟩
  by_cases e112 : ta M t n s = 112
  · refine tb_lookup (90) 97 d_Tx_isPlainCommand_7 (by decide) (by rw [e112]; decide +kernel) (by decide) ?_
    refine tb_aload_0 d_Tx_isPlainCommand_97 rfl ?_
    refine tb_iload_1 d_Tx_isPlainCommand_98 rfl ?_
    refine tb_iconst (1) (by decide) d_Tx_isPlainCommand_99 rfl ?_
    refine tb_iadd d_Tx_isPlainCommand_100 rfl ?_
    rw [nI_1]
    refine tb_iconst (2) (by decide) d_Tx_isPlainCommand_101 rfl ?_
    refine tb_callVr c_Tx_31 d_Tx_isPlainCommand_102 rfl rfl rfl (by decide) (by first | exact k1) (ok_Tx_files (mm := 2) hG hS hT (show s + 1 ≤ 64 by omega) (by decide) d) ?_
    refine tb_ireturn d_Tx_isPlainCommand_105 rfl (by first | rfl | exact bI_nar _) ?_
    exact ⟨by congr 3; exact bI_iff (by simp [plainP, *]), rfl⟩
  by_cases e115 : ta M t n s = 115
  · refine tb_lookup (90) 97 d_Tx_isPlainCommand_7 (by decide) (by rw [e115]; decide +kernel) (by decide) ?_
    refine tb_aload_0 d_Tx_isPlainCommand_97 rfl ?_
    refine tb_iload_1 d_Tx_isPlainCommand_98 rfl ?_
    refine tb_iconst (1) (by decide) d_Tx_isPlainCommand_99 rfl ?_
    refine tb_iadd d_Tx_isPlainCommand_100 rfl ?_
    rw [nI_1]
    refine tb_iconst (2) (by decide) d_Tx_isPlainCommand_101 rfl ?_
    refine tb_callVr c_Tx_31 d_Tx_isPlainCommand_102 rfl rfl rfl (by decide) (by first | exact k1) (ok_Tx_files (mm := 2) hG hS hT (show s + 1 ≤ 64 by omega) (by decide) d) ?_
    refine tb_ireturn d_Tx_isPlainCommand_105 rfl (by first | rfl | exact bI_nar _) ?_
    exact ⟨by congr 3; exact bI_iff (by simp [plainP, *]), rfl⟩
  by_cases e120 : ta M t n s = 120
  · refine tb_lookup (81) 88 d_Tx_isPlainCommand_7 (by decide) (by rw [e120]; decide +kernel) (by decide) ?_
    refine tb_aload_0 d_Tx_isPlainCommand_88 rfl ?_
    refine tb_iload_1 d_Tx_isPlainCommand_89 rfl ?_
    refine tb_iconst (1) (by decide) d_Tx_isPlainCommand_90 rfl ?_
    refine tb_iadd d_Tx_isPlainCommand_91 rfl ?_
    rw [nI_1]
    refine tb_iconst (1) (by decide) d_Tx_isPlainCommand_92 rfl ?_
    refine tb_callVr c_Tx_31 d_Tx_isPlainCommand_93 rfl rfl rfl (by decide) (by first | exact k1) (ok_Tx_files (mm := 1) hG hS hT (show s + 1 ≤ 64 by omega) (by decide) d) ?_
    refine tb_ireturn d_Tx_isPlainCommand_96 rfl (by first | rfl | exact bI_nar _) ?_
    exact ⟨by congr 3; exact bI_iff (by simp [plainP, *]), rfl⟩
  refine tb_lookup (144) 151 d_Tx_isPlainCommand_7 (by decide) (by show Op.lookupswitch.offset [(43, 99), (99, 90), (102, 108), (106, 99), (108, 81), (110, 136), (112, 90), (115, 90), (120, 81)] (144) _ = _; rw [lv_osw e43 (by decide), lv_osw e99 (by decide), lv_osw e102 (by decide), lv_osw e106 (by decide), lv_osw e108 (by decide), lv_osw e110 (by decide), lv_osw e112 (by decide), lv_osw e115 (by decide), lv_osw e120 (by decide)]; rfl) (by decide) ?_
  refine tb_iconst (0) (by decide) d_Tx_isPlainCommand_151 rfl ?_
  refine tb_ireturn d_Tx_isPlainCommand_152 rfl (by first | rfl | exact bI_nar _) ?_
  exact ⟨by rw [bI_f (by simp [plainP, *])], rfl⟩
theorem lp_Tx_cmd (hG : tb_G E) (hS : Sh M) (hT : TxOk M t n) {d rc rs : Nat} {Q : tb_O → tb_M → Prop} (hQ : Q (.inl (some (.inl (bI (cmdP (ta M t n) n))))) M) : ∀ (m j : Nat), n + 2 - 2 * j = m → 2 * j ≤ n + 2 → (∀ i, i < j → askP (ta M t n) n (2 * i)) → tb_Wp E m_Tx_isCommand (d + 4) rc rs 2 [some (.inr t), some (.inl (nI (2 * j)))] [] M Q := by
  obtain ⟨k1, r0, k2, l2⟩ := hS.tx hT.1
  have hI := hT.2.1
  have hn := hT.2.2.1
  intro m
  induction m using Nat.strongRecOn with
  | ind m ih =>
    intro j hm hj hall
    have hend : ¬ askP (ta M t n) n (2 * j) → bI (cmdP (ta M t n) n) = bI (plainP (ta M t n) n (2 * j)) := by
      intro hno
      refine bI_iff ⟨fun q => ?_, fun q => ⟨j, hall, hno, q⟩⟩
      obtain ⟨q, h1, h2, h3⟩ := q
      have hq : q = j := by
        rcases Nat.lt_trichotomy q j with h | h | h
        · exact absurd (hall q h) h2
        · exact h
        · exact absurd (h1 j h) hno
      subst hq
      exact h3
    refine tb_iload_1 d_Tx_isCommand_2 rfl ?_
    refine tb_aload_0 d_Tx_isCommand_3 rfl ?_
    refine g_Tx_15 d_Tx_isCommand_4 rfl rfl (by first | exact k1) ?_
    refine tb_topI hI ?_
    refine tb_icmp_ge 37 d_Tx_isCommand_7 (by decide) rfl (fun h7 => ?_) (fun h7 => ?_)
    · have hno : ¬ askP (ta M t n) n (2 * j) := fun q => by
        have := (nI_leI (by omega) (by omega)).mp h7
        have := q.1
        omega
      refine tb_aload_0 d_Tx_isCommand_37 rfl ?_
      refine tb_iload_1 d_Tx_isCommand_38 rfl ?_
      refine tb_callVr c_Tx_27 d_Tx_isCommand_39 rfl rfl rfl (by decide) (by first | exact k1) (ok_Tx_plain hG hS hT (show 2 * j ≤ 60 by omega) d) ?_
      refine tb_ireturn d_Tx_isCommand_42 rfl (by exact bI_nar _) ?_
      rw [hend hno] at hQ
      exact hQ
    · have hlt : 2 * j < n := by
        have : ¬ n ≤ 2 * j := fun q => h7 ((nI_leI (by omega) (by omega)).mpr q)
        omega
      refine tb_aload_0 d_Tx_isCommand_10 rfl ?_
      refine tb_iload_1 d_Tx_isCommand_11 rfl ?_
      refine tb_callVr c_Tx_19 d_Tx_isCommand_12 rfl rfl rfl (by decide) (by first | exact k1) (ok_Tx_at hG hS hT (show 2 * j < 2 ^ 31 by omega) (d + 3)) ?_
      refine tb_bipush (63) (by decide) d_Tx_isCommand_15 rfl ?_
      refine tb_icmp_ne 37 d_Tx_isCommand_17 (by decide) rfl (fun h17 => ?_) (fun h17 => ?_)
      · have hno : ¬ askP (ta M t n) n (2 * j) := fun q => h17 q.2.1
        refine tb_aload_0 d_Tx_isCommand_37 rfl ?_
        refine tb_iload_1 d_Tx_isCommand_38 rfl ?_
        refine tb_callVr c_Tx_27 d_Tx_isCommand_39 rfl rfl rfl (by decide) (by first | exact k1) (ok_Tx_plain hG hS hT (show 2 * j ≤ 60 by omega) d) ?_
        refine tb_ireturn d_Tx_isCommand_42 rfl (by exact bI_nar _) ?_
        rw [hend hno] at hQ
        exact hQ
      · refine tb_aload_0 d_Tx_isCommand_20 rfl ?_
        refine tb_iload_1 d_Tx_isCommand_21 rfl ?_
        refine tb_iconst (1) (by decide) d_Tx_isCommand_22 rfl ?_
        refine tb_iadd d_Tx_isCommand_23 rfl ?_
        rw [nI_1]
        refine tb_callVr c_Tx_23 d_Tx_isCommand_24 rfl rfl rfl (by decide) (by first | exact k1) (ok_Tx_fileAt hG hS hT (show 2 * j + 1 < 2 ^ 31 by omega) (d + 2)) ?_
        refine tb_iconst (-1) (by decide) d_Tx_isCommand_27 rfl ?_
        refine tb_icmp_eq 37 d_Tx_isCommand_28 (by decide) rfl (fun h28 => ?_) (fun h28 => ?_)
        · have hno : ¬ askP (ta M t n) n (2 * j) := fun q => q.2.2 h28
          refine tb_aload_0 d_Tx_isCommand_37 rfl ?_
          refine tb_iload_1 d_Tx_isCommand_38 rfl ?_
          refine tb_callVr c_Tx_27 d_Tx_isCommand_39 rfl rfl rfl (by decide) (by first | exact k1) (ok_Tx_plain hG hS hT (show 2 * j ≤ 60 by omega) d) ?_
          refine tb_ireturn d_Tx_isCommand_42 rfl (by exact bI_nar _) ?_
          rw [hend hno] at hQ
          exact hQ
        · refine tb_iinc_1 (2) d_Tx_isCommand_31 rfl (by decide) (by decide) ?_
          refine tb_goto 2 d_Tx_isCommand_34 (by decide) ?_
          rw [show nI (2 * j) + 2 = nI (2 * (j + 1)) from nI_add (2 * j) 2]
          exact ih (n + 2 - 2 * (j + 1)) (by omega) (j + 1) rfl (by omega) (fun i h1 => by
            by_cases e : i = j
            · subst e; exact ⟨hlt, h17, h28⟩
            · exact hall i (by omega))
theorem ok_Tx_cmd (hG : tb_G E) (hS : Sh M) (hT : TxOk M t n) (d : Nat) : tb_Ret E m_Tx_isCommand (d + 4) [.inr (.inl t)] M (some (.inl (bI (cmdP (ta M t n) n)))) M := by
  obtain ⟨k1, r0, k2, l2⟩ := hS.tx hT.1
  have hI := hT.2.1
  have hn := hT.2.2.1
  refine tb_okOf hG (by decide) rfl (Nat.le_of_ble_eq_true rfl) rfl ?_
  refine tb_iconst (0) (by decide) d_Tx_isCommand_0 rfl ?_
  refine tb_istore_1 d_Tx_isCommand_1 rfl (by decide) ?_
  exact lp_Tx_cmd hG hS hT ⟨rfl, rfl⟩ (n + 2) 0 rfl (by omega) (fun i h => absurd h (Nat.not_lt_zero _))
end Text2
