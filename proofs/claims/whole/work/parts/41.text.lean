/-! Text. -/
noncomputable def bI (p : Prop) : Int32 := @ite _ p (Classical.propDecidable p) 1 0
theorem bI_t {p : Prop} (h : p) : bI p = 1 := by unfold bI; rw [if_pos h]
theorem bI_f {p : Prop} (h : ¬ p) : bI p = 0 := by unfold bI; rw [if_neg h]
theorem bI_iff {p q : Prop} (h : p ↔ q) : bI p = bI q := by rw [propext h]
theorem bI_0 {p : Prop} : bI p = 0 ↔ ¬ p := by
  by_cases h : p
  · rw [bI_t h]; exact ⟨fun q => absurd q (by decide), fun q => absurd h q⟩
  · rw [bI_f h]; exact ⟨fun _ => h, fun _ => rfl⟩
theorem bI_01 (p : Prop) : bI p = 0 ∨ bI p = 1 := by
  by_cases h : p
  · exact Or.inr (bI_t h)
  · exact Or.inl (bI_f h)
theorem bI_nar (p : Prop) : narrow .boolean (.int (bI p)) = .int (bI p) := by
  rcases bI_01 p with h | h <;> rw [h] <;> rfl
/-- the text at t has n characters -/
def TxOk (M : tb_M) (t n : Nat) : Prop := gK t = 6 ∧ tb_I M t 1 = nI n ∧ n ≤ 12 ∧ ∀ i, i < 12 → narrow .char (.int (tb_I M (t + 1) i)) = .int (tb_I M (t + 1) i)
/-- its i-th character, or 0 -/
def ta (M : tb_M) (t n j : Nat) : Int32 := if j < n then tb_I M (t + 1) j else 0
def fOf (x : Int32) : Int32 := if 97 ≤ x ∧ x ≤ 108 then x - 97 else -1
def dOf (x : Int32) : Int32 := if 49 ≤ x ∧ x ≤ 57 then x - 48 else -1
theorem nI_lit (n : Nat) : nI n = Int32.ofNat n := rfl
section Text
variable {E : tb_E} {M : tb_M} {t n : Nat}
theorem ok_Tx_length (hG : tb_G E) (hS : Sh M) (hT : TxOk M t n) (d : Nat) : tb_Ret E m_Tx_length d [.inr (.inl t)] M (some (.inl (nI n))) M := by
  obtain ⟨k1, r0, k2, l2⟩ := hS.tx hT.1
  have hI := hT.2.1
  have hn := hT.2.2.1
  refine tb_okOf hG (by decide) rfl (Nat.le_of_ble_eq_true rfl) rfl ?_
  refine tb_aload_0 d_Tx_length_0 rfl ?_
  refine g_Tx_15 d_Tx_length_1 rfl rfl (by first | exact k1 | exact k2) ?_
  refine tb_topI hI ?_
  refine tb_ireturn d_Tx_length_4 rfl (by first | rfl | assumption) ?_
  exact ⟨rfl, rfl⟩
theorem ok_Tx_at (hG : tb_G E) (hS : Sh M) (hT : TxOk M t n) {j : Nat} (hj : j < 2 ^ 31) (d : Nat) : tb_Ret E m_Tx_at d [.inr (.inl t), .inl (nI j)] M (some (.inl (ta M t n j))) M := by
  obtain ⟨k1, r0, k2, l2⟩ := hS.tx hT.1
  have hI := hT.2.1
  have hn := hT.2.2.1
  refine tb_okOf hG (by decide) rfl (Nat.le_of_ble_eq_true rfl) rfl ?_
  refine tb_iload_1 d_Tx_at_0 rfl ?_
  refine tb_if_lt 21 d_Tx_at_1 (by decide) rfl (fun h1 => ?_) (fun h1 => ?_)
  · exact absurd h1 (nI_pos hj)
  · refine tb_iload_1 d_Tx_at_4 rfl ?_
    refine tb_aload_0 d_Tx_at_5 rfl ?_
    refine g_Tx_15 d_Tx_at_6 rfl rfl (by first | exact k1 | exact k2) ?_
    refine tb_topI hI ?_
    refine tb_icmp_ge 21 d_Tx_at_9 (by decide) rfl (fun h9 => ?_) (fun h9 => ?_)
    · have hlt : ¬ j < n := by have := (nI_leI (by omega) hj).mp h9; omega
      refine tb_iconst (0) (by decide) d_Tx_at_21 rfl ?_
      refine tb_ireturn d_Tx_at_22 rfl (by first | rfl | exact hT.2.2.2 j (by omega)) ?_
      refine ⟨?_, rfl⟩
      simp [ta, hlt]
    · have hlt : j < n := by
        have : ¬ n ≤ j := fun q => h9 ((nI_leI (a := n) (b := j) (by omega) hj).mpr q)
        omega
      refine tb_aload_0 d_Tx_at_12 rfl ?_
      refine g_Tx_9 d_Tx_at_13 rfl rfl (by first | exact k1 | exact k2) ?_
      refine tb_topR r0 ?_
      refine tb_iload_1 d_Tx_at_16 rfl ?_
      refine tb_caload d_Tx_at_17 rfl (by first | exact k1 | exact k2) (by rw [l2]; exact vp_in_nI (by omega) (by omega)) ?_
      refine tb_topI (y := tb_I M (t + 1) j) (by rw [nI_clamp hj]) ?_
      refine tb_goto 22 d_Tx_at_18 (by decide) ?_
      refine tb_ireturn d_Tx_at_22 rfl (by first | rfl | exact hT.2.2.2 j (by omega)) ?_
      refine ⟨?_, rfl⟩
      simp [ta, hlt]
theorem ok_Tx_clear (hG : tb_G E) (hS : Sh M) (hT : TxOk M t n) (d : Nat) : tb_Ret E m_Tx_clear d [.inr (.inl t)] M none (tb_sI M t 1 0) := by
  obtain ⟨k1, r0, k2, l2⟩ := hS.tx hT.1
  have hI := hT.2.1
  have hn := hT.2.2.1
  refine tb_okOf hG (by decide) rfl (Nat.le_of_ble_eq_true rfl) rfl ?_
  refine tb_aload_0 d_Tx_clear_0 rfl ?_
  refine tb_iconst (0) (by decide) d_Tx_clear_1 rfl ?_
  refine p_Tx_15 d_Tx_clear_2 rfl rfl (by first | exact k1 | exact k2) ?_
  refine tb_vreturn d_Tx_clear_5 rfl ?_
  exact ⟨rfl, rfl⟩
theorem ok_Tx_append0 (hG : tb_G E) (hS : Sh M) (hT : TxOk M t n) {c : Int32} (hf : n = 12) (d : Nat) : tb_Ret E m_Tx_append d [.inr (.inl t), .inl c] M (some (.inl 0)) M := by
  obtain ⟨k1, r0, k2, l2⟩ := hS.tx hT.1
  have hI := hT.2.1
  have hn := hT.2.2.1
  refine tb_okOf hG (by decide) rfl (Nat.le_of_ble_eq_true rfl) rfl ?_
  refine tb_aload_0 d_Tx_append_0 rfl ?_
  refine g_Tx_15 d_Tx_append_1 rfl rfl (by first | exact k1 | exact k2) ?_
  refine tb_topI hI ?_
  refine tb_bipush (12) (by decide) d_Tx_append_4 rfl ?_
  refine tb_icmp_lt 11 d_Tx_append_6 (by decide) rfl (fun h6 => ?_) (fun h6 => ?_)
  · exact absurd h6 (by rw [hf]; decide)
  · refine tb_iconst (0) (by decide) d_Tx_append_9 rfl ?_
    refine tb_ireturn d_Tx_append_10 rfl (by first | rfl | assumption) ?_
    exact ⟨rfl, rfl⟩
theorem ok_Tx_append1 (hG : tb_G E) (hS : Sh M) (hT : TxOk M t n) {c : Int32} (hf : n < 12) (d : Nat) : tb_Ret E m_Tx_append d [.inr (.inl t), .inl c] M (some (.inl 1)) (tb_sI (tb_sI M (t + 1) n (vp_nar .char c)) t 1 (nI (n + 1))) := by
  obtain ⟨k1, r0, k2, l2⟩ := hS.tx hT.1
  have hI := hT.2.1
  have hn := hT.2.2.1
  refine tb_okOf hG (by decide) rfl (Nat.le_of_ble_eq_true rfl) rfl ?_
  refine tb_aload_0 d_Tx_append_0 rfl ?_
  refine g_Tx_15 d_Tx_append_1 rfl rfl (by first | exact k1 | exact k2) ?_
  refine tb_topI hI ?_
  refine tb_bipush (12) (by decide) d_Tx_append_4 rfl ?_
  refine tb_icmp_lt 11 d_Tx_append_6 (by decide) rfl (fun h6 => ?_) (fun h6 => ?_)
  · refine tb_aload_0 d_Tx_append_11 rfl ?_
    refine g_Tx_9 d_Tx_append_12 rfl rfl (by first | exact k1 | exact k2) ?_
    refine tb_topR r0 ?_
    refine tb_aload_0 d_Tx_append_15 rfl ?_
    refine g_Tx_15 d_Tx_append_16 rfl rfl (by first | exact k1 | exact k2) ?_
    refine tb_topI hI ?_
    refine tb_iload_1 d_Tx_append_19 rfl ?_
    refine tb_castore d_Tx_append_20 rfl (by first | exact k1 | exact k2) (by rw [l2]; exact vp_in_nI (by omega) (by omega)) ?_
    rw [nI_clamp (show n < 2 ^ 31 by omega)]
    refine tb_aload_0 d_Tx_append_21 rfl ?_
    refine tb_dup d_Tx_append_22 rfl ?_
    refine g_Tx_15 d_Tx_append_23 rfl rfl (by first | exact k1 | exact k2) ?_
    refine tb_topI (y := nI n) (by show va_up (tb_I M) (t + 1) _ t 1 = _; unfold va_up; rw [if_neg (by omega)]; exact hI) ?_
    refine tb_iconst (1) (by decide) d_Tx_append_26 rfl ?_
    refine tb_iadd d_Tx_append_27 rfl ?_
    refine tb_topI (y := nI (n + 1)) (nI_1 n) ?_
    refine p_Tx_15 d_Tx_append_28 rfl rfl (by first | exact k1 | exact k2) ?_
    refine tb_iconst (1) (by decide) d_Tx_append_31 rfl ?_
    refine tb_ireturn d_Tx_append_32 rfl (by first | rfl | assumption) ?_
    exact ⟨rfl, rfl⟩
  · exact absurd (nI_lt hf (by decide)) h6
theorem ok_Tx_fileAt (hG : tb_G E) (hS : Sh M) (hT : TxOk M t n) {j : Nat} (hj : j < 2 ^ 31) (d : Nat) : tb_Ret E m_Tx_fileAt (d + 1) [.inr (.inl t), .inl (nI j)] M (some (.inl (fOf (ta M t n j)))) M := by
  obtain ⟨k1, r0, k2, l2⟩ := hS.tx hT.1
  have hI := hT.2.1
  have hn := hT.2.2.1
  refine tb_okOf hG (by decide) rfl (Nat.le_of_ble_eq_true rfl) rfl ?_
  refine tb_aload_0 d_Tx_fileAt_0 rfl ?_
  refine tb_iload_1 d_Tx_fileAt_1 rfl ?_
  refine tb_callVr c_Tx_19 d_Tx_fileAt_2 rfl rfl rfl (by decide) (by first | exact k1 | exact k2) (ok_Tx_at hG hS hT hj d) ?_
  refine tb_istore_2 d_Tx_fileAt_5 rfl (by decide) ?_
  refine tb_iload_2 d_Tx_fileAt_6 rfl ?_
  refine tb_bipush (97) (by decide) d_Tx_fileAt_7 rfl ?_
  refine tb_icmp_lt 25 d_Tx_fileAt_9 (by decide) rfl (fun h9 => ?_) (fun h9 => ?_)
  · have hc : ¬ (97 ≤ ta M t n j ∧ ta M t n j ≤ 108) := fun q => Int32.not_lt.mpr q.1 h9
    refine tb_iconst (-1) (by decide) d_Tx_fileAt_25 rfl ?_
    refine tb_ireturn d_Tx_fileAt_26 rfl (by first | rfl | assumption) ?_
    refine ⟨?_, rfl⟩
    simp [fOf, hc]
  · refine tb_iload_2 d_Tx_fileAt_12 rfl ?_
    refine tb_bipush (108) (by decide) d_Tx_fileAt_13 rfl ?_
    refine tb_icmp_gt 25 d_Tx_fileAt_15 (by decide) rfl (fun h15 => ?_) (fun h15 => ?_)
    · have hc : ¬ (97 ≤ ta M t n j ∧ ta M t n j ≤ 108) := fun q => Int32.not_lt.mpr q.2 h15
      refine tb_iconst (-1) (by decide) d_Tx_fileAt_25 rfl ?_
      refine tb_ireturn d_Tx_fileAt_26 rfl (by first | rfl | assumption) ?_
      refine ⟨?_, rfl⟩
      simp [fOf, hc]
    · have hc : 97 ≤ ta M t n j ∧ ta M t n j ≤ 108 := ⟨Int32.not_lt.mp h9, Int32.not_lt.mp h15⟩
      refine tb_iload_2 d_Tx_fileAt_18 rfl ?_
      refine tb_bipush (97) (by decide) d_Tx_fileAt_19 rfl ?_
      refine tb_isub d_Tx_fileAt_21 rfl ?_
      refine tb_goto 26 d_Tx_fileAt_22 (by decide) ?_
      refine tb_ireturn d_Tx_fileAt_26 rfl (by first | rfl | assumption) ?_
      refine ⟨?_, rfl⟩
      simp [fOf, hc]
theorem ok_Tx_digitAt (hG : tb_G E) (hS : Sh M) (hT : TxOk M t n) {j : Nat} (hj : j < 2 ^ 31) (d : Nat) : tb_Ret E m_Tx_digitAt (d + 1) [.inr (.inl t), .inl (nI j)] M (some (.inl (dOf (ta M t n j)))) M := by
  obtain ⟨k1, r0, k2, l2⟩ := hS.tx hT.1
  have hI := hT.2.1
  have hn := hT.2.2.1
  refine tb_okOf hG (by decide) rfl (Nat.le_of_ble_eq_true rfl) rfl ?_
  refine tb_aload_0 d_Tx_digitAt_0 rfl ?_
  refine tb_iload_1 d_Tx_digitAt_1 rfl ?_
  refine tb_callVr c_Tx_19 d_Tx_digitAt_2 rfl rfl rfl (by decide) (by first | exact k1 | exact k2) (ok_Tx_at hG hS hT hj d) ?_
  refine tb_istore_2 d_Tx_digitAt_5 rfl (by decide) ?_
  refine tb_iload_2 d_Tx_digitAt_6 rfl ?_
  refine tb_bipush (49) (by decide) d_Tx_digitAt_7 rfl ?_
  refine tb_icmp_lt 25 d_Tx_digitAt_9 (by decide) rfl (fun h9 => ?_) (fun h9 => ?_)
  · have hc : ¬ (49 ≤ ta M t n j ∧ ta M t n j ≤ 57) := fun q => Int32.not_lt.mpr q.1 h9
    refine tb_iconst (-1) (by decide) d_Tx_digitAt_25 rfl ?_
    refine tb_ireturn d_Tx_digitAt_26 rfl (by first | rfl | assumption) ?_
    refine ⟨?_, rfl⟩
    simp [dOf, hc]
  · refine tb_iload_2 d_Tx_digitAt_12 rfl ?_
    refine tb_bipush (57) (by decide) d_Tx_digitAt_13 rfl ?_
    refine tb_icmp_gt 25 d_Tx_digitAt_15 (by decide) rfl (fun h15 => ?_) (fun h15 => ?_)
    · have hc : ¬ (49 ≤ ta M t n j ∧ ta M t n j ≤ 57) := fun q => Int32.not_lt.mpr q.2 h15
      refine tb_iconst (-1) (by decide) d_Tx_digitAt_25 rfl ?_
      refine tb_ireturn d_Tx_digitAt_26 rfl (by first | rfl | assumption) ?_
      refine ⟨?_, rfl⟩
      simp [dOf, hc]
    · have hc : 49 ≤ ta M t n j ∧ ta M t n j ≤ 57 := ⟨Int32.not_lt.mp h9, Int32.not_lt.mp h15⟩
      refine tb_iload_2 d_Tx_digitAt_18 rfl ?_
      refine tb_bipush (48) (by decide) d_Tx_digitAt_19 rfl ?_
      refine tb_isub d_Tx_digitAt_21 rfl ?_
      refine tb_goto 26 d_Tx_digitAt_22 (by decide) ?_
      refine tb_ireturn d_Tx_digitAt_26 rfl (by first | rfl | assumption) ?_
      refine ⟨?_, rfl⟩
      simp [dOf, hc]
theorem gK_ne {a b : Nat} (h : gK a ≠ gK b) : a ≠ b := fun q => h (by rw [q])
theorem nar_ch {x : Int32} (h : narrow .char (.int x) = .int x) : vp_nar .char x = x := by unfold vp_nar; rw [h]
/-- t becomes o, as far as the j-th character -/
def bec (M : tb_M) (t o n j : Nat) : tb_M := (tb_n M, tb_u M, tb_K M, tb_Ln M, fun q i => if q = t then (if i = 1 then nI n else tb_I M t i) else if q = t + 1 then (if i < j then tb_I M (o + 1) i else tb_I M (t + 1) i) else tb_I M q i, tb_R M, tb_J M)
theorem bec_0 (M : tb_M) (t o n : Nat) : tb_sI M t 1 (nI n) = bec M t o n 0 := by
  unfold tb_sI bec
  simp only [Prod.mk.injEq, true_and, and_true]
  funext q i
  unfold va_up
  by_cases h : q = t
  · subst h; simp
  · by_cases h2 : q = t + 1
    · subst h2; simp
    · simp [h, h2]
theorem bec_1 (M : tb_M) (t o n j : Nat) : tb_sI (bec M t o n j) (t + 1) j (tb_I M (o + 1) j) = bec M t o n (j + 1) := by
  show (tb_n M, tb_u M, tb_K M, tb_Ln M, va_up (tb_I (bec M t o n j)) (t + 1) (va_up (tb_I (bec M t o n j) (t + 1)) j (tb_I M (o + 1) j)), tb_R M, tb_J M) = bec M t o n (j + 1)
  unfold bec
  simp only [Prod.mk.injEq, true_and, and_true]
  funext q i
  unfold va_up tb_I
  by_cases h : q = t + 1
  · subst h
    by_cases h3 : i = j
    · subst h3; simp
    · by_cases h4 : i < j
      · have : i < j + 1 := by omega
        simp [h3, h4, this]
      · have : ¬ i < j + 1 := by omega
        simp [h3, h4, this]
  · by_cases h2 : q = t
    · subst h2; simp
    · simp [h, h2]
theorem tb_memeq {E : tb_E} {k : tb_MD} {d rc rs pc : Nat} {L : List tb_L} {S : List tb_V} {M M' : tb_M} {Q : tb_O → tb_M → Prop} (h : M = M') (kk : tb_Wp E k d rc rs pc L S M' Q) : tb_Wp E k d rc rs pc L S M Q := h ▸ kk
theorem lp_Tx_become (hS : Sh M) (hT : gK t = 6) {o : Nat} (hO : TxOk M o n) (hne : t ≠ o) {d rc rs : Nat} {Q : tb_O → tb_M → Prop} (hQ : Q (.inl none) (bec M t o n n)) : ∀ (m j : Nat), n - j = m → j ≤ n → tb_Wp E m_Tx_become d rc rs 10 [some (.inr t), some (.inr o), some (.inl (nI j))] [] (bec M t o n j) Q := by
  obtain ⟨k1, r0, k2, l2⟩ := hS.tx hT
  obtain ⟨k3, r1, k4, l4⟩ := hS.tx hO.1
  have hn := hO.2.2.1
  have n1 : o + 1 ≠ t := gK_ne (by rw [(gK_tx o (gK_lt (by rw [hO.1]; decide)) hO.1).1, hT]; decide)
  intro m
  induction m using Nat.strongRecOn with
  | ind m ih =>
    intro j hm hj
    refine tb_iload_2 d_Tx_become_10 rfl ?_
    refine tb_aload_0 d_Tx_become_11 rfl ?_
    refine g_Tx_15 d_Tx_become_12 rfl rfl (by first | exact k1 | exact k2 | exact k3 | exact k4) ?_
    refine tb_topI (y := nI n) (by simp [tb_I, bec]) ?_
    refine tb_icmp_ge 36 d_Tx_become_15 (by decide) rfl (fun h15 => ?_) (fun h15 => ?_)
    · have hje : j = n := by have := (nI_leI (a := n) (b := j) (by omega) (by omega)).mp h15; omega
      subst hje
      refine tb_vreturn d_Tx_become_36 rfl ?_
      exact hQ
    · have hlt : j < n := by
        have : ¬ n ≤ j := fun q => h15 ((nI_leI (a := n) (b := j) (by omega) (by omega)).mpr q)
        omega
      refine tb_aload_0 d_Tx_become_18 rfl ?_
      refine g_Tx_9 d_Tx_become_19 rfl rfl (by first | exact k1 | exact k2 | exact k3 | exact k4) ?_
      refine tb_topR r0 ?_
      refine tb_iload_2 d_Tx_become_22 rfl ?_
      refine tb_aload_1 d_Tx_become_23 rfl ?_
      refine g_Tx_9 d_Tx_become_24 rfl rfl (by first | exact k1 | exact k2 | exact k3 | exact k4) ?_
      refine tb_topR r1 ?_
      refine tb_iload_2 d_Tx_become_27 rfl ?_
      refine tb_caload d_Tx_become_28 rfl (by first | exact k1 | exact k2 | exact k3 | exact k4) (by show vp_in _ (tb_Ln M (o + 1)); rw [l4]; exact vp_in_nI (by omega) (by omega)) ?_
      refine tb_topI (y := tb_I M (o + 1) j) (by rw [nI_clamp (show j < 2 ^ 31 by omega)]; have hne2 : ¬ o = t := fun q => hne q.symm; simp [tb_I, bec, n1, hne2]) ?_
      refine tb_castore d_Tx_become_29 rfl (by first | exact k1 | exact k2 | exact k3 | exact k4) (by show vp_in _ (tb_Ln M (t + 1)); rw [l2]; exact vp_in_nI (by omega) (by omega)) ?_
      rw [nI_clamp (show j < 2 ^ 31 by omega), nar_ch (hO.2.2.2 j (by omega)), bec_1]
      refine tb_iinc_2 (1) d_Tx_become_30 rfl (by decide) (by decide) ?_
      refine tb_goto 10 d_Tx_become_33 (by decide) ?_
      rw [nI_1]
      exact ih (n - (j + 1)) (by omega) (j + 1) rfl (by omega)
theorem ok_Tx_become (hG : tb_G E) (hS : Sh M) (hT : gK t = 6) {o : Nat} (hO : TxOk M o n) (hne : t ≠ o) (d : Nat) : tb_Ret E m_Tx_become d [.inr (.inl t), .inr (.inl o)] M none (bec M t o n n) := by
  obtain ⟨k1, r0, k2, l2⟩ := hS.tx hT
  obtain ⟨k3, r1, k4, l4⟩ := hS.tx hO.1
  refine tb_okOf hG (by decide) rfl (Nat.le_of_ble_eq_true rfl) rfl ?_
  refine tb_aload_0 d_Tx_become_0 rfl ?_
  refine tb_aload_1 d_Tx_become_1 rfl ?_
  refine g_Tx_15 d_Tx_become_2 rfl rfl (by first | exact k1 | exact k3) ?_
  refine tb_topI hO.2.1 ?_
  refine p_Tx_15 d_Tx_become_5 rfl rfl (by first | exact k1 | exact k3) ?_
  rw [bec_0 M t o n]
  refine tb_iconst (0) (by decide) d_Tx_become_8 rfl ?_
  refine tb_istore_2 d_Tx_become_9 rfl (by decide) ?_
  exact lp_Tx_become hS hT hO hne ⟨rfl, rfl⟩ n 0 rfl (Nat.zero_le _)
def sameT (M : tb_M) (t n o n' : Nat) : Prop := n = n' ∧ ∀ i, i < n → tb_I M (t + 1) i = tb_I M (o + 1) i
theorem lp_Tx_isSame (hS : Sh M) (hT : TxOk M t n) {o : Nat} (hO : TxOk M o n) {d rc rs : Nat} {Q : tb_O → tb_M → Prop} (hQ : Q (.inl (some (.inl (bI (sameT M t n o n))))) M) : ∀ (m j : Nat), n - j = m → j ≤ n → (∀ i, i < j → tb_I M (t + 1) i = tb_I M (o + 1) i) → tb_Wp E m_Tx_isSame d rc rs 15 [some (.inr t), some (.inr o), some (.inl (nI j))] [] M Q := by
  obtain ⟨k1, r0, k2, l2⟩ := hS.tx hT.1
  obtain ⟨k3, r1, k4, l4⟩ := hS.tx hO.1
  have hI := hT.2.1
  have hn := hO.2.2.1
  intro m
  induction m using Nat.strongRecOn with
  | ind m ih =>
    intro j hm hj hall
    refine tb_iload_2 d_Tx_isSame_15 rfl ?_
    refine tb_aload_0 d_Tx_isSame_16 rfl ?_
    refine g_Tx_15 d_Tx_isSame_17 rfl rfl (by first | exact k1 | exact k2 | exact k3 | exact k4) ?_
    refine tb_topI hI ?_
    refine tb_icmp_ge 46 d_Tx_isSame_20 (by decide) rfl (fun h20 => ?_) (fun h20 => ?_)
    · have hje : j = n := by have := (nI_leI (a := n) (b := j) (by omega) (by omega)).mp h20; omega
      subst hje
      refine tb_iconst (1) (by decide) d_Tx_isSame_46 rfl ?_
      refine tb_ireturn d_Tx_isSame_47 rfl (by first | rfl | assumption) ?_
      rw [bI_t ⟨rfl, hall⟩] at hQ
      exact hQ
    · have hlt : j < n := by
        have : ¬ n ≤ j := fun q => h20 ((nI_leI (a := n) (b := j) (by omega) (by omega)).mpr q)
        omega
      refine tb_aload_0 d_Tx_isSame_23 rfl ?_
      refine g_Tx_9 d_Tx_isSame_24 rfl rfl (by first | exact k1 | exact k2 | exact k3 | exact k4) ?_
      refine tb_topR r0 ?_
      refine tb_iload_2 d_Tx_isSame_27 rfl ?_
      refine tb_caload d_Tx_isSame_28 rfl (by first | exact k1 | exact k2 | exact k3 | exact k4) (by first | (rw [l2]; exact vp_in_nI (by omega) (by omega)) | (rw [l4]; exact vp_in_nI (by omega) (by omega))) ?_
      refine tb_topI (y := tb_I M (t + 1) j) (by rw [nI_clamp (show j < 2 ^ 31 by omega)]) ?_
      refine tb_aload_1 d_Tx_isSame_29 rfl ?_
      refine g_Tx_9 d_Tx_isSame_30 rfl rfl (by first | exact k1 | exact k2 | exact k3 | exact k4) ?_
      refine tb_topR r1 ?_
      refine tb_iload_2 d_Tx_isSame_33 rfl ?_
      refine tb_caload d_Tx_isSame_34 rfl (by first | exact k1 | exact k2 | exact k3 | exact k4) (by first | (rw [l2]; exact vp_in_nI (by omega) (by omega)) | (rw [l4]; exact vp_in_nI (by omega) (by omega))) ?_
      refine tb_topI (y := tb_I M (o + 1) j) (by rw [nI_clamp (show j < 2 ^ 31 by omega)]) ?_
      refine tb_icmp_eq 40 d_Tx_isSame_35 (by decide) rfl (fun h35 => ?_) (fun h35 => ?_)
      · refine tb_iinc_2 (1) d_Tx_isSame_40 rfl (by decide) (by decide) ?_
        refine tb_goto 15 d_Tx_isSame_43 (by decide) ?_
        rw [nI_1]
        exact ih (n - (j + 1)) (by omega) (j + 1) rfl (by omega) (fun i hi => by
          by_cases e : i = j
          · subst e; exact h35
          · exact hall i (by omega))
      · refine tb_iconst (0) (by decide) d_Tx_isSame_38 rfl ?_
        refine tb_ireturn d_Tx_isSame_39 rfl (by first | rfl | assumption) ?_
        rw [bI_f (fun q => h35 (q.2 j hlt))] at hQ
        exact hQ
theorem ok_Tx_isSame (hG : tb_G E) (hS : Sh M) (hT : TxOk M t n) {o n' : Nat} (hO : TxOk M o n') (d : Nat) : tb_Ret E m_Tx_isSame d [.inr (.inl t), .inr (.inl o)] M (some (.inl (bI (sameT M t n o n')))) M := by
  obtain ⟨k1, r0, k2, l2⟩ := hS.tx hT.1
  obtain ⟨k3, r1, k4, l4⟩ := hS.tx hO.1
  have hn := hT.2.2.1
  have hn' := hO.2.2.1
  refine tb_okOf hG (by decide) rfl (Nat.le_of_ble_eq_true rfl) rfl ?_
  refine tb_aload_0 d_Tx_isSame_0 rfl ?_
  refine g_Tx_15 d_Tx_isSame_1 rfl rfl (by first | exact k1 | exact k3) ?_
  refine tb_topI hT.2.1 ?_
  refine tb_aload_1 d_Tx_isSame_4 rfl ?_
  refine g_Tx_15 d_Tx_isSame_5 rfl rfl (by first | exact k1 | exact k3) ?_
  refine tb_topI hO.2.1 ?_
  refine tb_icmp_eq 13 d_Tx_isSame_8 (by decide) rfl (fun h8 => ?_) (fun h8 => ?_)
  · have hnn := (nI_eq (by omega) (by omega)).mp h8
    subst hnn
    refine tb_iconst (0) (by decide) d_Tx_isSame_13 rfl ?_
    refine tb_istore_2 d_Tx_isSame_14 rfl (by decide) ?_
    exact lp_Tx_isSame hS hT hO ⟨rfl, rfl⟩ n 0 rfl (Nat.zero_le _) (fun i hi => absurd hi (Nat.not_lt_zero _))
  · have hnn : ¬ n = n' := fun q => h8 (by rw [q])
    refine tb_iconst (0) (by decide) d_Tx_isSame_11 rfl ?_
    refine tb_ireturn d_Tx_isSame_12 rfl (by first | rfl | assumption) ?_
    exact ⟨by rw [bI_f (fun q => hnn q.1)], rfl⟩
end Text
