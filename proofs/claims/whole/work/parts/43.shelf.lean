/-! Shelf. -/
theorem nI_mul6 (p : Nat) : nI p * 6 = nI (6 * p) := by
  rw [Nat.mul_comm]; exact (Int32.ofNat_mul p 6).symm
def tb_wI (M : tb_M) (I : Nat → Nat → Int32) : tb_M := (tb_n M, tb_u M, tb_K M, tb_Ln M, I, tb_R M, tb_J M)
/-- M' is M, but for the ints of the cells A -/
def On (M M' : tb_M) (A : Nat → Prop) : Prop := ∃ I, M' = tb_wI M I ∧ ∀ q, ¬ A q → I q = tb_I M q
theorem On.rf {M : tb_M} {A : Nat → Prop} : On M M A := ⟨tb_I M, rfl, fun _ _ => rfl⟩
theorem On.sI {M : tb_M} {A : Nat → Prop} {o k : Nat} {x : Int32} (h : A o) : On M (tb_sI M o k x) A := ⟨_, rfl, fun q hq => by
  unfold va_up
  rw [if_neg (fun e => hq (by rw [e]; exact h))]⟩
theorem On.trans {M M1 M2 : tb_M} {A : Nat → Prop} (h : On M M1 A) (h2 : On M1 M2 A) : On M M2 A := by
  obtain ⟨I, rfl, h3⟩ := h
  obtain ⟨I2, rfl, h4⟩ := h2
  exact ⟨I2, rfl, fun q hq => (h4 q hq).trans (h3 q hq)⟩
theorem On.mono {M M1 : tb_M} {A B : Nat → Prop} (h : On M M1 A) (hab : ∀ q, A q → B q) : On M M1 B := by
  obtain ⟨I, rfl, h3⟩ := h
  exact ⟨I, rfl, fun q hq => h3 q (fun z => hq (hab q z))⟩
theorem On.sh {M M1 : tb_M} {A : Nat → Prop} (h : On M M1 A) (hS : Sh M) : Sh M1 := by
  obtain ⟨I, rfl, h3⟩ := h
  exact hS
theorem On.i {M M1 : tb_M} {A : Nat → Prop} (h : On M M1 A) {q : Nat} (hq : ¬ A q) : tb_I M1 q = tb_I M q := by
  obtain ⟨I, rfl, h3⟩ := h
  exact h3 q hq
theorem On.r {M M1 : tb_M} {A : Nat → Prop} (h : On M M1 A) : tb_R M1 = tb_R M := by
  obtain ⟨I, rfl, h3⟩ := h
  rfl
theorem sI_at (M : tb_M) (o k : Nat) (x : Int32) : tb_I (tb_sI M o k x) o = va_up (tb_I M o) k x := by
  show va_up (tb_I M) o _ o = _
  unfold va_up
  rw [if_pos rfl]
theorem sI_of (M : tb_M) {o q : Nat} (k : Nat) (x : Int32) (h : q ≠ o) : tb_I (tb_sI M o k x) q = tb_I M q := by
  show va_up (tb_I M) o _ q = _
  unfold va_up
  rw [if_neg h]
def ShOk (M : tb_M) (s : Nat) : Prop := gK s = 4 ∧ (∀ p, p < gL (s + 1) → tb_I M (s + 1) p = -1 ∨ ∃ n, n ≤ 6 ∧ tb_I M (s + 1) p = nI n) ∧ ∀ i, i < gL (s + 2) → narrow .short (.int (tb_I M (s + 2) i)) = .int (tb_I M (s + 2) i)
/-- what stands at the place p of the shelf s -/
def pl (M : tb_M) (s p : Nat) : Option (List Int32) := if tb_I M (s + 1) p = -1 then none else some ((List.range (tb_I M (s + 1) p).toNatClampNeg).map (fun i => tb_I M (s + 2) (6 * p + i)))
def ln (v : Option (List Int32)) : Nat := (v.getD []).length
theorem nI_nm1 {n : Nat} (h : n < 2 ^ 31) : ¬ nI n = -1 := fun q => by
  have h1 := nI_toInt h
  rw [q] at h1
  have h2 : (-1 : Int32).toInt = -1 := by decide
  omega
theorem pl_none {M : tb_M} {s p : Nat} (h : tb_I M (s + 1) p = -1) : pl M s p = none := by unfold pl; rw [if_pos h]
theorem pl_ne {M : tb_M} {s p : Nat} (h : ¬ tb_I M (s + 1) p = -1) : pl M s p ≠ none := by unfold pl; rw [if_neg h]; exact fun q => by cases q
theorem pl_some {M : tb_M} {s p n : Nat} (hn : n ≤ 6) (h : tb_I M (s + 1) p = nI n) : pl M s p = some ((List.range n).map (fun i => tb_I M (s + 2) (6 * p + i))) := by
  unfold pl
  rw [h, if_neg (nI_nm1 (by omega)), nI_clamp (by omega)]
theorem pl_cases {M : tb_M} {s p : Nat} (h : ShOk M s) (hp : p < gL (s + 1)) : (tb_I M (s + 1) p = -1 ∧ pl M s p = none) ∨ ∃ n, n ≤ 6 ∧ tb_I M (s + 1) p = nI n ∧ pl M s p = some ((List.range n).map (fun i => tb_I M (s + 2) (6 * p + i))) := by
  rcases h.2.1 p hp with h1 | ⟨n, hn, h1⟩
  · exact Or.inl ⟨h1, pl_none h1⟩
  · exact Or.inr ⟨n, hn, h1, pl_some hn h1⟩
theorem pl_eq {M M' : tb_M} {s s' p p' : Nat} (h1 : tb_I M (s + 1) p = tb_I M' (s' + 1) p') (h2 : ∀ i, i < 6 → tb_I M (s + 2) (6 * p + i) = tb_I M' (s' + 2) (6 * p' + i)) (hb : tb_I M (s + 1) p = -1 ∨ ∃ n, n ≤ 6 ∧ tb_I M (s + 1) p = nI n) : pl M s p = pl M' s' p' := by
  rcases hb with h | ⟨n, hn, h⟩
  · rw [pl_none h, pl_none (h1 ▸ h)]
  · rw [pl_some hn h, pl_some hn (h1 ▸ h)]
    congr 1
    apply List.map_congr_left
    intro i hi
    exact h2 i (by have := List.mem_range.mp hi; omega)
theorem Sh.sh {M : tb_M} (h : Sh M) {s : Nat} (hs : gK s = 4) : tb_K M s = 4 ∧ tb_R M s 0 = s + 1 ∧ tb_R M s 1 = s + 2 ∧ tb_K M (s + 1) = 100 ∧ tb_K M (s + 2) = 101 ∧ tb_Ln M (s + 1) = gL (s + 1) ∧ tb_Ln M (s + 2) = 6 * gL (s + 1) ∧ 12 ≤ gL (s + 1) ∧ gL (s + 1) ≤ 13 := by
  have h1 := gK_sh s (gK_lt (by omega)) hs
  exact ⟨h.k hs, (h.2.2.2.2.1 s hs).1, (h.2.2.2.2.1 s hs).2, h.k h1.1, h.k h1.2.1, h.l rfl, (h.l rfl).trans h1.2.2.2.2, h1.2.2.1, h1.2.2.2.1⟩
section Shelf
variable {E : tb_E} {M : tb_M} {s p : Nat}
theorem ok_Sh_isThere (hG : tb_G E) (hS : Sh M) (hT : ShOk M s) (hp : p < gL (s + 1)) (d : Nat) : tb_Ret E m_Sh_isThere d [.inr (.inl s), .inl (nI p)] M (some (.inl (bI (pl M s p ≠ none)))) M := by
  obtain ⟨k1, r0, r1, k2, k3, l2, l3, b1, b2⟩ := hS.sh hT.1
  refine tb_okOf hG (by decide) rfl (Nat.le_of_ble_eq_true rfl) rfl ?_
  refine tb_aload_0 d_Sh_isThere_0 rfl ?_
  refine g_Sh_9 d_Sh_isThere_1 rfl rfl (by first | exact k1 | exact k2 | exact k3) ?_
  refine tb_topR r0 ?_
  refine tb_iload_1 d_Sh_isThere_4 rfl ?_
  refine tb_iaload d_Sh_isThere_5 rfl (by first | exact k1 | exact k2 | exact k3) (by first | (rw [l2]; exact vp_in_nI (by omega) (by omega)) | (rw [l3]; exact vp_in_nI (by omega) (by omega))) ?_
  refine tb_topI (y := tb_I M (s + 1) p) (by rw [nI_clamp (show p < 2 ^ 31 by omega)]) ?_
  refine tb_iconst (-1) (by decide) d_Sh_isThere_6 rfl ?_
  refine tb_icmp_eq 14 d_Sh_isThere_7 (by decide) rfl (fun h7 => ?_) (fun h7 => ?_)
  · have hfin : bI (pl M s p ≠ none) = 0 := bI_f (fun q => q (pl_none h7))
    refine tb_iconst (0) (by decide) d_Sh_isThere_14 rfl ?_
    refine tb_ireturn d_Sh_isThere_15 rfl (by first | rfl | assumption) ?_
    exact ⟨by rw [hfin], rfl⟩
  · have hfin : bI (pl M s p ≠ none) = 1 := bI_t (pl_ne h7)
    refine tb_iconst (1) (by decide) d_Sh_isThere_10 rfl ?_
    refine tb_goto 15 d_Sh_isThere_11 (by decide) ?_
    refine tb_ireturn d_Sh_isThere_15 rfl (by first | rfl | assumption) ?_
    exact ⟨by rw [hfin], rfl⟩
theorem ok_Sh_length (hG : tb_G E) (hS : Sh M) (hT : ShOk M s) (hp : p < gL (s + 1)) (d : Nat) : tb_Ret E m_Sh_length d [.inr (.inl s), .inl (nI p)] M (some (.inl (nI (ln (pl M s p))))) M := by
  obtain ⟨k1, r0, r1, k2, k3, l2, l3, b1, b2⟩ := hS.sh hT.1
  have hc := pl_cases hT hp
  refine tb_okOf hG (by decide) rfl (Nat.le_of_ble_eq_true rfl) rfl ?_
  refine tb_aload_0 d_Sh_length_0 rfl ?_
  refine g_Sh_9 d_Sh_length_1 rfl rfl (by first | exact k1 | exact k2 | exact k3) ?_
  refine tb_topR r0 ?_
  refine tb_iload_1 d_Sh_length_4 rfl ?_
  refine tb_iaload d_Sh_length_5 rfl (by first | exact k1 | exact k2 | exact k3) (by first | (rw [l2]; exact vp_in_nI (by omega) (by omega)) | (rw [l3]; exact vp_in_nI (by omega) (by omega))) ?_
  refine tb_topI (y := tb_I M (s + 1) p) (by rw [nI_clamp (show p < 2 ^ 31 by omega)]) ?_
  refine tb_if_ge 13 d_Sh_length_6 (by decide) rfl (fun h6 => ?_) (fun h6 => ?_)
  · have hfin : tb_I M (s + 1) p = nI (ln (pl M s p)) := by
      rcases hc with h | ⟨n, hn, h, h2⟩
      · rw [h.1] at h6; exact absurd h6 (by decide)
      · rw [h2, h]; simp [ln]
    refine tb_aload_0 d_Sh_length_13 rfl ?_
    refine g_Sh_9 d_Sh_length_14 rfl rfl (by first | exact k1 | exact k2 | exact k3) ?_
    refine tb_topR r0 ?_
    refine tb_iload_1 d_Sh_length_17 rfl ?_
    refine tb_iaload d_Sh_length_18 rfl (by first | exact k1 | exact k2 | exact k3) (by first | (rw [l2]; exact vp_in_nI (by omega) (by omega)) | (rw [l3]; exact vp_in_nI (by omega) (by omega))) ?_
    refine tb_topI (y := tb_I M (s + 1) p) (by rw [nI_clamp (show p < 2 ^ 31 by omega)]) ?_
    refine tb_ireturn d_Sh_length_19 rfl (by first | rfl | assumption) ?_
    exact ⟨by rw [hfin], rfl⟩
  · have hfin : (0 : Int32) = nI (ln (pl M s p)) := by
      rcases hc with h | ⟨n, hn, h, h2⟩
      · rw [h.2]; rfl
      · rw [h] at h6; exact absurd (nI_pos' (show n < 2 ^ 31 by omega)) h6
    refine tb_iconst (0) (by decide) d_Sh_length_9 rfl ?_
    refine tb_goto 19 d_Sh_length_10 (by decide) ?_
    refine tb_ireturn d_Sh_length_19 rfl (by first | rfl | assumption) ?_
    exact ⟨by rw [hfin], rfl⟩
theorem ok_Sh_at (hG : tb_G E) (hS : Sh M) (hT : ShOk M s) (hp : p < gL (s + 1)) {i : Nat} (hi : i < 6) (d : Nat) : tb_Ret E m_Sh_at d [.inr (.inl s), .inl (nI p), .inl (nI i)] M (some (.inl (tb_I M (s + 2) (6 * p + i)))) M := by
  obtain ⟨k1, r0, r1, k2, k3, l2, l3, b1, b2⟩ := hS.sh hT.1
  refine tb_okOf hG (by decide) rfl (Nat.le_of_ble_eq_true rfl) rfl ?_
  refine tb_aload_0 d_Sh_at_0 rfl ?_
  refine g_Sh_15 d_Sh_at_1 rfl rfl (by first | exact k1 | exact k2 | exact k3) ?_
  refine tb_topR r1 ?_
  refine tb_iload_1 d_Sh_at_4 rfl ?_
  refine tb_bipush (6) (by decide) d_Sh_at_5 rfl ?_
  refine tb_imul d_Sh_at_7 rfl ?_
  rw [nI_mul6]
  refine tb_iload_2 d_Sh_at_8 rfl ?_
  refine tb_iadd d_Sh_at_9 rfl ?_
  rw [nI_add]
  refine tb_saload d_Sh_at_10 rfl (by first | exact k1 | exact k2 | exact k3) (by first | (rw [l2]; exact vp_in_nI (by omega) (by omega)) | (rw [l3]; exact vp_in_nI (by omega) (by omega))) ?_
  refine tb_topI (y := tb_I M (s + 2) (6 * p + i)) (by rw [nI_clamp (show 6 * p + i < 2 ^ 31 by omega)]) ?_
  refine tb_ireturn d_Sh_at_11 rfl (by exact hT.2.2 _ (by rw [(gK_sh s (gK_lt (by rw [hT.1]; decide)) hT.1).2.2.2.2]; omega)) ?_
  exact ⟨rfl, rfl⟩
theorem ok_Sh_takeAway (hG : tb_G E) (hS : Sh M) (hT : ShOk M s) (hp : p < gL (s + 1)) (d : Nat) : tb_Ret E m_Sh_takeAway d [.inr (.inl s), .inl (nI p)] M none (tb_sI M (s + 1) p (-1)) := by
  obtain ⟨k1, r0, r1, k2, k3, l2, l3, b1, b2⟩ := hS.sh hT.1
  refine tb_okOf hG (by decide) rfl (Nat.le_of_ble_eq_true rfl) rfl ?_
  refine tb_aload_0 d_Sh_takeAway_0 rfl ?_
  refine g_Sh_9 d_Sh_takeAway_1 rfl rfl (by first | exact k1 | exact k2 | exact k3) ?_
  refine tb_topR r0 ?_
  refine tb_iload_1 d_Sh_takeAway_4 rfl ?_
  refine tb_iconst (-1) (by decide) d_Sh_takeAway_5 rfl ?_
  refine tb_iastore d_Sh_takeAway_6 rfl (by first | exact k1 | exact k2 | exact k3) (by first | (rw [l2]; exact vp_in_nI (by omega) (by omega)) | (rw [l3]; exact vp_in_nI (by omega) (by omega))) ?_
  rw [nI_clamp (show p < 2 ^ 31 by omega)]
  refine tb_vreturn d_Sh_takeAway_7 rfl ?_
  exact ⟨rfl, rfl⟩
theorem ok_Sh_makeEmpty (hG : tb_G E) (hS : Sh M) (hT : ShOk M s) (hp : p < gL (s + 1)) (d : Nat) : tb_Ret E m_Sh_makeEmpty d [.inr (.inl s), .inl (nI p)] M none (tb_sI M (s + 1) p 0) := by
  obtain ⟨k1, r0, r1, k2, k3, l2, l3, b1, b2⟩ := hS.sh hT.1
  refine tb_okOf hG (by decide) rfl (Nat.le_of_ble_eq_true rfl) rfl ?_
  refine tb_aload_0 d_Sh_makeEmpty_0 rfl ?_
  refine g_Sh_9 d_Sh_makeEmpty_1 rfl rfl (by first | exact k1 | exact k2 | exact k3) ?_
  refine tb_topR r0 ?_
  refine tb_iload_1 d_Sh_makeEmpty_4 rfl ?_
  refine tb_iconst (0) (by decide) d_Sh_makeEmpty_5 rfl ?_
  refine tb_iastore d_Sh_makeEmpty_6 rfl (by first | exact k1 | exact k2 | exact k3) (by first | (rw [l2]; exact vp_in_nI (by omega) (by omega)) | (rw [l3]; exact vp_in_nI (by omega) (by omega))) ?_
  rw [nI_clamp (show p < 2 ^ 31 by omega)]
  refine tb_vreturn d_Sh_makeEmpty_7 rfl ?_
  exact ⟨rfl, rfl⟩
theorem ok_Sh_append0 (hG : tb_G E) (hS : Sh M) (hT : ShOk M s) (hp : p < gL (s + 1)) {x : Int32} (hf : ln (pl M s p) = 6) (d : Nat) : tb_Ret E m_Sh_append (d + 1) [.inr (.inl s), .inl (nI p), .inl x] M (some (.inl 0)) M := by
  obtain ⟨k1, r0, r1, k2, k3, l2, l3, b1, b2⟩ := hS.sh hT.1
  refine tb_okOf hG (by decide) rfl (Nat.le_of_ble_eq_true rfl) rfl ?_
  refine tb_aload_0 d_Sh_append_0 rfl ?_
  refine tb_iload_1 d_Sh_append_1 rfl ?_
  refine tb_callVr c_Sh_19 d_Sh_append_2 rfl rfl rfl (by decide) (by first | exact k1 | exact k2 | exact k3) (ok_Sh_length hG hS hT hp d) ?_
  rw [hf]
  refine tb_istore_3 d_Sh_append_5 rfl (by decide) ?_
  refine tb_iload_3 d_Sh_append_6 rfl ?_
  refine tb_bipush (6) (by decide) d_Sh_append_7 rfl ?_
  refine tb_icmp_lt 14 d_Sh_append_9 (by decide) rfl (fun h9 => ?_) (fun h9 => ?_)
  · exact absurd h9 (by decide)
  · refine tb_iconst (0) (by decide) d_Sh_append_12 rfl ?_
    refine tb_ireturn d_Sh_append_13 rfl (by first | rfl | assumption) ?_
    exact ⟨rfl, rfl⟩
theorem ok_Sh_append1 (hG : tb_G E) (hS : Sh M) (hT : ShOk M s) (hp : p < gL (s + 1)) {x : Int32} (hf : ln (pl M s p) < 6) (d : Nat) : tb_Ret E m_Sh_append (d + 1) [.inr (.inl s), .inl (nI p), .inl x] M (some (.inl 1)) (tb_sI (tb_sI M (s + 2) (6 * p + ln (pl M s p)) (vp_nar .short x)) (s + 1) p (nI (ln (pl M s p) + 1))) := by
  obtain ⟨k1, r0, r1, k2, k3, l2, l3, b1, b2⟩ := hS.sh hT.1
  refine tb_okOf hG (by decide) rfl (Nat.le_of_ble_eq_true rfl) rfl ?_
  refine tb_aload_0 d_Sh_append_0 rfl ?_
  refine tb_iload_1 d_Sh_append_1 rfl ?_
  refine tb_callVr c_Sh_19 d_Sh_append_2 rfl rfl rfl (by decide) (by first | exact k1 | exact k2 | exact k3) (ok_Sh_length hG hS hT hp d) ?_
  refine tb_istore_3 d_Sh_append_5 rfl (by decide) ?_
  refine tb_iload_3 d_Sh_append_6 rfl ?_
  refine tb_bipush (6) (by decide) d_Sh_append_7 rfl ?_
  refine tb_icmp_lt 14 d_Sh_append_9 (by decide) rfl (fun h9 => ?_) (fun h9 => ?_)
  · refine tb_aload_0 d_Sh_append_14 rfl ?_
    refine g_Sh_15 d_Sh_append_15 rfl rfl (by first | exact k1 | exact k2 | exact k3) ?_
    refine tb_topR r1 ?_
    refine tb_iload_1 d_Sh_append_18 rfl ?_
    refine tb_bipush (6) (by decide) d_Sh_append_19 rfl ?_
    refine tb_imul d_Sh_append_21 rfl ?_
    rw [nI_mul6]
    refine tb_iload_3 d_Sh_append_22 rfl ?_
    refine tb_iadd d_Sh_append_23 rfl ?_
    rw [nI_add]
    refine tb_iload_2 d_Sh_append_24 rfl ?_
    refine tb_sastore d_Sh_append_25 rfl (by first | exact k1 | exact k2 | exact k3) (by first | (rw [l2]; exact vp_in_nI (by omega) (by omega)) | (rw [l3]; exact vp_in_nI (by omega) (by omega))) ?_
    rw [nI_clamp (show 6 * p + ln (pl M s p) < 2 ^ 31 by omega)]
    refine tb_aload_0 d_Sh_append_26 rfl ?_
    refine g_Sh_9 d_Sh_append_27 rfl rfl (by first | exact k1 | exact k2 | exact k3) ?_
    refine tb_topR r0 ?_
    refine tb_iload_1 d_Sh_append_30 rfl ?_
    refine tb_iload_3 d_Sh_append_31 rfl ?_
    refine tb_iconst (1) (by decide) d_Sh_append_32 rfl ?_
    refine tb_iadd d_Sh_append_33 rfl ?_
    rw [nI_1]
    refine tb_iastore d_Sh_append_34 rfl (by first | exact k1 | exact k2 | exact k3) (by show vp_in _ (tb_Ln M (s + 1)); rw [l2]; exact vp_in_nI (by omega) (by omega)) ?_
    rw [nI_clamp (show p < 2 ^ 31 by omega)]
    refine tb_iconst (1) (by decide) d_Sh_append_35 rfl ?_
    refine tb_ireturn d_Sh_append_36 rfl (by first | rfl | assumption) ?_
    exact ⟨rfl, rfl⟩
  · exact absurd (nI_lt hf (by decide)) h9
end Shelf
