/-! Shelf: one place becomes another, all places, are they the same, which are there. -/
theorem nar_sh {x : Int32} (h : narrow .short (.int x) = .int x) : vp_nar .short x = x := by unfold vp_nar; rw [h]
abbrev A2 (s : Nat) : Nat → Prop := fun z => z = s + 1 ∨ z = s + 2
theorem sh_ne {s o : Nat} (hs : gK s = 4) (ho : gK o = 4) (hne : s ≠ o) : ¬ A2 s (o + 1) ∧ ¬ A2 s (o + 2) ∧ ¬ A2 s s ∧ ¬ A2 s o := by
  have h1 := gK_sh s (gK_lt (by omega)) hs
  have h2 := gK_sh o (gK_lt (by omega)) ho
  refine ⟨fun z => ?_, fun z => ?_, fun z => ?_, fun z => ?_⟩
  · rcases z with z | z
    · omega
    · have := h2.1; rw [z, h1.2.1] at this; cases this
  · rcases z with z | z
    · have := h2.2.1; rw [z, h1.1] at this; cases this
    · omega
  · rcases z with z | z <;> omega
  · rcases z with z | z
    · have := h1.1; rw [← z, ho] at this; cases this
    · have := h1.2.1; rw [← z, ho] at this; cases this
def BecAt (M M1 : tb_M) (s p o q j : Nat) : Prop := On M M1 (A2 s) ∧ tb_I M1 (s + 1) = va_up (tb_I M (s + 1)) p (tb_I M (o + 1) q) ∧ tb_I M1 (s + 2) = fun k => if 6 * p ≤ k ∧ k < 6 * p + j then tb_I M (o + 2) (6 * q + (k - 6 * p)) else tb_I M (s + 2) k
theorem BecAt.step {M M1 : tb_M} {s p o q j : Nat} (h : BecAt M M1 s p o q j) : BecAt M (tb_sI M1 (s + 2) (6 * p + j) (tb_I M (o + 2) (6 * q + j))) s p o q (j + 1) := by
  obtain ⟨h1, h2, h3⟩ := h
  refine ⟨h1.trans (On.sI (Or.inr rfl)), ?_, ?_⟩
  · rw [sI_of _ _ _ (by omega)]; exact h2
  · rw [sI_at, h3]
    funext k
    unfold va_up
    dsimp only
    by_cases e : k = 6 * p + j
    · subst e
      rw [if_pos rfl, if_pos ⟨by omega, by omega⟩, show 6 * p + j - 6 * p = j by omega]
    · rw [if_neg e]
      by_cases e2 : 6 * p ≤ k ∧ k < 6 * p + j
      · rw [if_pos e2, if_pos ⟨e2.1, by omega⟩]
      · rw [if_neg e2, if_neg (fun z => e2 ⟨z.1, by omega⟩)]
theorem BecAt.zero {M : tb_M} {s p o q : Nat} : BecAt M (tb_sI M (s + 1) p (tb_I M (o + 1) q)) s p o q 0 := by
  refine ⟨On.sI (Or.inl rfl), sI_at _ _ _ _, ?_⟩
  rw [sI_of _ _ _ (by omega)]
  funext k
  rw [if_neg (by omega)]
/-- what becoming comes to -/
def BecP (M M1 : tb_M) (s p o q : Nat) : Prop := On M M1 (A2 s) ∧ ShOk M1 s ∧ pl M1 s p = pl M o q ∧ ∀ p', p' ≠ p → p' < gL (s + 1) → pl M1 s p' = pl M s p'
theorem BecAt.fin {M M1 : tb_M} {s p o q j : Nat} (hT : ShOk M s) (hO : ShOk M o) (hp : p < gL (s + 1)) (hq : q < gL (o + 1)) (h : BecAt M M1 s p o q j) (hj : j ≤ 6) (hv : tb_I M (o + 1) q = -1 ∨ tb_I M (o + 1) q = nI j) : BecP M M1 s p o q := by
  obtain ⟨h1, h2, h3⟩ := h
  have g1 := gK_sh s (gK_lt (by rw [hT.1]; decide)) hT.1
  have g2 := gK_sh o (gK_lt (by rw [hO.1]; decide)) hO.1
  have hl : tb_I M1 (s + 1) p = tb_I M (o + 1) q := by rw [h2]; simp [va_up]
  have hl' : ∀ p', p' ≠ p → tb_I M1 (s + 1) p' = tb_I M (s + 1) p' := fun p' hne => by rw [h2]; simp [va_up, hne]
  have h3' : ∀ k, tb_I M1 (s + 2) k = if 6 * p ≤ k ∧ k < 6 * p + j then tb_I M (o + 2) (6 * q + (k - 6 * p)) else tb_I M (s + 2) k := fun k => congrFun h3 k
  refine ⟨h1, ⟨hT.1, fun p' hp' => ?_, fun i hi => ?_⟩, ?_, fun p' hne hp' => ?_⟩
  · by_cases e : p' = p
    · subst e; rw [hl]; exact hO.2.1 q hq
    · rw [hl' p' e]; exact hT.2.1 p' hp'
  · rw [h3' i]
    by_cases e : 6 * p ≤ i ∧ i < 6 * p + j
    · rw [if_pos e]; exact hO.2.2 _ (by rw [g2.2.2.2.2]; omega)
    · rw [if_neg e]; exact hT.2.2 i hi
  · rcases hv with hv | hv
    · rw [pl_none hv, pl_none (hl.trans hv)]
    · rw [pl_some hj hv, pl_some hj (hl.trans hv)]
      congr 1
      apply List.map_congr_left
      intro i hi
      have hi' := List.mem_range.mp hi
      rw [h3' (6 * p + i), if_pos ⟨by omega, by omega⟩, show 6 * p + i - 6 * p = i by omega]
  · refine pl_eq (hl' p' hne) (fun i hi => ?_) (by rw [hl' p' hne]; exact hT.2.1 p' hp')
    rw [h3' (6 * p' + i), if_neg (by omega)]
section Shelf2
variable {E : tb_E} {M : tb_M} {s p o q : Nat}
theorem lp_Sh_become (hS : Sh M) (hT : ShOk M s) (hO : ShOk M o) (hne : s ≠ o) (hp : p < gL (s + 1)) (hq : q < gL (o + 1)) {n : Nat} (hn : n ≤ 6) (hv : tb_I M (o + 1) q = nI n) {d rc rs : Nat} {Q : tb_O → tb_M → Prop} (hQ : ∀ M1, BecAt M M1 s p o q n → Q (.inl none) M1) : ∀ (m j : Nat), n - j = m → j ≤ n → ∀ M1, BecAt M M1 s p o q j → tb_Wp E m_Sh_become d rc rs 15 [some (.inr s), some (.inl (nI p)), some (.inr o), some (.inl (nI q)), some (.inl (nI j))] [] M1 Q := by
  intro m
  induction m using Nat.strongRecOn with
  | ind m ih =>
    intro j hm hj M1 hB
    have hS1 := hB.1.sh hS
    obtain ⟨k1, r0, r1, k2, k3, l2, l3, b1, b2⟩ := hS1.sh hT.1
    obtain ⟨k4, r2, r3, k5, k6, l5, l6, b3, b4⟩ := hS1.sh hO.1
    obtain ⟨a1, a2, a3, a4⟩ := sh_ne hT.1 hO.1 hne
    have g2 := gK_sh o (gK_lt (by rw [hO.1]; decide)) hO.1
    have hlen : tb_I M1 (s + 1) p = nI n := by rw [hB.2.1]; simp [va_up, hv]
    refine tb_iload_4 d_Sh_become_15 rfl ?_
    refine tb_aload_0 d_Sh_become_17 rfl ?_
    refine g_Sh_9 d_Sh_become_18 rfl rfl (by first | exact k1 | exact k2 | exact k3 | exact k4 | exact k5 | exact k6) ?_
    refine tb_topR r0 ?_
    refine tb_iload_1 d_Sh_become_21 rfl ?_
    refine tb_iaload d_Sh_become_22 rfl (by first | exact k1 | exact k2 | exact k3 | exact k4 | exact k5 | exact k6) (by first | (rw [l2]; exact vp_in_nI (by omega) (by omega)) | (rw [l3]; exact vp_in_nI (by omega) (by omega)) | (rw [l5]; exact vp_in_nI (by omega) (by omega)) | (rw [l6]; exact vp_in_nI (by omega) (by omega))) ?_
    refine tb_topI (y := nI n) (by rw [nI_clamp (show p < 2 ^ 31 by omega)]; exact hlen) ?_
    refine tb_icmp_ge 56 d_Sh_become_23 (by decide) rfl (fun h23 => ?_) (fun h23 => ?_)
    · have hje : j = n := by have := (nI_leI (a := n) (b := j) (by omega) (by omega)).mp h23; omega
      subst hje
      refine tb_vreturn d_Sh_become_56 rfl ?_
      exact hQ M1 hB
    · have hlt : j < n := by
        have : ¬ n ≤ j := fun q => h23 ((nI_leI (a := n) (b := j) (by omega) (by omega)).mpr q)
        omega
      refine tb_aload_0 d_Sh_become_26 rfl ?_
      refine g_Sh_15 d_Sh_become_27 rfl rfl (by first | exact k1 | exact k2 | exact k3 | exact k4 | exact k5 | exact k6) ?_
      refine tb_topR r1 ?_
      refine tb_iload_1 d_Sh_become_30 rfl ?_
      refine tb_bipush (6) (by decide) d_Sh_become_31 rfl ?_
      refine tb_imul d_Sh_become_33 rfl ?_
      rw [nI_mul6]
      refine tb_iload_4 d_Sh_become_34 rfl ?_
      refine tb_iadd d_Sh_become_36 rfl ?_
      rw [nI_add]
      refine tb_aload_2 d_Sh_become_37 rfl ?_
      refine g_Sh_15 d_Sh_become_38 rfl rfl (by first | exact k1 | exact k2 | exact k3 | exact k4 | exact k5 | exact k6) ?_
      refine tb_topR r3 ?_
      refine tb_iload_3 d_Sh_become_41 rfl ?_
      refine tb_bipush (6) (by decide) d_Sh_become_42 rfl ?_
      refine tb_imul d_Sh_become_44 rfl ?_
      rw [nI_mul6]
      refine tb_iload_4 d_Sh_become_45 rfl ?_
      refine tb_iadd d_Sh_become_47 rfl ?_
      rw [nI_add]
      refine tb_saload d_Sh_become_48 rfl (by first | exact k1 | exact k2 | exact k3 | exact k4 | exact k5 | exact k6) (by first | (rw [l2]; exact vp_in_nI (by omega) (by omega)) | (rw [l3]; exact vp_in_nI (by omega) (by omega)) | (rw [l5]; exact vp_in_nI (by omega) (by omega)) | (rw [l6]; exact vp_in_nI (by omega) (by omega))) ?_
      refine tb_topI (y := tb_I M (o + 2) (6 * q + j)) (by rw [nI_clamp (show 6 * q + j < 2 ^ 31 by omega)]; exact congrFun (hB.1.i a2) _) ?_
      refine tb_sastore d_Sh_become_49 rfl (by first | exact k1 | exact k2 | exact k3 | exact k4 | exact k5 | exact k6) (by first | (rw [l2]; exact vp_in_nI (by omega) (by omega)) | (rw [l3]; exact vp_in_nI (by omega) (by omega)) | (rw [l5]; exact vp_in_nI (by omega) (by omega)) | (rw [l6]; exact vp_in_nI (by omega) (by omega))) ?_
      rw [nI_clamp (show 6 * p + j < 2 ^ 31 by omega)]
      rw [nar_sh (hO.2.2 (6 * q + j) (by rw [g2.2.2.2.2]; omega))]
      refine tb_iinc_4 (1) d_Sh_become_50 rfl (by decide) (by decide) ?_
      refine tb_goto 15 d_Sh_become_53 (by decide) ?_
      rw [nI_1]
      exact ih (n - (j + 1)) (by omega) (j + 1) rfl (by omega) _ hB.step
theorem ok_Sh_become (hG : tb_G E) (hS : Sh M) (hT : ShOk M s) (hO : ShOk M o) (hne : s ≠ o) (hp : p < gL (s + 1)) (hq : q < gL (o + 1)) (d : Nat) : tb_Rel E m_Sh_become d [.inr (.inl s), .inl (nI p), .inr (.inl o), .inl (nI q)] M (fun v M1 => v = none ∧ BecP M M1 s p o q) := by
  obtain ⟨k1, r0, r1, k2, k3, l2, l3, b1, b2⟩ := hS.sh hT.1
  obtain ⟨k4, r2, r3, k5, k6, l5, l6, b3, b4⟩ := hS.sh hO.1
  obtain ⟨a1, a2, a3, a4⟩ := sh_ne hT.1 hO.1 hne
  refine tb_okOf hG (by decide) rfl (Nat.le_of_ble_eq_true rfl) rfl ?_
  refine tb_aload_0 d_Sh_become_0 rfl ?_
  refine g_Sh_9 d_Sh_become_1 rfl rfl (by first | exact k1 | exact k2 | exact k3 | exact k4 | exact k5 | exact k6) ?_
  refine tb_topR r0 ?_
  refine tb_iload_1 d_Sh_become_4 rfl ?_
  refine tb_aload_2 d_Sh_become_5 rfl ?_
  refine g_Sh_9 d_Sh_become_6 rfl rfl (by first | exact k1 | exact k2 | exact k3 | exact k4 | exact k5 | exact k6) ?_
  refine tb_topR r2 ?_
  refine tb_iload_3 d_Sh_become_9 rfl ?_
  refine tb_iaload d_Sh_become_10 rfl (by first | exact k1 | exact k2 | exact k3 | exact k4 | exact k5 | exact k6) (by first | (rw [l2]; exact vp_in_nI (by omega) (by omega)) | (rw [l3]; exact vp_in_nI (by omega) (by omega)) | (rw [l5]; exact vp_in_nI (by omega) (by omega)) | (rw [l6]; exact vp_in_nI (by omega) (by omega))) ?_
  refine tb_topI (y := tb_I M (o + 1) q) (by rw [nI_clamp (show q < 2 ^ 31 by omega)]) ?_
  refine tb_iastore d_Sh_become_11 rfl (by first | exact k1 | exact k2 | exact k3 | exact k4 | exact k5 | exact k6) (by first | (rw [l2]; exact vp_in_nI (by omega) (by omega)) | (rw [l3]; exact vp_in_nI (by omega) (by omega)) | (rw [l5]; exact vp_in_nI (by omega) (by omega)) | (rw [l6]; exact vp_in_nI (by omega) (by omega))) ?_
  rw [nI_clamp (show p < 2 ^ 31 by omega)]
  refine tb_iconst (0) (by decide) d_Sh_become_12 rfl ?_
  refine tb_istore_4 d_Sh_become_13 rfl (by decide) ?_
  rcases hO.2.1 q hq with hv | ⟨n, hn, hv⟩
  · have hB := BecAt.zero (M := M) (s := s) (p := p) (o := o) (q := q)
    have hlen : tb_I (tb_sI M (s + 1) p (tb_I M (o + 1) q)) (s + 1) p = -1 := by rw [hB.2.1]; simp [va_up, hv]
    refine tb_iload_4 d_Sh_become_15 rfl ?_
    refine tb_aload_0 d_Sh_become_17 rfl ?_
    refine g_Sh_9 d_Sh_become_18 rfl rfl (by first | exact k1 | exact k2 | exact k3 | exact k4 | exact k5 | exact k6) ?_
    refine tb_topR r0 ?_
    refine tb_iload_1 d_Sh_become_21 rfl ?_
    refine tb_iaload d_Sh_become_22 rfl (by first | exact k1 | exact k2 | exact k3 | exact k4 | exact k5 | exact k6) (by show vp_in _ (tb_Ln M (s + 1)); rw [l2]; exact vp_in_nI (by omega) (by omega)) ?_
    refine tb_topI (y := -1) (by rw [nI_clamp (show p < 2 ^ 31 by omega)]; exact hlen) ?_
    refine tb_icmp_ge 56 d_Sh_become_23 (by decide) rfl (fun h23 => ?_) (fun h23 => ?_)
    · refine tb_vreturn d_Sh_become_56 rfl ?_
      exact ⟨none, rfl, rfl, hB.fin hT hO hp hq (Nat.zero_le _) (Or.inl hv)⟩
    · exact absurd (by decide) h23
  · exact lp_Sh_become hS hT hO hne hp hq hn hv (fun M1 h => ⟨none, rfl, rfl, h.fin hT hO hp hq hn (Or.inr hv)⟩) n 0 rfl (Nat.zero_le _) _ BecAt.zero
def BecAll (M M1 : tb_M) (s o n : Nat) : Prop := On M M1 (A2 s) ∧ ShOk M1 s ∧ (∀ p, p < n → pl M1 s p = pl M o p) ∧ ∀ p, n ≤ p → p < gL (s + 1) → pl M1 s p = pl M s p
theorem pl_on {M M1 : tb_M} {A : Nat → Prop} (h : On M M1 A) {o : Nat} (h1 : ¬ A (o + 1)) (h2 : ¬ A (o + 2)) (p : Nat) : pl M1 o p = pl M o p := by
  unfold pl
  rw [h.i h1, h.i h2]
theorem ShOk.on {M M1 : tb_M} {A : Nat → Prop} (h : On M M1 A) {o : Nat} (h1 : ¬ A (o + 1)) (h2 : ¬ A (o + 2)) (hO : ShOk M o) : ShOk M1 o := by
  refine ⟨hO.1, ?_, ?_⟩
  · rw [h.i h1]; exact hO.2.1
  · rw [h.i h2]; exact hO.2.2
theorem lp_Sh_becomeAll (hG : tb_G E) (hS : Sh M) (hT : ShOk M s) (hO : ShOk M o) (hne : s ≠ o) {d rc rs : Nat} {Q : tb_O → tb_M → Prop} (hQ : ∀ M1, BecAll M M1 s o 12 → Q (.inl none) M1) : ∀ (m j : Nat), 12 - j = m → j ≤ 12 → ∀ M1, BecAll M M1 s o j → tb_Wp E m_Sh_becomeAll (d + 1) rc rs 2 [some (.inr s), some (.inr o), some (.inl (nI j))] [] M1 Q := by
  intro m
  induction m using Nat.strongRecOn with
  | ind m ih =>
    intro j hm hj M1 hB
    have hS1 := hB.1.sh hS
    obtain ⟨k1, r0, r1, k2, k3, l2, l3, b1, b2⟩ := hS1.sh hT.1
    obtain ⟨k4, r2, r3, k5, k6, l5, l6, b3, b4⟩ := hS1.sh hO.1
    obtain ⟨a1, a2, a3, a4⟩ := sh_ne hT.1 hO.1 hne
    have hO1 := hO.on hB.1 a1 a2
    refine tb_iload_2 d_Sh_becomeAll_2 rfl ?_
    refine tb_bipush (12) (by decide) d_Sh_becomeAll_3 rfl ?_
    refine tb_icmp_ge 21 d_Sh_becomeAll_5 (by decide) rfl (fun h5 => ?_) (fun h5 => ?_)
    · have hje : j = 12 := by have := (nI_leI (a := 12) (b := j) (by omega) (by omega)).mp h5; omega
      subst hje
      refine tb_vreturn d_Sh_becomeAll_21 rfl ?_
      exact hQ M1 hB
    · have hlt : j < 12 := by
        have : ¬ 12 ≤ j := fun q => h5 ((nI_leI (a := 12) (b := j) (by omega) (by omega)).mpr q)
        omega
      refine tb_aload_0 d_Sh_becomeAll_8 rfl ?_
      refine tb_iload_2 d_Sh_becomeAll_9 rfl ?_
      refine tb_aload_1 d_Sh_becomeAll_10 rfl ?_
      refine tb_iload_2 d_Sh_becomeAll_11 rfl ?_
      refine tb_callVq c_Sh_23 d_Sh_becomeAll_12 rfl rfl rfl (by decide) (by first | exact k1 | exact k2 | exact k3 | exact k4 | exact k5 | exact k6) (ok_Sh_become hG hS1 hB.2.1 hO1 hne (show j < gL (s + 1) by omega) (show j < gL (o + 1) by omega) d) (fun v M2 hP => ?_)
      obtain ⟨rfl, hP⟩ := hP
      refine tb_iinc_2 (1) d_Sh_becomeAll_15 rfl (by decide) (by decide) ?_
      refine tb_goto 2 d_Sh_becomeAll_18 (by decide) ?_
      rw [nI_1]
      refine ih (12 - (j + 1)) (by omega) (j + 1) rfl (by omega) M2 ⟨hB.1.trans hP.1, hP.2.1, fun p hp => ?_, fun p hp hp2 => ?_⟩
      · by_cases e : p = j
        · subst e
          rw [hP.2.2.1, pl_on hB.1 a1 a2]
        · rw [hP.2.2.2 p e (by omega)]
          exact hB.2.2.1 p (by omega)
      · rw [hP.2.2.2 p (by omega) hp2]
        exact hB.2.2.2 p (by omega) hp2
theorem ok_Sh_becomeAll (hG : tb_G E) (hS : Sh M) (hT : ShOk M s) (hO : ShOk M o) (hne : s ≠ o) (d : Nat) : tb_Rel E m_Sh_becomeAll (d + 1) [.inr (.inl s), .inr (.inl o)] M (fun v M1 => v = none ∧ BecAll M M1 s o 12) := by
  refine tb_okOf hG (by decide) rfl (Nat.le_of_ble_eq_true rfl) rfl ?_
  refine tb_iconst (0) (by decide) d_Sh_becomeAll_0 rfl ?_
  refine tb_istore_2 d_Sh_becomeAll_1 rfl (by decide) ?_
  exact lp_Sh_becomeAll hG hS hT hO hne (fun M1 h => ⟨none, rfl, rfl, h⟩) 12 0 rfl (by omega) M ⟨On.rf, hT, fun p hp => absurd hp (Nat.not_lt_zero _), fun p _ _ => rfl⟩
theorem lp_Sh_isSame (hS : Sh M) (hT : ShOk M s) (hO : ShOk M o) (hp : p < gL (s + 1)) (hq : q < gL (o + 1)) {n : Nat} (hn : n ≤ 6) (hv : tb_I M (s + 1) p = nI n) (hv2 : tb_I M (o + 1) q = nI n) {d rc rs : Nat} {Q : tb_O → tb_M → Prop} (hQ : Q (.inl (some (.inl (bI (pl M s p = pl M o q))))) M) : ∀ (m j : Nat), n - j = m → j ≤ n → (∀ i, i < j → tb_I M (s + 2) (6 * p + i) = tb_I M (o + 2) (6 * q + i)) → tb_Wp E m_Sh_isSame d rc rs 20 [some (.inr s), some (.inl (nI p)), some (.inr o), some (.inl (nI q)), some (.inl (nI j))] [] M Q := by
  obtain ⟨k1, r0, r1, k2, k3, l2, l3, b1, b2⟩ := hS.sh hT.1
  obtain ⟨k4, r2, r3, k5, k6, l5, l6, b3, b4⟩ := hS.sh hO.1
  intro m
  induction m using Nat.strongRecOn with
  | ind m ih =>
    intro j hm hj hall
    refine tb_iload_4 d_Sh_isSame_20 rfl ?_
    refine tb_aload_0 d_Sh_isSame_22 rfl ?_
    refine g_Sh_9 d_Sh_isSame_23 rfl rfl (by first | exact k1 | exact k2 | exact k3 | exact k4 | exact k5 | exact k6) ?_
    refine tb_topR r0 ?_
    refine tb_iload_1 d_Sh_isSame_26 rfl ?_
    refine tb_iaload d_Sh_isSame_27 rfl (by first | exact k1 | exact k2 | exact k3 | exact k4 | exact k5 | exact k6) (by first | (rw [l2]; exact vp_in_nI (by omega) (by omega)) | (rw [l3]; exact vp_in_nI (by omega) (by omega)) | (rw [l5]; exact vp_in_nI (by omega) (by omega)) | (rw [l6]; exact vp_in_nI (by omega) (by omega))) ?_
    refine tb_topI (y := nI n) (by rw [nI_clamp (show p < 2 ^ 31 by omega)]; exact hv) ?_
    refine tb_icmp_ge 66 d_Sh_isSame_28 (by decide) rfl (fun h28 => ?_) (fun h28 => ?_)
    · have hje : j = n := by have := (nI_leI (a := n) (b := j) (by omega) (by omega)).mp h28; omega
      subst hje
      refine tb_iconst (1) (by decide) d_Sh_isSame_66 rfl ?_
      refine tb_ireturn d_Sh_isSame_67 rfl (by first | rfl | assumption) ?_
      rw [bI_t ?_] at hQ
      · exact hQ
      · rw [pl_some hn hv, pl_some hn hv2]
        congr 1
        apply List.map_congr_left
        intro i hi
        exact hall i (List.mem_range.mp hi)
    · have hlt : j < n := by
        have : ¬ n ≤ j := fun q => h28 ((nI_leI (a := n) (b := j) (by omega) (by omega)).mpr q)
        omega
      refine tb_aload_0 d_Sh_isSame_31 rfl ?_
      refine g_Sh_15 d_Sh_isSame_32 rfl rfl (by first | exact k1 | exact k2 | exact k3 | exact k4 | exact k5 | exact k6) ?_
      refine tb_topR r1 ?_
      refine tb_iload_1 d_Sh_isSame_35 rfl ?_
      refine tb_bipush (6) (by decide) d_Sh_isSame_36 rfl ?_
      refine tb_imul d_Sh_isSame_38 rfl ?_
      rw [nI_mul6]
      refine tb_iload_4 d_Sh_isSame_39 rfl ?_
      refine tb_iadd d_Sh_isSame_41 rfl ?_
      rw [nI_add]
      refine tb_saload d_Sh_isSame_42 rfl (by first | exact k1 | exact k2 | exact k3 | exact k4 | exact k5 | exact k6) (by first | (rw [l2]; exact vp_in_nI (by omega) (by omega)) | (rw [l3]; exact vp_in_nI (by omega) (by omega)) | (rw [l5]; exact vp_in_nI (by omega) (by omega)) | (rw [l6]; exact vp_in_nI (by omega) (by omega))) ?_
      refine tb_topI (y := tb_I M (s + 2) (6 * p + j)) (by rw [nI_clamp (show 6 * p + j < 2 ^ 31 by omega)]) ?_
      refine tb_aload_2 d_Sh_isSame_43 rfl ?_
      refine g_Sh_15 d_Sh_isSame_44 rfl rfl (by first | exact k1 | exact k2 | exact k3 | exact k4 | exact k5 | exact k6) ?_
      refine tb_topR r3 ?_
      refine tb_iload_3 d_Sh_isSame_47 rfl ?_
      refine tb_bipush (6) (by decide) d_Sh_isSame_48 rfl ?_
      refine tb_imul d_Sh_isSame_50 rfl ?_
      rw [nI_mul6]
      refine tb_iload_4 d_Sh_isSame_51 rfl ?_
      refine tb_iadd d_Sh_isSame_53 rfl ?_
      rw [nI_add]
      refine tb_saload d_Sh_isSame_54 rfl (by first | exact k1 | exact k2 | exact k3 | exact k4 | exact k5 | exact k6) (by first | (rw [l2]; exact vp_in_nI (by omega) (by omega)) | (rw [l3]; exact vp_in_nI (by omega) (by omega)) | (rw [l5]; exact vp_in_nI (by omega) (by omega)) | (rw [l6]; exact vp_in_nI (by omega) (by omega))) ?_
      refine tb_topI (y := tb_I M (o + 2) (6 * q + j)) (by rw [nI_clamp (show 6 * q + j < 2 ^ 31 by omega)]) ?_
      refine tb_icmp_eq 60 d_Sh_isSame_55 (by decide) rfl (fun h55 => ?_) (fun h55 => ?_)
      · refine tb_iinc_4 (1) d_Sh_isSame_60 rfl (by decide) (by decide) ?_
        refine tb_goto 20 d_Sh_isSame_63 (by decide) ?_
        rw [nI_1]
        exact ih (n - (j + 1)) (by omega) (j + 1) rfl (by omega) (fun i hi => by
          by_cases e : i = j
          · subst e; exact h55
          · exact hall i (by omega))
      · refine tb_iconst (0) (by decide) d_Sh_isSame_58 rfl ?_
        refine tb_ireturn d_Sh_isSame_59 rfl (by first | rfl | assumption) ?_
        rw [bI_f (fun z => h55 ?_)] at hQ
        · exact hQ
        · rw [pl_some hn hv, pl_some hn hv2] at z
          have z2 := congrArg (fun l => l[j]?) (Option.some.inj z)
          simpa [hlt] using z2
theorem ok_Sh_isSame (hG : tb_G E) (hS : Sh M) (hT : ShOk M s) (hO : ShOk M o) (hp : p < gL (s + 1)) (hq : q < gL (o + 1)) (d : Nat) : tb_Ret E m_Sh_isSame d [.inr (.inl s), .inl (nI p), .inr (.inl o), .inl (nI q)] M (some (.inl (bI (pl M s p = pl M o q)))) M := by
  obtain ⟨k1, r0, r1, k2, k3, l2, l3, b1, b2⟩ := hS.sh hT.1
  obtain ⟨k4, r2, r3, k5, k6, l5, l6, b3, b4⟩ := hS.sh hO.1
  refine tb_okOf hG (by decide) rfl (Nat.le_of_ble_eq_true rfl) rfl ?_
  refine tb_aload_0 d_Sh_isSame_0 rfl ?_
  refine g_Sh_9 d_Sh_isSame_1 rfl rfl (by first | exact k1 | exact k2 | exact k3 | exact k4 | exact k5 | exact k6) ?_
  refine tb_topR r0 ?_
  refine tb_iload_1 d_Sh_isSame_4 rfl ?_
  refine tb_iaload d_Sh_isSame_5 rfl (by first | exact k1 | exact k2 | exact k3 | exact k4 | exact k5 | exact k6) (by first | (rw [l2]; exact vp_in_nI (by omega) (by omega)) | (rw [l3]; exact vp_in_nI (by omega) (by omega)) | (rw [l5]; exact vp_in_nI (by omega) (by omega)) | (rw [l6]; exact vp_in_nI (by omega) (by omega))) ?_
  refine tb_topI (y := tb_I M (s + 1) p) (by rw [nI_clamp (show p < 2 ^ 31 by omega)]) ?_
  refine tb_aload_2 d_Sh_isSame_6 rfl ?_
  refine g_Sh_9 d_Sh_isSame_7 rfl rfl (by first | exact k1 | exact k2 | exact k3 | exact k4 | exact k5 | exact k6) ?_
  refine tb_topR r2 ?_
  refine tb_iload_3 d_Sh_isSame_10 rfl ?_
  refine tb_iaload d_Sh_isSame_11 rfl (by first | exact k1 | exact k2 | exact k3 | exact k4 | exact k5 | exact k6) (by first | (rw [l2]; exact vp_in_nI (by omega) (by omega)) | (rw [l3]; exact vp_in_nI (by omega) (by omega)) | (rw [l5]; exact vp_in_nI (by omega) (by omega)) | (rw [l6]; exact vp_in_nI (by omega) (by omega))) ?_
  refine tb_topI (y := tb_I M (o + 1) q) (by rw [nI_clamp (show q < 2 ^ 31 by omega)]) ?_
  refine tb_icmp_eq 17 d_Sh_isSame_12 (by decide) rfl (fun h12 => ?_) (fun h12 => ?_)
  · refine tb_iconst (0) (by decide) d_Sh_isSame_17 rfl ?_
    refine tb_istore_4 d_Sh_isSame_18 rfl (by decide) ?_
    rcases hT.2.1 p hp with hv | ⟨n, hn, hv⟩
    · refine tb_iload_4 d_Sh_isSame_20 rfl ?_
      refine tb_aload_0 d_Sh_isSame_22 rfl ?_
      refine g_Sh_9 d_Sh_isSame_23 rfl rfl (by first | exact k1 | exact k2 | exact k3 | exact k4 | exact k5 | exact k6) ?_
      refine tb_topR r0 ?_
      refine tb_iload_1 d_Sh_isSame_26 rfl ?_
      refine tb_iaload d_Sh_isSame_27 rfl (by first | exact k1 | exact k2 | exact k3 | exact k4 | exact k5 | exact k6) (by first | (rw [l2]; exact vp_in_nI (by omega) (by omega)) | (rw [l3]; exact vp_in_nI (by omega) (by omega)) | (rw [l5]; exact vp_in_nI (by omega) (by omega)) | (rw [l6]; exact vp_in_nI (by omega) (by omega))) ?_
      refine tb_topI (y := -1) (by rw [nI_clamp (show p < 2 ^ 31 by omega)]; exact hv) ?_
      refine tb_icmp_ge 66 d_Sh_isSame_28 (by decide) rfl (fun h28 => ?_) (fun h28 => ?_)
      · refine tb_iconst (1) (by decide) d_Sh_isSame_66 rfl ?_
        refine tb_ireturn d_Sh_isSame_67 rfl (by first | rfl | assumption) ?_
        exact ⟨by rw [bI_t (by rw [pl_none hv, pl_none (h12 ▸ hv)])], rfl⟩
      · exact absurd (by decide) h28
    · exact lp_Sh_isSame hS hT hO hp hq hn hv (h12 ▸ hv) ⟨rfl, rfl⟩ n 0 rfl (Nat.zero_le _) (fun i hi => absurd hi (Nat.not_lt_zero _))
  · refine tb_iconst (0) (by decide) d_Sh_isSame_15 rfl ?_
    refine tb_ireturn d_Sh_isSame_16 rfl (by first | rfl | assumption) ?_
    have hfin : ¬ pl M s p = pl M o q := fun z => h12 (by
      rcases pl_cases hT hp with ⟨e1, e2⟩ | ⟨n, hn, e1, e2⟩ <;> rcases pl_cases hO hq with ⟨f1, f2⟩ | ⟨n', hn', f1, f2⟩
      · rw [e1, f1]
      · rw [e2, f2] at z; cases z
      · rw [e2, f2] at z; cases z
      · rw [e2, f2] at z
        have z2 := congrArg List.length (Option.some.inj z)
        simp at z2
        rw [e1, f1, z2])
    exact ⟨by rw [bI_f hfin], rfl⟩
end Shelf2
