/-! Store: a new row, the latest kept. -/
section Store2
variable {E : tb_E} {M : tb_M} {c : Nat}
theorem nI_subN {a b : Nat} (h : b ≤ a) : nI a - nI b = nI (a - b) := by
  have : nI (a - b) + nI b = nI a := by rw [nI_add]; congr 1; omega
  rw [← this, Int32.add_sub_cancel]
theorem ok_St_append0 (hG : tb_G E) (hS : Sh M) (hC : StOk M c) (hf : c < 24) (d : Nat) : tb_Ret E m_St_append d [.inr (.inl 32)] M (some (.inr (.inl (tb_R M 33 c)))) (tb_sI M 32 1 (nI (c + 1))) := by
  have k1 := hS.k (o := 32) (c := 5) rfl
  have k2 := hS.k (o := 33) (c := 106) rfl
  have l2 := hS.l (o := 33) (c := 24) rfl
  have r0 := hS.2.2.1.2.2.2.2.2.2.2.1
  have hI := hC.1
  have hc := hC.2.1
  refine tb_okOf hG (by decide) rfl (Nat.le_of_ble_eq_true rfl) rfl ?_
  refine tb_aload_0 d_St_append_0 rfl ?_
  refine g_St_18 d_St_append_1 rfl rfl (by first | exact k1 | exact k2) ?_
  refine tb_topI hI ?_
  refine tb_bipush (24) (by decide) d_St_append_4 rfl ?_
  refine tb_icmp_ge 31 d_St_append_6 (by decide) rfl (fun h6 => ?_) (fun h6 => ?_)
  · exact absurd h6 (nI_ge (b := 24) hf (by decide))
  · refine tb_aload_0 d_St_append_9 rfl ?_
    refine tb_dup d_St_append_10 rfl ?_
    refine g_St_18 d_St_append_11 rfl rfl (by first | exact k1 | exact k2) ?_
    refine tb_topI hI ?_
    refine tb_iconst (1) (by decide) d_St_append_14 rfl ?_
    refine tb_iadd d_St_append_15 rfl ?_
    rw [nI_1]
    refine p_St_18 d_St_append_16 rfl rfl (by first | exact k1 | exact k2) ?_
    refine tb_aload_0 d_St_append_19 rfl ?_
    refine g_St_11 d_St_append_20 rfl rfl (by first | exact k1 | exact k2) ?_
    refine tb_topR r0 ?_
    refine tb_aload_0 d_St_append_23 rfl ?_
    refine g_St_18 d_St_append_24 rfl rfl (by first | exact k1 | exact k2) ?_
    refine tb_topI (y := nI (c + 1)) (by rw [sI_at]; simp [va_up]) ?_
    refine tb_iconst (1) (by decide) d_St_append_27 rfl ?_
    refine tb_isub d_St_append_28 rfl ?_
    rw [nI_pred]
    refine tb_aaload (t := 6) d_St_append_29 rfl (by decide) rfl (by first | exact k1 | exact k2) (by first | (rw [l2]; exact vp_in_nI (by omega) (by omega)) | (show vp_in _ (tb_Ln M 33); rw [l2]; exact vp_in_nI (by omega) (by omega))) ?_
    refine tb_topR (y := tb_R M 33 c) (by rw [nI_clamp (show c < 2 ^ 31 by omega)]; rfl) ?_
    refine tb_areturn d_St_append_30 rfl ?_
    exact ⟨rfl, rfl⟩
theorem lp_St_append (hS : Sh M) (hC : StOk M 24) {d rc rs : Nat} {Q : tb_O → tb_M → Prop} (hQ : ∀ M1, On2 M M1 (fun _ => False) (fun q => q = 33) → tb_R M1 33 = va_up (rot (tb_R M 33) 0 23) 23 (tb_R M 33 0) → Q (.inl (some (.inr (.inl (tb_R M 33 0))))) M1) :
    ∀ (m j : Nat), 24 - j = m → j < 24 → ∀ M1, On2 M M1 (fun _ => False) (fun q => q = 33) → tb_R M1 33 = rot (tb_R M 33) 0 j → tb_Wp E m_St_append d rc rs 40 [some (.inr 32), some (.inr (tb_R M 33 0)), some (.inl (nI j))] [] M1 Q := by
  intro m
  induction m using Nat.strongRecOn with
  | ind m ih =>
    intro j hm hj M1 h1 h3
    have hS1 := (h1.mono (fun q hq => hq) (fun q hq => Or.inr hq)).sh hS
    have k1 := hS1.k (o := 32) (c := 5) rfl
    have k2 := hS1.k (o := 33) (c := 106) rfl
    have l2 := hS1.l (o := 33) (c := 24) rfl
    have r0 := hS1.2.2.1.2.2.2.2.2.2.2.1
    obtain ⟨n0, hT0⟩ := hC.2.2.1 0 (by decide)
    have kk0 := hS1.k hT0.1
    refine tb_iload_2 d_St_append_40 rfl ?_
    refine tb_iconst (1) (by decide) d_St_append_41 rfl ?_
    refine tb_iadd d_St_append_42 rfl ?_
    rw [nI_1]
    refine tb_bipush (24) (by decide) d_St_append_43 rfl ?_
    refine tb_icmp_ge 68 d_St_append_45 (by decide) rfl (fun h45 => ?_) (fun h45 => ?_)
    · have hje : 24 ≤ j + 1 := (nI_leI (a := 24) (b := j + 1) (by omega) (by omega)).mp h45
      have hjc : j = 23 := by omega
      refine tb_aload_0 d_St_append_68 rfl ?_
      refine g_St_11 d_St_append_69 rfl rfl (by first | exact k1 | exact k2) ?_
      refine tb_topR r0 ?_
      refine tb_bipush (23) (by decide) d_St_append_72 rfl ?_
      refine tb_aload_1 d_St_append_74 rfl ?_
      refine tb_aastore (ci := 6) (t := 6) d_St_append_75 rfl (by decide) rfl rfl (by decide) (by exact k2) (by exact kk0) (by rw [l2]; exact vp_in_nI (n := 23) (by omega) (by omega)) ?_
      rw [show ((23 : Int32).toNatClampNeg) = 23 by decide]
      refine tb_aload_1 d_St_append_76 rfl ?_
      refine tb_areturn d_St_append_77 rfl ?_
      refine hQ _ (h1.trans (On2.sR rfl)) ?_
      rw [sR_at, h3, hjc]
    · have hlt : j + 1 < 24 := Nat.lt_of_not_le (fun q => h45 ((nI_leI (a := 24) (b := j + 1) (by omega) (by omega)).mpr q))
      obtain ⟨n1, hT1⟩ := hC.2.2.1 (j + 1) hlt
      have kk1 := hS1.k hT1.1
      refine tb_aload_0 d_St_append_48 rfl ?_
      refine g_St_11 d_St_append_49 rfl rfl (by first | exact k1 | exact k2) ?_
      refine tb_topR r0 ?_
      refine tb_iload_2 d_St_append_52 rfl ?_
      refine tb_aload_0 d_St_append_53 rfl ?_
      refine g_St_11 d_St_append_54 rfl rfl (by first | exact k1 | exact k2) ?_
      refine tb_topR r0 ?_
      refine tb_iload_2 d_St_append_57 rfl ?_
      refine tb_iconst (1) (by decide) d_St_append_58 rfl ?_
      refine tb_iadd d_St_append_59 rfl ?_
      rw [nI_1]
      refine tb_aaload (t := 6) d_St_append_60 rfl (by decide) rfl (by first | exact k1 | exact k2) (by first | (rw [l2]; exact vp_in_nI (by omega) (by omega)) | (show vp_in _ (tb_Ln M1 33); rw [l2]; exact vp_in_nI (by omega) (by omega))) ?_
      refine tb_topR (y := tb_R M 33 (j + 1)) (by rw [nI_clamp (show j + 1 < 2 ^ 31 by omega)]; rw [h3]; unfold rot; rw [if_neg (by omega)]) ?_
      refine tb_aastore (ci := 6) (t := 6) d_St_append_61 rfl (by decide) rfl rfl (by decide) (by exact k2) (by exact kk1) (by first | (rw [l2]; exact vp_in_nI (by omega) (by omega)) | (show vp_in _ (tb_Ln M1 33); rw [l2]; exact vp_in_nI (by omega) (by omega))) ?_
      rw [nI_clamp (show j < 2 ^ 31 by omega)]
      refine tb_iinc_2 (1) d_St_append_62 rfl (by decide) (by decide) ?_
      refine tb_goto 40 d_St_append_65 (by decide) ?_
      rw [nI_1]
      refine ih (24 - (j + 1)) (by omega) (j + 1) rfl hlt _ (h1.trans (On2.sR rfl)) ?_
      rw [sR_at, h3]
      funext i
      unfold va_up rot
      by_cases e : i = j
      · subst e
        rw [if_pos rfl, if_pos ⟨by omega, by omega⟩]
      · rw [if_neg e]
        by_cases e2 : 0 ≤ i ∧ i < j
        · rw [if_pos e2, if_pos ⟨e2.1, by omega⟩]
        · rw [if_neg e2, if_neg (by omega)]
theorem ok_St_append1 (hG : tb_G E) (hS : Sh M) (hC : StOk M 24) (d : Nat) : tb_Rel E m_St_append d [.inr (.inl 32)] M (fun v M1 => v = some (.inr (.inl (tb_R M 33 0))) ∧ On2 M M1 (fun _ => False) (fun q => q = 33) ∧ tb_R M1 33 = va_up (rot (tb_R M 33) 0 23) 23 (tb_R M 33 0)) := by
  have k1 := hS.k (o := 32) (c := 5) rfl
  have k2 := hS.k (o := 33) (c := 106) rfl
  have l2 := hS.l (o := 33) (c := 24) rfl
  have r0 := hS.2.2.1.2.2.2.2.2.2.2.1
  have hI := hC.1
  have hc := hC.2.1
  refine tb_okOf hG (by decide) rfl (Nat.le_of_ble_eq_true rfl) rfl ?_
  refine tb_aload_0 d_St_append_0 rfl ?_
  refine g_St_18 d_St_append_1 rfl rfl (by first | exact k1 | exact k2) ?_
  refine tb_topI hI ?_
  refine tb_bipush (24) (by decide) d_St_append_4 rfl ?_
  refine tb_icmp_ge 31 d_St_append_6 (by decide) rfl (fun h6 => ?_) (fun h6 => ?_)
  · refine tb_aload_0 d_St_append_31 rfl ?_
    refine g_St_11 d_St_append_32 rfl rfl (by first | exact k1 | exact k2) ?_
    refine tb_topR r0 ?_
    refine tb_iconst (0) (by decide) d_St_append_35 rfl ?_
    refine tb_aaload (t := 6) d_St_append_36 rfl (by decide) rfl (by first | exact k1 | exact k2) (by rw [l2]; exact vp_in_nI (n := 0) (by omega) (by omega)) ?_
    rw [show ((0 : Int32).toNatClampNeg) = 0 by decide]
    refine tb_astore_1 d_St_append_37 rfl (by decide) ?_
    refine tb_iconst (0) (by decide) d_St_append_38 rfl ?_
    refine tb_istore_2 d_St_append_39 rfl (by decide) ?_
    refine lp_St_append hS hC (fun M1 h1 h2 => ⟨_, rfl, rfl, h1, h2⟩) 24 0 rfl (by decide) M (On.rf (A := fun _ => False)).two ?_
    funext i
    unfold rot
    rw [if_neg (by omega)]
  · exact absurd (by decide) h6
def folK (M : tb_M) (c k : Nat) : Prop := ∃ k', k < k' ∧ k' < c ∧ txt M (tb_R M 33 k' + 1) = txt M (tb_R M 33 k + 1)
theorem lp_St_fol (hG : tb_G E) (hS : Sh M) (hC : StOk M c) {k : Nat} (hk : k < c) {d rc rs : Nat} {Q : tb_O → tb_M → Prop} (hQ : Q (.inl (some (.inl (bI (folK M c k))))) M) : ∀ (m j : Nat), c - j = m → k < j → j ≤ c → (∀ i, k < i → i < j → ¬ txt M (tb_R M 33 i + 1) = txt M (tb_R M 33 k + 1)) → tb_Wp E m_St_isFollowedByItsLike (d + 2) rc rs 4 [some (.inr 32), some (.inl (nI k)), some (.inl (nI j))] [] M Q := by
  have k1 := hS.k (o := 32) (c := 5) rfl
  have k2 := hS.k (o := 33) (c := 106) rfl
  have l2 := hS.l (o := 33) (c := 24) rfl
  have r0 := hS.2.2.1.2.2.2.2.2.2.2.1
  have hI := hC.1
  have hc := hC.2.1
  obtain ⟨n0, hT0⟩ := hC.2.2.1 k (by omega)
  obtain ⟨k3, q0, -, -, -, -⟩ := hS.tr hT0.1
  intro m
  induction m using Nat.strongRecOn with
  | ind m ih =>
    intro j hm hkj hj hall
    refine tb_iload_2 d_St_isFollowedByItsLike_4 rfl ?_
    refine tb_aload_0 d_St_isFollowedByItsLike_5 rfl ?_
    refine g_St_18 d_St_isFollowedByItsLike_6 rfl rfl (by first | exact k1 | exact k2 | exact k3 | exact k4) ?_
    refine tb_topI hI ?_
    refine tb_icmp_ge 41 d_St_isFollowedByItsLike_9 (by decide) rfl (fun h9 => ?_) (fun h9 => ?_)
    · have hje : c ≤ j := (nI_leI (a := c) (b := j) (by omega) (by omega)).mp h9
      refine tb_iconst (0) (by decide) d_St_isFollowedByItsLike_41 rfl ?_
      refine tb_ireturn d_St_isFollowedByItsLike_42 rfl (by first | rfl | assumption) ?_
      rw [bI_f (fun z => by obtain ⟨k', z1, z2, z3⟩ := z; exact hall k' z1 (by omega) z3)] at hQ
      exact hQ
    · have hlt : j < c := Nat.lt_of_not_le (fun q => h9 ((nI_leI (a := c) (b := j) (by omega) (by omega)).mpr q))
      obtain ⟨n1, hT1⟩ := hC.2.2.1 j (by omega)
      have k4 := hS.k hT1.1
      refine tb_aload_0 d_St_isFollowedByItsLike_12 rfl ?_
      refine g_St_11 d_St_isFollowedByItsLike_13 rfl rfl (by first | exact k1 | exact k2 | exact k3 | exact k4) ?_
      refine tb_topR r0 ?_
      refine tb_iload_2 d_St_isFollowedByItsLike_16 rfl ?_
      refine tb_aaload (t := 6) d_St_isFollowedByItsLike_17 rfl (by decide) rfl (by first | exact k1 | exact k2 | exact k3 | exact k4) (by first | (rw [l2]; exact vp_in_nI (by omega) (by omega)) | (show vp_in _ (tb_Ln M 33); rw [l2]; exact vp_in_nI (by omega) (by omega))) ?_
      refine tb_topR (y := tb_R M 33 j) (by rw [nI_clamp (show j < 2 ^ 31 by omega)]) ?_
      refine tb_aload_0 d_St_isFollowedByItsLike_18 rfl ?_
      refine g_St_11 d_St_isFollowedByItsLike_19 rfl rfl (by first | exact k1 | exact k2 | exact k3 | exact k4) ?_
      refine tb_topR r0 ?_
      refine tb_iload_1 d_St_isFollowedByItsLike_22 rfl ?_
      refine tb_aaload (t := 6) d_St_isFollowedByItsLike_23 rfl (by decide) rfl (by first | exact k1 | exact k2 | exact k3 | exact k4) (by first | (rw [l2]; exact vp_in_nI (by omega) (by omega)) | (show vp_in _ (tb_Ln M 33); rw [l2]; exact vp_in_nI (by omega) (by omega))) ?_
      refine tb_topR (y := tb_R M 33 k) (by rw [nI_clamp (show k < 2 ^ 31 by omega)]) ?_
      refine g_St_53 d_St_isFollowedByItsLike_24 rfl rfl (by exact k3) ?_
      refine tb_topR q0 ?_
      refine tb_callVr c_St_22 d_St_isFollowedByItsLike_27 rfl rfl rfl (Nat.le_of_ble_eq_true rfl) (by exact k4) (ok_Tr_isOf hG hS hT1 hT0.2.1 d) ?_
      refine tb_if_eq 35 d_St_isFollowedByItsLike_30 (by decide) rfl (fun h30 => ?_) (fun h30 => ?_)
      · have hno : ¬ txt M (tb_R M 33 j + 1) = txt M (tb_R M 33 k + 1) := fun z => bI_0.mp h30 ((sameT_txt hT1.2.1 hT0.2.1).mpr z)
        refine tb_iinc_2 (1) d_St_isFollowedByItsLike_35 rfl (by decide) (by decide) ?_
        refine tb_goto 4 d_St_isFollowedByItsLike_38 (by decide) ?_
        rw [nI_1]
        exact ih (c - (j + 1)) (by omega) (j + 1) rfl (by omega) (by omega) (fun i h1 h2 => by
          by_cases e : i = j
          · subst e; exact hno
          · exact hall i h1 (by omega))
      · have hyes := Classical.not_not.mp (fun z => h30 (bI_f z))
        refine tb_iconst (1) (by decide) d_St_isFollowedByItsLike_33 rfl ?_
        refine tb_ireturn d_St_isFollowedByItsLike_34 rfl (by first | rfl | assumption) ?_
        rw [bI_t ⟨j, hkj, hlt, (sameT_txt hT1.2.1 hT0.2.1).mp hyes⟩] at hQ
        exact hQ
theorem ok_St_fol (hG : tb_G E) (hS : Sh M) (hC : StOk M c) {k : Nat} (hk : k < c) (d : Nat) : tb_Ret E m_St_isFollowedByItsLike (d + 2) [.inr (.inl 32), .inl (nI k)] M (some (.inl (bI (folK M c k)))) M := by
  refine tb_okOf hG (by decide) rfl (Nat.le_of_ble_eq_true rfl) rfl ?_
  refine tb_iload_1 d_St_isFollowedByItsLike_0 rfl ?_
  refine tb_iconst (1) (by decide) d_St_isFollowedByItsLike_1 rfl ?_
  refine tb_iadd d_St_isFollowedByItsLike_2 rfl ?_
  rw [nI_1]
  refine tb_istore_2 d_St_isFollowedByItsLike_3 rfl (by decide) ?_
  exact lp_St_fol hG hS hC hk ⟨rfl, rfl⟩ (c - (k + 1)) (k + 1) rfl (by omega) (by omega) (fun i h1 h2 => absurd h2 (by omega))
theorem ok_St_swap (hG : tb_G E) (hS : Sh M) (hC : StOk M c) {i j : Nat} (hi : i < 24) (hj : j < 24) (d : Nat) : tb_Ret E m_St_swap d [.inr (.inl 32), .inl (nI i), .inl (nI j)] M none (tb_sR (tb_sR M 33 i (tb_R M 33 j)) 33 j (tb_R M 33 i)) := by
  have k1 := hS.k (o := 32) (c := 5) rfl
  have k2 := hS.k (o := 33) (c := 106) rfl
  have l2 := hS.l (o := 33) (c := 24) rfl
  have r0 := hS.2.2.1.2.2.2.2.2.2.2.1
  have hI := hC.1
  have hc := hC.2.1
  obtain ⟨n0, hT0⟩ := hC.2.2.1 i hi
  obtain ⟨n1, hT1⟩ := hC.2.2.1 j hj
  have k3 := hS.k hT0.1
  have k4 := hS.k hT1.1
  refine tb_okOf hG (by decide) rfl (Nat.le_of_ble_eq_true rfl) rfl ?_
  refine tb_aload_0 d_St_swap_0 rfl ?_
  refine g_St_11 d_St_swap_1 rfl rfl (by first | exact k1 | exact k2) ?_
  refine tb_topR r0 ?_
  refine tb_iload_1 d_St_swap_4 rfl ?_
  refine tb_aaload (t := 6) d_St_swap_5 rfl (by decide) rfl (by first | exact k1 | exact k2) (by first | (rw [l2]; exact vp_in_nI (by omega) (by omega)) | (show vp_in _ (tb_Ln M 33); rw [l2]; exact vp_in_nI (by omega) (by omega))) ?_
  refine tb_topR (y := tb_R M 33 i) (by rw [nI_clamp (show i < 2 ^ 31 by omega)]) ?_
  refine tb_astore_3 d_St_swap_6 rfl (by decide) ?_
  refine tb_aload_0 d_St_swap_7 rfl ?_
  refine g_St_11 d_St_swap_8 rfl rfl (by first | exact k1 | exact k2) ?_
  refine tb_topR r0 ?_
  refine tb_iload_1 d_St_swap_11 rfl ?_
  refine tb_aload_0 d_St_swap_12 rfl ?_
  refine g_St_11 d_St_swap_13 rfl rfl (by first | exact k1 | exact k2) ?_
  refine tb_topR r0 ?_
  refine tb_iload_2 d_St_swap_16 rfl ?_
  refine tb_aaload (t := 6) d_St_swap_17 rfl (by decide) rfl (by first | exact k1 | exact k2) (by first | (rw [l2]; exact vp_in_nI (by omega) (by omega)) | (show vp_in _ (tb_Ln M 33); rw [l2]; exact vp_in_nI (by omega) (by omega))) ?_
  refine tb_topR (y := tb_R M 33 j) (by rw [nI_clamp (show j < 2 ^ 31 by omega)]) ?_
  refine tb_aastore (ci := 6) (t := 6) d_St_swap_18 rfl (by decide) rfl rfl (by decide) (by exact k2) (by exact k4) (by first | (rw [l2]; exact vp_in_nI (by omega) (by omega)) | (show vp_in _ (tb_Ln M 33); rw [l2]; exact vp_in_nI (by omega) (by omega))) ?_
  rw [nI_clamp (show i < 2 ^ 31 by omega)]
  refine tb_aload_0 d_St_swap_19 rfl ?_
  refine g_St_11 d_St_swap_20 rfl rfl (by first | exact k1 | exact k2) ?_
  refine tb_topR (show tb_R (tb_sR M 33 i (tb_R M 33 j)) 32 0 = 33 by rw [sR_of _ _ _ (by decide)]; exact r0) ?_
  refine tb_iload_2 d_St_swap_23 rfl ?_
  refine tb_aload_3 d_St_swap_24 rfl ?_
  refine tb_aastore (ci := 6) (t := 6) d_St_swap_25 rfl (by decide) rfl rfl (by decide) (by exact k2) (by exact k3) (by first | (rw [l2]; exact vp_in_nI (by omega) (by omega)) | (show vp_in _ (tb_Ln M 33); rw [l2]; exact vp_in_nI (by omega) (by omega))) ?_
  rw [nI_clamp (show j < 2 ^ 31 by omega)]
  refine tb_vreturn d_St_swap_26 rfl ?_
  exact ⟨rfl, rfl⟩
noncomputable def nf (M : tb_M) (c k : Nat) : Bool := @decide (¬ folK M c k) (Classical.propDecidable _)
/-- the rows that are kept among the first k -/
noncomputable def kept (M : tb_M) (c k : Nat) : List Nat := (List.range k).filter (nf M c)
theorem kept_t {M : tb_M} {c k : Nat} (h : ¬ folK M c k) : kept M c (k + 1) = kept M c k ++ [k] := by
  unfold kept
  rw [List.range_succ, List.filter_append]
  congr 1
  simp [nf, h]
theorem kept_f {M : tb_M} {c k : Nat} (h : folK M c k) : kept M c (k + 1) = kept M c k := by
  unfold kept
  rw [List.range_succ, List.filter_append]
  simp [nf, h]
theorem kept_le (M : tb_M) (c k : Nat) : (kept M c k).length ≤ k := by
  unfold kept
  exact Nat.le_trans (List.length_filter_le _ _) (by simp)
/-- the store while it is compacted: k rows are looked at -/
def KeepAt (M M1 : tb_M) (c k : Nat) : Prop := On2 M M1 (fun _ => False) (fun q => q = 33) ∧ (∀ i, k ≤ i → tb_R M1 33 i = tb_R M 33 i) ∧ (∀ i, i < 24 → ∃ j, j < 24 ∧ tb_R M1 33 i = tb_R M 33 j) ∧ (∀ i j, i < 24 → j < 24 → tb_R M1 33 i = tb_R M1 33 j → i = j) ∧ ∀ i (h : i < (kept M c k).length), tb_R M1 33 i = tb_R M 33 ((kept M c k)[i])
theorem KeepAt.st {M M1 : tb_M} {c k : Nat} (h : KeepAt M M1 c k) (hC : StOk M c) : StOk M1 c := by
  obtain ⟨h1, h2, h3, h4, h5⟩ := h
  have hI : tb_I M1 = tb_I M := funext fun q => h1.i (fun z => z)
  refine ⟨by rw [hI]; exact hC.1, hC.2.1, fun i hi => ?_, h4⟩
  obtain ⟨j, hj, e⟩ := h3 i hi
  obtain ⟨n, hT⟩ := hC.2.2.1 j hj
  rw [e]
  refine ⟨n, hT.1, ?_, ?_, by rw [hI]; exact hT.2.2.2⟩
  · exact ⟨hT.2.1.1, by rw [hI]; exact hT.2.1.2.1, hT.2.1.2.2.1, by rw [hI]; exact hT.2.1.2.2.2⟩
  · exact ⟨hT.2.2.1.1, by rw [hI]; exact hT.2.2.1.2.1, by rw [hI]; exact hT.2.2.1.2.2⟩
theorem KeepAt.fol {M M1 : tb_M} {c k : Nat} (h : KeepAt M M1 c k) : folK M1 c k ↔ folK M c k := by
  obtain ⟨h1, h2, -⟩ := h
  have ht : ∀ t, txt M1 t = txt M t := fun t => txt_on (h1.i (fun z => z)) (h1.i (fun z => z))
  unfold folK
  constructor
  · rintro ⟨k', a, b, e⟩
    rw [ht, ht, h2 k' (by omega), h2 k (by omega)] at e
    exact ⟨k', a, b, e⟩
  · rintro ⟨k', a, b, e⟩
    refine ⟨k', a, b, ?_⟩
    rw [ht, ht, h2 k' (by omega), h2 k (by omega)]
    exact e
theorem KeepAt.skip {M M1 : tb_M} {c k : Nat} (h : KeepAt M M1 c k) (hf : folK M c k) : KeepAt M M1 c (k + 1) := by
  obtain ⟨h1, h2, h3, h4, h5⟩ := h
  refine ⟨h1, fun i hi => h2 i (by omega), h3, h4, fun i hi => ?_⟩
  have hk := kept_f hf
  have hi' : i < (kept M c k).length := by rw [← hk]; exact hi
  rw [h5 i hi']
  congr 1
  simp only [hk]
theorem KeepAt.keep {M M1 : tb_M} {c k q : Nat} (h : KeepAt M M1 c k) (hk24 : k < 24) (hq : (kept M c k).length = q) (hf : ¬ folK M c k) : KeepAt M (tb_sR (tb_sR M1 33 q (tb_R M1 33 k)) 33 k (tb_R M1 33 q)) c (k + 1) := by
  obtain ⟨h1, h2, h3, h4, h5⟩ := h
  have hqk : q ≤ k := by rw [← hq]; exact kept_le M c k
  have hR : ∀ i, tb_R (tb_sR (tb_sR M1 33 q (tb_R M1 33 k)) 33 k (tb_R M1 33 q)) 33 i = if i = k then tb_R M1 33 q else if i = q then tb_R M1 33 k else tb_R M1 33 i := by
    intro i
    rw [sR_at, sR_at]
    rfl
  refine ⟨(h1.trans (On2.sR rfl)).trans (On2.sR rfl), fun i hi => ?_, fun i hi => ?_, fun i j hi hj e => ?_, fun i hi => ?_⟩
  · rw [hR, if_neg (by omega), if_neg (by omega)]
    exact h2 i (by omega)
  · rw [hR]
    by_cases e1 : i = k
    · rw [if_pos e1]; exact h3 q (by omega)
    · rw [if_neg e1]
      by_cases e2 : i = q
      · rw [if_pos e2]; exact h3 k hk24
      · rw [if_neg e2]; exact h3 i hi
  · rw [hR, hR] at e
    by_cases a1 : i = k <;> by_cases b1 : j = k
    · omega
    · rw [if_pos a1, if_neg b1] at e
      by_cases b2 : j = q
      · rw [if_pos b2] at e
        have := h4 q k (by omega) hk24 e
        omega
      · rw [if_neg b2] at e
        have := h4 q j (by omega) hj e
        omega
    · rw [if_neg a1, if_pos b1] at e
      by_cases a2 : i = q
      · rw [if_pos a2] at e
        have := h4 k q hk24 (by omega) e
        omega
      · rw [if_neg a2] at e
        have := h4 i q hi (by omega) e
        omega
    · rw [if_neg a1, if_neg b1] at e
      by_cases a2 : i = q <;> by_cases b2 : j = q
      · omega
      · rw [if_pos a2, if_neg b2] at e
        have := h4 k j hk24 hj e
        omega
      · rw [if_neg a2, if_pos b2] at e
        have := h4 i k hi hk24 e
        omega
      · rw [if_neg a2, if_neg b2] at e
        exact h4 i j hi hj e
  · have hkt := kept_t hf
    have hlen : (kept M c (k + 1)).length = q + 1 := by rw [hkt, List.length_append, hq]; rfl
    rw [hR]
    by_cases e : i = q
    · have hlast : (kept M c (k + 1))[i] = k := by
        subst e
        simp only [hkt]
        rw [List.getElem_append_right (by omega)]
        simp
      rw [hlast]
      by_cases e1 : i = k
      · rw [if_pos e1, ← e, e1]; exact h2 k (Nat.le_refl _)
      · rw [if_neg e1, if_pos e]; exact h2 k (Nat.le_refl _)
    · have hi' : i < (kept M c k).length := by omega
      rw [if_neg (by omega), if_neg e, h5 i hi']
      congr 1
      simp only [hkt]
      rw [List.getElem_append_left hi']
theorem lp_St_keep (hG : tb_G E) (hS : Sh M) (hC : StOk M c) {d rc rs : Nat} {Q : tb_O → tb_M → Prop} (hQ : ∀ M1, KeepAt M M1 c c → Q (.inl (some (.inl (nI (c - (kept M c c).length))))) (tb_sI M1 32 1 (nI (kept M c c).length))) :
    ∀ (m k : Nat), c - k = m → k ≤ c → ∀ M1, KeepAt M M1 c k → tb_Wp E m_St_keepLatest (d + 3) rc rs 9 [some (.inr 32), some (.inl (nI c)), some (.inl (nI (kept M c k).length)), some (.inl (nI k))] [] M1 Q := by
  intro m
  induction m using Nat.strongRecOn with
  | ind m ih =>
    intro k hm hk M1 hB
    have hS1 := (hB.1.mono (fun q hq => hq) (fun q hq => Or.inr hq)).sh hS
    have hC1 := hB.st hC
    have hc := hC.2.1
    have hle := kept_le M c k
    have hleC := kept_le M c c
    have k1 := hS1.k (o := 32) (c := 5) rfl
    refine tb_iload_3 d_St_keepLatest_9 rfl ?_
    refine tb_iload_1 d_St_keepLatest_10 rfl ?_
    refine tb_icmp_ge 37 d_St_keepLatest_11 (by decide) rfl (fun h11 => ?_) (fun h11 => ?_)
    · have hje : c ≤ k := (nI_leI (a := c) (b := k) (by omega) (by omega)).mp h11
      have hkc : k = c := by omega
      subst hkc
      refine tb_aload_0 d_St_keepLatest_37 rfl ?_
      refine tb_iload_2 d_St_keepLatest_38 rfl ?_
      refine p_St_18 d_St_keepLatest_39 rfl rfl (by first | exact k1) ?_
      refine tb_iload_1 d_St_keepLatest_42 rfl ?_
      refine tb_iload_2 d_St_keepLatest_43 rfl ?_
      refine tb_isub d_St_keepLatest_44 rfl ?_
      refine tb_topI (y := nI (k - (kept M k k).length)) (by rw [← nI_subN hleC]) ?_
      refine tb_ireturn d_St_keepLatest_45 rfl (by first | rfl | assumption) ?_
      exact hQ M1 hB
    · have hlt : k < c := Nat.lt_of_not_le (fun q => h11 ((nI_leI (a := c) (b := k) (by omega) (by omega)).mpr q))
      refine tb_aload_0 d_St_keepLatest_14 rfl ?_
      refine tb_iload_3 d_St_keepLatest_15 rfl ?_
      refine tb_callVr c_St_45 d_St_keepLatest_16 rfl rfl rfl (Nat.le_of_ble_eq_true rfl) (by first | exact k1) (ok_St_fol hG hS1 hC1 hlt d) ?_
      refine tb_if_ne 31 d_St_keepLatest_19 (by decide) rfl (fun h19 => ?_) (fun h19 => ?_)
      · have hf : folK M c k := hB.fol.mp (Classical.not_not.mp (fun z => h19 (bI_f z)))
        refine tb_iinc_3 (1) d_St_keepLatest_31 rfl (by decide) (by decide) ?_
        refine tb_goto 9 d_St_keepLatest_34 (by decide) ?_
        rw [nI_1]
        first
          | (rw [nI_1, show (kept M c k).length + 1 = (kept M c (k + 1)).length by rw [kept_t hf, List.length_append]; rfl]
             exact ih (c - (k + 1)) (by omega) (k + 1) rfl (by omega) _ (hB.keep (by omega) rfl hf))
          | (rw [show (kept M c k).length = (kept M c (k + 1)).length by rw [kept_f hf]]
             exact ih (c - (k + 1)) (by omega) (k + 1) rfl (by omega) _ (hB.skip hf))
      · have hf : ¬ folK M c k := fun z => bI_0.mp h19 (hB.fol.mpr z)
        refine tb_aload_0 d_St_keepLatest_22 rfl ?_
        refine tb_iload_2 d_St_keepLatest_23 rfl ?_
        refine tb_iload_3 d_St_keepLatest_24 rfl ?_
        refine tb_callVv c_St_49 d_St_keepLatest_25 rfl rfl rfl (Nat.le_of_ble_eq_true rfl) (by first | exact k1) (ok_St_swap hG hS1 hC1 (show (kept M c k).length < 24 by omega) (show k < 24 by omega) (d + 2)) ?_
        refine tb_iinc_2 (1) d_St_keepLatest_28 rfl (by decide) (by decide) ?_
        refine tb_iinc_3 (1) d_St_keepLatest_31 rfl (by decide) (by decide) ?_
        refine tb_goto 9 d_St_keepLatest_34 (by decide) ?_
        rw [nI_1]
        first
          | (rw [nI_1, show (kept M c k).length + 1 = (kept M c (k + 1)).length by rw [kept_t hf, List.length_append]; rfl]
             exact ih (c - (k + 1)) (by omega) (k + 1) rfl (by omega) _ (hB.keep (by omega) rfl hf))
          | (rw [show (kept M c k).length = (kept M c (k + 1)).length by rw [kept_f hf]]
             exact ih (c - (k + 1)) (by omega) (k + 1) rfl (by omega) _ (hB.skip hf))
theorem ok_St_keep (hG : tb_G E) (hS : Sh M) (hC : StOk M c) (d : Nat) : tb_Rel E m_St_keepLatest (d + 3) [.inr (.inl 32)] M (fun v M1 => v = some (.inl (nI (c - (kept M c c).length))) ∧ ∃ M0, KeepAt M M0 c c ∧ M1 = tb_sI M0 32 1 (nI (kept M c c).length)) := by
  have k1 := hS.k (o := 32) (c := 5) rfl
  have hI := hC.1
  refine tb_okOf hG (by decide) rfl (Nat.le_of_ble_eq_true rfl) rfl ?_
  refine tb_aload_0 d_St_keepLatest_0 rfl ?_
  refine g_St_18 d_St_keepLatest_1 rfl rfl (by first | exact k1) ?_
  refine tb_topI hI ?_
  refine tb_istore_1 d_St_keepLatest_4 rfl (by decide) ?_
  refine tb_iconst (0) (by decide) d_St_keepLatest_5 rfl ?_
  refine tb_istore_2 d_St_keepLatest_6 rfl (by decide) ?_
  refine tb_iconst (0) (by decide) d_St_keepLatest_7 rfl ?_
  refine tb_istore_3 d_St_keepLatest_8 rfl (by decide) ?_
  exact lp_St_keep hG hS hC (fun M1 h => ⟨_, rfl, rfl, M1, h, rfl⟩) c 0 rfl (Nat.zero_le _) M ⟨(On.rf (A := fun _ => False)).two, fun _ _ => rfl, fun i hi => ⟨i, hi, rfl⟩, hC.2.2.2, fun i hi => absurd hi (Nat.not_lt_zero _)⟩
end Store2
