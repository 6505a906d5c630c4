/-! Texts as lists; firstOf; Store. -/
def txt (M : tb_M) (t : Nat) : List Int32 := (List.range (tb_I M t 1).toNatClampNeg).map (tb_I M (t + 1))
theorem txt_of {M : tb_M} {t n : Nat} (h : TxOk M t n) : txt M t = (List.range n).map (tb_I M (t + 1)) := by
  unfold txt
  rw [h.2.1, nI_clamp (by have := h.2.2.1; omega)]
theorem txt_len {M : tb_M} {t n : Nat} (h : TxOk M t n) : (txt M t).length = n := by rw [txt_of h]; simp
theorem sameT_txt {M : tb_M} {t n o n' : Nat} (h : TxOk M t n) (h' : TxOk M o n') : sameT M t n o n' ↔ txt M t = txt M o := by
  rw [txt_of h, txt_of h']
  constructor
  · rintro ⟨rfl, hq⟩
    apply List.map_congr_left
    intro i hi
    exact hq i (List.mem_range.mp hi)
  · intro hq
    have hl := congrArg List.length hq
    simp at hl
    subst hl
    refine ⟨rfl, fun i hi => ?_⟩
    have z2 := congrArg (fun l => l[i]?) hq
    simpa [hi] using z2
theorem txt_on {M M1 : tb_M} {t : Nat} (h1 : tb_I M1 t = tb_I M t) (h2 : tb_I M1 (t + 1) = tb_I M (t + 1)) : txt M1 t = txt M t := by
  unfold txt
  rw [h1, h2]
/-- the first of a set, or -1 -/
noncomputable def fst12 (x : Int32) (r : Int32) : Prop := (∃ f, f < 12 ∧ r = nI f ∧ bt x f ∧ ∀ g, g < f → ¬ bt x g) ∨ (r = -1 ∧ ∀ g, g < 12 → ¬ bt x g)
theorem lp_firstOf {E : tb_E} {M : tb_M} {x : Int32} {d rc rs : Nat} {Q : tb_O → tb_M → Prop} (hQ : ∀ r, fst12 x r → Q (.inl (some (.inl r))) M) : ∀ (m j : Nat), 12 - j = m → j ≤ 12 → (∀ g, g < j → ¬ bt x g) → tb_Wp E m_TB_firstOf d rc rs 2 [some (.inl x), some (.inl (nI j))] [] M Q := by
  intro m
  induction m using Nat.strongRecOn with
  | ind m ih =>
    intro j hm hj hall
    refine tb_iload_1 d_TB_firstOf_2 rfl ?_
    refine tb_bipush (12) (by decide) d_TB_firstOf_3 rfl ?_
    refine tb_icmp_ge 24 d_TB_firstOf_5 (by decide) rfl (fun h5 => ?_) (fun h5 => ?_)
    · have hje : 12 ≤ j := (nI_leI (a := 12) (b := j) (by omega) (by omega)).mp h5
      have hj12 : j = 12 := by omega
      subst hj12
      refine tb_iconst (-1) (by decide) d_TB_firstOf_24 rfl ?_
      refine tb_ireturn d_TB_firstOf_25 rfl (by first | rfl | assumption) ?_
      exact hQ _ (Or.inr ⟨rfl, hall⟩)
    · have hlt : j < 12 := Nat.lt_of_not_le (fun q => h5 ((nI_leI (a := 12) (b := j) (by omega) (by omega)).mpr q))
      refine tb_iload_0 d_TB_firstOf_8 rfl ?_
      refine tb_iconst (1) (by decide) d_TB_firstOf_9 rfl ?_
      refine tb_iload_1 d_TB_firstOf_10 rfl ?_
      refine tb_ishl d_TB_firstOf_11 rfl ?_
      refine tb_iand d_TB_firstOf_12 rfl ?_
      refine tb_if_eq 18 d_TB_firstOf_13 (by decide) rfl (fun h13 => ?_) (fun h13 => ?_)
      · refine tb_iinc_1 (1) d_TB_firstOf_18 rfl (by decide) (by decide) ?_
        refine tb_goto 2 d_TB_firstOf_21 (by decide) ?_
        rw [nI_1]
        exact ih (12 - (j + 1)) (by omega) (j + 1) rfl (by omega) (fun g hg => by
          by_cases e : g = j
          · subst e; exact fun z => z h13
          · exact hall g (by omega))
      · refine tb_iload_1 d_TB_firstOf_16 rfl ?_
        refine tb_ireturn d_TB_firstOf_17 rfl (by first | rfl | assumption) ?_
        exact hQ _ (Or.inl ⟨j, hlt, rfl, h13, hall⟩)
theorem ok_firstOf {E : tb_E} {M : tb_M} (hG : tb_G E) (x : Int32) (d : Nat) : tb_Rel E m_TB_firstOf d [.inl x] M (fun v M1 => M1 = M ∧ ∃ r, v = some (.inl r) ∧ fst12 x r) := by
  refine tb_okOf hG (by decide) rfl (Nat.le_of_ble_eq_true rfl) rfl ?_
  refine tb_iconst (0) (by decide) d_TB_firstOf_0 rfl ?_
  refine tb_istore_1 d_TB_firstOf_1 rfl (by decide) ?_
  exact lp_firstOf (fun r hr => ⟨_, rfl, rfl, r, rfl, hr⟩) 12 0 rfl (by omega) (fun g hg => absurd hg (Nat.not_lt_zero _))
/-- the store has c traces; its rows are twenty-four traces, all apart -/
def StOk (M : tb_M) (c : Nat) : Prop := tb_I M 32 1 = nI c ∧ c ≤ 24 ∧ (∀ k, k < 24 → ∃ n, TrOk M (tb_R M 33 k) n) ∧ ∀ i j, i < 24 → j < 24 → tb_R M 33 i = tb_R M 33 j → i = j
def LastIx (p : Nat → Prop) (c k : Nat) : Prop := k < c ∧ p k ∧ ∀ k', k < k' → k' < c → ¬ p k'
/-- r is the last row with p, or null -/
def LastP (M : tb_M) (p : Nat → Prop) (c r : Nat) : Prop := (r = 0 ∧ ∀ k, k < c → ¬ p k) ∨ ∃ k, r = tb_R M 33 k ∧ LastIx p c k
/-- the k-th trace is of the text o -/
def isOfK (M : tb_M) (o k : Nat) : Prop := txt M (tb_R M 33 k + 1) = txt M o
section Store
variable {E : tb_E} {M : tb_M} {c : Nat}
theorem ok_St_length (hG : tb_G E) (hS : Sh M) (hC : StOk M c) (d : Nat) : tb_Ret E m_St_length d [.inr (.inl 32)] M (some (.inl (nI c))) M := by
  have k1 := hS.k (o := 32) (c := 5) rfl
  have k2 := hS.k (o := 33) (c := 106) rfl
  have l2 := hS.l (o := 33) (c := 24) rfl
  have r0 := hS.2.2.1.2.2.2.2.2.2.2.1
  have hI := hC.1
  have hc := hC.2.1
  refine tb_okOf hG (by decide) rfl (Nat.le_of_ble_eq_true rfl) rfl ?_
  refine tb_aload_0 d_St_length_0 rfl ?_
  refine g_St_18 d_St_length_1 rfl rfl (by first | exact k1 | exact k2) ?_
  refine tb_topI hI ?_
  refine tb_ireturn d_St_length_4 rfl (by first | rfl | assumption) ?_
  exact ⟨rfl, rfl⟩
theorem ok_St_at (hG : tb_G E) (hS : Sh M) (hC : StOk M c) {k : Nat} (hk : k < 24) (d : Nat) : tb_Ret E m_St_at d [.inr (.inl 32), .inl (nI k)] M (some (.inr (.inl (tb_R M 33 k)))) M := by
  have k1 := hS.k (o := 32) (c := 5) rfl
  have k2 := hS.k (o := 33) (c := 106) rfl
  have l2 := hS.l (o := 33) (c := 24) rfl
  have r0 := hS.2.2.1.2.2.2.2.2.2.2.1
  have hI := hC.1
  have hc := hC.2.1
  refine tb_okOf hG (by decide) rfl (Nat.le_of_ble_eq_true rfl) rfl ?_
  refine tb_aload_0 d_St_at_0 rfl ?_
  refine g_St_11 d_St_at_1 rfl rfl (by first | exact k1 | exact k2) ?_
  refine tb_topR r0 ?_
  refine tb_iload_1 d_St_at_4 rfl ?_
  refine tb_aaload (t := 6) d_St_at_5 rfl (by decide) rfl (by first | exact k1 | exact k2) (by first | (rw [l2]; exact vp_in_nI (by omega) (by omega)) | (show vp_in _ (tb_Ln M 33); rw [l2]; exact vp_in_nI (by omega) (by omega))) ?_
  refine tb_topR (y := tb_R M 33 k) (by rw [nI_clamp (show k < 2 ^ 31 by omega)]) ?_
  refine tb_areturn d_St_at_6 rfl ?_
  exact ⟨rfl, rfl⟩
theorem ok_St_cut0 (hG : tb_G E) (hS : Sh M) (hC : StOk M c) {x : Int32} (hx : ¬ inI x c) (d : Nat) : tb_Ret E m_St_cutTo d [.inr (.inl 32), .inl x] M (some (.inl 0)) M := by
  have k1 := hS.k (o := 32) (c := 5) rfl
  have k2 := hS.k (o := 33) (c := 106) rfl
  have l2 := hS.l (o := 33) (c := 24) rfl
  have r0 := hS.2.2.1.2.2.2.2.2.2.2.1
  have hI := hC.1
  have hc := hC.2.1
  refine tb_okOf hG (by decide) rfl (Nat.le_of_ble_eq_true rfl) rfl ?_
  refine tb_iload_1 d_St_cutTo_0 rfl ?_
  refine tb_if_lt 12 d_St_cutTo_1 (by decide) rfl (fun h1 => ?_) (fun h1 => ?_)
  · refine tb_iconst (0) (by decide) d_St_cutTo_12 rfl ?_
    refine tb_ireturn d_St_cutTo_13 rfl (by first | rfl | assumption) ?_
    exact ⟨rfl, rfl⟩
  · refine tb_iload_1 d_St_cutTo_4 rfl ?_
    refine tb_aload_0 d_St_cutTo_5 rfl ?_
    refine g_St_18 d_St_cutTo_6 rfl rfl (by first | exact k1 | exact k2) ?_
    refine tb_topI hI ?_
    refine tb_icmp_lt 14 d_St_cutTo_9 (by decide) rfl (fun h9 => ?_) (fun h9 => ?_)
    · exact absurd ⟨Int32.not_lt.mp h1, h9⟩ hx
    · refine tb_iconst (0) (by decide) d_St_cutTo_12 rfl ?_
      refine tb_ireturn d_St_cutTo_13 rfl (by first | rfl | assumption) ?_
      exact ⟨rfl, rfl⟩
theorem ok_St_cut1 (hG : tb_G E) (hS : Sh M) (hC : StOk M c) {x : Int32} (hx : inI x c) (d : Nat) : tb_Ret E m_St_cutTo d [.inr (.inl 32), .inl x] M (some (.inl 1)) (tb_sI M 32 1 x) := by
  have k1 := hS.k (o := 32) (c := 5) rfl
  have k2 := hS.k (o := 33) (c := 106) rfl
  have l2 := hS.l (o := 33) (c := 24) rfl
  have r0 := hS.2.2.1.2.2.2.2.2.2.2.1
  have hI := hC.1
  have hc := hC.2.1
  refine tb_okOf hG (by decide) rfl (Nat.le_of_ble_eq_true rfl) rfl ?_
  refine tb_iload_1 d_St_cutTo_0 rfl ?_
  refine tb_if_lt 12 d_St_cutTo_1 (by decide) rfl (fun h1 => ?_) (fun h1 => ?_)
  · exact absurd h1 (Int32.not_lt.mpr hx.1)
  · refine tb_iload_1 d_St_cutTo_4 rfl ?_
    refine tb_aload_0 d_St_cutTo_5 rfl ?_
    refine g_St_18 d_St_cutTo_6 rfl rfl (by first | exact k1 | exact k2) ?_
    refine tb_topI hI ?_
    refine tb_icmp_lt 14 d_St_cutTo_9 (by decide) rfl (fun h9 => ?_) (fun h9 => ?_)
    · refine tb_aload_0 d_St_cutTo_14 rfl ?_
      refine tb_iload_1 d_St_cutTo_15 rfl ?_
      refine p_St_18 d_St_cutTo_16 rfl rfl (by first | exact k1 | exact k2) ?_
      refine tb_iconst (1) (by decide) d_St_cutTo_19 rfl ?_
      refine tb_ireturn d_St_cutTo_20 rfl (by first | rfl | assumption) ?_
      exact ⟨rfl, rfl⟩
    · exact absurd hx.2 h9
theorem lp_St_latest (hG : tb_G E) (hS : Sh M) (hC : StOk M c) {o n : Nat} (hO : TxOk M o n) {d rc rs : Nat} {Q : tb_O → tb_M → Prop} (hQ : ∀ r, LastP M (isOfK M o) c r → Q (.inl (some (.inr (.inl r)))) M) : ∀ (j : Nat), j ≤ c → (∀ k, j ≤ k → k < c → ¬ (isOfK M o) k) → tb_Wp E m_St_latest (d + 2) rc rs 7 [some (.inr 32), some (.inr o), some (.inl (nI j - 1))] [] M Q := by
  have k1 := hS.k (o := 32) (c := 5) rfl
  have k2 := hS.k (o := 33) (c := 106) rfl
  have l2 := hS.l (o := 33) (c := 24) rfl
  have r0 := hS.2.2.1.2.2.2.2.2.2.2.1
  have hI := hC.1
  have hc := hC.2.1
  intro j
  induction j with
  | zero =>
    intro hj hall
    refine tb_iload_2 d_St_latest_7 rfl ?_
    refine tb_if_lt 37 d_St_latest_8 (by decide) rfl (fun h8 => ?_) (fun h8 => ?_)
    · refine tb_null d_St_latest_37 rfl ?_
      refine tb_areturn d_St_latest_38 rfl ?_
      exact hQ 0 (Or.inl ⟨rfl, fun k hk => hall k (Nat.zero_le _) hk⟩)
    · exact absurd (show nI 0 - 1 < 0 by decide) h8
  | succ j ih =>
    intro hj hall
    obtain ⟨n1, hT⟩ := hC.2.2.1 j (by omega)
    have k3 := hS.k hT.1
    rw [nI_pred]
    refine tb_iload_2 d_St_latest_7 rfl ?_
    refine tb_if_lt 37 d_St_latest_8 (by decide) rfl (fun h8 => ?_) (fun h8 => ?_)
    · exact absurd h8 (nI_pos (by omega))
    · refine tb_aload_0 d_St_latest_11 rfl ?_
      refine g_St_11 d_St_latest_12 rfl rfl (by first | exact k1 | exact k2 | exact k3) ?_
      refine tb_topR r0 ?_
      refine tb_iload_2 d_St_latest_15 rfl ?_
      refine tb_aaload (t := 6) d_St_latest_16 rfl (by decide) rfl (by first | exact k1 | exact k2 | exact k3) (by first | (rw [l2]; exact vp_in_nI (by omega) (by omega)) | (show vp_in _ (tb_Ln M 33); rw [l2]; exact vp_in_nI (by omega) (by omega))) ?_
      refine tb_topR (y := tb_R M 33 j) (by rw [nI_clamp (show j < 2 ^ 31 by omega)]) ?_
      refine tb_aload_1 d_St_latest_17 rfl ?_
      refine tb_callVr c_St_22 d_St_latest_18 rfl rfl rfl (Nat.le_of_ble_eq_true rfl) (by first | exact k1 | exact k2 | exact k3) (ok_Tr_isOf hG hS hT hO d) ?_
      refine tb_if_eq 31 d_St_latest_21 (by decide) rfl (fun h21 => ?_) (fun h21 => ?_)
      · have hno : ¬ (isOfK M o) j := fun z => bI_0.mp h21 ((sameT_txt hT.2.1 hO).mpr z)
        refine tb_iinc_2 (-1) d_St_latest_31 rfl (by decide) (by decide) ?_
        refine tb_goto 7 d_St_latest_34 (by decide) ?_
        rw [show nI j + (-1) = nI j - 1 from (Int32.sub_eq_add_neg _ _).symm]
        refine ih (by omega) (fun k hk hkc => ?_)
        by_cases e : k = j
        · subst e; exact hno
        · exact hall k (by omega) hkc
      · have hyes := Classical.not_not.mp (fun z => h21 (bI_f z))
        refine tb_aload_0 d_St_latest_24 rfl ?_
        refine g_St_11 d_St_latest_25 rfl rfl (by first | exact k1 | exact k2 | exact k3) ?_
        refine tb_topR r0 ?_
        refine tb_iload_2 d_St_latest_28 rfl ?_
        refine tb_aaload (t := 6) d_St_latest_29 rfl (by decide) rfl (by first | exact k1 | exact k2 | exact k3) (by first | (rw [l2]; exact vp_in_nI (by omega) (by omega)) | (show vp_in _ (tb_Ln M 33); rw [l2]; exact vp_in_nI (by omega) (by omega))) ?_
        refine tb_topR (y := tb_R M 33 j) (by rw [nI_clamp (show j < 2 ^ 31 by omega)]) ?_
        refine tb_areturn d_St_latest_30 rfl ?_
        exact hQ _ (Or.inr ⟨j, rfl, by omega, (sameT_txt hT.2.1 hO).mp hyes, fun k h1 h2 => hall k (by omega) h2⟩)
theorem ok_St_latest (hG : tb_G E) (hS : Sh M) (hC : StOk M c) {o n : Nat} (hO : TxOk M o n) (d : Nat) : tb_Rel E m_St_latest (d + 2) [.inr (.inl 32), .inr (.inl o)] M (fun v M1 => M1 = M ∧ ∃ r, v = some (.inr (.inl r)) ∧ LastP M (isOfK M o) c r) := by
  have k1 := hS.k (o := 32) (c := 5) rfl
  have k2 := hS.k (o := 33) (c := 106) rfl
  have l2 := hS.l (o := 33) (c := 24) rfl
  have r0 := hS.2.2.1.2.2.2.2.2.2.2.1
  have hI := hC.1
  have hc := hC.2.1
  refine tb_okOf hG (by decide) rfl (Nat.le_of_ble_eq_true rfl) rfl ?_
  refine tb_aload_0 d_St_latest_0 rfl ?_
  refine g_St_18 d_St_latest_1 rfl rfl (by first | exact k1 | exact k2) ?_
  refine tb_topI hI ?_
  refine tb_iconst (1) (by decide) d_St_latest_4 rfl ?_
  refine tb_isub d_St_latest_5 rfl ?_
  refine tb_istore_2 d_St_latest_6 rfl (by decide) ?_
  exact lp_St_latest hG hS hC hO (fun r hr => ⟨_, rfl, rfl, r, rfl, hr⟩) c (Nat.le_refl _) (fun k h1 h2 => absurd h2 (by omega))
theorem lp_St_fitting (hG : tb_G E) (hS : Sh M) (hC : StOk M c) {o n s : Nat} (hO : TxOk M o n) (hF : ShOk M s) {d rc rs : Nat} {Q : tb_O → tb_M → Prop} (hQ : ∀ r, LastP M (fun k => isOfK M o k ∧ fitsP M (tb_R M 33 k) s) c r → Q (.inl (some (.inr (.inl r)))) M) : ∀ (j : Nat), j ≤ c → (∀ k, j ≤ k → k < c → ¬ (fun k => isOfK M o k ∧ fitsP M (tb_R M 33 k) s) k) → tb_Wp E m_St_fitting (d + 4) rc rs 7 [some (.inr 32), some (.inr o), some (.inr s), some (.inl (nI j - 1))] [] M Q := by
  have k1 := hS.k (o := 32) (c := 5) rfl
  have k2 := hS.k (o := 33) (c := 106) rfl
  have l2 := hS.l (o := 33) (c := 24) rfl
  have r0 := hS.2.2.1.2.2.2.2.2.2.2.1
  have hI := hC.1
  have hc := hC.2.1
  intro j
  induction j with
  | zero =>
    intro hj hall
    refine tb_iload_3 d_St_fitting_7 rfl ?_
    refine tb_if_lt 50 d_St_fitting_8 (by decide) rfl (fun h8 => ?_) (fun h8 => ?_)
    · refine tb_null d_St_fitting_50 rfl ?_
      refine tb_areturn d_St_fitting_51 rfl ?_
      exact hQ 0 (Or.inl ⟨rfl, fun k hk => hall k (Nat.zero_le _) hk⟩)
    · exact absurd (show nI 0 - 1 < 0 by decide) h8
  | succ j ih =>
    intro hj hall
    obtain ⟨n1, hT⟩ := hC.2.2.1 j (by omega)
    have k3 := hS.k hT.1
    rw [nI_pred]
    refine tb_iload_3 d_St_fitting_7 rfl ?_
    refine tb_if_lt 50 d_St_fitting_8 (by decide) rfl (fun h8 => ?_) (fun h8 => ?_)
    · exact absurd h8 (nI_pos (by omega))
    · refine tb_aload_0 d_St_fitting_11 rfl ?_
      refine g_St_11 d_St_fitting_12 rfl rfl (by first | exact k1 | exact k2 | exact k3) ?_
      refine tb_topR r0 ?_
      refine tb_iload_3 d_St_fitting_15 rfl ?_
      refine tb_aaload (t := 6) d_St_fitting_16 rfl (by decide) rfl (by first | exact k1 | exact k2 | exact k3) (by first | (rw [l2]; exact vp_in_nI (by omega) (by omega)) | (show vp_in _ (tb_Ln M 33); rw [l2]; exact vp_in_nI (by omega) (by omega))) ?_
      refine tb_topR (y := tb_R M 33 j) (by rw [nI_clamp (show j < 2 ^ 31 by omega)]) ?_
      refine tb_aload_1 d_St_fitting_17 rfl ?_
      refine tb_callVr c_St_22 d_St_fitting_18 rfl rfl rfl (Nat.le_of_ble_eq_true rfl) (by first | exact k1 | exact k2 | exact k3) (ok_Tr_isOf hG hS hT hO (d + 2)) ?_
      refine tb_if_eq 44 d_St_fitting_21 (by decide) rfl (fun h21 => ?_) (fun h21 => ?_)
      · have hno : ¬ (fun k => isOfK M o k ∧ fitsP M (tb_R M 33 k) s) j := fun z => bI_0.mp h21 ((sameT_txt hT.2.1 hO).mpr z.1)
        refine tb_iinc_3 (-1) d_St_fitting_44 rfl (by decide) (by decide) ?_
        refine tb_goto 7 d_St_fitting_47 (by decide) ?_
        rw [show nI j + (-1) = nI j - 1 from (Int32.sub_eq_add_neg _ _).symm]
        refine ih (by omega) (fun k hk hkc => ?_)
        by_cases e : k = j
        · subst e; exact hno
        · exact hall k (by omega) hkc
      · have hyes := Classical.not_not.mp (fun z => h21 (bI_f z))
        refine tb_aload_0 d_St_fitting_24 rfl ?_
        refine g_St_11 d_St_fitting_25 rfl rfl (by first | exact k1 | exact k2 | exact k3) ?_
        refine tb_topR r0 ?_
        refine tb_iload_3 d_St_fitting_28 rfl ?_
        refine tb_aaload (t := 6) d_St_fitting_29 rfl (by decide) rfl (by first | exact k1 | exact k2 | exact k3) (by first | (rw [l2]; exact vp_in_nI (by omega) (by omega)) | (show vp_in _ (tb_Ln M 33); rw [l2]; exact vp_in_nI (by omega) (by omega))) ?_
        refine tb_topR (y := tb_R M 33 j) (by rw [nI_clamp (show j < 2 ^ 31 by omega)]) ?_
        refine tb_aload_2 d_St_fitting_30 rfl ?_
        refine tb_callVr c_St_26 d_St_fitting_31 rfl rfl rfl (Nat.le_of_ble_eq_true rfl) (by first | exact k1 | exact k2 | exact k3) (ok_Tr_fits hG hS hT hF (d + 1)) ?_
        refine tb_if_eq 44 d_St_fitting_34 (by decide) rfl (fun h34 => ?_) (fun h34 => ?_)
        · have hno : ¬ (fun k => isOfK M o k ∧ fitsP M (tb_R M 33 k) s) j := fun z => bI_0.mp h34 z.2
          refine tb_iinc_3 (-1) d_St_fitting_44 rfl (by decide) (by decide) ?_
          refine tb_goto 7 d_St_fitting_47 (by decide) ?_
          rw [show nI j + (-1) = nI j - 1 from (Int32.sub_eq_add_neg _ _).symm]
          refine ih (by omega) (fun k hk hkc => ?_)
          by_cases e : k = j
          · subst e; exact hno
          · exact hall k (by omega) hkc
        · have hfit := Classical.not_not.mp (fun z => h34 (bI_f z))
          refine tb_aload_0 d_St_fitting_37 rfl ?_
          refine g_St_11 d_St_fitting_38 rfl rfl (by first | exact k1 | exact k2 | exact k3) ?_
          refine tb_topR r0 ?_
          refine tb_iload_3 d_St_fitting_41 rfl ?_
          refine tb_aaload (t := 6) d_St_fitting_42 rfl (by decide) rfl (by first | exact k1 | exact k2 | exact k3) (by first | (rw [l2]; exact vp_in_nI (by omega) (by omega)) | (show vp_in _ (tb_Ln M 33); rw [l2]; exact vp_in_nI (by omega) (by omega))) ?_
          refine tb_topR (y := tb_R M 33 j) (by rw [nI_clamp (show j < 2 ^ 31 by omega)]) ?_
          refine tb_areturn d_St_fitting_43 rfl ?_
          exact hQ _ (Or.inr ⟨j, rfl, by omega, ⟨(sameT_txt hT.2.1 hO).mp hyes, hfit⟩, fun k h1 h2 => hall k (by omega) h2⟩)
theorem ok_St_fitting (hG : tb_G E) (hS : Sh M) (hC : StOk M c) {o n s : Nat} (hO : TxOk M o n) (hF : ShOk M s) (d : Nat) : tb_Rel E m_St_fitting (d + 4) [.inr (.inl 32), .inr (.inl o), .inr (.inl s)] M (fun v M1 => M1 = M ∧ ∃ r, v = some (.inr (.inl r)) ∧ LastP M (fun k => isOfK M o k ∧ fitsP M (tb_R M 33 k) s) c r) := by
  have k1 := hS.k (o := 32) (c := 5) rfl
  have k2 := hS.k (o := 33) (c := 106) rfl
  have l2 := hS.l (o := 33) (c := 24) rfl
  have r0 := hS.2.2.1.2.2.2.2.2.2.2.1
  have hI := hC.1
  have hc := hC.2.1
  refine tb_okOf hG (by decide) rfl (Nat.le_of_ble_eq_true rfl) rfl ?_
  refine tb_aload_0 d_St_fitting_0 rfl ?_
  refine g_St_18 d_St_fitting_1 rfl rfl (by first | exact k1 | exact k2) ?_
  refine tb_topI hI ?_
  refine tb_iconst (1) (by decide) d_St_fitting_4 rfl ?_
  refine tb_isub d_St_fitting_5 rfl ?_
  refine tb_istore_3 d_St_fitting_6 rfl (by decide) ?_
  exact lp_St_fitting hG hS hC hO hF (fun r hr => ⟨_, rfl, rfl, r, rfl, hr⟩) c (Nat.le_refl _) (fun k h1 h2 => absurd h2 (by omega))
/-- why a command runs: 12 without a trace; else the first file that the latest trace read and that changed, or else that it asked for and that came or went -/
def WhyP (M : tb_M) (o s c : Nat) (r : Int32) : Prop := (r = 12 ∧ ∀ k, k < c → ¬ isOfK M o k) ∨ ∃ k, LastIx (isOfK M o) c k ∧ ((¬ msk (chg M (tb_R M 33 k) s) 12 = 0 ∧ fst12 (msk (chg M (tb_R M 33 k) s) 12) r) ∨ (msk (chg M (tb_R M 33 k) s) 12 = 0 ∧ fst12 (askCh M (tb_R M 33 k) s) r))
theorem ok_St_reason (hG : tb_G E) (hS : Sh M) (hC : StOk M c) {o n s : Nat} (hO : TxOk M o n) (hF : ShOk M s) (d : Nat) : tb_Rel E m_St_reasonToRun (d + 3) [.inr (.inl 32), .inr (.inl o), .inr (.inl s)] M (fun v M1 => M1 = M ∧ ∃ r, v = some (.inl r) ∧ WhyP M o s c r) := by
  have k1 := hS.k (o := 32) (c := 5) rfl
  have k2 := hS.k (o := 33) (c := 106) rfl
  have l2 := hS.l (o := 33) (c := 24) rfl
  have r0 := hS.2.2.1.2.2.2.2.2.2.2.1
  have hI := hC.1
  have hc := hC.2.1
  refine tb_okOf hG (by decide) rfl (Nat.le_of_ble_eq_true rfl) rfl ?_
  refine tb_aload_0 d_St_reasonToRun_0 rfl ?_
  refine tb_aload_1 d_St_reasonToRun_1 rfl ?_
  refine tb_callVq c_St_30 d_St_reasonToRun_2 rfl rfl rfl (Nat.le_of_ble_eq_true rfl) (by first | exact k1 | exact k2 | exact k3) (ok_St_latest hG hS hC hO d) (fun v M1 hP => ?_)
  obtain ⟨rfl, r, rfl, hr⟩ := hP
  refine tb_astore_3 d_St_reasonToRun_5 rfl (by decide) ?_
  refine tb_aload_3 d_St_reasonToRun_6 rfl ?_
  refine tb_ifnonnull 13 d_St_reasonToRun_7 (by decide) rfl (fun h7 => ?_) (fun h7 => ?_)
  · obtain ⟨kk, rfl, hix⟩ : ∃ k, r = tb_R M1 33 k ∧ LastIx (isOfK M1 o) c k := by
      rcases hr with hr | hr
      · exact absurd hr.1 h7
      · exact hr
    obtain ⟨n1, hT⟩ := hC.2.2.1 kk (by have := hix.1; omega)
    have k3 := hS.k hT.1
    refine tb_aload_3 d_St_reasonToRun_13 rfl ?_
    refine tb_aload_2 d_St_reasonToRun_14 rfl ?_
    refine tb_callVr c_St_34 d_St_reasonToRun_15 rfl rfl rfl (Nat.le_of_ble_eq_true rfl) (by first | exact k1 | exact k2 | exact k3) (ok_Tr_read hG hS hT hF (d + 1)) ?_
    refine tb_istore_4 d_St_reasonToRun_18 rfl (by decide) ?_
    refine tb_iload_4 d_St_reasonToRun_20 rfl ?_
    refine tb_if_eq 30 d_St_reasonToRun_22 (by decide) rfl (fun h22 => ?_) (fun h22 => ?_)
    · refine tb_aload_3 d_St_reasonToRun_30 rfl ?_
      refine tb_aload_2 d_St_reasonToRun_31 rfl ?_
      refine tb_callVr c_St_38 d_St_reasonToRun_32 rfl rfl rfl (Nat.le_of_ble_eq_true rfl) (by first | exact k1 | exact k2 | exact k3) (ok_Tr_asked hG hS hT hF (d + 1)) ?_
      refine tb_callSNq c_St_41 d_St_reasonToRun_35 rfl rfl rfl (Nat.le_of_ble_eq_true rfl) (ok_firstOf hG _ (d + 2)) (fun v M2 hP => ?_)
      obtain ⟨rfl, r2, rfl, hr2⟩ := hP
      refine tb_ireturn d_St_reasonToRun_38 rfl (by first | rfl | assumption) ?_
      first | exact ⟨_, rfl, rfl, _, rfl, Or.inr ⟨kk, hix, Or.inl ⟨h22, hr2⟩⟩⟩ | exact ⟨_, rfl, rfl, _, rfl, Or.inr ⟨kk, hix, Or.inr ⟨h22, hr2⟩⟩⟩
    · refine tb_iload_4 d_St_reasonToRun_25 rfl ?_
      refine tb_goto 35 d_St_reasonToRun_27 (by decide) ?_
      refine tb_callSNq c_St_41 d_St_reasonToRun_35 rfl rfl rfl (Nat.le_of_ble_eq_true rfl) (ok_firstOf hG _ (d + 2)) (fun v M2 hP => ?_)
      obtain ⟨rfl, r2, rfl, hr2⟩ := hP
      refine tb_ireturn d_St_reasonToRun_38 rfl (by first | rfl | assumption) ?_
      first | exact ⟨_, rfl, rfl, _, rfl, Or.inr ⟨kk, hix, Or.inl ⟨h22, hr2⟩⟩⟩ | exact ⟨_, rfl, rfl, _, rfl, Or.inr ⟨kk, hix, Or.inr ⟨h22, hr2⟩⟩⟩
  · have hno : ∀ k, k < c → ¬ isOfK M1 o k := by
      rcases hr with hr | ⟨k, hr, hix⟩
      · exact hr.2
      · obtain ⟨n1, hT⟩ := hC.2.2.1 k (by have := hix.1; omega)
        have := hT.1
        rw [← hr, h7] at this
        exact absurd this (by decide)
    refine tb_bipush (12) (by decide) d_St_reasonToRun_10 rfl ?_
    refine tb_ireturn d_St_reasonToRun_12 rfl (by first | rfl | assumption) ?_
    exact ⟨_, rfl, rfl, _, rfl, Or.inl ⟨rfl, hno⟩⟩
end Store
