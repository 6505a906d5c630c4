/-! TracedBuild: a run. -/
noncomputable def oI (o : Option Nat) : Int32 := match o with
  | some j => nI j
  | none => -1
theorem HzIs.hd {M : tb_M} {n : Nat} {D : Nat → DeV} {h : HzV} (hH : HzIs M n D h) : hzd M ↔ ¬ h.1 = 0 := by
  unfold hzd
  constructor
  · intro z e; exact z (hH.1 e)
  · intro e; rw [(hH.2 e).2.2.2.1]; have := (hH.2 e).1; exact nI_nm1 (by omega)
section Go
variable {E : tb_E} {M : tb_M} {n i j : Nat} {sc : Nat → List Int32} {R : RS}
theorem ok_lat (hG : tb_G E) (hS : Sh M) (hC : ScIs M n sc) (hR : RIs M n R) {m : Nat} (hm : m < n) (d : Nat) : tb_Rel E m_St_latest (d + 2) [.inr (.inl 32), .inr (.inl (tb_R M 5 m))] M (fun v M1 => M1 = M ∧ ∃ r, v = some (.inr (.inl r)) ∧ ((r = 0 ∧ latA R.2.1 (sc m) = none) ∨ ∃ k, k < R.2.1.1 ∧ r = tb_R M 33 k ∧ latA R.2.1 (sc m) = some k)) := by
  obtain ⟨q, hO⟩ := hC.2.1 m (by have := hC.1.2.1; omega)
  refine tb_Ok_mono (ok_St_latest hG hS hR.2.1.1 hO d) fun o m' hm' => ?_
  obtain ⟨v, h1, h2, r, h3, h4⟩ := hm'
  exact ⟨v, h1, h2, r, h3, lat_of hR.2.1 (hC.2.2 m hm).1 h4⟩
theorem lp_TB_safe (hG : tb_G E) (hS : Sh M) (hC : ScIs M n sc) (hR : RIs M n R) (hj : j < n) {u : Nat} (hu : u < R.2.1.1) (hl : latA R.2.1 (sc j) = some u) {d rc rs : Nat} {Q : tb_O → tb_M → Prop} (hQ : Q (.inl (some (.inl (bI (safA sc R i j))))) M) : ∀ (w m : Nat) (l5 : tb_L), j - m = w → i < m → m < 2 ^ 30 → (∀ g, i < g → g < m → g < j → dO (R.2.2.1 g) = 0 → ∃ t, latA R.2.1 (sc g) = some t ∧ ¬ wayA (R.2.1.2 t) (R.2.1.2 u)) → tb_Wp E m_TB_seemsSafeAhead (d + 3) rc rs 27 [some (.inr 1), some (.inl (nI i)), some (.inl (nI j)), some (.inr (tb_R M 33 u)), some (.inl (nI m)), l5] [] M Q := by
  obtain ⟨k1, r0, r1, r2, r3, r4, r5⟩ := hS.tb
  obtain ⟨k2, k3, k4, k5, k6, k7⟩ := hS.tk
  have hn := hC.1.2.1
  obtain ⟨nu, hTu⟩ := hR.2.1.1.2.2.1 u (by have := hR.2.1.1.2.1; omega)
  intro w
  induction w using Nat.strongRecOn with
  | ind w ih =>
    intro m l5 hw hm hm30 hall
    refine tb_iload_4 d_TB_seemsSafeAhead_27 rfl ?_
    refine tb_iload_2 d_TB_seemsSafeAhead_29 rfl ?_
    refine tb_icmp_ge 88 d_TB_seemsSafeAhead_30 (by decide) rfl (fun h30 => ?_) (fun h30 => ?_)
    · have hje : j ≤ m := (nI_leI (a := j) (b := m) (by omega) (by omega)).mp h30
      refine tb_iconst (1) (by decide) d_TB_seemsSafeAhead_88 rfl ?_
      refine tb_ireturn d_TB_seemsSafeAhead_89 rfl (by first | rfl | assumption) ?_
      rw [bI_t ⟨u, hl, fun g h1 h2 h3 => hall g h1 (by omega) h2 h3⟩] at hQ
      exact hQ
    · have hlt : m < j := Nat.lt_of_not_le (fun q => h30 ((nI_leI (a := j) (b := m) (by omega) (by omega)).mpr q))
      have kE := (hS.de (show m < 10 by omega)).1
      refine tb_aload_0 d_TB_seemsSafeAhead_33 rfl ?_
      refine g_TB_45 d_TB_seemsSafeAhead_34 rfl rfl (by first | exact k1 | exact k2 | exact k3 | exact k4 | exact k5 | exact k6 | exact k7 | exact kE) ?_
      refine tb_topR r5 ?_
      refine tb_iload_4 d_TB_seemsSafeAhead_37 rfl ?_
      refine tb_callVr c_TB_133 d_TB_seemsSafeAhead_39 rfl rfl rfl (Nat.le_of_ble_eq_true rfl) (by first | exact k1 | exact k2 | exact k3 | exact k4 | exact k5 | exact k6 | exact k7 | exact kE) (ok_Lg_deed hG hS (show m < 10 by omega) (d + 2)) ?_
      refine tb_callVr c_TB_178 d_TB_seemsSafeAhead_42 rfl rfl rfl (Nat.le_of_ble_eq_true rfl) (by exact kE) (ok_De_isDone hG hS (gK_de m (by omega)) (d + 2)) ?_
      refine tb_if_ne 82 d_TB_seemsSafeAhead_45 (by decide) rfl (fun h45 => ?_) (fun h45 => ?_)
      · have hdn : ¬ dO (R.2.2.1 m) = 0 := fun z => h45 (bI_f (fun q => q ((hR.2.2.2.1 m (by omega)).done.mpr z)))
        refine tb_iinc_4 (1) d_TB_seemsSafeAhead_82 rfl (by decide) (by decide) ?_
        refine tb_goto 27 d_TB_seemsSafeAhead_85 (by decide) ?_
        rw [nI_1]
        refine ih (j - (m + 1)) (by omega) (m + 1) _ rfl (by omega) (by omega) (fun g h1 h2 h3 h4 => ?_)
        by_cases e : g = m
        · subst e
          first
            | exact absurd h4 hdn
            | exact ⟨t, hPt, hok⟩
        · exact hall g h1 (by omega) h3 h4
      · have hnd : dO (R.2.2.1 m) = 0 := (hR.2.2.2.1 m (by omega)).done.mp (Classical.not_not.mp (bI_0.mp h45))
        refine tb_aload_0 d_TB_seemsSafeAhead_48 rfl ?_
        refine g_TB_38 d_TB_seemsSafeAhead_49 rfl rfl (by first | exact k1 | exact k2 | exact k3 | exact k4 | exact k5 | exact k6 | exact k7 | exact kE) ?_
        refine tb_topR r4 ?_
        refine tb_aload_0 d_TB_seemsSafeAhead_52 rfl ?_
        refine g_TB_19 d_TB_seemsSafeAhead_53 rfl rfl (by first | exact k1 | exact k2 | exact k3 | exact k4 | exact k5 | exact k6 | exact k7 | exact kE) ?_
        refine tb_topR r1 ?_
        refine tb_iload_4 d_TB_seemsSafeAhead_56 rfl ?_
        refine tb_callVr c_TB_83 d_TB_seemsSafeAhead_58 rfl rfl rfl (Nat.le_of_ble_eq_true rfl) (by first | exact k1 | exact k2 | exact k3 | exact k4 | exact k5 | exact k6 | exact k7 | exact kE) (ok_Sc_at hG hS hC.1 (show m < 10 by omega) (d + 2)) ?_
        refine tb_callVq c_TB_192 d_TB_seemsSafeAhead_61 rfl rfl rfl (Nat.le_of_ble_eq_true rfl) (by first | exact k1 | exact k2 | exact k3 | exact k4 | exact k5 | exact k6 | exact k7 | exact kE) (ok_lat hG hS hC hR (show m < n by omega) d) (fun v1 M1 hP => ?_)
        obtain ⟨hMe, r, rfl, hP⟩ := hP
        rw [hMe]
        refine tb_astore_5 d_TB_seemsSafeAhead_64 rfl (by decide) ?_
        refine tb_aload_5 d_TB_seemsSafeAhead_66 rfl ?_
        refine tb_ifnull 80 d_TB_seemsSafeAhead_68 (by decide) rfl (fun h68 => ?_) (fun h68 => ?_)
        · have hno : latA R.2.1 (sc m) = none := by
            rcases hP with hP | ⟨t, ht, rfl, hP⟩
            · exact hP.2
            · obtain ⟨nt, hT⟩ := hR.2.1.1.2.2.1 t (by have := hR.2.1.1.2.1; omega)
              have := tr6 hT.1
              omega
          have hbad : ¬ safA sc R i j := by
            rintro ⟨u', h1, h2⟩
            rw [hl] at h1
            cases h1
            obtain ⟨t, h3, h4⟩ := h2 m hm hlt hnd
            rw [hno] at h3
            cases h3
          rw [bI_f hbad] at hQ
          refine tb_iconst (0) (by decide) d_TB_seemsSafeAhead_80 rfl ?_
          refine tb_ireturn d_TB_seemsSafeAhead_81 rfl (by first | rfl | assumption) ?_
          exact hQ
        · obtain ⟨t, ht, rfl, hPt⟩ : ∃ t, t < R.2.1.1 ∧ r = tb_R M 33 t ∧ latA R.2.1 (sc m) = some t := by
            rcases hP with hP | hP
            · exact absurd hP.1 h68
            · exact hP
          obtain ⟨nt, hT⟩ := hR.2.1.1.2.2.1 t (by have := hR.2.1.1.2.1; omega)
          have kt := hS.k hT.1
          have hway := way_iff (hR.2.1.2 t ht) (hR.2.1.2 u hu) (hR.2.1.wf ht) (hR.2.1.wf hu)
          refine tb_aload_5 d_TB_seemsSafeAhead_71 rfl ?_
          refine tb_aload_3 d_TB_seemsSafeAhead_73 rfl ?_
          refine tb_callVr c_TB_196 d_TB_seemsSafeAhead_74 rfl rfl rfl (Nat.le_of_ble_eq_true rfl) (by exact kt) (ok_Tr_inWay hG hS hT.1 hTu.1 d) ?_
          refine tb_if_eq 82 d_TB_seemsSafeAhead_77 (by decide) rfl (fun h77 => ?_) (fun h77 => ?_)
          · have hok : ¬ wayA (R.2.1.2 t) (R.2.1.2 u) := fun z => bI_0.mp h77 (hway.mpr z)
            refine tb_iinc_4 (1) d_TB_seemsSafeAhead_82 rfl (by decide) (by decide) ?_
            refine tb_goto 27 d_TB_seemsSafeAhead_85 (by decide) ?_
            rw [nI_1]
            refine ih (j - (m + 1)) (by omega) (m + 1) _ rfl (by omega) (by omega) (fun g h1 h2 h3 h4 => ?_)
            by_cases e : g = m
            · subst e
              first
                | exact absurd h4 hdn
                | exact ⟨t, hPt, hok⟩
            · exact hall g h1 (by omega) h3 h4
          · have hin : wayA (R.2.1.2 t) (R.2.1.2 u) := hway.mp (Classical.not_not.mp (fun z => h77 (bI_f z)))
            have hbad : ¬ safA sc R i j := by
              rintro ⟨u', h1, h2⟩
              rw [hl] at h1
              cases h1
              obtain ⟨t, h3, h4⟩ := h2 m hm hlt hnd
              rw [hPt] at h3
              cases h3
              exact h4 hin
            rw [bI_f hbad] at hQ
            refine tb_iconst (0) (by decide) d_TB_seemsSafeAhead_80 rfl ?_
            refine tb_ireturn d_TB_seemsSafeAhead_81 rfl (by first | rfl | assumption) ?_
            exact hQ
theorem ok_TB_safe (hG : tb_G E) (hS : Sh M) (hC : ScIs M n sc) (hR : RIs M n R) (hi : i < n) (hj : j < n) (d : Nat) : tb_Ret E m_TB_seemsSafeAhead (d + 3) [.inr (.inl 1), .inl (nI i), .inl (nI j)] M (some (.inl (bI (safA sc R i j)))) M := by
  obtain ⟨k1, r0, r1, r2, r3, r4, r5⟩ := hS.tb
  obtain ⟨k2, k3, k4, k5, k6, k7⟩ := hS.tk
  have hn := hC.1.2.1
  refine tb_okOf hG (by decide) rfl (Nat.le_of_ble_eq_true rfl) rfl ?_
  refine tb_aload_0 d_TB_seemsSafeAhead_0 rfl ?_
  refine g_TB_38 d_TB_seemsSafeAhead_1 rfl rfl (by first | exact k1 | exact k2 | exact k3 | exact k4 | exact k5 | exact k6 | exact k7 | exact kE) ?_
  refine tb_topR r4 ?_
  refine tb_aload_0 d_TB_seemsSafeAhead_4 rfl ?_
  refine g_TB_19 d_TB_seemsSafeAhead_5 rfl rfl (by first | exact k1 | exact k2 | exact k3 | exact k4 | exact k5 | exact k6 | exact k7 | exact kE) ?_
  refine tb_topR r1 ?_
  refine tb_iload_2 d_TB_seemsSafeAhead_8 rfl ?_
  refine tb_callVr c_TB_83 d_TB_seemsSafeAhead_9 rfl rfl rfl (Nat.le_of_ble_eq_true rfl) (by first | exact k1 | exact k2 | exact k3 | exact k4 | exact k5 | exact k6 | exact k7 | exact kE) (ok_Sc_at hG hS hC.1 (show j < 10 by omega) (d + 2)) ?_
  refine tb_callVq c_TB_192 d_TB_seemsSafeAhead_12 rfl rfl rfl (Nat.le_of_ble_eq_true rfl) (by first | exact k1 | exact k2 | exact k3 | exact k4 | exact k5 | exact k6 | exact k7 | exact kE) (ok_lat hG hS hC hR hj d) (fun v1 M1 hP => ?_)
  obtain ⟨hMe, r, rfl, hP⟩ := hP
  rw [hMe]
  refine tb_astore_3 d_TB_seemsSafeAhead_15 rfl (by decide) ?_
  refine tb_aload_3 d_TB_seemsSafeAhead_16 rfl ?_
  refine tb_ifnonnull 22 d_TB_seemsSafeAhead_17 (by decide) rfl (fun h17 => ?_) (fun h17 => ?_)
  · obtain ⟨u, hu, rfl, hPu⟩ : ∃ t, t < R.2.1.1 ∧ r = tb_R M 33 t ∧ latA R.2.1 (sc j) = some t := by
      rcases hP with hP | hP
      · exact absurd hP.1 h17
      · exact hP
    refine tb_iload_1 d_TB_seemsSafeAhead_22 rfl ?_
    refine tb_iconst (1) (by decide) d_TB_seemsSafeAhead_23 rfl ?_
    refine tb_iadd d_TB_seemsSafeAhead_24 rfl ?_
    rw [nI_1]
    refine tb_istore_4 d_TB_seemsSafeAhead_25 rfl (by decide) ?_
    exact lp_TB_safe hG hS hC hR hj hu hPu ⟨rfl, rfl⟩ _ (i + 1) _ rfl (by omega) (by omega) (fun g h1 h2 => absurd h2 (by omega))
  · have hno : latA R.2.1 (sc j) = none := by
      rcases hP with hP | ⟨t, ht, rfl, hP⟩
      · exact hP.2
      · obtain ⟨nt, hT⟩ := hR.2.1.1.2.2.1 t (by have := hR.2.1.1.2.1; omega)
        have := tr6 hT.1
        exact absurd h17 (by omega)
    rw [bI_f (show ¬ safA sc R i j from fun z => by obtain ⟨u, h1, -⟩ := z; rw [hno] at h1; cases h1)]
    refine tb_iconst (0) (by decide) d_TB_seemsSafeAhead_20 rfl ?_
    refine tb_ireturn d_TB_seemsSafeAhead_21 rfl (by first | rfl | assumption) ?_
    exact ⟨rfl, rfl⟩
theorem lp_TB_ahead (hG : tb_G E) (hS : Sh M) (hC : ScIs M n sc) (hR : RIs M n R) (hi : i < n) {d rc rs : Nat} {Q : tb_O → tb_M → Prop} (hQ : Q (.inl (some (.inl (oI (aheA sc n R i))))) M) : ∀ (w j : Nat), n - j = w → i + 2 ≤ j → j < 2 ^ 30 → (∀ g, i + 2 ≤ g → g < j → ¬ (dO (R.2.2.1 g) = 0 ∧ safA sc R i g)) → tb_Wp E m_TB_firstToGoAhead (d + 4) rc rs 4 [some (.inr 1), some (.inl (nI i)), some (.inl (nI j))] [] M Q := by
  obtain ⟨k1, r0, r1, r2, r3, r4, r5⟩ := hS.tb
  obtain ⟨k2, k3, k4, k5, k6, k7⟩ := hS.tk
  have hn := hC.1.2.1
  intro w
  induction w using Nat.strongRecOn with
  | ind w ih =>
    intro j hw hj hj30 hall
    refine tb_iload_2 d_TB_firstToGoAhead_4 rfl ?_
    refine tb_aload_0 d_TB_firstToGoAhead_5 rfl ?_
    refine g_TB_19 d_TB_firstToGoAhead_6 rfl rfl (by first | exact k1 | exact k2 | exact k3 | exact k4 | exact k5 | exact k6 | exact k7 | exact kE) ?_
    refine tb_topR r1 ?_
    refine tb_callVr c_TB_94 d_TB_firstToGoAhead_9 rfl rfl rfl (Nat.le_of_ble_eq_true rfl) (by first | exact k1 | exact k2 | exact k3 | exact k4 | exact k5 | exact k6 | exact k7 | exact kE) (ok_Sc_length hG hS hC.1 (d + 3)) ?_
    refine tb_icmp_ge 46 d_TB_firstToGoAhead_12 (by decide) rfl (fun h12 => ?_) (fun h12 => ?_)
    · have hje : n ≤ j := (nI_leI (a := n) (b := j) (by omega) (by omega)).mp h12
      refine tb_iconst (-1) (by decide) d_TB_firstToGoAhead_46 rfl ?_
      refine tb_ireturn d_TB_firstToGoAhead_47 rfl (by first | rfl | assumption) ?_
      have he : aheA sc n R i = none := fstN_no _ _ (fun g h1 h2 => hall g h1 (by omega))
      rw [he] at hQ
      exact hQ
    · have hlt : j < n := Nat.lt_of_not_le (fun q => h12 ((nI_leI (a := n) (b := j) (by omega) (by omega)).mpr q))
      have kE := (hS.de (show j < 10 by omega)).1
      refine tb_aload_0 d_TB_firstToGoAhead_15 rfl ?_
      refine g_TB_45 d_TB_firstToGoAhead_16 rfl rfl (by first | exact k1 | exact k2 | exact k3 | exact k4 | exact k5 | exact k6 | exact k7 | exact kE) ?_
      refine tb_topR r5 ?_
      refine tb_iload_2 d_TB_firstToGoAhead_19 rfl ?_
      refine tb_callVr c_TB_133 d_TB_firstToGoAhead_20 rfl rfl rfl (Nat.le_of_ble_eq_true rfl) (by first | exact k1 | exact k2 | exact k3 | exact k4 | exact k5 | exact k6 | exact k7 | exact kE) (ok_Lg_deed hG hS (show j < 10 by omega) (d + 3)) ?_
      refine tb_callVr c_TB_178 d_TB_firstToGoAhead_23 rfl rfl rfl (Nat.le_of_ble_eq_true rfl) (by exact kE) (ok_De_isDone hG hS (gK_de j (by omega)) (d + 3)) ?_
      refine tb_if_ne 40 d_TB_firstToGoAhead_26 (by decide) rfl (fun h26 => ?_) (fun h26 => ?_)
      · have hno : ¬ (dO (R.2.2.1 j) = 0 ∧ safA sc R i j) := fun z => h26 (bI_f (fun q => q ((hR.2.2.2.1 j (by omega)).done.mpr z.1)))
        refine tb_iinc_2 (1) d_TB_firstToGoAhead_40 rfl (by decide) (by decide) ?_
        refine tb_goto 4 d_TB_firstToGoAhead_43 (by decide) ?_
        rw [nI_1]
        refine ih (n - (j + 1)) (by omega) (j + 1) rfl (by omega) (by omega) (fun g h1 h2 => ?_)
        by_cases e : g = j
        · subst e; exact hno
        · exact hall g h1 (by omega)
      · have hnd : dO (R.2.2.1 j) = 0 := (hR.2.2.2.1 j (by omega)).done.mp (Classical.not_not.mp (bI_0.mp h26))
        refine tb_aload_0 d_TB_firstToGoAhead_29 rfl ?_
        refine tb_iload_1 d_TB_firstToGoAhead_30 rfl ?_
        refine tb_iload_2 d_TB_firstToGoAhead_31 rfl ?_
        refine tb_callVr c_TB_188 d_TB_firstToGoAhead_32 rfl rfl rfl (Nat.le_of_ble_eq_true rfl) (by first | exact k1 | exact k2 | exact k3 | exact k4 | exact k5 | exact k6 | exact k7 | exact kE) (ok_TB_safe hG hS hC hR hi hlt d) ?_
        refine tb_if_eq 40 d_TB_firstToGoAhead_35 (by decide) rfl (fun h35 => ?_) (fun h35 => ?_)
        · have hno : ¬ (dO (R.2.2.1 j) = 0 ∧ safA sc R i j) := fun z => bI_0.mp h35 z.2
          refine tb_iinc_2 (1) d_TB_firstToGoAhead_40 rfl (by decide) (by decide) ?_
          refine tb_goto 4 d_TB_firstToGoAhead_43 (by decide) ?_
          rw [nI_1]
          refine ih (n - (j + 1)) (by omega) (j + 1) rfl (by omega) (by omega) (fun g h1 h2 => ?_)
          by_cases e : g = j
          · subst e; exact hno
          · exact hall g h1 (by omega)
        · have hsa : safA sc R i j := Classical.not_not.mp (fun z => h35 (bI_f z))
          refine tb_iload_2 d_TB_firstToGoAhead_38 rfl ?_
          refine tb_ireturn d_TB_firstToGoAhead_39 rfl (by first | rfl | assumption) ?_
          have he : aheA sc n R i = some j := fstN_of _ _ hj (by omega) ⟨hnd, hsa⟩ (fun g h1 h2 => hall g h1 h2)
          rw [he] at hQ
          exact hQ
theorem ok_TB_ahead (hG : tb_G E) (hS : Sh M) (hC : ScIs M n sc) (hR : RIs M n R) (hi : i < n) (d : Nat) : tb_Ret E m_TB_firstToGoAhead (d + 4) [.inr (.inl 1), .inl (nI i)] M (some (.inl (oI (aheA sc n R i)))) M := by
  have hn := hC.1.2.1
  refine tb_okOf hG (by decide) rfl (Nat.le_of_ble_eq_true rfl) rfl ?_
  refine tb_iload_1 d_TB_firstToGoAhead_0 rfl ?_
  refine tb_iconst (2) (by decide) d_TB_firstToGoAhead_1 rfl ?_
  refine tb_iadd d_TB_firstToGoAhead_2 rfl ?_
  rw [show nI i + 2 = nI (i + 2) from nI_add i 2]
  refine tb_istore_2 d_TB_firstToGoAhead_3 rfl (by decide) ?_
  exact lp_TB_ahead hG hS hC hR hi ⟨rfl, rfl⟩ _ (i + 2) rfl (by omega) (by omega) (fun g h1 h2 => absurd h2 (by omega))
theorem lp_TB_inner (hG : tb_G E) (hS : Sh M) (hC : ScIs M n sc) (hi : i < n) {sp : Nat} (hsp : sp ≤ 4) {d rc rs : Nat} {Q : tb_O → tb_M → Prop} {RF : RS} (hQ : ∀ M2 l4 l5, RIs M2 n RF → Run M M2 → tb_Wp E m_TB_goThrough (d + 6) rc rs 101 [some (.inr 1), some (.inl (nI sp)), some (.inl (nI n)), some (.inl (nI i)), l4, l5] [] M2 Q) : ∀ (s h : Nat) (l5 : tb_L) (R : RS) (M1 : tb_M), sp - h = s → h ≤ sp → RIs M1 n R → Run M M1 → innA sc n i s R = RF → tb_Wp E m_TB_goThrough (d + 6) rc rs 56 [some (.inr 1), some (.inl (nI sp)), some (.inl (nI n)), some (.inl (nI i)), some (.inl (nI h)), l5] [] M1 Q := by
  intro s
  induction s with
  | zero =>
    intro h l5 R M1 hs hh hR hM hF
    refine tb_iload_4 d_TB_goThrough_56 rfl ?_
    refine tb_iload_1 d_TB_goThrough_58 rfl ?_
    refine tb_icmp_ge 101 d_TB_goThrough_59 (by decide) rfl (fun h59 => ?_) (fun h59 => ?_)
    · exact hQ M1 _ _ (by rw [← hF]; exact hR) hM
    · exact absurd (nI_le (show sp ≤ h by omega) (by omega)) h59
  | succ s ih =>
    intro h l5 R M1 hs hh hR hM hF
    have hS1 := hM.sh hS
    have hC1 := hM.sc hC
    obtain ⟨k1, r0, r1, r2, r3, r4, r5⟩ := hS1.tb
    obtain ⟨k2, k3, k4, k5, k6, k7⟩ := hS1.tk
    have hn := hC.1.2.1
    have hhz := hR.2.2.2.2.hd
    simp only [innA] at hF
    refine tb_iload_4 d_TB_goThrough_56 rfl ?_
    refine tb_iload_1 d_TB_goThrough_58 rfl ?_
    refine tb_icmp_ge 101 d_TB_goThrough_59 (by decide) rfl (fun h59 => ?_) (fun h59 => ?_)
    · exact absurd h59 (nI_ge (show h < sp by omega) (by omega))
    · refine tb_aload_0 d_TB_goThrough_62 rfl ?_
      refine g_TB_45 d_TB_goThrough_63 rfl rfl (by first | exact k1 | exact k2 | exact k3 | exact k4 | exact k5 | exact k6 | exact k7 | exact kE) ?_
      refine tb_topR r5 ?_
      refine tb_callVr c_TB_127 d_TB_goThrough_66 rfl rfl rfl (Nat.le_of_ble_eq_true rfl) (by first | exact k1 | exact k2 | exact k3 | exact k4 | exact k5 | exact k6 | exact k7 | exact kE) (ok_Lg_has hG hS1 (d + 5)) ?_
      refine tb_if_ne 101 d_TB_goThrough_69 (by decide) rfl (fun h69 => ?_) (fun h69 => ?_)
      · have hz : hzd M1 := Classical.not_not.mp (fun z => h69 (bI_f z))
        rw [if_pos (hhz.mp hz)] at hF
        exact hQ M1 _ _ (by rw [← hF]; exact hR) hM
      · have hz0 : R.2.2.2.1 = 0 := Classical.not_not.mp (fun z => bI_0.mp h69 (hhz.mpr z))
        rw [if_neg (fun z => z hz0)] at hF
        refine tb_aload_0 d_TB_goThrough_72 rfl ?_
        refine tb_iload_3 d_TB_goThrough_73 rfl ?_
        refine tb_callVr c_TB_185 d_TB_goThrough_74 rfl rfl rfl (Nat.le_of_ble_eq_true rfl) (by first | exact k1 | exact k2 | exact k3 | exact k4 | exact k5 | exact k6 | exact k7 | exact kE) (ok_TB_ahead hG hS1 hC1 hR hi (d + 1)) ?_
        refine tb_istore_5 d_TB_goThrough_77 rfl (by decide) ?_
        refine tb_iload_5 d_TB_goThrough_79 rfl ?_
        refine tb_iconst (-1) (by decide) d_TB_goThrough_81 rfl ?_
        rcases ho : aheA sc n R i with _ | j
        case none =>
          rw [ho] at hF
          refine tb_icmp_ne 88 d_TB_goThrough_82 (by decide) rfl (fun q => absurd rfl q) (fun q => ?_)
          refine tb_goto 101 d_TB_goThrough_85 (by decide) ?_
          exact hQ M1 _ _ (by rw [← hF]; exact hR) hM
        rw [ho] at hF
        have hjn : i + 2 ≤ j ∧ j < n := by
          obtain ⟨q1, q2, -, -⟩ := fstN_some _ _ ho
          exact ⟨q1, by omega⟩
        refine tb_icmp_ne 88 d_TB_goThrough_82 (by decide) rfl (fun q => ?_) (fun q => absurd q (nI_nm1 (by omega)))
        refine tb_aload_0 d_TB_goThrough_88 rfl ?_
        refine tb_iload_5 d_TB_goThrough_89 rfl ?_
        refine tb_topI (y := nI j) rfl ?_
        refine tb_iconst (1) (by decide) d_TB_goThrough_91 rfl ?_
        refine tb_callVq c_TB_181 d_TB_goThrough_92 rfl rfl rfl (Nat.le_of_ble_eq_true rfl) (by first | exact k1 | exact k2 | exact k3 | exact k4 | exact k5 | exact k6 | exact k7 | exact kE) (ok_TB_perform hG hS1 hC1 hR hz0 hjn.2 (Or.inr rfl) d) (fun v1 M2 hP => ?_)
        obtain ⟨rfl, hR2, hM2⟩ := hP
        refine tb_iinc_4 (1) d_TB_goThrough_95 rfl (by decide) (by decide) ?_
        refine tb_goto 56 d_TB_goThrough_98 (by decide) ?_
        rw [nI_1]
        exact ih (h + 1) _ _ M2 (by omega) (by omega) hR2 (hM.trans hM2) hF
theorem lp_TB_outer (hG : tb_G E) (hS : Sh M) (hC : ScIs M n sc) {sp : Nat} (hsp : sp ≤ 4) {d rc rs : Nat} {Q : tb_O → tb_M → Prop} {RF : RS} (hQ : ∀ M2, RIs M2 n RF → Run M M2 → Q (.inl none) M2) : ∀ (w i : Nat) (l4 l5 : tb_L) (R : RS) (M1 : tb_M), n - i = w → i ≤ n → RIs M1 n R → Run M M1 → outA sc n sp w i R = RF → tb_Wp E m_TB_goThrough (d + 6) rc rs 18 [some (.inr 1), some (.inl (nI sp)), some (.inl (nI n)), some (.inl (nI i)), l4, l5] [] M1 Q := by
  have hn := hC.1.2.1
  intro w
  induction w with
  | zero =>
    intro i l4 l5 R M1 hw hi hR hM hF
    refine tb_iload_3 d_TB_goThrough_18 rfl ?_
    refine tb_iload_2 d_TB_goThrough_19 rfl ?_
    refine tb_icmp_ge 107 d_TB_goThrough_20 (by decide) rfl (fun h20 => ?_) (fun h20 => ?_)
    · 
      refine tb_vreturn d_TB_goThrough_107 rfl ?_
      exact hQ M1 (by rw [← hF]; exact hR) hM
    · exact absurd (nI_le (show n ≤ i by omega) (by omega)) h20
  | succ w ih =>
    intro i l4 l5 R M1 hw hi hR hM hF
    have hS1 := hM.sh hS
    have hC1 := hM.sc hC
    obtain ⟨k1, r0, r1, r2, r3, r4, r5⟩ := hS1.tb
    obtain ⟨k2, k3, k4, k5, k6, k7⟩ := hS1.tk
    have hhz := hR.2.2.2.2.hd
    have kE := (hS1.de (show i < 10 by omega)).1
    simp only [outA] at hF
    refine tb_iload_3 d_TB_goThrough_18 rfl ?_
    refine tb_iload_2 d_TB_goThrough_19 rfl ?_
    refine tb_icmp_ge 107 d_TB_goThrough_20 (by decide) rfl (fun h20 => ?_) (fun h20 => ?_)
    · exact absurd h20 (nI_ge (show i < n by omega) (by omega))
    · refine tb_aload_0 d_TB_goThrough_23 rfl ?_
      refine g_TB_45 d_TB_goThrough_24 rfl rfl (by first | exact k1 | exact k2 | exact k3 | exact k4 | exact k5 | exact k6 | exact k7 | exact kE) ?_
      refine tb_topR r5 ?_
      refine tb_callVr c_TB_127 d_TB_goThrough_27 rfl rfl rfl (Nat.le_of_ble_eq_true rfl) (by first | exact k1 | exact k2 | exact k3 | exact k4 | exact k5 | exact k6 | exact k7 | exact kE) (ok_Lg_has hG hS1 (d + 5)) ?_
      refine tb_if_ne 107 d_TB_goThrough_30 (by decide) rfl (fun h30 => ?_) (fun h30 => ?_)
      · have hz : hzd M1 := Classical.not_not.mp (fun z => h30 (bI_f z))
        rw [if_pos (hhz.mp hz)] at hF
        refine tb_vreturn d_TB_goThrough_107 rfl ?_
        exact hQ M1 (by rw [← hF]; exact hR) hM
      · have hz0 : R.2.2.2.1 = 0 := Classical.not_not.mp (fun z => bI_0.mp h30 (hhz.mpr z))
        rw [if_neg (fun z => z hz0)] at hF
        refine tb_aload_0 d_TB_goThrough_33 rfl ?_
        refine g_TB_45 d_TB_goThrough_34 rfl rfl (by first | exact k1 | exact k2 | exact k3 | exact k4 | exact k5 | exact k6 | exact k7 | exact kE) ?_
        refine tb_topR r5 ?_
        refine tb_iload_3 d_TB_goThrough_37 rfl ?_
        refine tb_callVr c_TB_133 d_TB_goThrough_38 rfl rfl rfl (Nat.le_of_ble_eq_true rfl) (by first | exact k1 | exact k2 | exact k3 | exact k4 | exact k5 | exact k6 | exact k7 | exact kE) (ok_Lg_deed hG hS1 (show i < 10 by omega) (d + 5)) ?_
        refine tb_callVr c_TB_178 d_TB_goThrough_41 rfl rfl rfl (Nat.le_of_ble_eq_true rfl) (by exact kE) (ok_De_isDone hG hS1 (gK_de i (by omega)) (d + 5)) ?_
        refine tb_if_ne 53 d_TB_goThrough_44 (by decide) rfl (fun h44 => ?_) (fun h44 => ?_)
        · have hdn : ¬ dO (R.2.2.1 i) = 0 := fun z => h44 (bI_f (fun q => q ((hR.2.2.2.1 i (by omega)).done.mpr z)))
          rw [if_neg hdn] at hF
          refine tb_iconst (0) (by decide) d_TB_goThrough_53 rfl ?_
          refine tb_istore_4 d_TB_goThrough_54 rfl (by decide) ?_
          refine lp_TB_inner hG hS hC (show i < n by omega) hsp (fun M3 a4 a5 q1 q2 => ?_) sp 0 _ R M1 (by omega) (Nat.zero_le _) hR hM rfl
          refine tb_iinc_3 (1) d_TB_goThrough_101 rfl (by decide) (by decide) ?_
          refine tb_goto 18 d_TB_goThrough_104 (by decide) ?_
          rw [nI_1]
          exact ih (i + 1) _ _ _ M3 (by omega) (by omega) q1 q2 hF
        · have hnd : dO (R.2.2.1 i) = 0 := (hR.2.2.2.1 i (by omega)).done.mp (Classical.not_not.mp (bI_0.mp h44))
          rw [if_pos hnd] at hF
          refine tb_aload_0 d_TB_goThrough_47 rfl ?_
          refine tb_iload_3 d_TB_goThrough_48 rfl ?_
          refine tb_iconst (0) (by decide) d_TB_goThrough_49 rfl ?_
          refine tb_callVq c_TB_181 d_TB_goThrough_50 rfl rfl rfl (Nat.le_of_ble_eq_true rfl) (by first | exact k1 | exact k2 | exact k3 | exact k4 | exact k5 | exact k6 | exact k7 | exact kE) (ok_TB_perform hG hS1 hC1 hR hz0 (show i < n by omega) (Or.inl rfl) d) (fun v1 M2 hP => ?_)
          obtain ⟨rfl, hR2, hM2⟩ := hP
          refine tb_iconst (0) (by decide) d_TB_goThrough_53 rfl ?_
          refine tb_istore_4 d_TB_goThrough_54 rfl (by decide) ?_
          refine lp_TB_inner hG hS hC (show i < n by omega) hsp (fun M3 a4 a5 q1 q2 => ?_) sp 0 _ _ M2 (by omega) (Nat.zero_le _) hR2 (hM.trans hM2) rfl
          refine tb_iinc_3 (1) d_TB_goThrough_101 rfl (by decide) (by decide) ?_
          refine tb_goto 18 d_TB_goThrough_104 (by decide) ?_
          rw [nI_1]
          exact ih (i + 1) _ _ _ M3 (by omega) (by omega) q1 q2 hF
theorem ok_TB_go (hG : tb_G E) (hS : Sh M) (hC : ScIs M n sc) {sp : Nat} (hsp : sp ≤ 4) {fs : Fs} {S : StV} (hF : FsIs M 26 fs) (hSt : StIs M S) (d : Nat) : tb_Rel E m_TB_goThrough (d + 6) [.inr (.inl 1), .inl (nI sp)] M (fun v M1 => v = none ∧ RIs M1 n (goA sc n sp fs S) ∧ Run M M1) := by
  obtain ⟨k1, r0, r1, r2, r3, r4, r5⟩ := hS.tb
  obtain ⟨k2, k3, k4, k5, k6, k7⟩ := hS.tk
  have hn := hC.1.2.1
  refine tb_okOf hG (by decide) rfl (Nat.le_of_ble_eq_true rfl) rfl ?_
  refine tb_aload_0 d_TB_goThrough_0 rfl ?_
  refine g_TB_19 d_TB_goThrough_1 rfl rfl (by first | exact k1 | exact k2 | exact k3 | exact k4 | exact k5 | exact k6 | exact k7 | exact kE) ?_
  refine tb_topR r1 ?_
  refine tb_callVr c_TB_94 d_TB_goThrough_4 rfl rfl rfl (Nat.le_of_ble_eq_true rfl) (by first | exact k1 | exact k2 | exact k3 | exact k4 | exact k5 | exact k6 | exact k7 | exact kE) (ok_Sc_length hG hS hC.1 (d + 5)) ?_
  refine tb_istore_2 d_TB_goThrough_7 rfl (by decide) ?_
  refine tb_aload_0 d_TB_goThrough_8 rfl ?_
  refine g_TB_45 d_TB_goThrough_9 rfl rfl (by first | exact k1 | exact k2 | exact k3 | exact k4 | exact k5 | exact k6 | exact k7 | exact kE) ?_
  refine tb_topR r5 ?_
  refine tb_iload_2 d_TB_goThrough_12 rfl ?_
  refine tb_callVq c_TB_175 d_TB_goThrough_13 rfl rfl rfl (Nat.le_of_ble_eq_true rfl) (by first | exact k1 | exact k2 | exact k3 | exact k4 | exact k5 | exact k6 | exact k7 | exact kE) (ok_Lg_begin hG hS hn (d + 4)) (fun v1 M1 hP => ?_)
  obtain ⟨rfl, o1, b1, b2, b3, b4, -⟩ := hP
  have hM1 : Run M M1 := (o1.mono (fun q hq => Or.inr ⟨by have := hq.1; omega, hq.2⟩)).two
  have hR1 : RIs M1 n (fs, S, fun _ => (0, 0, -1, 0, 0, 0, 0), (0, 0, 0, 0)) := ⟨hF.of (o1.i (by decide)) (o1.i (by decide)), hSt.of (by rw [o1.i (by decide)]) (by rw [o1.r]) (fun q h1 h2 => o1.i (by intro z; have := z.1; omega)), b1, fun k hk => ⟨⟨Or.inl rfl, Or.inl rfl, fun _ => rfl⟩, (b4 k hk).1, (b4 k hk).2.1, (b4 k hk).2.2, fun z => absurd rfl z⟩, fun _ => b2, fun z => absurd rfl z⟩
  refine tb_iconst (0) (by decide) d_TB_goThrough_16 rfl ?_
  refine tb_istore_3 d_TB_goThrough_17 rfl (by decide) ?_
  exact lp_TB_outer hG hS hC hsp (fun M2 q1 q2 => ⟨none, rfl, rfl, q1, q2⟩) n 0 _ _ _ M1 rfl (Nat.zero_le _) hR1 hM1 rfl
end Go
