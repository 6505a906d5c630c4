/-! The reference: safe ahead; what a trace wrote. -/
def RM (M : tb_M) (n : Nat) (sc : Nat → List Int32) (R : RS) : Prop := MSc M n sc ∧ MFs M R.1 ∧ MSt M R.2.1 ∧ (∀ k, k < n → MDe M k (R.2.2.1 k)) ∧ MHz M n R.2.2.2
section Mo11
variable {E : tb_E} {M M1 : tb_M} {fs : Fs} {n i j t : Nat} {x : TrV} {sc : Nat → List Int32} {R : RS}
theorem MSc.tx (h : MSc M n sc) {k : Nat} (hk : k < n) : TxM M k (sc k) := ⟨by have := h.2.1; omega, (h.2.2 k hk).1, (h.2.2 k hk).2.1, (h.2.2 k hk).2.2.1⟩
theorem oI_neg {o : Option Nat} (h : ∀ k, o = some k → k < 2 ^ 31) : oI o < 0 ↔ o = none := by
  cases o with
  | none => exact ⟨fun _ => rfl, fun _ => by show (-1 : Int32) < 0; decide⟩
  | some k => exact ⟨fun z => absurd z (nI_pos (h k rfl)), fun z => by cases z⟩
theorem latA_lt {S : StV} {tx : List Int32} {k : Nat} (h : latA S tx = some k) : k < S.1 := (lastI_some _ h).1
theorem fitIx_lt {S : StV} {tx : List Int32} {fs : Fs} {k : Nat} (h : fitIx S tx fs = some k) : k < S.1 := (lastI_some _ h).1
theorem lp_Mo_safe (hG : tb_G E) (hS : Sh M) (hR : RM M n sc R) (hj : j < n) {u : Nat} (hl : latA R.2.1 (sc j) = some u) (hdj : dO (R.2.2.1 j) = 0) {d rc rs : Nat} {Q : tb_O → tb_M → Prop} (hQ : Q (.inl (some (.inl (bI (dO (R.2.2.1 j) = 0 ∧ safA sc R i j))))) M) : ∀ (w m : Nat) (l5 : tb_L), j - m = w → i < m → m < 2 ^ 30 → (∀ g, i < g → g < m → g < j → dO (R.2.2.1 g) = 0 → ∃ t, latA R.2.1 (sc g) = some t ∧ ¬ wayA (R.2.1.2 t) (R.2.1.2 u)) → tb_Wp E m_Mo_isSafe (d + 2) rc rs 26 [some (.inr 190), some (.inl (nI i)), some (.inl (nI j)), some (.inl (nI u)), some (.inl (nI m)), l5] [] M Q := by
  obtain ⟨hC, hF, hSt, hD, hH⟩ := hR
  have hn := hC.2.1
  have hu := latA_lt hl
  have hc := hSt.2.1
  intro w
  induction w using Nat.strongRecOn with
  | ind w ih =>
    intro m l5 hw hm hm30 hall
    have hnext : ∀ l5, m < j → (dO (R.2.2.1 m) = 0 → ∃ t, latA R.2.1 (sc m) = some t ∧ ¬ wayA (R.2.1.2 t) (R.2.1.2 u)) → tb_Wp E m_Mo_isSafe (d + 2) rc rs 70 [some (.inr 190), some (.inl (nI i)), some (.inl (nI j)), some (.inl (nI u)), some (.inl (nI m)), l5] [] M Q := by
      intro l5 hlt hm'
      refine tb_iinc_4 (1) d_Mo_isSafe_70 rfl (by decide) (by decide) ?_
      refine tb_goto 26 d_Mo_isSafe_73 (by decide) ?_
      rw [nI_1]
      refine ih (j - (m + 1)) (by omega) (m + 1) _ rfl (by omega) (by omega) (fun g h1 h2 h3 h4 => ?_)
      by_cases c : g = m
      · subst c; exact hm' h4
      · exact hall g h1 (by omega) h3 h4
    refine tb_iload_4 d_Mo_isSafe_26 rfl ?_
    refine tb_iload_2 d_Mo_isSafe_28 rfl ?_
    refine tb_icmp_ge 76 d_Mo_isSafe_29 (by decide) rfl (fun h29 => ?_) (fun h29 => ?_)
    · have hje : j ≤ m := (nI_leI (a := j) (b := m) (by omega) (by omega)).mp h29
      refine tb_iconst (1) (by decide) d_Mo_isSafe_76 rfl ?_
      refine tb_ireturn d_Mo_isSafe_77 rfl (by first | rfl | assumption) ?_
      rw [bI_t ⟨hdj, u, hl, fun g h1 h2 h3 => hall g h1 (by omega) h2 h3⟩] at hQ
      exact hQ
    · have hlt : m < j := Nat.lt_of_not_le (fun q => h29 ((nI_leI (a := j) (b := m) (by omega) (by omega)).mpr q))
      refine tb_aload_0 d_Mo_isSafe_32 rfl ?_
      refine g_Mo_64 d_Mo_isSafe_33 rfl rfl (by first | exact hS.k rfl) ?_
      refine tb_topR (y := 209) (hS.mr 27 (by decide)) ?_
      refine tb_iload_4 d_Mo_isSafe_36 rfl ?_
      refine tb_zaload d_Mo_isSafe_38 rfl (by first | exact hS.k rfl) (by first | exact mo_in hS (c := 12) rfl (by omega) (by decide) | exact mo_in hS (c := 10) rfl (by omega) (by decide) | exact mo_in hS (c := 25) rfl (by omega) (by decide) | exact mo_in hS (c := 6) rfl (by omega) (by decide) | exact mo_in hS (c := 72) rfl (by omega) (by decide) | exact mo_in hS (c := 120) rfl (by omega) (by decide) | exact mo_in hS (c := 300) rfl (by omega) (by decide) | exact mo_in hS (c := 150) rfl (by omega) (by decide) | exact mo_in hS (c := 1800) rfl (by omega) (by decide)) ?_
      refine tb_topI (y := tb_I M 209 m) (by rw [nI_clamp (show m < 2 ^ 31 by omega)]) ?_
      refine tb_if_eq 45 d_Mo_isSafe_39 (by decide) rfl (fun h39 => ?_) (fun h39 => ?_)
      · have hnd : dO (R.2.2.1 m) = 0 := (hD m (by omega)).dn.mp h39
        refine tb_aload_0 d_Mo_isSafe_45 rfl ?_
        refine tb_iload_4 d_Mo_isSafe_46 rfl ?_
        refine tb_callVr c_Mo_197 d_Mo_isSafe_48 rfl rfl rfl (Nat.le_of_ble_eq_true rfl) (by first | exact hS.k rfl) (ok_Mo_latest hG hS hSt (hC.tx (show m < n by omega)) d) ?_
        refine tb_istore_5 d_Mo_isSafe_51 rfl (by decide) ?_
        refine tb_iload_5 d_Mo_isSafe_53 rfl ?_
        refine tb_if_lt 68 d_Mo_isSafe_55 (by decide) rfl (fun h55 => ?_) (fun h55 => ?_)
        · have hno : latA R.2.1 (sc m) = none := (oI_neg (fun q hq => by have := latA_lt hq; omega)).mp h55
          have hbad : ¬ (dO (R.2.2.1 j) = 0 ∧ safA sc R i j) := by
            rintro ⟨-, u', h1, h2⟩
            rw [hl] at h1
            cases h1
            obtain ⟨t, h3, h4⟩ := h2 m hm hlt hnd
            rw [hno] at h3
            cases h3
          rw [bI_f hbad] at hQ
          refine tb_iconst (0) (by decide) d_Mo_isSafe_68 rfl ?_
          refine tb_ireturn d_Mo_isSafe_69 rfl (by first | rfl | assumption) ?_
          exact hQ
        · obtain ⟨t, hPt⟩ : ∃ t, latA R.2.1 (sc m) = some t := by
            cases hv : latA R.2.1 (sc m) with
            | none => exact absurd ((oI_neg (fun q hq => by have := latA_lt hq; omega)).mpr hv) h55
            | some t => exact ⟨t, rfl⟩
          rw [hPt]
          have htl := latA_lt hPt
          refine tb_aload_0 d_Mo_isSafe_58 rfl ?_
          refine tb_iload_5 d_Mo_isSafe_59 rfl ?_
          refine tb_topI (y := nI t) rfl ?_
          refine tb_iload_3 d_Mo_isSafe_61 rfl ?_
          refine tb_callVr c_Mo_231 d_Mo_isSafe_62 rfl rfl rfl (Nat.le_of_ble_eq_true rfl) (by first | exact hS.k rfl) (ok_Mo_apart hG hS (hSt.2.2 t htl) (hSt.2.2 u hu) (by omega) (by omega) d) ?_
          refine tb_if_ne 70 d_Mo_isSafe_65 (by decide) rfl (fun h65 => ?_) (fun h65 => ?_)
          · exact hnext _ hlt (fun _ => ⟨t, hPt, Classical.not_not.mp (fun z => h65 (bI_f z))⟩)
          · have hin := Classical.not_not.mp (bI_0.mp h65)
            have hbad : ¬ (dO (R.2.2.1 j) = 0 ∧ safA sc R i j) := by
              rintro ⟨-, u', h1, h2⟩
              rw [hl] at h1
              cases h1
              obtain ⟨t, h3, h4⟩ := h2 m hm hlt hnd
              rw [hPt] at h3
              cases h3
              exact h4 hin
            rw [bI_f hbad] at hQ
            refine tb_iconst (0) (by decide) d_Mo_isSafe_68 rfl ?_
            refine tb_ireturn d_Mo_isSafe_69 rfl (by first | rfl | assumption) ?_
            exact hQ
      · refine tb_goto 70 d_Mo_isSafe_42 (by decide) ?_
        exact hnext _ hlt (fun z => absurd ((hD m (by omega)).dn.mpr z) h39)
theorem ok_Mo_safe (hG : tb_G E) (hS : Sh M) (hR : RM M n sc R) (hi : i < n) (hj : j < n) (d : Nat) : tb_Ret E m_Mo_isSafe (d + 2) [.inr (.inl 190), .inl (nI i), .inl (nI j)] M (some (.inl (bI (dO (R.2.2.1 j) = 0 ∧ safA sc R i j)))) M := by
  have hR0 := hR
  obtain ⟨hC, hF, hSt, hD, hH⟩ := hR
  have hn := hC.2.1
  have hc := hSt.2.1
  refine tb_okOf hG (by decide) rfl (Nat.le_of_ble_eq_true rfl) rfl ?_
  refine tb_aload_0 d_Mo_isSafe_0 rfl ?_
  refine tb_iload_2 d_Mo_isSafe_1 rfl ?_
  refine tb_callVr c_Mo_197 d_Mo_isSafe_2 rfl rfl rfl (Nat.le_of_ble_eq_true rfl) (by first | exact hS.k rfl) (ok_Mo_latest hG hS hSt (hC.tx hj) d) ?_
  refine tb_istore_3 d_Mo_isSafe_5 rfl (by decide) ?_
  refine tb_aload_0 d_Mo_isSafe_6 rfl ?_
  refine g_Mo_64 d_Mo_isSafe_7 rfl rfl (by first | exact hS.k rfl) ?_
  refine tb_topR (y := 209) (hS.mr 27 (by decide)) ?_
  refine tb_iload_2 d_Mo_isSafe_10 rfl ?_
  refine tb_zaload d_Mo_isSafe_11 rfl (by first | exact hS.k rfl) (by first | exact mo_in hS (c := 12) rfl (by omega) (by decide) | exact mo_in hS (c := 10) rfl (by omega) (by decide) | exact mo_in hS (c := 25) rfl (by omega) (by decide) | exact mo_in hS (c := 6) rfl (by omega) (by decide) | exact mo_in hS (c := 72) rfl (by omega) (by decide) | exact mo_in hS (c := 120) rfl (by omega) (by decide) | exact mo_in hS (c := 300) rfl (by omega) (by decide) | exact mo_in hS (c := 150) rfl (by omega) (by decide) | exact mo_in hS (c := 1800) rfl (by omega) (by decide)) ?_
  refine tb_topI (y := tb_I M 209 j) (by rw [nI_clamp (show j < 2 ^ 31 by omega)]) ?_
  refine tb_if_ne 19 d_Mo_isSafe_12 (by decide) rfl (fun h12 => ?_) (fun h12 => ?_)
  · rw [bI_f (fun z => h12 ((hD j hj).dn.mpr z.1))]
    refine tb_iconst (0) (by decide) d_Mo_isSafe_19 rfl ?_
    refine tb_ireturn d_Mo_isSafe_20 rfl (by first | rfl | assumption) ?_
    exact ⟨rfl, rfl⟩
  · have hdj : dO (R.2.2.1 j) = 0 := (hD j hj).dn.mp h12
    refine tb_iload_3 d_Mo_isSafe_15 rfl ?_
    refine tb_if_ge 21 d_Mo_isSafe_16 (by decide) rfl (fun h16 => ?_) (fun h16 => ?_)
    · obtain ⟨u, hPu⟩ : ∃ t, latA R.2.1 (sc j) = some t := by
        cases hv : latA R.2.1 (sc j) with
        | none => exact absurd ((oI_neg (fun q hq => by have := latA_lt hq; omega)).mpr hv) (Int32.not_lt.mpr h16)
        | some t => exact ⟨t, rfl⟩
      rw [hPu]
      refine tb_iload_1 d_Mo_isSafe_21 rfl ?_
      refine tb_iconst (1) (by decide) d_Mo_isSafe_22 rfl ?_
      refine tb_iadd d_Mo_isSafe_23 rfl ?_
      rw [nI_1]
      refine tb_istore_4 d_Mo_isSafe_24 rfl (by decide) ?_
      exact lp_Mo_safe hG hS hR0 hj hPu hdj ⟨rfl, rfl⟩ _ (i + 1) _ rfl (by omega) (by omega) (fun g h1 h2 => absurd h2 (by omega))
    · have hno : latA R.2.1 (sc j) = none := (oI_neg (fun q hq => by have := latA_lt hq; omega)).mp (Int32.not_le.mp h16)
      rw [bI_f (show ¬ (dO (R.2.2.1 j) = 0 ∧ safA sc R i j) from fun z => by obtain ⟨-, u, h1, -⟩ := z; rw [hno] at h1; cases h1)]
      refine tb_iconst (0) (by decide) d_Mo_isSafe_19 rfl ?_
      refine tb_ireturn d_Mo_isSafe_20 rfl (by first | rfl | assumption) ?_
      exact ⟨rfl, rfl⟩
theorem lp_Mo_isWritten (hS : Sh M) (hT : MTr M t x) (ht : t < 25) (hF : MFs M fs) {f : Nat} (hf : f < 12) (hw : tWr x = nI f) {d rc rs : Nat} {Q : tb_O → tb_M → Prop} (hQ : Q (.inl (some (.inl (bI (fs f = tRs x))))) M) : ∀ (m j : Nat), (cl (tRs x)).length - j = m → j ≤ (cl (tRs x)).length → tb_Wp E m_Mo_isWritten d rc rs 37 [some (.inr 190), some (.inl (nI t)), some (.inl (nI f)), some (.inl (bI (tb_I M 191 f = tb_I M 206 t ∧ ∀ i, i < j → tb_I M 192 (6 * f + i) = tb_I M 207 (6 * t + i)))), some (.inl (nI j))] [] M Q := by
  have h8 := hT.2.2.2.2.2.2.2 (by rw [hw]; exact nI_nm1 (by omega))
  have hsn : tb_I M 206 t = szV (tRs x) := by
    have := (pl_len (M := M) (s := 205) h8.1).1
    rw [h8.2] at this
    exact this
  have hle : (cl (tRs x)).length ≤ 6 := by
    have := (pl_len (M := M) (s := 205) h8.1).2
    rw [h8.2] at this
    exact this
  have hiff : fs f = tRs x ↔ tb_I M 191 f = tb_I M 206 t ∧ ∀ i, i < (cl (tRs x)).length → tb_I M 192 (6 * f + i) = tb_I M 207 (6 * t + i) := by
    have h2 := hF.2 f hf
    have := pl_ext (M := M) (s := 190) (s' := 205) (p := f) (p' := t) (hF.1 f hf) h8.1
    rw [h8.2, h2] at this
    exact this
  intro m
  induction m using Nat.strongRecOn with
  | ind m ih =>
    intro j hm hj
    have hend : bI (tb_I M 191 f = tb_I M 206 t ∧ ∀ i, i < j → tb_I M 192 (6 * f + i) = tb_I M 207 (6 * t + i)) = 0 ∨ j = (cl (tRs x)).length → bI (tb_I M 191 f = tb_I M 206 t ∧ ∀ i, i < j → tb_I M 192 (6 * f + i) = tb_I M 207 (6 * t + i)) = bI (fs f = tRs x) := by
      intro hh
      rcases hh with z | z
      · rw [z, bI_f (fun q => bI_0.mp z ⟨(hiff.mp q).1, fun i hi => (hiff.mp q).2 i (by omega)⟩)]
      · subst z; exact (bI_iff hiff).symm
    refine tb_iload_4 d_Mo_isWritten_37 rfl ?_
    refine tb_aload_0 d_Mo_isWritten_39 rfl ?_
    refine g_Mo_55 d_Mo_isWritten_40 rfl rfl (by first | exact hS.k rfl) ?_
    refine tb_topR (y := 206) (hS.mr 19 (by decide)) ?_
    refine tb_iload_1 d_Mo_isWritten_43 rfl ?_
    refine tb_iaload d_Mo_isWritten_44 rfl (by first | exact hS.k rfl) (by first | exact mo_in hS (c := 12) rfl (by omega) (by decide) | exact mo_in hS (c := 10) rfl (by omega) (by decide) | exact mo_in hS (c := 25) rfl (by omega) (by decide) | exact mo_in hS (c := 6) rfl (by omega) (by decide) | exact mo_in hS (c := 72) rfl (by omega) (by decide) | exact mo_in hS (c := 120) rfl (by omega) (by decide) | exact mo_in hS (c := 300) rfl (by omega) (by decide) | exact mo_in hS (c := 150) rfl (by omega) (by decide) | exact mo_in hS (c := 1800) rfl (by omega) (by decide)) ?_
    refine tb_topI (y := szV (tRs x)) (by rw [nI_clamp (show t < 2 ^ 31 by omega)]; exact hsn) ?_
    refine tb_icmp_ge 91 d_Mo_isWritten_45 (by decide) rfl (fun h45 => ?_) (fun h45 => ?_)
    · have hje := (sz_le hle (show j < 2 ^ 31 by omega)).mp h45
      have hje2 : j = (cl (tRs x)).length := by omega
      refine tb_iload_3 d_Mo_isWritten_91 rfl ?_
      refine tb_ireturn d_Mo_isWritten_92 rfl (by exact bI_nar _) ?_
      rw [hend (by first | exact Or.inl h49 | exact Or.inr hje2)]
      exact hQ
    · have hlt : j < (cl (tRs x)).length := Nat.lt_of_not_le (fun z => h45 ((sz_le hle (by omega)).mpr z))
      refine tb_iload_3 d_Mo_isWritten_48 rfl ?_
      refine tb_if_eq 91 d_Mo_isWritten_49 (by decide) rfl (fun h49 => ?_) (fun h49 => ?_)
      · refine tb_iload_3 d_Mo_isWritten_91 rfl ?_
        refine tb_ireturn d_Mo_isWritten_92 rfl (by exact bI_nar _) ?_
        rw [hend (by first | exact Or.inl h49 | exact Or.inr hje2)]
        exact hQ
      · have hs := Classical.not_not.mp (fun z => h49 (bI_f z))
        refine tb_aload_0 d_Mo_isWritten_52 rfl ?_
        refine g_Mo_13 d_Mo_isWritten_53 rfl rfl (by first | exact hS.k rfl) ?_
        refine tb_topR (y := 192) (hS.mr 2 (by decide)) ?_
        refine tb_bipush (6) (by decide) d_Mo_isWritten_56 rfl ?_
        refine tb_iload_2 d_Mo_isWritten_58 rfl ?_
        refine tb_imul d_Mo_isWritten_59 rfl ?_
        refine tb_topI (show (6 : Int32) * nI f = nI (6 * (f)) from nI_mul 6 (f)) ?_
        refine tb_iload_4 d_Mo_isWritten_60 rfl ?_
        refine tb_iadd d_Mo_isWritten_62 rfl ?_
        rw [nI_add]
        refine tb_iaload d_Mo_isWritten_63 rfl (by first | exact hS.k rfl) (by first | exact mo_in hS (c := 12) rfl (by omega) (by decide) | exact mo_in hS (c := 10) rfl (by omega) (by decide) | exact mo_in hS (c := 25) rfl (by omega) (by decide) | exact mo_in hS (c := 6) rfl (by omega) (by decide) | exact mo_in hS (c := 72) rfl (by omega) (by decide) | exact mo_in hS (c := 120) rfl (by omega) (by decide) | exact mo_in hS (c := 300) rfl (by omega) (by decide) | exact mo_in hS (c := 150) rfl (by omega) (by decide) | exact mo_in hS (c := 1800) rfl (by omega) (by decide)) ?_
        refine tb_topI (y := tb_I M 192 (6 * f + j)) (by rw [nI_clamp (show 6 * f + j < 2 ^ 31 by omega)]) ?_
        refine tb_aload_0 d_Mo_isWritten_64 rfl ?_
        refine g_Mo_58 d_Mo_isWritten_65 rfl rfl (by first | exact hS.k rfl) ?_
        refine tb_topR (y := 207) (hS.mr 20 (by decide)) ?_
        refine tb_bipush (6) (by decide) d_Mo_isWritten_68 rfl ?_
        refine tb_iload_1 d_Mo_isWritten_70 rfl ?_
        refine tb_imul d_Mo_isWritten_71 rfl ?_
        refine tb_topI (show (6 : Int32) * nI t = nI (6 * (t)) from nI_mul 6 (t)) ?_
        refine tb_iload_4 d_Mo_isWritten_72 rfl ?_
        refine tb_iadd d_Mo_isWritten_74 rfl ?_
        rw [nI_add]
        refine tb_iaload d_Mo_isWritten_75 rfl (by first | exact hS.k rfl) (by first | exact mo_in hS (c := 12) rfl (by omega) (by decide) | exact mo_in hS (c := 10) rfl (by omega) (by decide) | exact mo_in hS (c := 25) rfl (by omega) (by decide) | exact mo_in hS (c := 6) rfl (by omega) (by decide) | exact mo_in hS (c := 72) rfl (by omega) (by decide) | exact mo_in hS (c := 120) rfl (by omega) (by decide) | exact mo_in hS (c := 300) rfl (by omega) (by decide) | exact mo_in hS (c := 150) rfl (by omega) (by decide) | exact mo_in hS (c := 1800) rfl (by omega) (by decide)) ?_
        refine tb_topI (y := tb_I M 207 (6 * t + j)) (by rw [nI_clamp (show 6 * t + j < 2 ^ 31 by omega)]) ?_
        refine tb_icmp_ne 83 d_Mo_isWritten_76 (by decide) rfl (fun h76 => ?_) (fun h76 => ?_)
        · have e : bI (tb_I M 191 f = tb_I M 206 t ∧ ∀ i, i < j + 1 → tb_I M 192 (6 * f + i) = tb_I M 207 (6 * t + i)) = 0 := bI_f (fun z => h76 (z.2 j (by omega)))
          refine tb_iconst (0) (by decide) d_Mo_isWritten_83 rfl ?_
          refine tb_topI (y := bI (tb_I M 191 f = tb_I M 206 t ∧ ∀ i, i < j + 1 → tb_I M 192 (6 * f + i) = tb_I M 207 (6 * t + i))) e.symm ?_
          refine tb_istore_3 d_Mo_isWritten_84 rfl (by decide) ?_
          refine tb_iinc_4 (1) d_Mo_isWritten_85 rfl (by decide) (by decide) ?_
          refine tb_goto 37 d_Mo_isWritten_88 (by decide) ?_
          rw [nI_1]
          exact ih ((cl (tRs x)).length - (j + 1)) (by omega) (j + 1) rfl (by omega)
        · have e : bI (tb_I M 191 f = tb_I M 206 t ∧ ∀ i, i < j + 1 → tb_I M 192 (6 * f + i) = tb_I M 207 (6 * t + i)) = 1 := bI_t ⟨hs.1, fun i hi => by
            by_cases c : i = j
            · rw [c]; exact h76
            · exact hs.2 i (by omega)⟩
          refine tb_iconst (1) (by decide) d_Mo_isWritten_79 rfl ?_
          refine tb_goto 84 d_Mo_isWritten_80 (by decide) ?_
          refine tb_topI (y := bI (tb_I M 191 f = tb_I M 206 t ∧ ∀ i, i < j + 1 → tb_I M 192 (6 * f + i) = tb_I M 207 (6 * t + i))) e.symm ?_
          refine tb_istore_3 d_Mo_isWritten_84 rfl (by decide) ?_
          refine tb_iinc_4 (1) d_Mo_isWritten_85 rfl (by decide) (by decide) ?_
          refine tb_goto 37 d_Mo_isWritten_88 (by decide) ?_
          rw [nI_1]
          exact ih ((cl (tRs x)).length - (j + 1)) (by omega) (j + 1) rfl (by omega)
theorem ok_Mo_isWritten (hG : tb_G E) (hS : Sh M) (hT : MTr M t x) (ht : t < 25) (hF : MFs M fs) (d : Nat) : tb_Ret E m_Mo_isWritten d [.inr (.inl 190), .inl (nI t)] M (some (.inl (bI (¬ chgW x fs)))) M := by
  rcases hT.2.2.2.2.2.2.1 with hw | ⟨f, hf, hw⟩
  · refine tb_okOf hG (by decide) rfl (Nat.le_of_ble_eq_true rfl) rfl ?_
    refine tb_aload_0 d_Mo_isWritten_0 rfl ?_
    refine g_Mo_52 d_Mo_isWritten_1 rfl rfl (by first | exact hS.k rfl) ?_
    refine tb_topR (y := 205) (hS.mr 18 (by decide)) ?_
    refine tb_iload_1 d_Mo_isWritten_4 rfl ?_
    refine tb_iaload d_Mo_isWritten_5 rfl (by first | exact hS.k rfl) (by first | exact mo_in hS (c := 12) rfl (by omega) (by decide) | exact mo_in hS (c := 10) rfl (by omega) (by decide) | exact mo_in hS (c := 25) rfl (by omega) (by decide) | exact mo_in hS (c := 6) rfl (by omega) (by decide) | exact mo_in hS (c := 72) rfl (by omega) (by decide) | exact mo_in hS (c := 120) rfl (by omega) (by decide) | exact mo_in hS (c := 300) rfl (by omega) (by decide) | exact mo_in hS (c := 150) rfl (by omega) (by decide) | exact mo_in hS (c := 1800) rfl (by omega) (by decide)) ?_
    refine tb_topI (y := -1) (by rw [nI_clamp (show t < 2 ^ 31 by omega)]; exact hT.2.2.2.2.2.1.trans hw) ?_
    refine tb_istore_2 d_Mo_isWritten_6 rfl (by decide) ?_
    refine tb_iload_2 d_Mo_isWritten_7 rfl ?_
    refine tb_if_ge 13 d_Mo_isWritten_8 (by decide) rfl (fun h8 => ?_) (fun h8 => ?_)
    · exact absurd h8 (by decide)
    · refine tb_iconst (1) (by decide) d_Mo_isWritten_11 rfl ?_
      refine tb_ireturn d_Mo_isWritten_12 rfl (by first | rfl | assumption) ?_
      rw [bI_t (show ¬ chgW x fs from fun z => by obtain ⟨g, hg, e, -⟩ := z; rw [hw] at e; exact nI_nm1 (by omega) e.symm)]
      exact ⟨rfl, rfl⟩
  · have hq : (¬ chgW x fs) ↔ fs f = tRs x := by
      constructor
      · intro z; exact Classical.byContradiction fun q => z ⟨f, hf, hw, q⟩
      · rintro z ⟨g, hg, e, q⟩
        have := (nI_eq (by omega) (by omega)).mp (hw.symm.trans e)
        subst this
        exact q z
    rw [bI_iff hq]
    refine tb_okOf hG (by decide) rfl (Nat.le_of_ble_eq_true rfl) rfl ?_
    refine tb_aload_0 d_Mo_isWritten_0 rfl ?_
    refine g_Mo_52 d_Mo_isWritten_1 rfl rfl (by first | exact hS.k rfl) ?_
    refine tb_topR (y := 205) (hS.mr 18 (by decide)) ?_
    refine tb_iload_1 d_Mo_isWritten_4 rfl ?_
    refine tb_iaload d_Mo_isWritten_5 rfl (by first | exact hS.k rfl) (by first | exact mo_in hS (c := 12) rfl (by omega) (by decide) | exact mo_in hS (c := 10) rfl (by omega) (by decide) | exact mo_in hS (c := 25) rfl (by omega) (by decide) | exact mo_in hS (c := 6) rfl (by omega) (by decide) | exact mo_in hS (c := 72) rfl (by omega) (by decide) | exact mo_in hS (c := 120) rfl (by omega) (by decide) | exact mo_in hS (c := 300) rfl (by omega) (by decide) | exact mo_in hS (c := 150) rfl (by omega) (by decide) | exact mo_in hS (c := 1800) rfl (by omega) (by decide)) ?_
    refine tb_topI (y := nI f) (by rw [nI_clamp (show t < 2 ^ 31 by omega)]; exact hT.2.2.2.2.2.1.trans hw) ?_
    refine tb_istore_2 d_Mo_isWritten_6 rfl (by decide) ?_
    refine tb_iload_2 d_Mo_isWritten_7 rfl ?_
    refine tb_if_ge 13 d_Mo_isWritten_8 (by decide) rfl (fun h8 => ?_) (fun h8 => ?_)
    · refine tb_aload_0 d_Mo_isWritten_13 rfl ?_
      refine g_Mo_7 d_Mo_isWritten_14 rfl rfl (by first | exact hS.k rfl) ?_
      refine tb_topR (y := 191) (hS.mr 1 (by decide)) ?_
      refine tb_iload_2 d_Mo_isWritten_17 rfl ?_
      refine tb_iaload d_Mo_isWritten_18 rfl (by first | exact hS.k rfl) (by first | exact mo_in hS (c := 12) rfl (by omega) (by decide) | exact mo_in hS (c := 10) rfl (by omega) (by decide) | exact mo_in hS (c := 25) rfl (by omega) (by decide) | exact mo_in hS (c := 6) rfl (by omega) (by decide) | exact mo_in hS (c := 72) rfl (by omega) (by decide) | exact mo_in hS (c := 120) rfl (by omega) (by decide) | exact mo_in hS (c := 300) rfl (by omega) (by decide) | exact mo_in hS (c := 150) rfl (by omega) (by decide) | exact mo_in hS (c := 1800) rfl (by omega) (by decide)) ?_
      refine tb_topI (y := tb_I M 191 f) (by rw [nI_clamp (show f < 2 ^ 31 by omega)]) ?_
      refine tb_aload_0 d_Mo_isWritten_19 rfl ?_
      refine g_Mo_55 d_Mo_isWritten_20 rfl rfl (by first | exact hS.k rfl) ?_
      refine tb_topR (y := 206) (hS.mr 19 (by decide)) ?_
      refine tb_iload_1 d_Mo_isWritten_23 rfl ?_
      refine tb_iaload d_Mo_isWritten_24 rfl (by first | exact hS.k rfl) (by first | exact mo_in hS (c := 12) rfl (by omega) (by decide) | exact mo_in hS (c := 10) rfl (by omega) (by decide) | exact mo_in hS (c := 25) rfl (by omega) (by decide) | exact mo_in hS (c := 6) rfl (by omega) (by decide) | exact mo_in hS (c := 72) rfl (by omega) (by decide) | exact mo_in hS (c := 120) rfl (by omega) (by decide) | exact mo_in hS (c := 300) rfl (by omega) (by decide) | exact mo_in hS (c := 150) rfl (by omega) (by decide) | exact mo_in hS (c := 1800) rfl (by omega) (by decide)) ?_
      refine tb_topI (y := tb_I M 206 t) (by rw [nI_clamp (show t < 2 ^ 31 by omega)]) ?_
      refine tb_icmp_ne 32 d_Mo_isWritten_25 (by decide) rfl (fun h25 => ?_) (fun h25 => ?_)
      · have e : bI (tb_I M 191 f = tb_I M 206 t ∧ ∀ i, i < 0 → tb_I M 192 (6 * f + i) = tb_I M 207 (6 * t + i)) = 0 := bI_f (fun z => h25 z.1)
        refine tb_iconst (0) (by decide) d_Mo_isWritten_32 rfl ?_
        refine tb_topI (y := bI (tb_I M 191 f = tb_I M 206 t ∧ ∀ i, i < 0 → tb_I M 192 (6 * f + i) = tb_I M 207 (6 * t + i))) e.symm ?_
        refine tb_istore_3 d_Mo_isWritten_33 rfl (by decide) ?_
        refine tb_iconst (0) (by decide) d_Mo_isWritten_34 rfl ?_
        refine tb_istore_4 d_Mo_isWritten_35 rfl (by decide) ?_
        exact lp_Mo_isWritten hS hT ht hF hf hw ⟨rfl, rfl⟩ _ 0 rfl (Nat.zero_le _)
      · have e : bI (tb_I M 191 f = tb_I M 206 t ∧ ∀ i, i < 0 → tb_I M 192 (6 * f + i) = tb_I M 207 (6 * t + i)) = 1 := bI_t ⟨h25, fun i hi => absurd hi (Nat.not_lt_zero _)⟩
        refine tb_iconst (1) (by decide) d_Mo_isWritten_28 rfl ?_
        refine tb_goto 33 d_Mo_isWritten_29 (by decide) ?_
        refine tb_topI (y := bI (tb_I M 191 f = tb_I M 206 t ∧ ∀ i, i < 0 → tb_I M 192 (6 * f + i) = tb_I M 207 (6 * t + i))) e.symm ?_
        refine tb_istore_3 d_Mo_isWritten_33 rfl (by decide) ?_
        refine tb_iconst (0) (by decide) d_Mo_isWritten_34 rfl ?_
        refine tb_istore_4 d_Mo_isWritten_35 rfl (by decide) ?_
        exact lp_Mo_isWritten hS hT ht hF hf hw ⟨rfl, rfl⟩ _ 0 rfl (Nat.zero_le _)
    · exact absurd (nI_pos' (by omega)) h8
end Mo11
