/-! The reference: equal texts. -/
section Mo18
variable {E : tb_E} {M M1 : tb_M} {t u : Nat} {x y : TrV}
theorem lp_Mo_same (hS : Sh M) (hT : MTr M t x) (hU : MTr M u y) (ht : t < 25) (hu : u < 25) {d rc rs : Nat} {Q : tb_O → tb_M → Prop} (hQ : Q (.inl (some (.inl (bI (tT x = tT y))))) M) : ∀ (m j : Nat), (tT x).length - j = m → j ≤ (tT x).length → tb_Wp E m_Mo_sameText d rc rs 24 [some (.inr 190), some (.inl (nI t)), some (.inl (nI u)), some (.inl (bI ((tT x).length = (tT y).length ∧ ∀ i, i < j → la (tT x) i = la (tT y) i))), some (.inl (nI j))] [] M Q := by
  have h12 := hT.1.2.1
  have h12b := hU.1.2.1
  intro m
  induction m using Nat.strongRecOn with
  | ind m ih =>
    intro j hm hj
    have hend : bI ((tT x).length = (tT y).length ∧ ∀ i, i < j → la (tT x) i = la (tT y) i) = 0 ∨ j = (tT x).length → bI ((tT x).length = (tT y).length ∧ ∀ i, i < j → la (tT x) i = la (tT y) i) = bI (tT x = tT y) := by
      intro hh
      rcases hh with z | z
      · rw [z, bI_f (fun q => bI_0.mp z (by rw [la_ext] at q; exact ⟨q.1, fun i hi => q.2 i (by omega)⟩))]
      · subst z
        refine bI_iff ⟨fun q => la_ext.mpr ⟨q.1, fun i hi => q.2 i (by omega)⟩, fun q => ?_⟩
        rw [la_ext] at q
        exact ⟨q.1, fun i hi => q.2 i (by omega)⟩
    refine tb_iload_4 d_Mo_sameText_24 rfl ?_
    refine tb_aload_0 d_Mo_sameText_26 rfl ?_
    refine g_Mo_31 d_Mo_sameText_27 rfl rfl (by first | exact hS.k rfl) ?_
    refine tb_topR (y := 198) (hS.mr 11 (by decide)) ?_
    refine tb_iload_1 d_Mo_sameText_30 rfl ?_
    refine tb_iaload d_Mo_sameText_31 rfl (by first | exact hS.k rfl) (by first | exact mo_in hS (c := 12) rfl (by omega) (by decide) | exact mo_in hS (c := 10) rfl (by omega) (by decide) | exact mo_in hS (c := 25) rfl (by omega) (by decide) | exact mo_in hS (c := 6) rfl (by omega) (by decide) | exact mo_in hS (c := 72) rfl (by omega) (by decide) | exact mo_in hS (c := 120) rfl (by omega) (by decide) | exact mo_in hS (c := 300) rfl (by omega) (by decide) | exact mo_in hS (c := 150) rfl (by omega) (by decide) | exact mo_in hS (c := 1800) rfl (by omega) (by decide)) ?_
    refine tb_topI (y := nI (tT x).length) (by rw [nI_clamp (show t < 2 ^ 31 by omega)]; exact hT.1.1) ?_
    refine tb_icmp_ge 78 d_Mo_sameText_32 (by decide) rfl (fun h32 => ?_) (fun h32 => ?_)
    · have hje : (tT x).length ≤ j := (nI_leI (a := (tT x).length) (b := j) (by omega) (by omega)).mp h32
      have hje2 : j = (tT x).length := by omega
      refine tb_iload_3 d_Mo_sameText_78 rfl ?_
      refine tb_ireturn d_Mo_sameText_79 rfl (by exact bI_nar _) ?_
      rw [hend (by first | exact Or.inl h36 | exact Or.inr hje2)]
      exact hQ
    · have hlt : j < (tT x).length := Nat.lt_of_not_le (fun q => h32 ((nI_leI (a := (tT x).length) (b := j) (by omega) (by omega)).mpr q))
      refine tb_iload_3 d_Mo_sameText_35 rfl ?_
      refine tb_if_eq 78 d_Mo_sameText_36 (by decide) rfl (fun h36 => ?_) (fun h36 => ?_)
      · refine tb_iload_3 d_Mo_sameText_78 rfl ?_
        refine tb_ireturn d_Mo_sameText_79 rfl (by exact bI_nar _) ?_
        rw [hend (by first | exact Or.inl h36 | exact Or.inr hje2)]
        exact hQ
      · have hs := Classical.not_not.mp (fun z => h36 (bI_f z))
        refine tb_aload_0 d_Mo_sameText_39 rfl ?_
        refine g_Mo_34 d_Mo_sameText_40 rfl rfl (by first | exact hS.k rfl) ?_
        refine tb_topR (y := 199) (hS.mr 12 (by decide)) ?_
        refine tb_bipush (12) (by decide) d_Mo_sameText_43 rfl ?_
        refine tb_iload_1 d_Mo_sameText_45 rfl ?_
        refine tb_imul d_Mo_sameText_46 rfl ?_
        refine tb_topI (show (12 : Int32) * nI t = nI (12 * (t)) from nI_mul 12 (t)) ?_
        refine tb_iload_4 d_Mo_sameText_47 rfl ?_
        refine tb_iadd d_Mo_sameText_49 rfl ?_
        rw [nI_add]
        refine tb_iaload d_Mo_sameText_50 rfl (by first | exact hS.k rfl) (by first | exact mo_in hS (c := 12) rfl (by omega) (by decide) | exact mo_in hS (c := 10) rfl (by omega) (by decide) | exact mo_in hS (c := 25) rfl (by omega) (by decide) | exact mo_in hS (c := 6) rfl (by omega) (by decide) | exact mo_in hS (c := 72) rfl (by omega) (by decide) | exact mo_in hS (c := 120) rfl (by omega) (by decide) | exact mo_in hS (c := 300) rfl (by omega) (by decide) | exact mo_in hS (c := 150) rfl (by omega) (by decide) | exact mo_in hS (c := 1800) rfl (by omega) (by decide)) ?_
        refine tb_topI (y := la (tT x) j) (by rw [nI_clamp (show 12 * t + j < 2 ^ 31 by omega)]; exact hT.1.2.2 j (by omega)) ?_
        refine tb_aload_0 d_Mo_sameText_51 rfl ?_
        refine g_Mo_34 d_Mo_sameText_52 rfl rfl (by first | exact hS.k rfl) ?_
        refine tb_topR (y := 199) (hS.mr 12 (by decide)) ?_
        refine tb_bipush (12) (by decide) d_Mo_sameText_55 rfl ?_
        refine tb_iload_2 d_Mo_sameText_57 rfl ?_
        refine tb_imul d_Mo_sameText_58 rfl ?_
        refine tb_topI (show (12 : Int32) * nI u = nI (12 * (u)) from nI_mul 12 (u)) ?_
        refine tb_iload_4 d_Mo_sameText_59 rfl ?_
        refine tb_iadd d_Mo_sameText_61 rfl ?_
        rw [nI_add]
        refine tb_iaload d_Mo_sameText_62 rfl (by first | exact hS.k rfl) (by first | exact mo_in hS (c := 12) rfl (by omega) (by decide) | exact mo_in hS (c := 10) rfl (by omega) (by decide) | exact mo_in hS (c := 25) rfl (by omega) (by decide) | exact mo_in hS (c := 6) rfl (by omega) (by decide) | exact mo_in hS (c := 72) rfl (by omega) (by decide) | exact mo_in hS (c := 120) rfl (by omega) (by decide) | exact mo_in hS (c := 300) rfl (by omega) (by decide) | exact mo_in hS (c := 150) rfl (by omega) (by decide) | exact mo_in hS (c := 1800) rfl (by omega) (by decide)) ?_
        refine tb_topI (y := la (tT y) j) (by rw [nI_clamp (show 12 * u + j < 2 ^ 31 by omega)]; exact hU.1.2.2 j (by have := hs.1; omega)) ?_
        refine tb_icmp_ne 70 d_Mo_sameText_63 (by decide) rfl (fun h63 => ?_) (fun h63 => ?_)
        · have e : bI ((tT x).length = (tT y).length ∧ ∀ i, i < j + 1 → la (tT x) i = la (tT y) i) = 0 := bI_f (fun z => h63 (z.2 j (by omega)))
          refine tb_iconst (0) (by decide) d_Mo_sameText_70 rfl ?_
          refine tb_topI (y := bI ((tT x).length = (tT y).length ∧ ∀ i, i < j + 1 → la (tT x) i = la (tT y) i)) e.symm ?_
          refine tb_istore_3 d_Mo_sameText_71 rfl (by decide) ?_
          refine tb_iinc_4 (1) d_Mo_sameText_72 rfl (by decide) (by decide) ?_
          refine tb_goto 24 d_Mo_sameText_75 (by decide) ?_
          rw [nI_1]
          exact ih ((tT x).length - (j + 1)) (by omega) (j + 1) rfl (by omega)
        · have e : bI ((tT x).length = (tT y).length ∧ ∀ i, i < j + 1 → la (tT x) i = la (tT y) i) = 1 := bI_t ⟨hs.1, fun i hi => by
            by_cases c : i = j
            · rw [c]; exact h63
            · exact hs.2 i (by omega)⟩
          refine tb_iconst (1) (by decide) d_Mo_sameText_66 rfl ?_
          refine tb_goto 71 d_Mo_sameText_67 (by decide) ?_
          refine tb_topI (y := bI ((tT x).length = (tT y).length ∧ ∀ i, i < j + 1 → la (tT x) i = la (tT y) i)) e.symm ?_
          refine tb_istore_3 d_Mo_sameText_71 rfl (by decide) ?_
          refine tb_iinc_4 (1) d_Mo_sameText_72 rfl (by decide) (by decide) ?_
          refine tb_goto 24 d_Mo_sameText_75 (by decide) ?_
          rw [nI_1]
          exact ih ((tT x).length - (j + 1)) (by omega) (j + 1) rfl (by omega)
theorem ok_Mo_same (hG : tb_G E) (hS : Sh M) (hT : MTr M t x) (hU : MTr M u y) (ht : t < 25) (hu : u < 25) (d : Nat) : tb_Ret E m_Mo_sameText d [.inr (.inl 190), .inl (nI t), .inl (nI u)] M (some (.inl (bI (tT x = tT y)))) M := by
  have h12 := hT.1.2.1
  have h12b := hU.1.2.1
  refine tb_okOf hG (by decide) rfl (Nat.le_of_ble_eq_true rfl) rfl ?_
  refine tb_aload_0 d_Mo_sameText_0 rfl ?_
  refine g_Mo_31 d_Mo_sameText_1 rfl rfl (by first | exact hS.k rfl) ?_
  refine tb_topR (y := 198) (hS.mr 11 (by decide)) ?_
  refine tb_iload_1 d_Mo_sameText_4 rfl ?_
  refine tb_iaload d_Mo_sameText_5 rfl (by first | exact hS.k rfl) (by first | exact mo_in hS (c := 12) rfl (by omega) (by decide) | exact mo_in hS (c := 10) rfl (by omega) (by decide) | exact mo_in hS (c := 25) rfl (by omega) (by decide) | exact mo_in hS (c := 6) rfl (by omega) (by decide) | exact mo_in hS (c := 72) rfl (by omega) (by decide) | exact mo_in hS (c := 120) rfl (by omega) (by decide) | exact mo_in hS (c := 300) rfl (by omega) (by decide) | exact mo_in hS (c := 150) rfl (by omega) (by decide) | exact mo_in hS (c := 1800) rfl (by omega) (by decide)) ?_
  refine tb_topI (y := nI (tT x).length) (by rw [nI_clamp (show t < 2 ^ 31 by omega)]; exact hT.1.1) ?_
  refine tb_aload_0 d_Mo_sameText_6 rfl ?_
  refine g_Mo_31 d_Mo_sameText_7 rfl rfl (by first | exact hS.k rfl) ?_
  refine tb_topR (y := 198) (hS.mr 11 (by decide)) ?_
  refine tb_iload_2 d_Mo_sameText_10 rfl ?_
  refine tb_iaload d_Mo_sameText_11 rfl (by first | exact hS.k rfl) (by first | exact mo_in hS (c := 12) rfl (by omega) (by decide) | exact mo_in hS (c := 10) rfl (by omega) (by decide) | exact mo_in hS (c := 25) rfl (by omega) (by decide) | exact mo_in hS (c := 6) rfl (by omega) (by decide) | exact mo_in hS (c := 72) rfl (by omega) (by decide) | exact mo_in hS (c := 120) rfl (by omega) (by decide) | exact mo_in hS (c := 300) rfl (by omega) (by decide) | exact mo_in hS (c := 150) rfl (by omega) (by decide) | exact mo_in hS (c := 1800) rfl (by omega) (by decide)) ?_
  refine tb_topI (y := nI (tT y).length) (by rw [nI_clamp (show u < 2 ^ 31 by omega)]; exact hU.1.1) ?_
  refine tb_icmp_ne 19 d_Mo_sameText_12 (by decide) rfl (fun h12_ => ?_) (fun h12_ => ?_)
  · have e : bI ((tT x).length = (tT y).length ∧ ∀ i, i < 0 → la (tT x) i = la (tT y) i) = 0 := bI_f (fun z => h12_ (by rw [z.1]))
    refine tb_iconst (0) (by decide) d_Mo_sameText_19 rfl ?_
    refine tb_topI (y := bI ((tT x).length = (tT y).length ∧ ∀ i, i < 0 → la (tT x) i = la (tT y) i)) e.symm ?_
    refine tb_istore_3 d_Mo_sameText_20 rfl (by decide) ?_
    refine tb_iconst (0) (by decide) d_Mo_sameText_21 rfl ?_
    refine tb_istore_4 d_Mo_sameText_22 rfl (by decide) ?_
    exact lp_Mo_same hS hT hU ht hu ⟨rfl, rfl⟩ _ 0 rfl (Nat.zero_le _)
  · have e : bI ((tT x).length = (tT y).length ∧ ∀ i, i < 0 → la (tT x) i = la (tT y) i) = 1 := bI_t ⟨(nI_eq (by omega) (by omega)).mp h12_, fun i hi => absurd hi (Nat.not_lt_zero _)⟩
    refine tb_iconst (1) (by decide) d_Mo_sameText_15 rfl ?_
    refine tb_goto 20 d_Mo_sameText_16 (by decide) ?_
    refine tb_topI (y := bI ((tT x).length = (tT y).length ∧ ∀ i, i < 0 → la (tT x) i = la (tT y) i)) e.symm ?_
    refine tb_istore_3 d_Mo_sameText_20 rfl (by decide) ?_
    refine tb_iconst (0) (by decide) d_Mo_sameText_21 rfl ?_
    refine tb_istore_4 d_Mo_sameText_22 rfl (by decide) ?_
    exact lp_Mo_same hS hT hU ht hu ⟨rfl, rfl⟩ _ 0 rfl (Nat.zero_le _)
theorem lp_Mo_later (hG : tb_G E) (hS : Sh M) {S : StV} (hSt : ∀ v, t ≤ v → v < S.1 → MTr M v (S.2 v)) (hc : S.1 ≤ 24) (ht : t < S.1) {l1 : tb_L} {d rc rs : Nat} {Q : tb_O → tb_M → Prop} (hQ : ∀ l5, tb_Wp E m_Mo_compact (d + 1) rc rs 61 [some (.inr 190), l1, some (.inl (nI S.1)), some (.inl (nI t)), some (.inl (bI (∃ v, t < v ∧ v < S.1 ∧ tT (S.2 v) = tT (S.2 t)))), l5] [] M Q) : ∀ (m w : Nat), S.1 - w = m → t < w → w ≤ S.1 → tb_Wp E m_Mo_compact (d + 1) rc rs 27 [some (.inr 190), l1, some (.inl (nI S.1)), some (.inl (nI t)), some (.inl (bI (∃ v, t < v ∧ v < w ∧ tT (S.2 v) = tT (S.2 t)))), some (.inl (nI w))] [] M Q := by
  intro m
  induction m using Nat.strongRecOn with
  | ind m ih =>
    intro w hm htw hw
    refine tb_iload_5 d_Mo_compact_27 rfl ?_
    refine tb_iload_2 d_Mo_compact_29 rfl ?_
    refine tb_icmp_ge 61 d_Mo_compact_30 (by decide) rfl (fun h30 => ?_) (fun h30 => ?_)
    · have hje : S.1 ≤ w := (nI_leI (a := S.1) (b := w) (by omega) (by omega)).mp h30
      have hje2 : w = S.1 := by omega
      subst hje2
      exact hQ _
    · have hlt : w < S.1 := Nat.lt_of_not_le (fun q => h30 ((nI_leI (a := S.1) (b := w) (by omega) (by omega)).mpr q))
      refine tb_iload_4 d_Mo_compact_33 rfl ?_
      refine tb_if_ne 48 d_Mo_compact_35 (by decide) rfl (fun h35 => ?_) (fun h35 => ?_)
      · have e : bI (∃ v, t < v ∧ v < w + 1 ∧ tT (S.2 v) = tT (S.2 t)) = 1 := bI_t (by
          obtain ⟨v, a, b, c⟩ := Classical.not_not.mp (fun z => h35 (bI_f z))
          exact ⟨v, a, by omega, c⟩)
        refine tb_iconst (1) (by decide) d_Mo_compact_48 rfl ?_
        refine tb_goto 53 d_Mo_compact_49 (by decide) ?_
        refine tb_topI (y := bI (∃ v, t < v ∧ v < w + 1 ∧ tT (S.2 v) = tT (S.2 t))) e.symm ?_
        refine tb_istore_4 d_Mo_compact_53 rfl (by decide) ?_
        refine tb_iinc_5 (1) d_Mo_compact_55 rfl (by decide) (by decide) ?_
        refine tb_goto 27 d_Mo_compact_58 (by decide) ?_
        rw [nI_1]
        exact ih (S.1 - (w + 1)) (by omega) (w + 1) rfl (by omega) (by omega)
      · have hno := bI_0.mp h35
        refine tb_aload_0 d_Mo_compact_38 rfl ?_
        refine tb_iload_3 d_Mo_compact_39 rfl ?_
        refine tb_iload_5 d_Mo_compact_40 rfl ?_
        refine tb_callVr c_Mo_260 d_Mo_compact_42 rfl rfl rfl (Nat.le_of_ble_eq_true rfl) (by first | exact hS.k rfl) (ok_Mo_same hG hS (hSt t (Nat.le_refl _) ht) (hSt w (by omega) hlt) (by omega) (by omega) d) ?_
        refine tb_if_eq 52 d_Mo_compact_45 (by decide) rfl (fun h45 => ?_) (fun h45 => ?_)
        · have e : bI (∃ v, t < v ∧ v < w + 1 ∧ tT (S.2 v) = tT (S.2 t)) = 0 := bI_f (fun z => by
            obtain ⟨v, a, b, c⟩ := z
            by_cases q : v = w
            · subst q; exact bI_0.mp h45 c.symm
            · exact hno ⟨v, a, by omega, c⟩)
          refine tb_iconst (0) (by decide) d_Mo_compact_52 rfl ?_
          refine tb_topI (y := bI (∃ v, t < v ∧ v < w + 1 ∧ tT (S.2 v) = tT (S.2 t))) e.symm ?_
          refine tb_istore_4 d_Mo_compact_53 rfl (by decide) ?_
          refine tb_iinc_5 (1) d_Mo_compact_55 rfl (by decide) (by decide) ?_
          refine tb_goto 27 d_Mo_compact_58 (by decide) ?_
          rw [nI_1]
          exact ih (S.1 - (w + 1)) (by omega) (w + 1) rfl (by omega) (by omega)
        · have e : bI (∃ v, t < v ∧ v < w + 1 ∧ tT (S.2 v) = tT (S.2 t)) = 1 := bI_t ⟨w, htw, by omega, (Classical.not_not.mp (fun z => h45 (bI_f z))).symm⟩
          refine tb_iconst (1) (by decide) d_Mo_compact_48 rfl ?_
          refine tb_goto 53 d_Mo_compact_49 (by decide) ?_
          refine tb_topI (y := bI (∃ v, t < v ∧ v < w + 1 ∧ tT (S.2 v) = tT (S.2 t))) e.symm ?_
          refine tb_istore_4 d_Mo_compact_53 rfl (by decide) ?_
          refine tb_iinc_5 (1) d_Mo_compact_55 rfl (by decide) (by decide) ?_
          refine tb_goto 27 d_Mo_compact_58 (by decide) ?_
          rw [nI_1]
          exact ih (S.1 - (w + 1)) (by omega) (w + 1) rfl (by omega) (by omega)
end Mo18
