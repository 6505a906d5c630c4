/-! The reference: looking for a trace. -/
theorem la_ext {x y : List Int32} : x = y ↔ x.length = y.length ∧ ∀ i, i < y.length → la x i = la y i := by
  constructor
  · rintro rfl; exact ⟨rfl, fun _ _ => rfl⟩
  · rintro ⟨h1, h2⟩
    apply List.ext_getElem?
    intro i
    by_cases c : i < y.length
    · have := h2 i c
      unfold la at this
      rw [List.getD_eq_getElem?_getD, List.getD_eq_getElem?_getD, List.getElem?_eq_getElem c, List.getElem?_eq_getElem (show i < x.length by omega)] at this
      rw [List.getElem?_eq_getElem c, List.getElem?_eq_getElem (show i < x.length by omega)]
      exact congrArg some this
    · rw [List.getElem?_eq_none (by omega), List.getElem?_eq_none (by omega)]
theorem fstI_of {p : Nat → Prop} {j : Nat} (hj : j < 12) (h : p j) (hn : ∀ g, g < j → ¬ p g) : fstI p 12 0 = nI j := by
  rcases fstI_spec (p := p) 12 0 with ⟨f, -, h2, h3, h4, h5⟩ | ⟨-, h2⟩
  · have : f = j := by
      rcases Nat.lt_trichotomy f j with z | z | z
      · exact absurd h4 (hn f z)
      · exact z
      · exact absurd h (h5 j (by omega) z)
    rw [h3, this]
  · exact absurd h (h2 j (by omega) (by omega))
theorem fstI_no {p : Nat → Prop} (h : ∀ g, g < 12 → ¬ p g) : fstI p 12 0 = -1 := by
  rcases fstI_spec (p := p) 12 0 with ⟨f, -, h2, h3, h4, h5⟩ | ⟨h1, -⟩
  · exact absurd h4 (h f (by omega))
  · exact h1
theorem chgF_r {x : TrV} {fs : Fs} {j : Nat} (hj : j < 12) (h : chR x fs j) (hn : ∀ g, g < j → ¬ chR x fs g) : chgF x fs = nI j := by
  unfold chgF
  rw [if_pos ⟨j, hj, h⟩]
  exact fstI_of hj h hn
theorem chgF_a {x : TrV} {fs : Fs} (hr : ∀ g, g < 12 → ¬ chR x fs g) : chgF x fs = fstI (chA x fs) 12 0 := by
  unfold chgF
  rw [if_neg (fun z => by obtain ⟨f, hf, q⟩ := z; exact hr f hf q)]
theorem chgF_neg {x : TrV} {fs : Fs} : chgF x fs < 0 ↔ fitA x fs := by
  by_cases c : ∃ f, f < 12 ∧ chR x fs f
  · have e : chgF x fs = fstI (chR x fs) 12 0 := by unfold chgF; rw [if_pos c]
    rw [e]
    rcases fstI_spec (p := chR x fs) 12 0 with ⟨f, -, h2, h3, h4, h5⟩ | ⟨-, h2⟩
    · rw [h3]
      exact ⟨fun z => absurd z (nI_pos (by omega)), fun z => absurd h4 (z.2 f (by omega))⟩
    · obtain ⟨f, hf, q⟩ := c
      exact absurd q (h2 f (by omega) (by omega))
  · rw [chgF_a (fun g hg q => c ⟨g, hg, q⟩)]
    rcases fstI_spec (p := chA x fs) 12 0 with ⟨f, -, h2, h3, h4, h5⟩ | ⟨h1, h2⟩
    · rw [h3]
      exact ⟨fun z => absurd z (nI_pos (by omega)), fun z => absurd h4 (z.1 f (by omega))⟩
    · rw [h1]
      exact ⟨fun _ => ⟨fun f hf => h2 f (by omega) (by omega), fun f hf q => c ⟨f, hf, q⟩⟩, fun _ => by decide⟩
section Mo8
variable {E : tb_E} {M M1 : tb_M} {fs : Fs} {tx : List Int32} {k t : Nat} {x : TrV} {S : StV}
theorem lp_Mo_isOf (hS : Sh M) (hT : MTr M t x) (ht : t < 25) (hK : TxM M k tx) {d rc rs : Nat} {Q : tb_O → tb_M → Prop} (hQ : Q (.inl (some (.inl (bI (tT x = tx))))) M) : ∀ (m j : Nat), tx.length - j = m → j ≤ tx.length → tb_Wp E m_Mo_isOf d rc rs 24 [some (.inr 190), some (.inl (nI t)), some (.inl (nI k)), some (.inl (bI ((tT x).length = tx.length ∧ ∀ i, i < j → la (tT x) i = la tx i))), some (.inl (nI j))] [] M Q := by
  have hk := hK.1
  have h12 := hK.2.2.1
  have h12b := hT.1.2.1
  intro m
  induction m using Nat.strongRecOn with
  | ind m ih =>
    intro j hm hj
    have hend : bI ((tT x).length = tx.length ∧ ∀ i, i < j → la (tT x) i = la tx i) = 0 ∨ j = tx.length → bI ((tT x).length = tx.length ∧ ∀ i, i < j → la (tT x) i = la tx i) = bI (tT x = tx) := by
      intro hh
      rcases hh with z | z
      · rw [z, bI_f (fun q => bI_0.mp z (by rw [la_ext] at q; exact ⟨q.1, fun i hi => q.2 i (by omega)⟩))]
      · subst z; exact (bI_iff la_ext).symm
    refine tb_iload_4 d_Mo_isOf_24 rfl ?_
    refine tb_aload_0 d_Mo_isOf_26 rfl ?_
    refine g_Mo_25 d_Mo_isOf_27 rfl rfl (by first | exact hS.k rfl) ?_
    refine tb_topR (y := 196) (hS.mr 8 (by decide)) ?_
    refine tb_iload_2 d_Mo_isOf_30 rfl ?_
    refine tb_iaload d_Mo_isOf_31 rfl (by first | exact hS.k rfl) (by first | exact mo_in hS (c := 12) rfl (by omega) (by decide) | exact mo_in hS (c := 10) rfl (by omega) (by decide) | exact mo_in hS (c := 25) rfl (by omega) (by decide) | exact mo_in hS (c := 6) rfl (by omega) (by decide) | exact mo_in hS (c := 72) rfl (by omega) (by decide) | exact mo_in hS (c := 120) rfl (by omega) (by decide) | exact mo_in hS (c := 300) rfl (by omega) (by decide) | exact mo_in hS (c := 150) rfl (by omega) (by decide) | exact mo_in hS (c := 1800) rfl (by omega) (by decide)) ?_
    refine tb_topI (y := nI tx.length) (by rw [nI_clamp (show k < 2 ^ 31 by omega)]; exact hK.2.1) ?_
    refine tb_icmp_ge 78 d_Mo_isOf_32 (by decide) rfl (fun h32 => ?_) (fun h32 => ?_)
    · have hje : tx.length ≤ j := (nI_leI (a := tx.length) (b := j) (by omega) (by omega)).mp h32
      have hje2 : j = tx.length := by omega
      refine tb_iload_3 d_Mo_isOf_78 rfl ?_
      refine tb_ireturn d_Mo_isOf_79 rfl (by exact bI_nar _) ?_
      rw [hend (by first | exact Or.inl h36 | exact Or.inr hje2)]
      exact hQ
    · have hlt : j < tx.length := Nat.lt_of_not_le (fun q => h32 ((nI_leI (a := tx.length) (b := j) (by omega) (by omega)).mpr q))
      refine tb_iload_3 d_Mo_isOf_35 rfl ?_
      refine tb_if_eq 78 d_Mo_isOf_36 (by decide) rfl (fun h36 => ?_) (fun h36 => ?_)
      · refine tb_iload_3 d_Mo_isOf_78 rfl ?_
        refine tb_ireturn d_Mo_isOf_79 rfl (by exact bI_nar _) ?_
        rw [hend (by first | exact Or.inl h36 | exact Or.inr hje2)]
        exact hQ
      · have hs := Classical.not_not.mp (fun z => h36 (bI_f z))
        refine tb_aload_0 d_Mo_isOf_39 rfl ?_
        refine g_Mo_34 d_Mo_isOf_40 rfl rfl (by first | exact hS.k rfl) ?_
        refine tb_topR (y := 199) (hS.mr 12 (by decide)) ?_
        refine tb_bipush (12) (by decide) d_Mo_isOf_43 rfl ?_
        refine tb_iload_1 d_Mo_isOf_45 rfl ?_
        refine tb_imul d_Mo_isOf_46 rfl ?_
        refine tb_topI (show (12 : Int32) * nI t = nI (12 * (t)) from nI_mul 12 (t)) ?_
        refine tb_iload_4 d_Mo_isOf_47 rfl ?_
        refine tb_iadd d_Mo_isOf_49 rfl ?_
        rw [nI_add]
        refine tb_iaload d_Mo_isOf_50 rfl (by first | exact hS.k rfl) (by first | exact mo_in hS (c := 12) rfl (by omega) (by decide) | exact mo_in hS (c := 10) rfl (by omega) (by decide) | exact mo_in hS (c := 25) rfl (by omega) (by decide) | exact mo_in hS (c := 6) rfl (by omega) (by decide) | exact mo_in hS (c := 72) rfl (by omega) (by decide) | exact mo_in hS (c := 120) rfl (by omega) (by decide) | exact mo_in hS (c := 300) rfl (by omega) (by decide) | exact mo_in hS (c := 150) rfl (by omega) (by decide) | exact mo_in hS (c := 1800) rfl (by omega) (by decide)) ?_
        refine tb_topI (y := la (tT x) j) (by rw [nI_clamp (show 12 * t + j < 2 ^ 31 by omega)]; exact hT.1.2.2 j (by omega)) ?_
        refine tb_aload_0 d_Mo_isOf_51 rfl ?_
        refine g_Mo_28 d_Mo_isOf_52 rfl rfl (by first | exact hS.k rfl) ?_
        refine tb_topR (y := 197) (hS.mr 9 (by decide)) ?_
        refine tb_bipush (12) (by decide) d_Mo_isOf_55 rfl ?_
        refine tb_iload_2 d_Mo_isOf_57 rfl ?_
        refine tb_imul d_Mo_isOf_58 rfl ?_
        refine tb_topI (show (12 : Int32) * nI k = nI (12 * (k)) from nI_mul 12 (k)) ?_
        refine tb_iload_4 d_Mo_isOf_59 rfl ?_
        refine tb_iadd d_Mo_isOf_61 rfl ?_
        rw [nI_add]
        refine tb_iaload d_Mo_isOf_62 rfl (by first | exact hS.k rfl) (by first | exact mo_in hS (c := 12) rfl (by omega) (by decide) | exact mo_in hS (c := 10) rfl (by omega) (by decide) | exact mo_in hS (c := 25) rfl (by omega) (by decide) | exact mo_in hS (c := 6) rfl (by omega) (by decide) | exact mo_in hS (c := 72) rfl (by omega) (by decide) | exact mo_in hS (c := 120) rfl (by omega) (by decide) | exact mo_in hS (c := 300) rfl (by omega) (by decide) | exact mo_in hS (c := 150) rfl (by omega) (by decide) | exact mo_in hS (c := 1800) rfl (by omega) (by decide)) ?_
        refine tb_topI (y := la tx j) (by rw [nI_clamp (show 12 * k + j < 2 ^ 31 by omega)]; exact hK.2.2.2 j hlt) ?_
        refine tb_icmp_ne 70 d_Mo_isOf_63 (by decide) rfl (fun h63 => ?_) (fun h63 => ?_)
        · have e : bI ((tT x).length = tx.length ∧ ∀ i, i < j + 1 → la (tT x) i = la tx i) = 0 := bI_f (fun z => h63 (z.2 j (by omega)))
          refine tb_iconst (0) (by decide) d_Mo_isOf_70 rfl ?_
          refine tb_topI (y := bI ((tT x).length = tx.length ∧ ∀ i, i < j + 1 → la (tT x) i = la tx i)) e.symm ?_
          refine tb_istore_3 d_Mo_isOf_71 rfl (by decide) ?_
          refine tb_iinc_4 (1) d_Mo_isOf_72 rfl (by decide) (by decide) ?_
          refine tb_goto 24 d_Mo_isOf_75 (by decide) ?_
          rw [nI_1]
          exact ih (tx.length - (j + 1)) (by omega) (j + 1) rfl (by omega)
        · have e : bI ((tT x).length = tx.length ∧ ∀ i, i < j + 1 → la (tT x) i = la tx i) = 1 := bI_t ⟨hs.1, fun i hi => by
            by_cases c : i = j
            · rw [c]; exact h63
            · exact hs.2 i (by omega)⟩
          refine tb_iconst (1) (by decide) d_Mo_isOf_66 rfl ?_
          refine tb_goto 71 d_Mo_isOf_67 (by decide) ?_
          refine tb_topI (y := bI ((tT x).length = tx.length ∧ ∀ i, i < j + 1 → la (tT x) i = la tx i)) e.symm ?_
          refine tb_istore_3 d_Mo_isOf_71 rfl (by decide) ?_
          refine tb_iinc_4 (1) d_Mo_isOf_72 rfl (by decide) (by decide) ?_
          refine tb_goto 24 d_Mo_isOf_75 (by decide) ?_
          rw [nI_1]
          exact ih (tx.length - (j + 1)) (by omega) (j + 1) rfl (by omega)
theorem ok_Mo_isOf (hG : tb_G E) (hS : Sh M) (hT : MTr M t x) (ht : t < 25) (hK : TxM M k tx) (d : Nat) : tb_Ret E m_Mo_isOf d [.inr (.inl 190), .inl (nI t), .inl (nI k)] M (some (.inl (bI (tT x = tx)))) M := by
  have hk := hK.1
  have h12 := hK.2.2.1
  have h12b := hT.1.2.1
  refine tb_okOf hG (by decide) rfl (Nat.le_of_ble_eq_true rfl) rfl ?_
  refine tb_aload_0 d_Mo_isOf_0 rfl ?_
  refine g_Mo_31 d_Mo_isOf_1 rfl rfl (by first | exact hS.k rfl) ?_
  refine tb_topR (y := 198) (hS.mr 11 (by decide)) ?_
  refine tb_iload_1 d_Mo_isOf_4 rfl ?_
  refine tb_iaload d_Mo_isOf_5 rfl (by first | exact hS.k rfl) (by first | exact mo_in hS (c := 12) rfl (by omega) (by decide) | exact mo_in hS (c := 10) rfl (by omega) (by decide) | exact mo_in hS (c := 25) rfl (by omega) (by decide) | exact mo_in hS (c := 6) rfl (by omega) (by decide) | exact mo_in hS (c := 72) rfl (by omega) (by decide) | exact mo_in hS (c := 120) rfl (by omega) (by decide) | exact mo_in hS (c := 300) rfl (by omega) (by decide) | exact mo_in hS (c := 150) rfl (by omega) (by decide) | exact mo_in hS (c := 1800) rfl (by omega) (by decide)) ?_
  refine tb_topI (y := nI (tT x).length) (by rw [nI_clamp (show t < 2 ^ 31 by omega)]; exact hT.1.1) ?_
  refine tb_aload_0 d_Mo_isOf_6 rfl ?_
  refine g_Mo_25 d_Mo_isOf_7 rfl rfl (by first | exact hS.k rfl) ?_
  refine tb_topR (y := 196) (hS.mr 8 (by decide)) ?_
  refine tb_iload_2 d_Mo_isOf_10 rfl ?_
  refine tb_iaload d_Mo_isOf_11 rfl (by first | exact hS.k rfl) (by first | exact mo_in hS (c := 12) rfl (by omega) (by decide) | exact mo_in hS (c := 10) rfl (by omega) (by decide) | exact mo_in hS (c := 25) rfl (by omega) (by decide) | exact mo_in hS (c := 6) rfl (by omega) (by decide) | exact mo_in hS (c := 72) rfl (by omega) (by decide) | exact mo_in hS (c := 120) rfl (by omega) (by decide) | exact mo_in hS (c := 300) rfl (by omega) (by decide) | exact mo_in hS (c := 150) rfl (by omega) (by decide) | exact mo_in hS (c := 1800) rfl (by omega) (by decide)) ?_
  refine tb_topI (y := nI tx.length) (by rw [nI_clamp (show k < 2 ^ 31 by omega)]; exact hK.2.1) ?_
  refine tb_icmp_ne 19 d_Mo_isOf_12 (by decide) rfl (fun h12_ => ?_) (fun h12_ => ?_)
  · have e : bI ((tT x).length = tx.length ∧ ∀ i, i < 0 → la (tT x) i = la tx i) = 0 := bI_f (fun z => h12_ (by rw [z.1]))
    refine tb_iconst (0) (by decide) d_Mo_isOf_19 rfl ?_
    refine tb_topI (y := bI ((tT x).length = tx.length ∧ ∀ i, i < 0 → la (tT x) i = la tx i)) e.symm ?_
    refine tb_istore_3 d_Mo_isOf_20 rfl (by decide) ?_
    refine tb_iconst (0) (by decide) d_Mo_isOf_21 rfl ?_
    refine tb_istore_4 d_Mo_isOf_22 rfl (by decide) ?_
    exact lp_Mo_isOf hS hT ht hK ⟨rfl, rfl⟩ _ 0 rfl (Nat.zero_le _)
  · have e : bI ((tT x).length = tx.length ∧ ∀ i, i < 0 → la (tT x) i = la tx i) = 1 := bI_t ⟨(nI_eq (by omega) (by omega)).mp h12_, fun i hi => absurd hi (Nat.not_lt_zero _)⟩
    refine tb_iconst (1) (by decide) d_Mo_isOf_15 rfl ?_
    refine tb_goto 20 d_Mo_isOf_16 (by decide) ?_
    refine tb_topI (y := bI ((tT x).length = tx.length ∧ ∀ i, i < 0 → la (tT x) i = la tx i)) e.symm ?_
    refine tb_istore_3 d_Mo_isOf_20 rfl (by decide) ?_
    refine tb_iconst (0) (by decide) d_Mo_isOf_21 rfl ?_
    refine tb_istore_4 d_Mo_isOf_22 rfl (by decide) ?_
    exact lp_Mo_isOf hS hT ht hK ⟨rfl, rfl⟩ _ 0 rfl (Nat.zero_le _)
theorem nI_m1 {j : Nat} : nI (j + 1) - 1 = nI j := nI_pred j
theorem lp_Mo_latest (hG : tb_G E) (hS : Sh M) (hSt : MSt M S) (hK : TxM M k tx) {d rc rs : Nat} {Q : tb_O → tb_M → Prop} (hQ : Q (.inl (some (.inl (oI (latA S tx))))) M) : ∀ (j : Nat), j ≤ S.1 → (∀ i, j ≤ i → i < S.1 → ¬ tT (S.2 i) = tx) → tb_Wp E m_Mo_latestOf (d + 1) rc rs 7 [some (.inr 190), some (.inl (nI k)), some (.inl (nI j - 1))] [] M Q := by
  have hc := hSt.2.1
  have hk := hK.1
  intro j
  induction j with
  | zero =>
    intro hj hall
    refine tb_iload_2 d_Mo_latestOf_7 rfl ?_
    refine tb_if_lt 26 d_Mo_latestOf_8 (by decide) rfl (fun h8 => ?_) (fun h8 => ?_)
    · have e : latA S tx = none := lastI_no _ (fun i hi => hall i (Nat.zero_le _) hi)
      rw [e] at hQ
      refine tb_iload_2 d_Mo_latestOf_26 rfl ?_
      refine tb_ireturn d_Mo_latestOf_27 rfl (by first | rfl | assumption) ?_
      exact hQ
    · exact absurd (by decide) h8
  | succ j ih =>
    intro hj hall
    rw [nI_pred]
    have hT := hSt.2.2 j (by omega)
    refine tb_iload_2 d_Mo_latestOf_7 rfl ?_
    refine tb_if_lt 26 d_Mo_latestOf_8 (by decide) rfl (fun h8 => ?_) (fun h8 => ?_)
    · exact absurd h8 (nI_pos (by omega))
    · refine tb_aload_0 d_Mo_latestOf_11 rfl ?_
      refine tb_iload_2 d_Mo_latestOf_12 rfl ?_
      refine tb_iload_1 d_Mo_latestOf_13 rfl ?_
      refine tb_callVr c_Mo_179 d_Mo_latestOf_14 rfl rfl rfl (Nat.le_of_ble_eq_true rfl) (by first | exact hS.k rfl) (ok_Mo_isOf hG hS hT (by omega) hK d) ?_
      refine tb_if_ne 26 d_Mo_latestOf_17 (by decide) rfl (fun h17 => ?_) (fun h17 => ?_)
      · have e : latA S tx = some j := lastI_of _ ⟨by omega, Classical.not_not.mp (fun z => h17 (bI_f z)), fun i h1 h2 => hall i (by omega) h2⟩
        rw [e] at hQ
        refine tb_iload_2 d_Mo_latestOf_26 rfl ?_
        refine tb_ireturn d_Mo_latestOf_27 rfl (by first | rfl | assumption) ?_
        exact hQ
      · have hno := bI_0.mp h17
        refine tb_iinc_2 (-1) d_Mo_latestOf_20 rfl (by decide) (by decide) ?_
        refine tb_goto 7 d_Mo_latestOf_23 (by decide) ?_
        rw [show nI j + (-1) = nI j - 1 from (Int32.sub_eq_add_neg (nI j) 1).symm]
        refine ih (by omega) (fun i h1 h2 => ?_)
        by_cases c : i = j
        · rw [c]; exact hno
        · exact hall i (by omega) h2
theorem ok_Mo_latest (hG : tb_G E) (hS : Sh M) (hSt : MSt M S) (hK : TxM M k tx) (d : Nat) : tb_Ret E m_Mo_latestOf (d + 1) [.inr (.inl 190), .inl (nI k)] M (some (.inl (oI (latA S tx)))) M := by
  refine tb_okOf hG (by decide) rfl (Nat.le_of_ble_eq_true rfl) rfl ?_
  refine tb_aload_0 d_Mo_latestOf_0 rfl ?_
  refine g_Mo_176 d_Mo_latestOf_1 rfl rfl (by first | exact hS.k rfl) ?_
  refine tb_topI hSt.1 ?_
  refine tb_iconst (1) (by decide) d_Mo_latestOf_4 rfl ?_
  refine tb_isub d_Mo_latestOf_5 rfl ?_
  refine tb_istore_2 d_Mo_latestOf_6 rfl (by decide) ?_
  exact lp_Mo_latest hG hS hSt hK ⟨rfl, rfl⟩ S.1 (Nat.le_refl _) (fun i h1 h2 => absurd h2 (by omega))
theorem pl_ext {s s' p p' : Nat} (h : Le6 (tb_I M (s + 1) p)) (h' : Le6 (tb_I M (s' + 1) p')) : pl M s p = pl M s' p' ↔ tb_I M (s + 1) p = tb_I M (s' + 1) p' ∧ ∀ i, i < ln (pl M s' p') → tb_I M (s + 2) (6 * p + i) = tb_I M (s' + 2) (6 * p' + i) := by
  constructor
  · intro e
    refine ⟨by rw [(pl_len h).1, (pl_len h').1, e], fun i hi => ?_⟩
    rcases h' with q | ⟨n, hn, q⟩
    · rw [pl_none q] at hi; exact absurd hi (Nat.not_lt_zero _)
    · rcases h with q2 | ⟨m, hm, q2⟩
      · rw [pl_none q2, pl_some hn q] at e; cases e
      · rw [pl_some hn q] at hi e
        rw [pl_some hm q2] at e
        have hi' : i < n := by simpa [ln] using hi
        have e2 : (List.range m).map (fun i => tb_I M (s + 2) (6 * p + i)) = (List.range n).map (fun i => tb_I M (s' + 2) (6 * p' + i)) := by injection e
        have hmn : m = n := by have := congrArg List.length e2; simpa using this
        have := congrArg (fun l => l[i]?) e2
        simp only [List.getElem?_map] at this
        rw [List.getElem?_range (by omega), List.getElem?_range hi'] at this
        simpa using this
  · rintro ⟨e1, e2⟩
    rcases h' with q | ⟨n, hn, q⟩
    · rw [pl_none q, pl_none (e1.trans q)]
    · rw [pl_some hn q] at e2 ⊢
      rw [pl_some hn (e1.trans q)]
      congr 1
      apply List.map_congr_left
      intro i hi
      exact e2 i (by simpa [ln] using List.mem_range.mp hi)
theorem lp_Mo_asRead (hS : Sh M) (hT : MTr M t x) (ht : t < 25) (hF : MFs M fs) {f : Nat} (hf : f < 12) {d rc rs : Nat} {Q : tb_O → tb_M → Prop} (hQ : Q (.inl (some (.inl (bI (tF x f = fs f))))) M) : ∀ (m j : Nat), (cl (fs f)).length - j = m → j ≤ (cl (fs f)).length → tb_Wp E m_Mo_isAsRead d rc rs 29 [some (.inr 190), some (.inl (nI t)), some (.inl (nI f)), some (.inl (bI (tb_I M 203 (12 * t + f) = tb_I M 191 f ∧ ∀ i, i < j → tb_I M 204 (6 * (12 * t + f) + i) = tb_I M 192 (6 * f + i)))), some (.inl (nI j))] [] M Q := by
  have hle := hF.le hf
  have hiff : tF x f = fs f ↔ tb_I M 203 (12 * t + f) = tb_I M 191 f ∧ ∀ i, i < (cl (fs f)).length → tb_I M 204 (6 * (12 * t + f) + i) = tb_I M 192 (6 * f + i) := by
    have h1 := hT.2.2.2.2.1 f hf
    have h2 := hF.2 f hf
    have := pl_ext (M := M) (s := 202) (s' := 190) (p := 12 * t + f) (p' := f) h1.1 (hF.1 f hf)
    rw [h1.2, h2] at this
    exact this
  intro m
  induction m using Nat.strongRecOn with
  | ind m ih =>
    intro j hm hj
    have hend : bI (tb_I M 203 (12 * t + f) = tb_I M 191 f ∧ ∀ i, i < j → tb_I M 204 (6 * (12 * t + f) + i) = tb_I M 192 (6 * f + i)) = 0 ∨ j = (cl (fs f)).length → bI (tb_I M 203 (12 * t + f) = tb_I M 191 f ∧ ∀ i, i < j → tb_I M 204 (6 * (12 * t + f) + i) = tb_I M 192 (6 * f + i)) = bI (tF x f = fs f) := by
      intro hh
      rcases hh with z | z
      · rw [z, bI_f (fun q => bI_0.mp z ⟨(hiff.mp q).1, fun i hi => (hiff.mp q).2 i (by omega)⟩)]
      · subst z; exact (bI_iff hiff).symm
    refine tb_iload_4 d_Mo_isAsRead_29 rfl ?_
    refine tb_aload_0 d_Mo_isAsRead_31 rfl ?_
    refine g_Mo_7 d_Mo_isAsRead_32 rfl rfl (by first | exact hS.k rfl) ?_
    refine tb_topR (y := 191) (hS.mr 1 (by decide)) ?_
    refine tb_iload_2 d_Mo_isAsRead_35 rfl ?_
    refine tb_iaload d_Mo_isAsRead_36 rfl (by first | exact hS.k rfl) (by first | exact mo_in hS (c := 12) rfl (by omega) (by decide) | exact mo_in hS (c := 10) rfl (by omega) (by decide) | exact mo_in hS (c := 25) rfl (by omega) (by decide) | exact mo_in hS (c := 6) rfl (by omega) (by decide) | exact mo_in hS (c := 72) rfl (by omega) (by decide) | exact mo_in hS (c := 120) rfl (by omega) (by decide) | exact mo_in hS (c := 300) rfl (by omega) (by decide) | exact mo_in hS (c := 150) rfl (by omega) (by decide) | exact mo_in hS (c := 1800) rfl (by omega) (by decide)) ?_
    refine tb_topI (y := szV (fs f)) (by rw [nI_clamp (show f < 2 ^ 31 by omega)]; exact hF.sz hf) ?_
    refine tb_icmp_ge 88 d_Mo_isAsRead_37 (by decide) rfl (fun h37 => ?_) (fun h37 => ?_)
    · have hje := (sz_le hle (show j < 2 ^ 31 by omega)).mp h37
      have hje2 : j = (cl (fs f)).length := by omega
      refine tb_iload_3 d_Mo_isAsRead_88 rfl ?_
      refine tb_ireturn d_Mo_isAsRead_89 rfl (by exact bI_nar _) ?_
      rw [hend (by first | exact Or.inl h41 | exact Or.inr hje2)]
      exact hQ
    · have hlt : j < (cl (fs f)).length := Nat.lt_of_not_le (fun z => h37 ((sz_le hle (by omega)).mpr z))
      refine tb_iload_3 d_Mo_isAsRead_40 rfl ?_
      refine tb_if_eq 88 d_Mo_isAsRead_41 (by decide) rfl (fun h41 => ?_) (fun h41 => ?_)
      · refine tb_iload_3 d_Mo_isAsRead_88 rfl ?_
        refine tb_ireturn d_Mo_isAsRead_89 rfl (by exact bI_nar _) ?_
        rw [hend (by first | exact Or.inl h41 | exact Or.inr hje2)]
        exact hQ
      · have hs := Classical.not_not.mp (fun z => h41 (bI_f z))
        refine tb_aload_0 d_Mo_isAsRead_44 rfl ?_
        refine g_Mo_49 d_Mo_isAsRead_45 rfl rfl (by first | exact hS.k rfl) ?_
        refine tb_topR (y := 204) (hS.mr 17 (by decide)) ?_
        refine tb_bipush (6) (by decide) d_Mo_isAsRead_48 rfl ?_
        refine tb_bipush (12) (by decide) d_Mo_isAsRead_50 rfl ?_
        refine tb_iload_1 d_Mo_isAsRead_52 rfl ?_
        refine tb_imul d_Mo_isAsRead_53 rfl ?_
        refine tb_topI (show (12 : Int32) * nI t = nI (12 * (t)) from nI_mul 12 (t)) ?_
        refine tb_iload_2 d_Mo_isAsRead_54 rfl ?_
        refine tb_iadd d_Mo_isAsRead_55 rfl ?_
        rw [nI_add]
        refine tb_imul d_Mo_isAsRead_56 rfl ?_
        refine tb_topI (show (6 : Int32) * nI (12 * t + f) = nI (6 * (12 * t + f)) from nI_mul 6 (12 * t + f)) ?_
        refine tb_iload_4 d_Mo_isAsRead_57 rfl ?_
        refine tb_iadd d_Mo_isAsRead_59 rfl ?_
        rw [nI_add]
        refine tb_iaload d_Mo_isAsRead_60 rfl (by first | exact hS.k rfl) (by first | exact mo_in hS (c := 12) rfl (by omega) (by decide) | exact mo_in hS (c := 10) rfl (by omega) (by decide) | exact mo_in hS (c := 25) rfl (by omega) (by decide) | exact mo_in hS (c := 6) rfl (by omega) (by decide) | exact mo_in hS (c := 72) rfl (by omega) (by decide) | exact mo_in hS (c := 120) rfl (by omega) (by decide) | exact mo_in hS (c := 300) rfl (by omega) (by decide) | exact mo_in hS (c := 150) rfl (by omega) (by decide) | exact mo_in hS (c := 1800) rfl (by omega) (by decide)) ?_
        refine tb_topI (y := tb_I M 204 (6 * (12 * t + f) + j)) (by rw [nI_clamp (show 6 * (12 * t + f) + j < 2 ^ 31 by omega)]) ?_
        refine tb_aload_0 d_Mo_isAsRead_61 rfl ?_
        refine g_Mo_13 d_Mo_isAsRead_62 rfl rfl (by first | exact hS.k rfl) ?_
        refine tb_topR (y := 192) (hS.mr 2 (by decide)) ?_
        refine tb_bipush (6) (by decide) d_Mo_isAsRead_65 rfl ?_
        refine tb_iload_2 d_Mo_isAsRead_67 rfl ?_
        refine tb_imul d_Mo_isAsRead_68 rfl ?_
        refine tb_topI (show (6 : Int32) * nI f = nI (6 * (f)) from nI_mul 6 (f)) ?_
        refine tb_iload_4 d_Mo_isAsRead_69 rfl ?_
        refine tb_iadd d_Mo_isAsRead_71 rfl ?_
        rw [nI_add]
        refine tb_iaload d_Mo_isAsRead_72 rfl (by first | exact hS.k rfl) (by first | exact mo_in hS (c := 12) rfl (by omega) (by decide) | exact mo_in hS (c := 10) rfl (by omega) (by decide) | exact mo_in hS (c := 25) rfl (by omega) (by decide) | exact mo_in hS (c := 6) rfl (by omega) (by decide) | exact mo_in hS (c := 72) rfl (by omega) (by decide) | exact mo_in hS (c := 120) rfl (by omega) (by decide) | exact mo_in hS (c := 300) rfl (by omega) (by decide) | exact mo_in hS (c := 150) rfl (by omega) (by decide) | exact mo_in hS (c := 1800) rfl (by omega) (by decide)) ?_
        refine tb_topI (y := tb_I M 192 (6 * f + j)) (by rw [nI_clamp (show 6 * f + j < 2 ^ 31 by omega)]) ?_
        refine tb_icmp_ne 80 d_Mo_isAsRead_73 (by decide) rfl (fun h73 => ?_) (fun h73 => ?_)
        · have e : bI (tb_I M 203 (12 * t + f) = tb_I M 191 f ∧ ∀ i, i < j + 1 → tb_I M 204 (6 * (12 * t + f) + i) = tb_I M 192 (6 * f + i)) = 0 := bI_f (fun z => h73 (z.2 j (by omega)))
          refine tb_iconst (0) (by decide) d_Mo_isAsRead_80 rfl ?_
          refine tb_topI (y := bI (tb_I M 203 (12 * t + f) = tb_I M 191 f ∧ ∀ i, i < j + 1 → tb_I M 204 (6 * (12 * t + f) + i) = tb_I M 192 (6 * f + i))) e.symm ?_
          refine tb_istore_3 d_Mo_isAsRead_81 rfl (by decide) ?_
          refine tb_iinc_4 (1) d_Mo_isAsRead_82 rfl (by decide) (by decide) ?_
          refine tb_goto 29 d_Mo_isAsRead_85 (by decide) ?_
          rw [nI_1]
          exact ih ((cl (fs f)).length - (j + 1)) (by omega) (j + 1) rfl (by omega)
        · have e : bI (tb_I M 203 (12 * t + f) = tb_I M 191 f ∧ ∀ i, i < j + 1 → tb_I M 204 (6 * (12 * t + f) + i) = tb_I M 192 (6 * f + i)) = 1 := bI_t ⟨hs.1, fun i hi => by
            by_cases c : i = j
            · rw [c]; exact h73
            · exact hs.2 i (by omega)⟩
          refine tb_iconst (1) (by decide) d_Mo_isAsRead_76 rfl ?_
          refine tb_goto 81 d_Mo_isAsRead_77 (by decide) ?_
          refine tb_topI (y := bI (tb_I M 203 (12 * t + f) = tb_I M 191 f ∧ ∀ i, i < j + 1 → tb_I M 204 (6 * (12 * t + f) + i) = tb_I M 192 (6 * f + i))) e.symm ?_
          refine tb_istore_3 d_Mo_isAsRead_81 rfl (by decide) ?_
          refine tb_iinc_4 (1) d_Mo_isAsRead_82 rfl (by decide) (by decide) ?_
          refine tb_goto 29 d_Mo_isAsRead_85 (by decide) ?_
          rw [nI_1]
          exact ih ((cl (fs f)).length - (j + 1)) (by omega) (j + 1) rfl (by omega)
theorem ok_Mo_asRead (hG : tb_G E) (hS : Sh M) (hT : MTr M t x) (ht : t < 25) (hF : MFs M fs) {f : Nat} (hf : f < 12) (d : Nat) : tb_Ret E m_Mo_isAsRead d [.inr (.inl 190), .inl (nI t), .inl (nI f)] M (some (.inl (bI (tF x f = fs f)))) M := by
  refine tb_okOf hG (by decide) rfl (Nat.le_of_ble_eq_true rfl) rfl ?_
  refine tb_aload_0 d_Mo_isAsRead_0 rfl ?_
  refine g_Mo_46 d_Mo_isAsRead_1 rfl rfl (by first | exact hS.k rfl) ?_
  refine tb_topR (y := 203) (hS.mr 16 (by decide)) ?_
  refine tb_bipush (12) (by decide) d_Mo_isAsRead_4 rfl ?_
  refine tb_iload_1 d_Mo_isAsRead_6 rfl ?_
  refine tb_imul d_Mo_isAsRead_7 rfl ?_
  refine tb_topI (show (12 : Int32) * nI t = nI (12 * (t)) from nI_mul 12 (t)) ?_
  refine tb_iload_2 d_Mo_isAsRead_8 rfl ?_
  refine tb_iadd d_Mo_isAsRead_9 rfl ?_
  rw [nI_add]
  refine tb_iaload d_Mo_isAsRead_10 rfl (by first | exact hS.k rfl) (by first | exact mo_in hS (c := 12) rfl (by omega) (by decide) | exact mo_in hS (c := 10) rfl (by omega) (by decide) | exact mo_in hS (c := 25) rfl (by omega) (by decide) | exact mo_in hS (c := 6) rfl (by omega) (by decide) | exact mo_in hS (c := 72) rfl (by omega) (by decide) | exact mo_in hS (c := 120) rfl (by omega) (by decide) | exact mo_in hS (c := 300) rfl (by omega) (by decide) | exact mo_in hS (c := 150) rfl (by omega) (by decide) | exact mo_in hS (c := 1800) rfl (by omega) (by decide)) ?_
  refine tb_topI (y := tb_I M 203 (12 * t + f)) (by rw [nI_clamp (show 12 * t + f < 2 ^ 31 by omega)]) ?_
  refine tb_aload_0 d_Mo_isAsRead_11 rfl ?_
  refine g_Mo_7 d_Mo_isAsRead_12 rfl rfl (by first | exact hS.k rfl) ?_
  refine tb_topR (y := 191) (hS.mr 1 (by decide)) ?_
  refine tb_iload_2 d_Mo_isAsRead_15 rfl ?_
  refine tb_iaload d_Mo_isAsRead_16 rfl (by first | exact hS.k rfl) (by first | exact mo_in hS (c := 12) rfl (by omega) (by decide) | exact mo_in hS (c := 10) rfl (by omega) (by decide) | exact mo_in hS (c := 25) rfl (by omega) (by decide) | exact mo_in hS (c := 6) rfl (by omega) (by decide) | exact mo_in hS (c := 72) rfl (by omega) (by decide) | exact mo_in hS (c := 120) rfl (by omega) (by decide) | exact mo_in hS (c := 300) rfl (by omega) (by decide) | exact mo_in hS (c := 150) rfl (by omega) (by decide) | exact mo_in hS (c := 1800) rfl (by omega) (by decide)) ?_
  refine tb_topI (y := tb_I M 191 f) (by rw [nI_clamp (show f < 2 ^ 31 by omega)]) ?_
  refine tb_icmp_ne 24 d_Mo_isAsRead_17 (by decide) rfl (fun h17 => ?_) (fun h17 => ?_)
  · have e : bI (tb_I M 203 (12 * t + f) = tb_I M 191 f ∧ ∀ i, i < 0 → tb_I M 204 (6 * (12 * t + f) + i) = tb_I M 192 (6 * f + i)) = 0 := bI_f (fun z => h17 z.1)
    refine tb_iconst (0) (by decide) d_Mo_isAsRead_24 rfl ?_
    refine tb_topI (y := bI (tb_I M 203 (12 * t + f) = tb_I M 191 f ∧ ∀ i, i < 0 → tb_I M 204 (6 * (12 * t + f) + i) = tb_I M 192 (6 * f + i))) e.symm ?_
    refine tb_istore_3 d_Mo_isAsRead_25 rfl (by decide) ?_
    refine tb_iconst (0) (by decide) d_Mo_isAsRead_26 rfl ?_
    refine tb_istore_4 d_Mo_isAsRead_27 rfl (by decide) ?_
    exact lp_Mo_asRead hS hT ht hF hf ⟨rfl, rfl⟩ _ 0 rfl (Nat.zero_le _)
  · have e : bI (tb_I M 203 (12 * t + f) = tb_I M 191 f ∧ ∀ i, i < 0 → tb_I M 204 (6 * (12 * t + f) + i) = tb_I M 192 (6 * f + i)) = 1 := bI_t ⟨h17, fun i hi => absurd hi (Nat.not_lt_zero _)⟩
    refine tb_iconst (1) (by decide) d_Mo_isAsRead_20 rfl ?_
    refine tb_goto 25 d_Mo_isAsRead_21 (by decide) ?_
    refine tb_topI (y := bI (tb_I M 203 (12 * t + f) = tb_I M 191 f ∧ ∀ i, i < 0 → tb_I M 204 (6 * (12 * t + f) + i) = tb_I M 192 (6 * f + i))) e.symm ?_
    refine tb_istore_3 d_Mo_isAsRead_25 rfl (by decide) ?_
    refine tb_iconst (0) (by decide) d_Mo_isAsRead_26 rfl ?_
    refine tb_istore_4 d_Mo_isAsRead_27 rfl (by decide) ?_
    exact lp_Mo_asRead hS hT ht hF hf ⟨rfl, rfl⟩ _ 0 rfl (Nat.zero_le _)
end Mo8
