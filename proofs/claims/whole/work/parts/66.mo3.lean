/-! The reference: files, answers. -/
section Mo3
variable {E : tb_E} {M M1 : tb_M} {g : Sg}
theorem Le6.neg {x : Int32} (h : Le6 x) : x < 0 ↔ x = -1 := by
  rcases h with rfl | ⟨n, hn, rfl⟩
  · exact ⟨fun _ => rfl, fun _ => by decide⟩
  · exact ⟨fun z => absurd z (nI_pos (by omega)), fun z => absurd z (nI_nm1 (by omega))⟩
theorem pl_neg {s p : Nat} (h : Le6 (tb_I M (s + 1) p)) : pl M s p = none ↔ tb_I M (s + 1) p = -1 := by
  unfold pl
  by_cases c : tb_I M (s + 1) p = -1
  · rw [if_pos c]; exact ⟨fun _ => c, fun _ => rfl⟩
  · rw [if_neg c]; exact ⟨fun z => by (cases z), fun z => absurd z c⟩
theorem pl_len {s p : Nat} (h : Le6 (tb_I M (s + 1) p)) : tb_I M (s + 1) p = (match pl M s p with | none => -1 | some l => nI l.length) ∧ ln (pl M s p) ≤ 6 := by
  rcases h with h | ⟨n, hn, h⟩
  · rw [pl_none h]; exact ⟨h, by decide⟩
  · rw [pl_some hn h]
    refine ⟨?_, ?_⟩
    · show _ = nI ((List.range n).map _).length
      rw [List.length_map, List.length_range]
      exact h
    · show ((List.range n).map _).length ≤ 6
      rw [List.length_map, List.length_range]
      exact hn
/-- a file of the reference is set -/
theorem MIs.file (h : MIs M g) {f : Nat} {v : Option (List Int32)} (hf : f < 12) (o : On M M1 (fun q => q = 191 ∨ q = 192)) (hL : ∀ p, p < 12 → Le6 (tb_I M1 191 p)) (hv : pl M1 190 f = v) (ho : ∀ p, p < 12 → p ≠ f → pl M1 190 p = pl M 190 p) : MIs M1 (fsS g f v) ∧ On M M1 AM := by
  obtain ⟨hS, hH, hC, hF, hSt, hLg, hA⟩ := h
  have e : tb_I M1 190 = tb_I M 190 := o.i (by decide)
  refine ⟨⟨o.sh hS, hH.of (by rw [e]) (o.i (by decide)), hC.of (by rw [e]) (o.i (by decide)) (o.i (by decide)), ⟨hL, fun i hi => ?_⟩, hSt.of (by rw [e]) (fun q h1 h2 => o.i (by omega)), hLg.of (by rw [e]) (fun j _ _ => by rw [e]) (fun q h1 h2 => o.i (by omega)), by rw [e]; exact hA⟩, o.mono (fun q hq => by rcases hq with z | z <;> exact ⟨by omega, by omega⟩)⟩
  show pl M1 190 i = if i = f then v else g.2.2.1.1 i
  by_cases c : i = f
  · rw [if_pos c, c]; exact hv
  · rw [if_neg c, ho i hi c]; exact hF.2 i hi
theorem ok_Mo_size (hG : tb_G E) (h : MIs M g) {x : Int32} (d : Nat) : tb_Rel E m_Mo_size (d + 1) [.inr (.inl 190), .inl x] M (Mp M g 0 (some (aSiz g x))) := by
  obtain ⟨hM0, o0⟩ := h.put (j := 0) (x := 0) (Or.inl rfl)
  have hS := h.1
  have hc0 := c190 M 0
  generalize hM1 : tb_sI M 190 0 0 = M1 at hM0 o0 hc0
  have hS1 := hM0.1
  obtain ⟨-, hH, hC, hF, hSt, hL, hA⟩ := hM0
  unfold aSiz
  by_cases hx : inI x 12
  · obtain ⟨f, hf, rfl⟩ := inI_n (by decide) hx
    rw [nI_clamp (by omega)]
    have hl := pl_len (M := M1) (s := 190) (hF.1 f hf)
    rw [hF.2 f hf] at hl
    refine tb_okOf hG (by decide) rfl (Nat.le_of_ble_eq_true rfl) rfl ?_
    refine tb_aload_0 d_Mo_size_0 rfl ?_
    refine tb_iconst (0) (by decide) d_Mo_size_1 rfl ?_
    refine p_Mo_89 d_Mo_size_2 rfl rfl (by exact hS.k rfl) ?_
    refine tb_memeq hM1 ?_
    refine tb_iload_1 d_Mo_size_5 rfl ?_
    refine tb_callSr c_Mo_96 d_Mo_size_6 rfl rfl rfl (Nat.le_of_ble_eq_true rfl) (ok_Mo_isFile hG _ d) ?_
    refine tb_if_eq 21 d_Mo_size_9 (by decide) rfl (fun h9 => ?_) (fun h9 => ?_)
    · exact absurd hx (bI_0.mp h9)
    · refine tb_aload_0 d_Mo_size_12 rfl ?_
      refine g_Mo_7 d_Mo_size_13 rfl rfl (by first | exact hS1.k rfl) ?_
      refine tb_topR (y := 191) (hS1.mr 1 (by decide)) ?_
      refine tb_iload_1 d_Mo_size_16 rfl ?_
      refine tb_iaload d_Mo_size_17 rfl (by first | exact hS1.k rfl) (by first | exact mo_in hS1 (c := 12) rfl (by omega) (by decide) | exact mo_in hS1 (c := 10) rfl (by omega) (by decide) | exact mo_in hS1 (c := 25) rfl (by omega) (by decide) | exact mo_in hS1 (c := 6) rfl (by omega) (by decide) | exact mo_in hS1 (c := 72) rfl (by omega) (by decide) | exact mo_in hS1 (c := 120) rfl (by omega) (by decide) | exact mo_in hS1 (c := 300) rfl (by omega) (by decide) | exact mo_in hS1 (c := 150) rfl (by omega) (by decide) | exact mo_in hS1 (c := 1800) rfl (by omega) (by decide)) ?_
      refine tb_topI (y := tb_I M1 191 f) (by rw [nI_clamp (show f < 2 ^ 31 by omega)]) ?_
      refine tb_goto 22 d_Mo_size_18 (by decide) ?_
      refine tb_ireturn d_Mo_size_22 rfl (by first | rfl | assumption) ?_
      refine ⟨_, rfl, ?_, ⟨hS1, hH, hC, hF, hSt, hL, hA⟩, o0, hc0⟩
      have hl1 := hl.1
      rw [show tb_I M1 191 f = _ from hl1]
      cases hv : g.2.2.1.1 f with
      | none => rw [cif_f (fun z => z.2 rfl)]; rfl
      | some l => rw [cif_t ⟨hx, by simp⟩]; rfl
  · rw [cif_f (fun z => hx z.1)]
    refine tb_okOf hG (by decide) rfl (Nat.le_of_ble_eq_true rfl) rfl ?_
    refine tb_aload_0 d_Mo_size_0 rfl ?_
    refine tb_iconst (0) (by decide) d_Mo_size_1 rfl ?_
    refine p_Mo_89 d_Mo_size_2 rfl rfl (by exact hS.k rfl) ?_
    refine tb_memeq hM1 ?_
    refine tb_iload_1 d_Mo_size_5 rfl ?_
    refine tb_callSr c_Mo_96 d_Mo_size_6 rfl rfl rfl (Nat.le_of_ble_eq_true rfl) (ok_Mo_isFile hG _ d) ?_
    refine tb_if_eq 21 d_Mo_size_9 (by decide) rfl (fun h9 => ?_) (fun h9 => ?_)
    · refine tb_iconst (-1) (by decide) d_Mo_size_21 rfl ?_
      refine tb_ireturn d_Mo_size_22 rfl (by first | rfl | assumption) ?_
      exact ⟨_, rfl, rfl, ⟨hS1, hH, hC, hF, hSt, hL, hA⟩, o0, hc0⟩
    · exact absurd (bI_f hx) h9
theorem c190b (M : tb_M) (x : Int32) : On M (tb_sI M 190 0 x) AM := On.sI ⟨by omega, by omega⟩
theorem ok_Mo_number (hG : tb_G E) (h : MIs M g) {x y : Int32} (hw : ∀ f, f < 12 → ∀ i, narrow .short (.int ((cl (g.2.2.1.1 f)).getD i 0)) = .int ((cl (g.2.2.1.1 f)).getD i 0)) (d : Nat) : tb_Rel E m_Mo_number (d + 1) [.inr (.inl 190), .inl x, .inl y] M (fun v m => (tNum g x y = 0 → v = some (.inl (aNum g x y))) ∧ (∃ a, v = some (.inl a)) ∧ MIs m g ∧ On M m AM ∧ tb_I m 190 0 = nI (if tNum g x y = 0 then 0 else 1)) := by
  obtain ⟨hM0, o0⟩ := h.put (j := 0) (x := 0) (Or.inl rfl)
  have hS := h.1
  have hc0 := c190 M 0
  generalize hM1 : tb_sI M 190 0 0 = M1 at hM0 o0 hc0
  have hS1 := hM0.1
  obtain ⟨-, hH, hC, hF, hSt, hL, hA⟩ := hM0
  unfold tNum
  by_cases hx : inI x 12
  · obtain ⟨f, hf, rfl⟩ := inI_n (by decide) hx
    rw [nI_clamp (by omega)]
    have hl := pl_len (M := M1) (s := 190) (hF.1 f hf)
    rw [hF.2 f hf] at hl
    have hsz : tb_I M1 191 f = nI (ln (g.2.2.1.1 f)) ∨ (tb_I M1 191 f = -1 ∧ g.2.2.1.1 f = none) := by
      have hl1 := hl.1
      cases hv : g.2.2.1.1 f with
      | none => rw [hv] at hl1; exact Or.inr ⟨hl1, rfl⟩
      | some l => rw [hv] at hl1; exact Or.inl hl1
    refine tb_okOf hG (by decide) rfl (Nat.le_of_ble_eq_true rfl) rfl ?_
    refine tb_aload_0 d_Mo_number_0 rfl ?_
    refine tb_iconst (0) (by decide) d_Mo_number_1 rfl ?_
    refine p_Mo_89 d_Mo_number_2 rfl rfl (by exact hS.k rfl) ?_
    refine tb_memeq hM1 ?_
    refine tb_iload_1 d_Mo_number_5 rfl ?_
    refine tb_callSr c_Mo_96 d_Mo_number_6 rfl rfl rfl (Nat.le_of_ble_eq_true rfl) (ok_Mo_isFile hG _ d) ?_
    refine tb_if_eq 26 d_Mo_number_9 (by decide) rfl (fun h9 => ?_) (fun h9 => ?_)
    · exact absurd hx (bI_0.mp h9)
    · refine tb_iload_2 d_Mo_number_12 rfl ?_
      refine tb_if_lt 26 d_Mo_number_13 (by decide) rfl (fun h13 => ?_) (fun h13 => ?_)
      · have hny : ¬ inI y (ln (g.2.2.1.1 f)) := fun z => Int32.not_lt.mpr z.1 h13
        rw [cif_f (fun z => hny z.2)]
        refine tb_aload_0 d_Mo_number_26 rfl ?_
        refine tb_iconst (1) (by decide) d_Mo_number_27 rfl ?_
        refine tb_callVr c_Mo_122 d_Mo_number_28 rfl rfl rfl (Nat.le_of_ble_eq_true rfl) (by exact hS1.k rfl) (ok_Mo_fail hG hS1 1 d) ?_
        refine tb_i2s d_Mo_number_31 rfl ?_
        refine tb_ireturn d_Mo_number_32 rfl (by exact s16_nar _) ?_
        refine ⟨_, rfl, fun z => absurd z (by decide), ⟨_, rfl⟩, (MIs.put ⟨hS1, hH, hC, hF, hSt, hL, hA⟩ (Or.inl rfl)).1, o0.trans (c190b M1 1), c190 M1 1⟩
      · refine tb_iload_2 d_Mo_number_16 rfl ?_
        refine tb_aload_0 d_Mo_number_17 rfl ?_
        refine g_Mo_7 d_Mo_number_18 rfl rfl (by first | exact hS1.k rfl) ?_
        refine tb_topR (y := 191) (hS1.mr 1 (by decide)) ?_
        refine tb_iload_1 d_Mo_number_21 rfl ?_
        refine tb_iaload d_Mo_number_22 rfl (by first | exact hS1.k rfl) (by first | exact mo_in hS1 (c := 12) rfl (by omega) (by decide) | exact mo_in hS1 (c := 10) rfl (by omega) (by decide) | exact mo_in hS1 (c := 25) rfl (by omega) (by decide) | exact mo_in hS1 (c := 6) rfl (by omega) (by decide) | exact mo_in hS1 (c := 72) rfl (by omega) (by decide) | exact mo_in hS1 (c := 120) rfl (by omega) (by decide) | exact mo_in hS1 (c := 300) rfl (by omega) (by decide) | exact mo_in hS1 (c := 150) rfl (by omega) (by decide) | exact mo_in hS1 (c := 1800) rfl (by omega) (by decide)) ?_
        refine tb_topI (y := tb_I M1 191 f) (by rw [nI_clamp (show f < 2 ^ 31 by omega)]) ?_
        refine tb_icmp_lt 33 d_Mo_number_23 (by decide) rfl (fun h23 => ?_) (fun h23 => ?_)
        · have hy : inI y (ln (g.2.2.1.1 f)) := by
            rcases hsz with z | z
            · rw [z] at h23; exact ⟨Int32.not_lt.mp h13, h23⟩
            · rw [z.1] at h23
              exact absurd (Int32.lt_of_le_of_lt (Int32.not_lt.mp h13) h23) (by decide)
          obtain ⟨i, hi, rfl⟩ := inI_n (by have := hl.2; omega) hy
          have hi6 : i < 6 := by have := hl.2; omega
          have hi2 : i < (cl (g.2.2.1.1 f)).length := hi
          rw [cif_t ⟨hx, hy⟩]
          refine tb_aload_0 d_Mo_number_33 rfl ?_
          refine g_Mo_13 d_Mo_number_34 rfl rfl (by first | exact hS1.k rfl) ?_
          refine tb_topR (y := 192) (hS1.mr 2 (by decide)) ?_
          refine tb_bipush (6) (by decide) d_Mo_number_37 rfl ?_
          refine tb_iload_1 d_Mo_number_39 rfl ?_
          refine tb_imul d_Mo_number_40 rfl ?_
          refine tb_topI (show (6 : Int32) * nI f = nI (6 * f) from nI_mul 6 f) ?_
          refine tb_iload_2 d_Mo_number_41 rfl ?_
          refine tb_iadd d_Mo_number_42 rfl ?_
          rw [nI_add]
          refine tb_iaload d_Mo_number_43 rfl (by first | exact hS1.k rfl) (by first | exact mo_in hS1 (c := 12) rfl (by omega) (by decide) | exact mo_in hS1 (c := 10) rfl (by omega) (by decide) | exact mo_in hS1 (c := 25) rfl (by omega) (by decide) | exact mo_in hS1 (c := 6) rfl (by omega) (by decide) | exact mo_in hS1 (c := 72) rfl (by omega) (by decide) | exact mo_in hS1 (c := 120) rfl (by omega) (by decide) | exact mo_in hS1 (c := 300) rfl (by omega) (by decide) | exact mo_in hS1 (c := 150) rfl (by omega) (by decide) | exact mo_in hS1 (c := 1800) rfl (by omega) (by decide)) ?_
          refine tb_topI (y := (cl (g.2.2.1.1 f)).getD i 0) (by
            rw [nI_clamp (by omega)]
            have hp := hF.2 f hf
            rcases hF.1 f hf with q | ⟨n, hn, q⟩
            · rw [pl_none (s := 190) q] at hp
              rw [← hp] at hi2
              exact absurd hi2 (Nat.not_lt_zero _)
            · rw [pl_some (s := 190) hn q] at hp
              rw [← hp] at hi2 ⊢
              simp only [cl, Option.getD_some, List.length_map, List.length_range] at hi2
              simp [cl, hi2]) ?_
          refine tb_i2s d_Mo_number_44 rfl ?_
          refine tb_topI (y := (cl (g.2.2.1.1 f)).getD i 0) (by
            have := hw f hf i
            unfold narrow at this
            simpa using this) ?_
          refine tb_ireturn d_Mo_number_45 rfl (by exact hw f hf i) ?_
          refine ⟨_, rfl, fun _ => ?_, ⟨_, rfl⟩, ⟨hS1, hH, hC, hF, hSt, hL, hA⟩, o0, hc0⟩
          unfold aNum
          rw [nI_clamp (by omega), nI_clamp (by omega)]
        · have hny : ¬ inI y (ln (g.2.2.1.1 f)) := fun z => by
            rcases hsz with q | q
            · rw [q] at h23; exact h23 z.2
            · rw [q.2] at z
              obtain ⟨j, hj, -⟩ := inI_n (by decide) z
              exact absurd hj (Nat.not_lt_zero _)
          rw [cif_f (fun z => hny z.2)]
          refine tb_aload_0 d_Mo_number_26 rfl ?_
          refine tb_iconst (1) (by decide) d_Mo_number_27 rfl ?_
          refine tb_callVr c_Mo_122 d_Mo_number_28 rfl rfl rfl (Nat.le_of_ble_eq_true rfl) (by exact hS1.k rfl) (ok_Mo_fail hG hS1 1 d) ?_
          refine tb_i2s d_Mo_number_31 rfl ?_
          refine tb_ireturn d_Mo_number_32 rfl (by exact s16_nar _) ?_
          refine ⟨_, rfl, fun z => absurd z (by decide), ⟨_, rfl⟩, (MIs.put ⟨hS1, hH, hC, hF, hSt, hL, hA⟩ (Or.inl rfl)).1, o0.trans (c190b M1 1), c190 M1 1⟩
  · rw [cif_f (fun z => hx z.1)]
    refine tb_okOf hG (by decide) rfl (Nat.le_of_ble_eq_true rfl) rfl ?_
    refine tb_aload_0 d_Mo_number_0 rfl ?_
    refine tb_iconst (0) (by decide) d_Mo_number_1 rfl ?_
    refine p_Mo_89 d_Mo_number_2 rfl rfl (by exact hS.k rfl) ?_
    refine tb_memeq hM1 ?_
    refine tb_iload_1 d_Mo_number_5 rfl ?_
    refine tb_callSr c_Mo_96 d_Mo_number_6 rfl rfl rfl (Nat.le_of_ble_eq_true rfl) (ok_Mo_isFile hG _ d) ?_
    refine tb_if_eq 26 d_Mo_number_9 (by decide) rfl (fun h9 => ?_) (fun h9 => ?_)
    · refine tb_aload_0 d_Mo_number_26 rfl ?_
      refine tb_iconst (1) (by decide) d_Mo_number_27 rfl ?_
      refine tb_callVr c_Mo_122 d_Mo_number_28 rfl rfl rfl (Nat.le_of_ble_eq_true rfl) (by exact hS1.k rfl) (ok_Mo_fail hG hS1 1 d) ?_
      refine tb_i2s d_Mo_number_31 rfl ?_
      refine tb_ireturn d_Mo_number_32 rfl (by exact s16_nar _) ?_
      refine ⟨_, rfl, fun z => absurd z (by decide), ⟨_, rfl⟩, (MIs.put ⟨hS1, hH, hC, hF, hSt, hL, hA⟩ (Or.inl rfl)).1, o0.trans (c190b M1 1), c190 M1 1⟩
    · exact absurd (bI_f hx) h9
theorem ok_Mo_remove (hG : tb_G E) (h : MIs M g) {x : Int32} (d : Nat) : tb_Rel E m_Mo_remove (d + 1) [.inr (.inl 190), .inl x] M (Mp M (oRem g x) 0 (some (aRem g x))) := by
  obtain ⟨hM0, o0⟩ := h.put (j := 0) (x := 0) (Or.inl rfl)
  have hS := h.1
  have hc0 := c190 M 0
  generalize hM1 : tb_sI M 190 0 0 = M1 at hM0 o0 hc0
  have hS1 := hM0.1
  obtain ⟨-, hH, hC, hF, hSt, hL, hA⟩ := hM0
  unfold oRem aRem
  by_cases hx : inI x 12
  · rw [cif_t hx]
    obtain ⟨f, hf, rfl⟩ := inI_n (by decide) hx
    rw [nI_clamp (by omega)]
    have hng := (hF.1 f hf).neg
    have hpn := pl_neg (M := M1) (s := 190) (hF.1 f hf)
    rw [hF.2 f hf] at hpn
    refine tb_okOf hG (by decide) rfl (Nat.le_of_ble_eq_true rfl) rfl ?_
    refine tb_aload_0 d_Mo_remove_0 rfl ?_
    refine tb_iconst (0) (by decide) d_Mo_remove_1 rfl ?_
    refine p_Mo_89 d_Mo_remove_2 rfl rfl (by exact hS.k rfl) ?_
    refine tb_memeq hM1 ?_
    refine tb_iload_1 d_Mo_remove_5 rfl ?_
    refine tb_callSr c_Mo_96 d_Mo_remove_6 rfl rfl rfl (Nat.le_of_ble_eq_true rfl) (ok_Mo_isFile hG _ d) ?_
    refine tb_if_eq 21 d_Mo_remove_9 (by decide) rfl (fun h9 => ?_) (fun h9 => ?_)
    · exact absurd hx (bI_0.mp h9)
    · refine tb_aload_0 d_Mo_remove_12 rfl ?_
      refine g_Mo_7 d_Mo_remove_13 rfl rfl (by first | exact hS1.k rfl) ?_
      refine tb_topR (y := 191) (hS1.mr 1 (by decide)) ?_
      refine tb_iload_1 d_Mo_remove_16 rfl ?_
      refine tb_iaload d_Mo_remove_17 rfl (by first | exact hS1.k rfl) (by first | exact mo_in hS1 (c := 12) rfl (by omega) (by decide) | exact mo_in hS1 (c := 10) rfl (by omega) (by decide) | exact mo_in hS1 (c := 25) rfl (by omega) (by decide) | exact mo_in hS1 (c := 6) rfl (by omega) (by decide) | exact mo_in hS1 (c := 72) rfl (by omega) (by decide) | exact mo_in hS1 (c := 120) rfl (by omega) (by decide) | exact mo_in hS1 (c := 300) rfl (by omega) (by decide) | exact mo_in hS1 (c := 150) rfl (by omega) (by decide) | exact mo_in hS1 (c := 1800) rfl (by omega) (by decide)) ?_
      refine tb_topI (y := tb_I M1 191 f) (by rw [nI_clamp (show f < 2 ^ 31 by omega)]) ?_
      refine tb_if_ge 23 d_Mo_remove_18 (by decide) rfl (fun h18 => ?_) (fun h18 => ?_)
      · have hth : g.2.2.1.1 f ≠ none := fun z => Int32.not_lt.mpr h18 (hng.mpr (hpn.mp z))
        refine tb_aload_0 d_Mo_remove_23 rfl ?_
        refine g_Mo_7 d_Mo_remove_24 rfl rfl (by first | exact hS1.k rfl) ?_
        refine tb_topR (y := 191) (hS1.mr 1 (by decide)) ?_
        refine tb_iload_1 d_Mo_remove_27 rfl ?_
        refine tb_iconst (-1) (by decide) d_Mo_remove_28 rfl ?_
        refine tb_iastore d_Mo_remove_29 rfl (by first | exact hS1.k rfl) (by first | exact mo_in hS1 (c := 12) rfl (by omega) (by decide) | exact mo_in hS1 (c := 10) rfl (by omega) (by decide) | exact mo_in hS1 (c := 25) rfl (by omega) (by decide) | exact mo_in hS1 (c := 6) rfl (by omega) (by decide) | exact mo_in hS1 (c := 72) rfl (by omega) (by decide) | exact mo_in hS1 (c := 120) rfl (by omega) (by decide) | exact mo_in hS1 (c := 300) rfl (by omega) (by decide) | exact mo_in hS1 (c := 150) rfl (by omega) (by decide) | exact mo_in hS1 (c := 1800) rfl (by omega) (by decide)) ?_
        rw [nI_clamp (show f < 2 ^ 31 by omega)]
        refine tb_iconst (1) (by decide) d_Mo_remove_30 rfl ?_
        refine tb_ireturn d_Mo_remove_31 rfl (by first | rfl | assumption) ?_
        rw [bI_t ⟨hx, hth⟩]
        have o1 : On M1 (tb_sI M1 191 f (-1)) (fun q => q = 191 ∨ q = 192) := On.sI (Or.inl rfl)
        have e1 : tb_I (tb_sI M1 191 f (-1)) 191 = va_up (tb_I M1 191) f (-1) := sI_at _ _ _ _
        have e2 : tb_I (tb_sI M1 191 f (-1)) 192 = tb_I M1 192 := sI_of _ _ _ (by decide)
        have hX := MIs.file (g := g) (v := none) ⟨hS1, hH, hC, hF, hSt, hL, hA⟩ hf o1 (fun p hp => by
          rw [e1]
          unfold va_up
          by_cases c : p = f
          · rw [if_pos c]; exact Or.inl rfl
          · rw [if_neg c]; exact hF.1 p hp) (pl_none (by rw [e1]; simp [va_up])) (fun p hp hne => by
          have e3 : tb_I (tb_sI M1 191 f (-1)) 191 p = tb_I M1 191 p := by rw [e1]; simp [va_up, hne]
          exact pl_eq (M' := M1) (s := 190) (s' := 190) e3 (fun i _ => by rw [e2]) (by rw [show tb_I (tb_sI M1 191 f (-1)) (190 + 1) p = _ from e3]; exact hF.1 p hp))
        exact ⟨_, rfl, rfl, hX.1, o0.trans hX.2, by rw [o1.i (by decide)]; exact hc0⟩
      · have hth : g.2.2.1.1 f = none := hpn.mpr (hng.mp (Int32.not_le.mp h18))
        refine tb_iconst (0) (by decide) d_Mo_remove_21 rfl ?_
        refine tb_ireturn d_Mo_remove_22 rfl (by first | rfl | assumption) ?_
        rw [fsS_same g hth, bI_f (fun z => z.2 hth)]
        exact ⟨_, rfl, rfl, ⟨hS1, hH, hC, hF, hSt, hL, hA⟩, o0, hc0⟩
  · rw [cif_f hx, bI_f (fun z => hx z.1)]
    refine tb_okOf hG (by decide) rfl (Nat.le_of_ble_eq_true rfl) rfl ?_
    refine tb_aload_0 d_Mo_remove_0 rfl ?_
    refine tb_iconst (0) (by decide) d_Mo_remove_1 rfl ?_
    refine p_Mo_89 d_Mo_remove_2 rfl rfl (by exact hS.k rfl) ?_
    refine tb_memeq hM1 ?_
    refine tb_iload_1 d_Mo_remove_5 rfl ?_
    refine tb_callSr c_Mo_96 d_Mo_remove_6 rfl rfl rfl (Nat.le_of_ble_eq_true rfl) (ok_Mo_isFile hG _ d) ?_
    refine tb_if_eq 21 d_Mo_remove_9 (by decide) rfl (fun h9 => ?_) (fun h9 => ?_)
    · refine tb_iconst (0) (by decide) d_Mo_remove_21 rfl ?_
      refine tb_ireturn d_Mo_remove_22 rfl (by first | rfl | assumption) ?_
      exact ⟨_, rfl, rfl, ⟨hS1, hH, hC, hF, hSt, hL, hA⟩, o0, hc0⟩
    · exact absurd (bI_f hx) h9
theorem ok_Mo_tear (hG : tb_G E) (h : MIs M g) {x : Int32} (d : Nat) : tb_Rel E m_Mo_tear d [.inr (.inl 190), .inl x] M (Mp M (oTea g x) 0 (some (bI (inI x g.2.2.1.2.1.1)))) := by
  obtain ⟨hM0, o0⟩ := h.put (j := 0) (x := 0) (Or.inl rfl)
  have hS := h.1
  have hc0 := c190 M 0
  generalize hM1 : tb_sI M 190 0 0 = M1 at hM0 o0 hc0
  have hS1 := hM0.1
  obtain ⟨-, hH, hC, hF, hSt, hL, hA⟩ := hM0
  have hc := hSt.2.1
  unfold oTea
  refine tb_okOf hG (by decide) rfl (Nat.le_of_ble_eq_true rfl) rfl ?_
  refine tb_aload_0 d_Mo_tear_0 rfl ?_
  refine tb_iconst (0) (by decide) d_Mo_tear_1 rfl ?_
  refine p_Mo_89 d_Mo_tear_2 rfl rfl (by exact hS.k rfl) ?_
  refine tb_memeq hM1 ?_
  refine tb_iload_1 d_Mo_tear_5 rfl ?_
  refine tb_if_lt 17 d_Mo_tear_6 (by decide) rfl (fun h6 => ?_) (fun h6 => ?_)
  · have hno : ¬ inI x g.2.2.1.2.1.1 := fun z => Int32.not_lt.mpr z.1 h6
    rw [cif_f hno, bI_f hno]
    refine tb_iconst (0) (by decide) d_Mo_tear_17 rfl ?_
    refine tb_ireturn d_Mo_tear_18 rfl (by first | rfl | assumption) ?_
    exact ⟨_, rfl, rfl, ⟨hS1, hH, hC, hF, hSt, hL, hA⟩, o0, hc0⟩
  · refine tb_iload_1 d_Mo_tear_9 rfl ?_
    refine tb_aload_0 d_Mo_tear_10 rfl ?_
    refine g_Mo_176 d_Mo_tear_11 rfl rfl (by first | exact hS1.k rfl) ?_
    refine tb_topI hSt.1 ?_
    refine tb_icmp_lt 19 d_Mo_tear_14 (by decide) rfl (fun h14 => ?_) (fun h14 => ?_)
    · have hy : inI x g.2.2.1.2.1.1 := ⟨Int32.not_lt.mp h6, h14⟩
      rw [cif_t hy, bI_t hy]
      obtain ⟨i, hi, rfl⟩ := inI_n (by omega) hy
      rw [nI_clamp (by omega)]
      refine tb_aload_0 d_Mo_tear_19 rfl ?_
      refine tb_iload_1 d_Mo_tear_20 rfl ?_
      refine p_Mo_176 d_Mo_tear_21 rfl rfl (by first | exact hS1.k rfl) ?_
      refine tb_iconst (1) (by decide) d_Mo_tear_24 rfl ?_
      refine tb_ireturn d_Mo_tear_25 rfl (by first | rfl | assumption) ?_
      have o1 : On M1 (tb_sI M1 190 10 (nI i)) (fun q => q = 190) := On.sI rfl
      have e : ∀ j, j ≠ 10 → tb_I (tb_sI M1 190 10 (nI i)) 190 j = tb_I M1 190 j := fun j hj => by rw [sI_at]; simp [va_up, hj]
      refine ⟨_, rfl, rfl, ⟨o1.sh hS1, hH.of (e 5 (by decide)) (o1.i (by decide)), hC.of (e 7 (by decide)) (o1.i (by decide)) (o1.i (by decide)), hF.of (o1.i (by decide)) (o1.i (by decide)), ⟨by rw [sI_at]; simp [va_up], by show i ≤ 24; omega, fun t ht => ?_⟩, hL.of (e 26 (by decide)) (fun j a b => e j (by omega)) (fun q a b => o1.i (by omega)), by rw [e 39 (by decide)]; exact hA⟩, o0.trans (o1.mono (fun q hq => ⟨by omega, by omega⟩)), by rw [e 0 (by decide)]; exact hc0⟩
      have ht' : t < i := ht
      exact (hSt.2.2 t (by omega)).of (fun q a b => o1.i (by omega))
    · have hno : ¬ inI x g.2.2.1.2.1.1 := fun z => h14 z.2
      rw [cif_f hno, bI_f hno]
      refine tb_iconst (0) (by decide) d_Mo_tear_17 rfl ?_
      refine tb_ireturn d_Mo_tear_18 rfl (by first | rfl | assumption) ?_
      exact ⟨_, rfl, rfl, ⟨hS1, hH, hC, hF, hSt, hL, hA⟩, o0, hc0⟩
theorem ok_Mo_hazard (hG : tb_G E) (h : MIs M g) {x : Int32} (d : Nat) : tb_Rel E m_Mo_hazard d [.inr (.inl 190), .inl x] M (Mp M g 0 (some (aHaz g x))) := by
  obtain ⟨hM0, o0⟩ := h.put (j := 0) (x := 0) (Or.inl rfl)
  have hS := h.1
  have hc0 := c190 M 0
  generalize hM1 : tb_sI M 190 0 0 = M1 at hM0 o0 hc0
  have hS1 := hM0.1
  obtain ⟨-, hH, hC, hF, hSt, hL, hA⟩ := hM0
  unfold aHaz
  refine tb_okOf hG (by decide) rfl (Nat.le_of_ble_eq_true rfl) rfl ?_
  refine tb_aload_0 d_Mo_hazard_0 rfl ?_
  refine tb_iconst (0) (by decide) d_Mo_hazard_1 rfl ?_
  refine p_Mo_89 d_Mo_hazard_2 rfl rfl (by exact hS.k rfl) ?_
  refine tb_memeq hM1 ?_
  refine tb_aload_0 d_Mo_hazard_5 rfl ?_
  refine g_Mo_114 d_Mo_hazard_6 rfl rfl (by first | exact hS1.k rfl) ?_
  refine tb_topI hL.1 ?_
  refine tb_if_eq 19 d_Mo_hazard_9 (by decide) rfl (fun h9 => ?_) (fun h9 => ?_)
  · rw [cif_f (fun z => by rw [z.1] at h9; exact absurd h9 (by decide))]
    refine tb_iconst (-1) (by decide) d_Mo_hazard_19 rfl ?_
    refine tb_ireturn d_Mo_hazard_20 rfl (by first | rfl | assumption) ?_
    exact ⟨_, rfl, rfl, ⟨hS1, hH, hC, hF, hSt, hL, hA⟩, o0, hc0⟩
  · have hb : g.2.2.2.1 = 1 := by
      rcases hL.2.1 with z | z
      · exact absurd z h9
      · exact z
    have hz := (hL.2.2 hb).2
    refine tb_aload_0 d_Mo_hazard_12 rfl ?_
    refine g_Mo_219 d_Mo_hazard_13 rfl rfl (by first | exact hS1.k rfl) ?_
    refine tb_if_ne 21 d_Mo_hazard_16 (by decide) rfl (fun h16 => ?_) (fun h16 => ?_)
    · have hk : ¬ g.2.2.1.2.2.2.1 = 0 := fun z => h16 (hz.1 z)
      obtain ⟨z1, z2, z3, z4, z5, z6, z7⟩ := hz.2 hk
      rw [cif_t ⟨hb, hk⟩]
      refine tb_iload_1 d_Mo_hazard_21 rfl ?_
      by_cases e0 : x = 0
      · refine tb_tableIn (30) 52 d_Mo_hazard_22 (by rw [e0]; decide +kernel) (by rw [e0]; decide +kernel) (by rw [e0]; decide +kernel) (by decide) ?_
        refine tb_aload_0 d_Mo_hazard_52 rfl ?_
        refine g_Mo_219 d_Mo_hazard_53 rfl rfl (by first | exact hS1.k rfl) ?_
        refine tb_ireturn d_Mo_hazard_56 rfl (by first | rfl | assumption) ?_
        refine ⟨_, rfl, ?_, ⟨hS1, hH, hC, hF, hSt, hL, hA⟩, o0, hc0⟩
        rw [if_pos e0, ← z4]; rfl
      by_cases e1 : x = 1
      · refine tb_tableIn (35) 57 d_Mo_hazard_22 (by rw [e1]; decide +kernel) (by rw [e1]; decide +kernel) (by rw [e1]; decide +kernel) (by decide) ?_
        refine tb_aload_0 d_Mo_hazard_57 rfl ?_
        refine g_Mo_222 d_Mo_hazard_58 rfl rfl (by first | exact hS1.k rfl) ?_
        refine tb_ireturn d_Mo_hazard_61 rfl (by first | rfl | assumption) ?_
        refine ⟨_, rfl, ?_, ⟨hS1, hH, hC, hF, hSt, hL, hA⟩, o0, hc0⟩
        rw [if_neg e0, if_pos e1, ← z5]; rfl
      by_cases e2 : x = 2
      · refine tb_tableIn (40) 62 d_Mo_hazard_22 (by rw [e2]; decide +kernel) (by rw [e2]; decide +kernel) (by rw [e2]; decide +kernel) (by decide) ?_
        refine tb_aload_0 d_Mo_hazard_62 rfl ?_
        refine g_Mo_225 d_Mo_hazard_63 rfl rfl (by first | exact hS1.k rfl) ?_
        refine tb_ireturn d_Mo_hazard_66 rfl (by first | rfl | assumption) ?_
        refine ⟨_, rfl, ?_, ⟨hS1, hH, hC, hF, hSt, hL, hA⟩, o0, hc0⟩
        rw [if_neg e0, if_neg e1, if_pos e2, ← z6]; rfl
      by_cases e3 : x = 3
      · refine tb_tableIn (45) 67 d_Mo_hazard_22 (by rw [e3]; decide +kernel) (by rw [e3]; decide +kernel) (by rw [e3]; decide +kernel) (by decide) ?_
        refine tb_aload_0 d_Mo_hazard_67 rfl ?_
        refine g_Mo_228 d_Mo_hazard_68 rfl rfl (by first | exact hS1.k rfl) ?_
        refine tb_ireturn d_Mo_hazard_71 rfl (by first | rfl | assumption) ?_
        refine ⟨_, rfl, ?_, ⟨hS1, hH, hC, hF, hSt, hL, hA⟩, o0, hc0⟩
        rw [if_neg e0, if_neg e1, if_neg e2, if_pos e3, ← z7]; rfl
      refine tb_tableOut 72 d_Mo_hazard_22 (by have z0 := lv_neT e0 (a := 0) (by decide); have z1 := lv_neT e1 (a := 1) (by decide); have z2 := lv_neT e2 (a := 2) (by decide); have z3 := lv_neT e3 (a := 3) (by decide); omega) (by decide) ?_
      refine tb_iconst (-1) (by decide) d_Mo_hazard_72 rfl ?_
      refine tb_ireturn d_Mo_hazard_73 rfl (by first | rfl | assumption) ?_
      refine ⟨_, rfl, ?_, ⟨hS1, hH, hC, hF, hSt, hL, hA⟩, o0, hc0⟩
      rw [if_neg e0, if_neg e1, if_neg e2, if_neg e3]; rfl
    · have hk : g.2.2.1.2.2.2.1 = 0 := Classical.byContradiction (fun z => by
        obtain ⟨z1, -, -, z4, -⟩ := hz.2 z
        rw [z4] at h16
        exact nI_ne0 (by omega) (by omega) h16)
      rw [cif_f (fun z => z.2 hk)]
      refine tb_iconst (-1) (by decide) d_Mo_hazard_19 rfl ?_
      refine tb_ireturn d_Mo_hazard_20 rfl (by first | rfl | assumption) ?_
      exact ⟨_, rfl, rfl, ⟨hS1, hH, hC, hF, hSt, hL, hA⟩, o0, hc0⟩
theorem ok_Mo_wasRun (hG : tb_G E) (h : MIs M g) (x : Int32) (d : Nat) : tb_Ret E m_Mo_wasRun d [.inr (.inl 190), .inl x] M (some (.inl (bI (g.2.2.2.1 = 1 ∧ inI x g.2.1.1)))) (tb_sI M 190 0 0) := by
  obtain ⟨hM0, o0⟩ := h.put (j := 0) (x := 0) (Or.inl rfl)
  have hS := h.1
  have hc0 := c190 M 0
  generalize hM1 : tb_sI M 190 0 0 = M1 at hM0 o0 hc0
  have hS1 := hM0.1
  obtain ⟨-, hH, hC, hF, hSt, hL, hA⟩ := hM0
  refine tb_okOf hG (by decide) rfl (Nat.le_of_ble_eq_true rfl) rfl ?_
  refine tb_aload_0 d_Mo_wasRun_0 rfl ?_
  refine tb_iconst (0) (by decide) d_Mo_wasRun_1 rfl ?_
  refine p_Mo_89 d_Mo_wasRun_2 rfl rfl (by exact hS.k rfl) ?_
  refine tb_memeq hM1 ?_
  refine tb_aload_0 d_Mo_wasRun_5 rfl ?_
  refine g_Mo_114 d_Mo_wasRun_6 rfl rfl (by first | exact hS1.k rfl) ?_
  refine tb_topI hL.1 ?_
  refine tb_if_eq 28 d_Mo_wasRun_9 (by decide) rfl (fun h9 => ?_) (fun h9 => ?_)
  · rw [bI_f (fun z => by rw [z.1] at h9; exact absurd h9 (by decide))]
    refine tb_iconst (0) (by decide) d_Mo_wasRun_28 rfl ?_
    refine tb_ireturn d_Mo_wasRun_29 rfl (by first | rfl | assumption) ?_
    exact ⟨rfl, rfl⟩
  · have hb : g.2.2.2.1 = 1 := by
      rcases hL.2.1 with z | z
      · exact absurd z h9
      · exact z
    refine tb_iload_1 d_Mo_wasRun_12 rfl ?_
    refine tb_if_lt 28 d_Mo_wasRun_13 (by decide) rfl (fun h13 => ?_) (fun h13 => ?_)
    · rw [bI_f (fun z => Int32.not_lt.mpr z.2.1 h13)]
      refine tb_iconst (0) (by decide) d_Mo_wasRun_28 rfl ?_
      refine tb_ireturn d_Mo_wasRun_29 rfl (by first | rfl | assumption) ?_
      exact ⟨rfl, rfl⟩
    · refine tb_iload_1 d_Mo_wasRun_16 rfl ?_
      refine tb_aload_0 d_Mo_wasRun_17 rfl ?_
      refine g_Mo_125 d_Mo_wasRun_18 rfl rfl (by first | exact hS1.k rfl) ?_
      refine tb_topI hC.1 ?_
      refine tb_icmp_ge 28 d_Mo_wasRun_21 (by decide) rfl (fun h21 => ?_) (fun h21 => ?_)
      · rw [bI_f (fun z => Int32.not_lt.mpr h21 z.2.2)]
        refine tb_iconst (0) (by decide) d_Mo_wasRun_28 rfl ?_
        refine tb_ireturn d_Mo_wasRun_29 rfl (by first | rfl | assumption) ?_
        exact ⟨rfl, rfl⟩
      · rw [bI_t ⟨hb, Int32.not_lt.mp h13, Int32.not_le.mp h21⟩]
        refine tb_iconst (1) (by decide) d_Mo_wasRun_24 rfl ?_
        refine tb_goto 29 d_Mo_wasRun_25 (by decide) ?_
        refine tb_ireturn d_Mo_wasRun_29 rfl (by first | rfl | assumption) ?_
        exact ⟨rfl, rfl⟩
theorem ok_Mo_did (hG : tb_G E) (h : MIs M g) {x : Int32} (d : Nat) : tb_Rel E m_Mo_did (d + 1) [.inr (.inl 190), .inl x] M (Mp M g 0 (some (aDid g x))) := by
  obtain ⟨hM0, o0⟩ := h.put (j := 0) (x := 0) (Or.inl rfl)
  have hS := h.1
  have hc0 := c190 M 0
  have hwr := ok_Mo_wasRun hG h x d
  generalize tb_sI M 190 0 0 = M1 at hM0 o0 hc0 hwr
  have hS1 := hM0.1
  obtain ⟨-, hH, hC, hF, hSt, hL, hA⟩ := hM0
  have hn := hC.2.1
  unfold aDid
  refine tb_okOf hG (by decide) rfl (Nat.le_of_ble_eq_true rfl) rfl ?_
  refine tb_aload_0 d_Mo_did_0 rfl ?_
  refine tb_iload_1 d_Mo_did_1 rfl ?_
  refine tb_callVr c_Mo_257 d_Mo_did_2 rfl rfl rfl (Nat.le_of_ble_eq_true rfl) (by exact hS.k rfl) (hwr) ?_
  refine tb_if_eq 32 d_Mo_did_5 (by decide) rfl (fun h5 => ?_) (fun h5 => ?_)
  · rw [cif_f (bI_0.mp h5)]
    refine tb_iconst (-1) (by decide) d_Mo_did_32 rfl ?_
    refine tb_ireturn d_Mo_did_33 rfl (by first | rfl | assumption) ?_
    exact ⟨_, rfl, rfl, ⟨hS1, hH, hC, hF, hSt, hL, hA⟩, o0, hc0⟩
  · have hyes := Classical.not_not.mp (fun z => h5 (bI_f z))
    obtain ⟨k, hk, rfl⟩ := inI_n (by omega) hyes.2
    have hD := (hL.2.2 hyes.1).1 k hk
    rw [cif_t hyes, nI_clamp (show k < 2 ^ 31 by omega)]
    refine tb_aload_0 d_Mo_did_8 rfl ?_
    refine g_Mo_71 d_Mo_did_9 rfl rfl (by first | exact hS1.k rfl) ?_
    refine tb_topR (y := 211) (hS1.mr 29 (by decide)) ?_
    refine tb_iload_1 d_Mo_did_12 rfl ?_
    refine tb_iaload d_Mo_did_13 rfl (by first | exact hS1.k rfl) (by first | exact mo_in hS1 (c := 12) rfl (by omega) (by decide) | exact mo_in hS1 (c := 10) rfl (by omega) (by decide) | exact mo_in hS1 (c := 25) rfl (by omega) (by decide) | exact mo_in hS1 (c := 6) rfl (by omega) (by decide) | exact mo_in hS1 (c := 72) rfl (by omega) (by decide) | exact mo_in hS1 (c := 120) rfl (by omega) (by decide) | exact mo_in hS1 (c := 300) rfl (by omega) (by decide) | exact mo_in hS1 (c := 150) rfl (by omega) (by decide) | exact mo_in hS1 (c := 1800) rfl (by omega) (by decide)) ?_
    refine tb_topI (y := dO (g.2.2.1.2.2.1 k)) (by rw [nI_clamp (show k < 2 ^ 31 by omega)]; exact hD.2.2.2.1) ?_
    refine tb_aload_0 d_Mo_did_14 rfl ?_
    refine g_Mo_68 d_Mo_did_15 rfl rfl (by first | exact hS1.k rfl) ?_
    refine tb_topR (y := 210) (hS1.mr 28 (by decide)) ?_
    refine tb_iload_1 d_Mo_did_18 rfl ?_
    refine tb_zaload d_Mo_did_19 rfl (by first | exact hS1.k rfl) (by first | exact mo_in hS1 (c := 12) rfl (by omega) (by decide) | exact mo_in hS1 (c := 10) rfl (by omega) (by decide) | exact mo_in hS1 (c := 25) rfl (by omega) (by decide) | exact mo_in hS1 (c := 6) rfl (by omega) (by decide) | exact mo_in hS1 (c := 72) rfl (by omega) (by decide) | exact mo_in hS1 (c := 120) rfl (by omega) (by decide) | exact mo_in hS1 (c := 300) rfl (by omega) (by decide) | exact mo_in hS1 (c := 150) rfl (by omega) (by decide) | exact mo_in hS1 (c := 1800) rfl (by omega) (by decide)) ?_
    refine tb_topI (y := dA (g.2.2.1.2.2.1 k)) (by rw [nI_clamp (show k < 2 ^ 31 by omega)]; exact hD.2.2.1) ?_
    refine tb_if_eq 27 d_Mo_did_20 (by decide) rfl (fun h20 => ?_) (fun h20 => ?_)
    · rw [if_pos h20]
      refine tb_iconst (0) (by decide) d_Mo_did_27 rfl ?_
      refine tb_iadd d_Mo_did_28 rfl ?_
      try rw [Int32.add_zero]
      refine tb_goto 33 d_Mo_did_29 (by decide) ?_
      refine tb_ireturn d_Mo_did_33 rfl (by first | rfl | assumption) ?_
      exact ⟨_, rfl, rfl, ⟨hS1, hH, hC, hF, hSt, hL, hA⟩, o0, hc0⟩
    · rw [if_neg h20]
      refine tb_iconst (4) (by decide) d_Mo_did_23 rfl ?_
      refine tb_goto 28 d_Mo_did_24 (by decide) ?_
      refine tb_iadd d_Mo_did_28 rfl ?_
      try rw [Int32.add_zero]
      refine tb_goto 33 d_Mo_did_29 (by decide) ?_
      refine tb_ireturn d_Mo_did_33 rfl (by first | rfl | assumption) ?_
      exact ⟨_, rfl, rfl, ⟨hS1, hH, hC, hF, hSt, hL, hA⟩, o0, hc0⟩
theorem ok_Mo_why (hG : tb_G E) (h : MIs M g) {x : Int32} (d : Nat) : tb_Rel E m_Mo_why (d + 1) [.inr (.inl 190), .inl x] M (Mp M g 0 (some (aWhy g x))) := by
  obtain ⟨hM0, o0⟩ := h.put (j := 0) (x := 0) (Or.inl rfl)
  have hS := h.1
  have hc0 := c190 M 0
  have hwr := ok_Mo_wasRun hG h x d
  generalize tb_sI M 190 0 0 = M1 at hM0 o0 hc0 hwr
  have hS1 := hM0.1
  obtain ⟨-, hH, hC, hF, hSt, hL, hA⟩ := hM0
  have hn := hC.2.1
  unfold aWhy
  refine tb_okOf hG (by decide) rfl (Nat.le_of_ble_eq_true rfl) rfl ?_
  refine tb_aload_0 d_Mo_why_0 rfl ?_
  refine tb_iload_1 d_Mo_why_1 rfl ?_
  refine tb_callVr c_Mo_257 d_Mo_why_2 rfl rfl rfl (Nat.le_of_ble_eq_true rfl) (by exact hS.k rfl) (hwr) ?_
  refine tb_if_eq 27 d_Mo_why_5 (by decide) rfl (fun h5 => ?_) (fun h5 => ?_)
  · rw [cif_f (bI_0.mp h5)]
    refine tb_iconst (-1) (by decide) d_Mo_why_27 rfl ?_
    refine tb_ireturn d_Mo_why_28 rfl (by first | rfl | assumption) ?_
    exact ⟨_, rfl, rfl, ⟨hS1, hH, hC, hF, hSt, hL, hA⟩, o0, hc0⟩
  · have hyes := Classical.not_not.mp (fun z => h5 (bI_f z))
    obtain ⟨k, hk, rfl⟩ := inI_n (by omega) hyes.2
    have hD := (hL.2.2 hyes.1).1 k hk
    rw [cif_t hyes, nI_clamp (show k < 2 ^ 31 by omega)]
    refine tb_aload_0 d_Mo_why_8 rfl ?_
    refine g_Mo_71 d_Mo_why_9 rfl rfl (by first | exact hS1.k rfl) ?_
    refine tb_topR (y := 211) (hS1.mr 29 (by decide)) ?_
    refine tb_iload_1 d_Mo_why_12 rfl ?_
    refine tb_iaload d_Mo_why_13 rfl (by first | exact hS1.k rfl) (by first | exact mo_in hS1 (c := 12) rfl (by omega) (by decide) | exact mo_in hS1 (c := 10) rfl (by omega) (by decide) | exact mo_in hS1 (c := 25) rfl (by omega) (by decide) | exact mo_in hS1 (c := 6) rfl (by omega) (by decide) | exact mo_in hS1 (c := 72) rfl (by omega) (by decide) | exact mo_in hS1 (c := 120) rfl (by omega) (by decide) | exact mo_in hS1 (c := 300) rfl (by omega) (by decide) | exact mo_in hS1 (c := 150) rfl (by omega) (by decide) | exact mo_in hS1 (c := 1800) rfl (by omega) (by decide)) ?_
    refine tb_topI (y := dO (g.2.2.1.2.2.1 k)) (by rw [nI_clamp (show k < 2 ^ 31 by omega)]; exact hD.2.2.2.1) ?_
    refine tb_iconst (1) (by decide) d_Mo_why_14 rfl ?_
    refine tb_icmp_ne 27 d_Mo_why_15 (by decide) rfl (fun h15 => ?_) (fun h15 => ?_)
    · rw [hD.2.2.2.2.2.1 h15]
      refine tb_iconst (-1) (by decide) d_Mo_why_27 rfl ?_
      refine tb_ireturn d_Mo_why_28 rfl (by first | rfl | assumption) ?_
      exact ⟨_, rfl, rfl, ⟨hS1, hH, hC, hF, hSt, hL, hA⟩, o0, hc0⟩
    · 
      refine tb_aload_0 d_Mo_why_18 rfl ?_
      refine g_Mo_74 d_Mo_why_19 rfl rfl (by first | exact hS1.k rfl) ?_
      refine tb_topR (y := 212) (hS1.mr 30 (by decide)) ?_
      refine tb_iload_1 d_Mo_why_22 rfl ?_
      refine tb_iaload d_Mo_why_23 rfl (by first | exact hS1.k rfl) (by first | exact mo_in hS1 (c := 12) rfl (by omega) (by decide) | exact mo_in hS1 (c := 10) rfl (by omega) (by decide) | exact mo_in hS1 (c := 25) rfl (by omega) (by decide) | exact mo_in hS1 (c := 6) rfl (by omega) (by decide) | exact mo_in hS1 (c := 72) rfl (by omega) (by decide) | exact mo_in hS1 (c := 120) rfl (by omega) (by decide) | exact mo_in hS1 (c := 300) rfl (by omega) (by decide) | exact mo_in hS1 (c := 150) rfl (by omega) (by decide) | exact mo_in hS1 (c := 1800) rfl (by omega) (by decide)) ?_
      refine tb_topI (y := dY (g.2.2.1.2.2.1 k)) (by rw [nI_clamp (show k < 2 ^ 31 by omega)]; exact hD.2.2.2.2.1 h15) ?_
      refine tb_goto 28 d_Mo_why_24 (by decide) ?_
      refine tb_ireturn d_Mo_why_28 rfl (by first | rfl | assumption) ?_
      exact ⟨_, rfl, rfl, ⟨hS1, hH, hC, hF, hSt, hL, hA⟩, o0, hc0⟩
theorem ok_Mo_trace (hG : tb_G E) (h : MIs M g) {x y : Int32} (d : Nat) : tb_Rel E m_Mo_trace (d + 1) [.inr (.inl 190), .inl x, .inl y] M (fun v m => (tTra g x = 0 → v = some (.inl (aTra g x y))) ∧ (∃ a, v = some (.inl a)) ∧ MIs m g ∧ On M m AM ∧ tb_I m 190 0 = nI (if tTra g x = 0 then 0 else 1)) := by
  obtain ⟨hM0, o0⟩ := h.put (j := 0) (x := 0) (Or.inl rfl)
  have hS := h.1
  have hc0 := c190 M 0
  generalize hM1 : tb_sI M 190 0 0 = M1 at hM0 o0 hc0
  have hS1 := hM0.1
  obtain ⟨-, hH, hC, hF, hSt, hL, hA⟩ := hM0
  have hc := hSt.2.1
  unfold tTra
  refine tb_okOf hG (by decide) rfl (Nat.le_of_ble_eq_true rfl) rfl ?_
  refine tb_aload_0 d_Mo_trace_0 rfl ?_
  refine tb_iconst (0) (by decide) d_Mo_trace_1 rfl ?_
  refine p_Mo_89 d_Mo_trace_2 rfl rfl (by exact hS.k rfl) ?_
  refine tb_memeq hM1 ?_
  refine tb_iload_1 d_Mo_trace_5 rfl ?_
  refine tb_if_lt 17 d_Mo_trace_6 (by decide) rfl (fun h6 => ?_) (fun h6 => ?_)
  · have hno : ¬ inI x g.2.2.1.2.1.1 := fun z => Int32.not_lt.mpr z.1 h6
    rw [cif_f hno]
    refine tb_aload_0 d_Mo_trace_17 rfl ?_
    refine tb_iconst (1) (by decide) d_Mo_trace_18 rfl ?_
    refine tb_callVr c_Mo_122 d_Mo_trace_19 rfl rfl rfl (Nat.le_of_ble_eq_true rfl) (by exact hS1.k rfl) (ok_Mo_fail hG hS1 1 d) ?_
    refine tb_ireturn d_Mo_trace_22 rfl (by rfl) ?_
    refine ⟨_, rfl, fun z => absurd z (by decide), ⟨_, rfl⟩, (MIs.put ⟨hS1, hH, hC, hF, hSt, hL, hA⟩ (Or.inl rfl)).1, o0.trans (c190b M1 1), c190 M1 1⟩
  · refine tb_iload_1 d_Mo_trace_9 rfl ?_
    refine tb_aload_0 d_Mo_trace_10 rfl ?_
    refine g_Mo_176 d_Mo_trace_11 rfl rfl (by first | exact hS1.k rfl) ?_
    refine tb_topI hSt.1 ?_
    refine tb_icmp_lt 23 d_Mo_trace_14 (by decide) rfl (fun h14 => ?_) (fun h14 => ?_)
    · have hy : inI x g.2.2.1.2.1.1 := ⟨Int32.not_lt.mp h6, h14⟩
      rw [cif_t hy]
      obtain ⟨t, ht, rfl⟩ := inI_n (by omega) hy
      have hT := hSt.2.2 t ht
      refine tb_iload_2 d_Mo_trace_23 rfl ?_
      by_cases e0 : y = 0
      · refine tb_tableIn (36) 60 d_Mo_trace_24 (by rw [e0]; decide +kernel) (by rw [e0]; decide +kernel) (by rw [e0]; decide +kernel) (by decide) ?_
        refine tb_aload_0 d_Mo_trace_60 rfl ?_
        refine g_Mo_31 d_Mo_trace_61 rfl rfl (by first | exact hS1.k rfl) ?_
        refine tb_topR (y := 198) (hS1.mr 11 (by decide)) ?_
        refine tb_iload_1 d_Mo_trace_64 rfl ?_
        refine tb_iaload d_Mo_trace_65 rfl (by first | exact hS1.k rfl) (by first | exact mo_in hS1 (c := 12) rfl (by omega) (by decide) | exact mo_in hS1 (c := 10) rfl (by omega) (by decide) | exact mo_in hS1 (c := 25) rfl (by omega) (by decide) | exact mo_in hS1 (c := 6) rfl (by omega) (by decide) | exact mo_in hS1 (c := 72) rfl (by omega) (by decide) | exact mo_in hS1 (c := 120) rfl (by omega) (by decide) | exact mo_in hS1 (c := 300) rfl (by omega) (by decide) | exact mo_in hS1 (c := 150) rfl (by omega) (by decide) | exact mo_in hS1 (c := 1800) rfl (by omega) (by decide)) ?_
        refine tb_topI (y := nI (tT (g.2.2.1.2.1.2 t)).length) (by rw [nI_clamp (show t < 2 ^ 31 by omega)]; exact hT.1.1) ?_
        refine tb_ireturn d_Mo_trace_66 rfl (by first | rfl | assumption) ?_
        refine ⟨_, rfl, fun _ => ?_, ⟨_, rfl⟩, ⟨hS1, hH, hC, hF, hSt, hL, hA⟩, o0, hc0⟩
        unfold aTra prA
        rw [nI_clamp (show t < 2 ^ 31 by omega), if_pos e0]
      by_cases e1 : y = 1
      · refine tb_tableIn (43) 67 d_Mo_trace_24 (by rw [e1]; decide +kernel) (by rw [e1]; decide +kernel) (by rw [e1]; decide +kernel) (by decide) ?_
        refine tb_aload_0 d_Mo_trace_67 rfl ?_
        refine g_Mo_37 d_Mo_trace_68 rfl rfl (by first | exact hS1.k rfl) ?_
        refine tb_topR (y := 200) (hS1.mr 13 (by decide)) ?_
        refine tb_iload_1 d_Mo_trace_71 rfl ?_
        refine tb_iaload d_Mo_trace_72 rfl (by first | exact hS1.k rfl) (by first | exact mo_in hS1 (c := 12) rfl (by omega) (by decide) | exact mo_in hS1 (c := 10) rfl (by omega) (by decide) | exact mo_in hS1 (c := 25) rfl (by omega) (by decide) | exact mo_in hS1 (c := 6) rfl (by omega) (by decide) | exact mo_in hS1 (c := 72) rfl (by omega) (by decide) | exact mo_in hS1 (c := 120) rfl (by omega) (by decide) | exact mo_in hS1 (c := 300) rfl (by omega) (by decide) | exact mo_in hS1 (c := 150) rfl (by omega) (by decide) | exact mo_in hS1 (c := 1800) rfl (by omega) (by decide)) ?_
        refine tb_topI (y := tRd (g.2.2.1.2.1.2 t)) (by rw [nI_clamp (show t < 2 ^ 31 by omega)]; exact hT.2.1) ?_
        refine tb_ireturn d_Mo_trace_73 rfl (by first | rfl | assumption) ?_
        refine ⟨_, rfl, fun _ => ?_, ⟨_, rfl⟩, ⟨hS1, hH, hC, hF, hSt, hL, hA⟩, o0, hc0⟩
        unfold aTra prA
        rw [nI_clamp (show t < 2 ^ 31 by omega), if_neg e0, if_pos e1]
      by_cases e2 : y = 2
      · refine tb_tableIn (50) 74 d_Mo_trace_24 (by rw [e2]; decide +kernel) (by rw [e2]; decide +kernel) (by rw [e2]; decide +kernel) (by decide) ?_
        refine tb_aload_0 d_Mo_trace_74 rfl ?_
        refine g_Mo_40 d_Mo_trace_75 rfl rfl (by first | exact hS1.k rfl) ?_
        refine tb_topR (y := 201) (hS1.mr 14 (by decide)) ?_
        refine tb_iload_1 d_Mo_trace_78 rfl ?_
        refine tb_iaload d_Mo_trace_79 rfl (by first | exact hS1.k rfl) (by first | exact mo_in hS1 (c := 12) rfl (by omega) (by decide) | exact mo_in hS1 (c := 10) rfl (by omega) (by decide) | exact mo_in hS1 (c := 25) rfl (by omega) (by decide) | exact mo_in hS1 (c := 6) rfl (by omega) (by decide) | exact mo_in hS1 (c := 72) rfl (by omega) (by decide) | exact mo_in hS1 (c := 120) rfl (by omega) (by decide) | exact mo_in hS1 (c := 300) rfl (by omega) (by decide) | exact mo_in hS1 (c := 150) rfl (by omega) (by decide) | exact mo_in hS1 (c := 1800) rfl (by omega) (by decide)) ?_
        refine tb_topI (y := tAk (g.2.2.1.2.1.2 t)) (by rw [nI_clamp (show t < 2 ^ 31 by omega)]; exact hT.2.2.1) ?_
        refine tb_ireturn d_Mo_trace_80 rfl (by first | rfl | assumption) ?_
        refine ⟨_, rfl, fun _ => ?_, ⟨_, rfl⟩, ⟨hS1, hH, hC, hF, hSt, hL, hA⟩, o0, hc0⟩
        unfold aTra prA
        rw [nI_clamp (show t < 2 ^ 31 by omega), if_neg e0, if_neg e1, if_pos e2]
      by_cases e3 : y = 3
      · refine tb_tableIn (57) 81 d_Mo_trace_24 (by rw [e3]; decide +kernel) (by rw [e3]; decide +kernel) (by rw [e3]; decide +kernel) (by decide) ?_
        refine tb_aload_0 d_Mo_trace_81 rfl ?_
        refine g_Mo_52 d_Mo_trace_82 rfl rfl (by first | exact hS1.k rfl) ?_
        refine tb_topR (y := 205) (hS1.mr 18 (by decide)) ?_
        refine tb_iload_1 d_Mo_trace_85 rfl ?_
        refine tb_iaload d_Mo_trace_86 rfl (by first | exact hS1.k rfl) (by first | exact mo_in hS1 (c := 12) rfl (by omega) (by decide) | exact mo_in hS1 (c := 10) rfl (by omega) (by decide) | exact mo_in hS1 (c := 25) rfl (by omega) (by decide) | exact mo_in hS1 (c := 6) rfl (by omega) (by decide) | exact mo_in hS1 (c := 72) rfl (by omega) (by decide) | exact mo_in hS1 (c := 120) rfl (by omega) (by decide) | exact mo_in hS1 (c := 300) rfl (by omega) (by decide) | exact mo_in hS1 (c := 150) rfl (by omega) (by decide) | exact mo_in hS1 (c := 1800) rfl (by omega) (by decide)) ?_
        refine tb_topI (y := tWr (g.2.2.1.2.1.2 t)) (by rw [nI_clamp (show t < 2 ^ 31 by omega)]; exact hT.2.2.2.2.2.1) ?_
        refine tb_ireturn d_Mo_trace_87 rfl (by first | rfl | assumption) ?_
        refine ⟨_, rfl, fun _ => ?_, ⟨_, rfl⟩, ⟨hS1, hH, hC, hF, hSt, hL, hA⟩, o0, hc0⟩
        unfold aTra prA
        rw [nI_clamp (show t < 2 ^ 31 by omega), if_neg e0, if_neg e1, if_neg e2, if_pos e3]
      by_cases e4 : y = 4
      · refine tb_tableIn (64) 88 d_Mo_trace_24 (by rw [e4]; decide +kernel) (by rw [e4]; decide +kernel) (by rw [e4]; decide +kernel) (by decide) ?_
        refine tb_aload_0 d_Mo_trace_88 rfl ?_
        refine g_Mo_52 d_Mo_trace_89 rfl rfl (by first | exact hS1.k rfl) ?_
        refine tb_topR (y := 205) (hS1.mr 18 (by decide)) ?_
        refine tb_iload_1 d_Mo_trace_92 rfl ?_
        refine tb_iaload d_Mo_trace_93 rfl (by first | exact hS1.k rfl) (by first | exact mo_in hS1 (c := 12) rfl (by omega) (by decide) | exact mo_in hS1 (c := 10) rfl (by omega) (by decide) | exact mo_in hS1 (c := 25) rfl (by omega) (by decide) | exact mo_in hS1 (c := 6) rfl (by omega) (by decide) | exact mo_in hS1 (c := 72) rfl (by omega) (by decide) | exact mo_in hS1 (c := 120) rfl (by omega) (by decide) | exact mo_in hS1 (c := 300) rfl (by omega) (by decide) | exact mo_in hS1 (c := 150) rfl (by omega) (by decide) | exact mo_in hS1 (c := 1800) rfl (by omega) (by decide)) ?_
        refine tb_topI (y := tWr (g.2.2.1.2.1.2 t)) (by rw [nI_clamp (show t < 2 ^ 31 by omega)]; exact hT.2.2.2.2.2.1) ?_
        refine tb_if_ge 101 d_Mo_trace_94 (by decide) rfl (fun h94 => ?_) (fun h94 => ?_)
        · have hw : ¬ tWr (g.2.2.1.2.1.2 t) = -1 := fun z => by rw [z] at h94; exact absurd h94 (by decide)
          have hs := hT.2.2.2.2.2.2.2 hw
          have hl := pl_len (M := M1) (s := 205) hs.1
          rw [hs.2] at hl
          have hval : tb_I M1 206 t = cif (tWr (g.2.2.1.2.1.2 t) = -1 ∨ tRs (g.2.2.1.2.1.2 t) = none) (-1) (nI (ln (tRs (g.2.2.1.2.1.2 t)))) := by
            rw [show tb_I M1 206 t = _ from hl.1]
            cases hv : tRs (g.2.2.1.2.1.2 t) with
            | none => rw [cif_t (Or.inr rfl)]
            | some l => rw [cif_f (fun z => by rcases z with z | z; exact hw z; cases z)]; rfl
          refine tb_aload_0 d_Mo_trace_101 rfl ?_
          refine g_Mo_55 d_Mo_trace_102 rfl rfl (by first | exact hS1.k rfl) ?_
          refine tb_topR (y := 206) (hS1.mr 19 (by decide)) ?_
          refine tb_iload_1 d_Mo_trace_105 rfl ?_
          refine tb_iaload d_Mo_trace_106 rfl (by first | exact hS1.k rfl) (by first | exact mo_in hS1 (c := 12) rfl (by omega) (by decide) | exact mo_in hS1 (c := 10) rfl (by omega) (by decide) | exact mo_in hS1 (c := 25) rfl (by omega) (by decide) | exact mo_in hS1 (c := 6) rfl (by omega) (by decide) | exact mo_in hS1 (c := 72) rfl (by omega) (by decide) | exact mo_in hS1 (c := 120) rfl (by omega) (by decide) | exact mo_in hS1 (c := 300) rfl (by omega) (by decide) | exact mo_in hS1 (c := 150) rfl (by omega) (by decide) | exact mo_in hS1 (c := 1800) rfl (by omega) (by decide)) ?_
          refine tb_topI (y := cif (tWr (g.2.2.1.2.1.2 t) = -1 ∨ tRs (g.2.2.1.2.1.2 t) = none) (-1) (nI (ln (tRs (g.2.2.1.2.1.2 t))))) (by rw [nI_clamp (show t < 2 ^ 31 by omega)]; exact hval) ?_
          refine tb_ireturn d_Mo_trace_107 rfl (by first | rfl | assumption) ?_
          refine ⟨_, rfl, fun _ => ?_, ⟨_, rfl⟩, ⟨hS1, hH, hC, hF, hSt, hL, hA⟩, o0, hc0⟩
          unfold aTra prA
          rw [nI_clamp (show t < 2 ^ 31 by omega), if_neg e0, if_neg e1, if_neg e2, if_neg e3, if_pos e4]
        · have hw : tWr (g.2.2.1.2.1.2 t) = -1 := by
            rcases hT.2.2.2.2.2.2.1 with z | ⟨q, hq, z⟩
            · exact z
            · exact absurd (by rw [z]; exact nI_pos' (by omega)) h94
          have hval : (-1 : Int32) = cif (tWr (g.2.2.1.2.1.2 t) = -1 ∨ tRs (g.2.2.1.2.1.2 t) = none) (-1) (nI (ln (tRs (g.2.2.1.2.1.2 t)))) := by rw [cif_t (Or.inl hw)]
          refine tb_iconst (-1) (by decide) d_Mo_trace_97 rfl ?_
          refine tb_topI hval ?_
          refine tb_goto 107 d_Mo_trace_98 (by decide) ?_
          refine tb_ireturn d_Mo_trace_107 rfl (by first | rfl | assumption) ?_
          refine ⟨_, rfl, fun _ => ?_, ⟨_, rfl⟩, ⟨hS1, hH, hC, hF, hSt, hL, hA⟩, o0, hc0⟩
          unfold aTra prA
          rw [nI_clamp (show t < 2 ^ 31 by omega), if_neg e0, if_neg e1, if_neg e2, if_neg e3, if_pos e4]
      refine tb_tableOut 108 d_Mo_trace_24 (by have z0 := lv_neT e0 (a := 0) (by decide); have z1 := lv_neT e1 (a := 1) (by decide); have z2 := lv_neT e2 (a := 2) (by decide); have z3 := lv_neT e3 (a := 3) (by decide); have z4 := lv_neT e4 (a := 4) (by decide); omega) (by decide) ?_
      refine tb_iconst (-1) (by decide) d_Mo_trace_108 rfl ?_
      refine tb_ireturn d_Mo_trace_109 rfl (by first | rfl | assumption) ?_
      refine ⟨_, rfl, fun _ => ?_, ⟨_, rfl⟩, ⟨hS1, hH, hC, hF, hSt, hL, hA⟩, o0, hc0⟩
      unfold aTra prA
      rw [nI_clamp (show t < 2 ^ 31 by omega), if_neg e0, if_neg e1, if_neg e2, if_neg e3, if_neg e4]
    · have hno : ¬ inI x g.2.2.1.2.1.1 := fun z => h14 z.2
      rw [cif_f hno]
      refine tb_aload_0 d_Mo_trace_17 rfl ?_
      refine tb_iconst (1) (by decide) d_Mo_trace_18 rfl ?_
      refine tb_callVr c_Mo_122 d_Mo_trace_19 rfl rfl rfl (Nat.le_of_ble_eq_true rfl) (by exact hS1.k rfl) (ok_Mo_fail hG hS1 1 d) ?_
      refine tb_ireturn d_Mo_trace_22 rfl (by rfl) ?_
      refine ⟨_, rfl, fun z => absurd z (by decide), ⟨_, rfl⟩, (MIs.put ⟨hS1, hH, hC, hF, hSt, hL, hA⟩ (Or.inl rfl)).1, o0.trans (c190b M1 1), c190 M1 1⟩
end Mo3
