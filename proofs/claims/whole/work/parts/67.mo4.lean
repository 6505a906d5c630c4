/-! The reference: put, the script. -/
section Mo4
variable {E : tb_E} {M M1 : tb_M} {g : Sg}
theorem pl_app {s f k : Nat} {y : Int32} (hk : k < 6) (hL : Le6 (tb_I M (s + 1) f)) (hl : ln (pl M s f) = k) (e1 : tb_I M1 (s + 1) f = nI (k + 1)) (e2 : ∀ i, i < 6 → tb_I M1 (s + 2) (6 * f + i) = if i = k then y else tb_I M (s + 2) (6 * f + i)) : pl M1 s f = some (cl (pl M s f) ++ [y]) := by
  rw [pl_some (n := k + 1) (by omega) e1]
  congr 1
  rw [List.range_succ, List.map_append]
  congr 1
  · rcases hL with h | ⟨n, hn, h⟩
    · rw [pl_none h] at hl ⊢
      have : k = 0 := by rw [← hl]; rfl
      subst this
      rfl
    · rw [pl_some hn h] at hl ⊢
      have : k = n := by rw [← hl]; simp [ln]
      subst this
      show _ = List.map _ _
      apply List.map_congr_left
      intro i hi
      have := List.mem_range.mp hi
      show tb_I M1 (s + 2) (6 * f + i) = _
      rw [e2 i (by omega), if_neg (by omega)]
  · show [tb_I M1 (s + 2) (6 * f + k)] = [y]
    rw [e2 k hk, if_pos rfl]
theorem ok_Mo_put (hG : tb_G E) (h : MIs M g) {x y : Int32} (d : Nat) : tb_Rel E m_Mo_put (d + 1) [.inr (.inl 190), .inl x, .inl y] M (Mp M (oPut g x y) 0 (some (aPut g x))) := by
  obtain ⟨hM0, o0⟩ := h.put (j := 0) (x := 0) (Or.inl rfl)
  have hS := h.1
  have hc0 := c190 M 0
  generalize hM1 : tb_sI M 190 0 0 = M1 at hM0 o0 hc0
  have hS1 := hM0.1
  obtain ⟨-, hH, hC, hF, hSt, hL, hA⟩ := hM0
  unfold oPut aPut
  by_cases hx : inI x 12
  · obtain ⟨f, hf, rfl⟩ := inI_n (by decide) hx
    rw [nI_clamp (by omega)]
    have hl := pl_len (M := M1) (s := 190) (hF.1 f hf)
    have hng := (hF.1 f hf).neg
    have hpf := hF.2 f hf
    rw [hpf] at hl
    have h6 : tb_I M1 191 f = 6 ↔ ¬ ln (g.2.2.1.1 f) < 6 := by
      have hl1 := hl.1
      have hl2 := hl.2
      cases hv : g.2.2.1.1 f with
      | none =>
        rw [hv] at hl1
        rw [show tb_I M1 191 f = _ from hl1]
        exact ⟨fun z => absurd z (by decide), fun z => absurd (show ln none < 6 by decide) z⟩
      | some l =>
        rw [hv] at hl1 hl2
        rw [show tb_I M1 191 f = _ from hl1]
        have hl2' : l.length ≤ 6 := hl2
        show nI l.length = nI 6 ↔ ¬ l.length < 6
        rw [nI_eq (by omega) (by omega)]
        omega
    have hrest : ln (g.2.2.1.1 f) < 6 → ∀ M2, On M1 M2 (fun q => q = 191) → tb_I M2 191 = va_up (tb_I M1 191) f (nI (ln (g.2.2.1.1 f))) → tb_Wp E m_Mo_put (d + 1) 0 0 41 [some (.inr 190), some (.inl (nI f)), some (.inl y)] [] M2 (fun o m => ∃ v, o = .inl v ∧ Mp M (fsS g f (some (cl (g.2.2.1.1 f) ++ [y]))) 0 (some (nI (ln (g.2.2.1.1 f) + 1))) v m) := by
      intro hlt M2 o2 v2
      have hS2 := o2.sh hS1
      generalize hk : ln (g.2.2.1.1 f) = k at hlt v2
      refine tb_aload_0 d_Mo_put_41 rfl ?_
      refine g_Mo_13 d_Mo_put_42 rfl rfl (by first | exact hS2.k rfl) ?_
      refine tb_topR (y := 192) (hS2.mr 2 (by decide)) ?_
      refine tb_bipush (6) (by decide) d_Mo_put_45 rfl ?_
      refine tb_iload_1 d_Mo_put_47 rfl ?_
      refine tb_imul d_Mo_put_48 rfl ?_
      refine tb_topI (show (6 : Int32) * nI f = nI (6 * f) from nI_mul 6 f) ?_
      refine tb_aload_0 d_Mo_put_49 rfl ?_
      refine g_Mo_7 d_Mo_put_50 rfl rfl (by first | exact hS2.k rfl) ?_
      refine tb_topR (y := 191) (hS2.mr 1 (by decide)) ?_
      refine tb_iload_1 d_Mo_put_53 rfl ?_
      refine tb_iaload d_Mo_put_54 rfl (by first | exact hS2.k rfl) (by first | exact mo_in hS2 (c := 12) rfl (by omega) (by decide) | exact mo_in hS2 (c := 10) rfl (by omega) (by decide) | exact mo_in hS2 (c := 25) rfl (by omega) (by decide) | exact mo_in hS2 (c := 6) rfl (by omega) (by decide) | exact mo_in hS2 (c := 72) rfl (by omega) (by decide) | exact mo_in hS2 (c := 120) rfl (by omega) (by decide) | exact mo_in hS2 (c := 300) rfl (by omega) (by decide) | exact mo_in hS2 (c := 150) rfl (by omega) (by decide) | exact mo_in hS2 (c := 1800) rfl (by omega) (by decide)) ?_
      refine tb_topI (y := nI k) (by rw [nI_clamp (show f < 2 ^ 31 by omega)]; rw [v2]; simp [va_up]) ?_
      refine tb_iadd d_Mo_put_55 rfl ?_
      rw [nI_add]
      refine tb_iload_2 d_Mo_put_56 rfl ?_
      refine tb_iastore d_Mo_put_57 rfl (by first | exact hS2.k rfl) (by first | exact mo_in hS2 (c := 12) rfl (by omega) (by decide) | exact mo_in hS2 (c := 10) rfl (by omega) (by decide) | exact mo_in hS2 (c := 25) rfl (by omega) (by decide) | exact mo_in hS2 (c := 6) rfl (by omega) (by decide) | exact mo_in hS2 (c := 72) rfl (by omega) (by decide) | exact mo_in hS2 (c := 120) rfl (by omega) (by decide) | exact mo_in hS2 (c := 300) rfl (by omega) (by decide) | exact mo_in hS2 (c := 150) rfl (by omega) (by decide) | exact mo_in hS2 (c := 1800) rfl (by omega) (by decide)) ?_
      rw [nI_clamp (show 6 * f + k < 2 ^ 31 by omega)]
      refine tb_aload_0 d_Mo_put_58 rfl ?_
      refine g_Mo_7 d_Mo_put_59 rfl rfl (by first | exact hS2.k rfl) ?_
      refine tb_topR (y := 191) (hS2.mr 1 (by decide)) ?_
      refine tb_iload_1 d_Mo_put_62 rfl ?_
      refine tb_dup2 d_Mo_put_63 rfl ?_
      refine tb_iaload d_Mo_put_64 rfl (by first | exact hS2.k rfl) (by first | exact mo_in hS2 (c := 12) rfl (by omega) (by decide) | exact mo_in hS2 (c := 10) rfl (by omega) (by decide) | exact mo_in hS2 (c := 25) rfl (by omega) (by decide) | exact mo_in hS2 (c := 6) rfl (by omega) (by decide) | exact mo_in hS2 (c := 72) rfl (by omega) (by decide) | exact mo_in hS2 (c := 120) rfl (by omega) (by decide) | exact mo_in hS2 (c := 300) rfl (by omega) (by decide) | exact mo_in hS2 (c := 150) rfl (by omega) (by decide) | exact mo_in hS2 (c := 1800) rfl (by omega) (by decide)) ?_
      refine tb_topI (y := nI k) (by rw [nI_clamp (show f < 2 ^ 31 by omega)]; rw [sI_of _ _ _ (by decide), v2]; simp [va_up]) ?_
      refine tb_iconst (1) (by decide) d_Mo_put_65 rfl ?_
      refine tb_iadd d_Mo_put_66 rfl ?_
      rw [nI_1]
      refine tb_iastore d_Mo_put_67 rfl (by first | exact hS2.k rfl) (by first | exact mo_in hS2 (c := 12) rfl (by omega) (by decide) | exact mo_in hS2 (c := 10) rfl (by omega) (by decide) | exact mo_in hS2 (c := 25) rfl (by omega) (by decide) | exact mo_in hS2 (c := 6) rfl (by omega) (by decide) | exact mo_in hS2 (c := 72) rfl (by omega) (by decide) | exact mo_in hS2 (c := 120) rfl (by omega) (by decide) | exact mo_in hS2 (c := 300) rfl (by omega) (by decide) | exact mo_in hS2 (c := 150) rfl (by omega) (by decide) | exact mo_in hS2 (c := 1800) rfl (by omega) (by decide)) ?_
      rw [nI_clamp (show f < 2 ^ 31 by omega)]
      refine tb_aload_0 d_Mo_put_68 rfl ?_
      refine g_Mo_7 d_Mo_put_69 rfl rfl (by first | exact hS2.k rfl) ?_
      refine tb_topR (y := 191) (hS2.mr 1 (by decide)) ?_
      refine tb_iload_1 d_Mo_put_72 rfl ?_
      refine tb_iaload d_Mo_put_73 rfl (by first | exact hS2.k rfl) (by first | exact mo_in hS2 (c := 12) rfl (by omega) (by decide) | exact mo_in hS2 (c := 10) rfl (by omega) (by decide) | exact mo_in hS2 (c := 25) rfl (by omega) (by decide) | exact mo_in hS2 (c := 6) rfl (by omega) (by decide) | exact mo_in hS2 (c := 72) rfl (by omega) (by decide) | exact mo_in hS2 (c := 120) rfl (by omega) (by decide) | exact mo_in hS2 (c := 300) rfl (by omega) (by decide) | exact mo_in hS2 (c := 150) rfl (by omega) (by decide) | exact mo_in hS2 (c := 1800) rfl (by omega) (by decide)) ?_
      refine tb_topI (y := nI (k + 1)) (by rw [nI_clamp (show f < 2 ^ 31 by omega)]; rw [sI_at]; simp [va_up]) ?_
      refine tb_ireturn d_Mo_put_74 rfl (by first | rfl | assumption) ?_
      have e1 : tb_I (tb_sI (tb_sI M2 192 (6 * f + k) y) 191 f (nI (k + 1))) 191 = va_up (tb_I M1 191) f (nI (k + 1)) := by
        rw [sI_at, sI_of _ _ _ (by decide), v2]
        funext i
        unfold va_up
        by_cases c : i = f
        · rw [if_pos c, if_pos c]
        · rw [if_neg c, if_neg c, if_neg c]
      have e2 : tb_I (tb_sI (tb_sI M2 192 (6 * f + k) y) 191 f (nI (k + 1))) 192 = va_up (tb_I M1 192) (6 * f + k) y := by rw [sI_of _ _ _ (by decide), sI_at, o2.i (by decide)]
      have o3 : On M1 (tb_sI (tb_sI M2 192 (6 * f + k) y) 191 f (nI (k + 1))) (fun q => q = 191 ∨ q = 192) := (o2.mono (fun q hq => Or.inl hq)).trans ((On.sI (A := fun q => q = 191 ∨ q = 192) (Or.inr rfl)).trans (On.sI (A := fun q => q = 191 ∨ q = 192) (Or.inl rfl)))
      generalize (tb_sI (tb_sI M2 192 (6 * f + k) y) 191 f (nI (k + 1))) = M3 at e1 e2 o3
      have hpa : pl M3 190 f = some (cl (pl M1 190 f) ++ [y]) := pl_app (s := 190) hlt (hF.1 f hf) (by rw [hpf]; exact hk) (by rw [e1]; simp [va_up]) (fun i hi => by
        rw [e2]
        unfold va_up
        by_cases c : i = k
        · rw [if_pos (by omega), if_pos c]
        · rw [if_neg (by omega), if_neg c])
      rw [hpf] at hpa
      have hX := MIs.file (g := g) ⟨hS1, hH, hC, hF, hSt, hL, hA⟩ hf o3 (fun p hp => by
        rw [e1]
        unfold va_up
        by_cases c : p = f
        · rw [if_pos c]; exact Or.inr ⟨k + 1, by omega, rfl⟩
        · rw [if_neg c]; exact hF.1 p hp) hpa (fun p hp hne => by
        have e3 : tb_I M3 191 p = tb_I M1 191 p := by rw [e1]; simp [va_up, hne]
        refine pl_eq (M' := M1) (s := 190) (s' := 190) e3 (fun i hi => ?_) (by rw [show tb_I M3 (190 + 1) p = _ from e3]; exact hF.1 p hp)
        show tb_I M3 192 (6 * p + i) = tb_I M1 192 (6 * p + i)
        rw [e2]
        unfold va_up
        rw [if_neg (by omega)])
      exact ⟨_, rfl, rfl, hX.1, o0.trans hX.2, by rw [o3.i (by decide)]; exact hc0⟩
    refine tb_okOf hG (by decide) rfl (Nat.le_of_ble_eq_true rfl) rfl ?_
    refine tb_aload_0 d_Mo_put_0 rfl ?_
    refine tb_iconst (0) (by decide) d_Mo_put_1 rfl ?_
    refine p_Mo_89 d_Mo_put_2 rfl rfl (by exact hS.k rfl) ?_
    refine tb_memeq hM1 ?_
    refine tb_iload_1 d_Mo_put_5 rfl ?_
    refine tb_callSr c_Mo_96 d_Mo_put_6 rfl rfl rfl (Nat.le_of_ble_eq_true rfl) (ok_Mo_isFile hG _ d) ?_
    refine tb_if_eq 23 d_Mo_put_9 (by decide) rfl (fun h9 => ?_) (fun h9 => ?_)
    · exact absurd hx (bI_0.mp h9)
    · refine tb_aload_0 d_Mo_put_12 rfl ?_
      refine g_Mo_7 d_Mo_put_13 rfl rfl (by first | exact hS1.k rfl) ?_
      refine tb_topR (y := 191) (hS1.mr 1 (by decide)) ?_
      refine tb_iload_1 d_Mo_put_16 rfl ?_
      refine tb_iaload d_Mo_put_17 rfl (by first | exact hS1.k rfl) (by first | exact mo_in hS1 (c := 12) rfl (by omega) (by decide) | exact mo_in hS1 (c := 10) rfl (by omega) (by decide) | exact mo_in hS1 (c := 25) rfl (by omega) (by decide) | exact mo_in hS1 (c := 6) rfl (by omega) (by decide) | exact mo_in hS1 (c := 72) rfl (by omega) (by decide) | exact mo_in hS1 (c := 120) rfl (by omega) (by decide) | exact mo_in hS1 (c := 300) rfl (by omega) (by decide) | exact mo_in hS1 (c := 150) rfl (by omega) (by decide) | exact mo_in hS1 (c := 1800) rfl (by omega) (by decide)) ?_
      refine tb_topI (y := tb_I M1 191 f) (by rw [nI_clamp (show f < 2 ^ 31 by omega)]) ?_
      refine tb_bipush (6) (by decide) d_Mo_put_18 rfl ?_
      refine tb_icmp_ne 25 d_Mo_put_20 (by decide) rfl (fun h20 => ?_) (fun h20 => ?_)
      · have hlt : ln (g.2.2.1.1 f) < 6 := Classical.not_not.mp (fun z => h20 (h6.mpr z))
        rw [cif_t ⟨hx, hlt⟩, cif_t ⟨hx, hlt⟩]
        refine tb_aload_0 d_Mo_put_25 rfl ?_
        refine g_Mo_7 d_Mo_put_26 rfl rfl (by first | exact hS1.k rfl) ?_
        refine tb_topR (y := 191) (hS1.mr 1 (by decide)) ?_
        refine tb_iload_1 d_Mo_put_29 rfl ?_
        refine tb_iaload d_Mo_put_30 rfl (by first | exact hS1.k rfl) (by first | exact mo_in hS1 (c := 12) rfl (by omega) (by decide) | exact mo_in hS1 (c := 10) rfl (by omega) (by decide) | exact mo_in hS1 (c := 25) rfl (by omega) (by decide) | exact mo_in hS1 (c := 6) rfl (by omega) (by decide) | exact mo_in hS1 (c := 72) rfl (by omega) (by decide) | exact mo_in hS1 (c := 120) rfl (by omega) (by decide) | exact mo_in hS1 (c := 300) rfl (by omega) (by decide) | exact mo_in hS1 (c := 150) rfl (by omega) (by decide) | exact mo_in hS1 (c := 1800) rfl (by omega) (by decide)) ?_
        refine tb_topI (y := tb_I M1 191 f) (by rw [nI_clamp (show f < 2 ^ 31 by omega)]) ?_
        refine tb_if_ge 41 d_Mo_put_31 (by decide) rfl (fun h31 => ?_) (fun h31 => ?_)
        · refine hrest hlt M1 On.rf ?_
          have hl1 := hl.1
          funext i
          unfold va_up
          by_cases c : i = f
          · rw [if_pos c, c]
            cases hv : g.2.2.1.1 f with
            | none =>
              rw [hv] at hl1
              rw [show tb_I M1 191 f = _ from hl1] at h31
              exact absurd h31 (by decide)
            | some l => rw [hv] at hl1; exact hl1
          · rw [if_neg c]
        · have hn1 : tb_I M1 191 f = -1 := hng.mp (Int32.not_le.mp h31)
          have hnn : g.2.2.1.1 f = none := by rw [← hpf]; exact pl_none hn1
          refine tb_aload_0 d_Mo_put_34 rfl ?_
          refine g_Mo_7 d_Mo_put_35 rfl rfl (by first | exact hS1.k rfl) ?_
          refine tb_topR (y := 191) (hS1.mr 1 (by decide)) ?_
          refine tb_iload_1 d_Mo_put_38 rfl ?_
          refine tb_iconst (0) (by decide) d_Mo_put_39 rfl ?_
          refine tb_iastore d_Mo_put_40 rfl (by first | exact hS1.k rfl) (by first | exact mo_in hS1 (c := 12) rfl (by omega) (by decide) | exact mo_in hS1 (c := 10) rfl (by omega) (by decide) | exact mo_in hS1 (c := 25) rfl (by omega) (by decide) | exact mo_in hS1 (c := 6) rfl (by omega) (by decide) | exact mo_in hS1 (c := 72) rfl (by omega) (by decide) | exact mo_in hS1 (c := 120) rfl (by omega) (by decide) | exact mo_in hS1 (c := 300) rfl (by omega) (by decide) | exact mo_in hS1 (c := 150) rfl (by omega) (by decide) | exact mo_in hS1 (c := 1800) rfl (by omega) (by decide)) ?_
          rw [nI_clamp (show f < 2 ^ 31 by omega)]
          refine hrest hlt _ (On.sI rfl) ?_
          rw [sI_at, hnn]
          rfl
      · have hlt := h6.mp h20
        rw [cif_f (fun z => hlt z.2), cif_f (fun z => hlt z.2)]
        refine tb_iconst (-1) (by decide) d_Mo_put_23 rfl ?_
        refine tb_ireturn d_Mo_put_24 rfl (by first | rfl | assumption) ?_
        exact ⟨_, rfl, rfl, ⟨hS1, hH, hC, hF, hSt, hL, hA⟩, o0, hc0⟩
  · rw [cif_f (fun z => hx z.1), cif_f (fun z => hx z.1)]
    refine tb_okOf hG (by decide) rfl (Nat.le_of_ble_eq_true rfl) rfl ?_
    refine tb_aload_0 d_Mo_put_0 rfl ?_
    refine tb_iconst (0) (by decide) d_Mo_put_1 rfl ?_
    refine p_Mo_89 d_Mo_put_2 rfl rfl (by exact hS.k rfl) ?_
    refine tb_memeq hM1 ?_
    refine tb_iload_1 d_Mo_put_5 rfl ?_
    refine tb_callSr c_Mo_96 d_Mo_put_6 rfl rfl rfl (Nat.le_of_ble_eq_true rfl) (ok_Mo_isFile hG _ d) ?_
    refine tb_if_eq 23 d_Mo_put_9 (by decide) rfl (fun h9 => ?_) (fun h9 => ?_)
    · refine tb_iconst (-1) (by decide) d_Mo_put_23 rfl ?_
      refine tb_ireturn d_Mo_put_24 rfl (by first | rfl | assumption) ?_
      exact ⟨_, rfl, rfl, ⟨hS1, hH, hC, hF, hSt, hL, hA⟩, o0, hc0⟩
    · exact absurd (bI_f hx) h9
/-- a text kept at k: the reference's cells -/
def KpP (M M1 : tb_M) (k m j : Nat) : Prop := On M M1 (fun q => q = 196 ∨ q = 197) ∧ tb_I M1 196 = va_up (tb_I M 196) k (nI m) ∧ tb_I M1 197 = fun q => if 12 * k ≤ q ∧ q < 12 * k + j then tb_I M 195 (q - 12 * k) else tb_I M 197 q
theorem lp_Mo_keep (hS : Sh M) {k m : Nat} (hk : k < 10) {d rc rs : Nat} {Q : tb_O → tb_M → Prop} (hQ : ∀ M1, KpP M M1 k m 12 → Q (.inl none) (tb_sI (tb_sI M1 190 5 0) 190 26 0)) : ∀ (w j : Nat), 12 - j = w → j ≤ 12 → ∀ M1, KpP M M1 k m j → tb_Wp E m_Mo_keep d rc rs 12 [some (.inr 190), some (.inl (nI k)), some (.inl (nI j))] [] M1 Q := by
  intro w
  induction w using Nat.strongRecOn with
  | ind w ih =>
    intro j hw hj M1 hK
    have hS1 := hK.1.sh hS
    refine tb_iload_2 d_Mo_keep_12 rfl ?_
    refine tb_bipush (12) (by decide) d_Mo_keep_13 rfl ?_
    refine tb_icmp_ge 41 d_Mo_keep_15 (by decide) rfl (fun h15 => ?_) (fun h15 => ?_)
    · have hje : 12 ≤ j := (nI_leI (a := 12) (b := j) (by omega) (by omega)).mp h15
      have hje2 : j = 12 := by omega
      subst hje2
      refine tb_aload_0 d_Mo_keep_41 rfl ?_
      refine tb_iconst (0) (by decide) d_Mo_keep_42 rfl ?_
      refine p_Mo_93 d_Mo_keep_43 rfl rfl (by first | exact hS1.k rfl) ?_
      refine tb_aload_0 d_Mo_keep_46 rfl ?_
      refine tb_iconst (0) (by decide) d_Mo_keep_47 rfl ?_
      refine p_Mo_114 d_Mo_keep_48 rfl rfl (by first | exact hS1.k rfl) (by first | exact Or.inl rfl | exact Or.inr rfl | assumption) ?_
      refine tb_vreturn d_Mo_keep_51 rfl ?_
      exact hQ M1 hK
    · have hlt : j < 12 := Nat.lt_of_not_le (fun q => h15 ((nI_leI (a := 12) (b := j) (by omega) (by omega)).mpr q))
      refine tb_aload_0 d_Mo_keep_18 rfl ?_
      refine g_Mo_28 d_Mo_keep_19 rfl rfl (by first | exact hS1.k rfl) ?_
      refine tb_topR (y := 197) (hS1.mr 9 (by decide)) ?_
      refine tb_bipush (12) (by decide) d_Mo_keep_22 rfl ?_
      refine tb_iload_1 d_Mo_keep_24 rfl ?_
      refine tb_imul d_Mo_keep_25 rfl ?_
      refine tb_topI (show (12 : Int32) * nI k = nI (12 * k) from nI_mul 12 k) ?_
      refine tb_iload_2 d_Mo_keep_26 rfl ?_
      refine tb_iadd d_Mo_keep_27 rfl ?_
      rw [nI_add]
      refine tb_aload_0 d_Mo_keep_28 rfl ?_
      refine g_Mo_22 d_Mo_keep_29 rfl rfl (by first | exact hS1.k rfl) ?_
      refine tb_topR (y := 195) (hS1.mr 6 (by decide)) ?_
      refine tb_iload_2 d_Mo_keep_32 rfl ?_
      refine tb_iaload d_Mo_keep_33 rfl (by first | exact hS1.k rfl) (by first | exact mo_in hS1 (c := 12) rfl (by omega) (by decide) | exact mo_in hS1 (c := 10) rfl (by omega) (by decide) | exact mo_in hS1 (c := 25) rfl (by omega) (by decide) | exact mo_in hS1 (c := 6) rfl (by omega) (by decide) | exact mo_in hS1 (c := 72) rfl (by omega) (by decide) | exact mo_in hS1 (c := 120) rfl (by omega) (by decide) | exact mo_in hS1 (c := 300) rfl (by omega) (by decide) | exact mo_in hS1 (c := 150) rfl (by omega) (by decide) | exact mo_in hS1 (c := 1800) rfl (by omega) (by decide)) ?_
      refine tb_topI (y := tb_I M 195 j) (by rw [nI_clamp (show j < 2 ^ 31 by omega), hK.1.i (by decide)]) ?_
      refine tb_iastore d_Mo_keep_34 rfl (by first | exact hS1.k rfl) (by first | exact mo_in hS1 (c := 12) rfl (by omega) (by decide) | exact mo_in hS1 (c := 10) rfl (by omega) (by decide) | exact mo_in hS1 (c := 25) rfl (by omega) (by decide) | exact mo_in hS1 (c := 6) rfl (by omega) (by decide) | exact mo_in hS1 (c := 72) rfl (by omega) (by decide) | exact mo_in hS1 (c := 120) rfl (by omega) (by decide) | exact mo_in hS1 (c := 300) rfl (by omega) (by decide) | exact mo_in hS1 (c := 150) rfl (by omega) (by decide) | exact mo_in hS1 (c := 1800) rfl (by omega) (by decide)) ?_
      rw [nI_clamp (show 12 * k + j < 2 ^ 31 by omega)]
      refine tb_iinc_2 (1) d_Mo_keep_35 rfl (by decide) (by decide) ?_
      refine tb_goto 12 d_Mo_keep_38 (by decide) ?_
      rw [nI_1]
      refine ih (12 - (j + 1)) (by omega) (j + 1) rfl (by omega) _ ⟨hK.1.trans (On.sI (Or.inr rfl)), by rw [sI_of _ _ _ (by decide)]; exact hK.2.1, ?_⟩
      rw [sI_at, hK.2.2]
      funext q
      unfold va_up
      by_cases c : q = 12 * k + j
      · rw [if_pos c, if_pos (by omega), c, show 12 * k + j - 12 * k = j by omega]
      · rw [if_neg c]
        show (if 12 * k ≤ q ∧ q < 12 * k + j then tb_I M 195 (q - 12 * k) else tb_I M 197 q) = _
        by_cases c2 : 12 * k ≤ q ∧ q < 12 * k + j
        · rw [if_pos c2, if_pos (by omega)]
        · rw [if_neg c2, if_neg (by omega)]
theorem ok_Mo_keep (hG : tb_G E) (hS : Sh M) {k m : Nat} (hk : k < 10) (hm : tb_I M 190 5 = nI m) (d : Nat) : tb_Rel E m_Mo_keep d [.inr (.inl 190), .inl (nI k)] M (fun v M2 => v = none ∧ ∃ M1, KpP M M1 k m 12 ∧ M2 = tb_sI (tb_sI M1 190 5 0) 190 26 0) := by
  refine tb_okOf hG (by decide) rfl (Nat.le_of_ble_eq_true rfl) rfl ?_
  refine tb_aload_0 d_Mo_keep_0 rfl ?_
  refine g_Mo_25 d_Mo_keep_1 rfl rfl (by first | exact hS.k rfl) ?_
  refine tb_topR (y := 196) (hS.mr 8 (by decide)) ?_
  refine tb_iload_1 d_Mo_keep_4 rfl ?_
  refine tb_aload_0 d_Mo_keep_5 rfl ?_
  refine g_Mo_93 d_Mo_keep_6 rfl rfl (by first | exact hS.k rfl) ?_
  refine tb_topI hm ?_
  refine tb_iastore d_Mo_keep_9 rfl (by first | exact hS.k rfl) (by first | exact mo_in hS (c := 12) rfl (by omega) (by decide) | exact mo_in hS (c := 10) rfl (by omega) (by decide) | exact mo_in hS (c := 25) rfl (by omega) (by decide) | exact mo_in hS (c := 6) rfl (by omega) (by decide) | exact mo_in hS (c := 72) rfl (by omega) (by decide) | exact mo_in hS (c := 120) rfl (by omega) (by decide) | exact mo_in hS (c := 300) rfl (by omega) (by decide) | exact mo_in hS (c := 150) rfl (by omega) (by decide) | exact mo_in hS (c := 1800) rfl (by omega) (by decide)) ?_
  rw [nI_clamp (show k < 2 ^ 31 by omega)]
  refine tb_iconst (0) (by decide) d_Mo_keep_10 rfl ?_
  refine tb_istore_2 d_Mo_keep_11 rfl (by decide) ?_
  refine lp_Mo_keep hS hk (fun M1 q => ⟨none, rfl, rfl, M1, q, rfl⟩) 12 0 rfl (by omega) _ ⟨On.sI (Or.inl rfl), sI_at _ _ _ _, ?_⟩
  rw [sI_of _ _ _ (by decide)]
  funext q
  rw [if_neg (by omega)]
/-- what is typed becomes the k-th command; c: how many there are then -/
theorem MIs.keep (h : MIs M g) {k c : Nat} (hk : k < 10) (hkc : k < c) (hc10 : c ≤ 10) (hcn : c = g.2.1.1 ∨ (k = g.2.1.1 ∧ c = g.2.1.1 + 1)) (hC : isC g.1) {M0 M2 : tb_M} (hK : KpP M M0 k g.1.length 12) (o2 : On M0 M2 (fun q => q = 190)) (h5 : tb_I M2 190 5 = 0) (h7 : tb_I M2 190 7 = nI c) (h26 : tb_I M2 190 26 = 0) (hj : ∀ j, j = 10 ∨ j = 39 → tb_I M2 190 j = tb_I M 190 j) : MIs M2 ([], (c, updS g.2.1.2 k g.1), g.2.2.1, 0, g.2.2.2.2) ∧ On M M2 AM := by
  obtain ⟨hS, hH, hSc, hF, hSt, hL, hA⟩ := h
  have oo : ∀ q, q ≠ 190 → q ≠ 196 → q ≠ 197 → tb_I M2 q = tb_I M q := fun q a b c => by rw [o2.i a, hK.1.i (by omega)]
  have e196 : tb_I M2 196 = va_up (tb_I M 196) k (nI g.1.length) := by rw [o2.i (by decide)]; exact hK.2.1
  have e197 : tb_I M2 197 = fun q => if 12 * k ≤ q ∧ q < 12 * k + 12 then tb_I M 195 (q - 12 * k) else tb_I M 197 q := by rw [o2.i (by decide)]; exact hK.2.2
  refine ⟨⟨o2.sh (hK.1.sh hS), ⟨by rw [h5]; rfl, Nat.zero_le _, fun i hi => absurd hi (Nat.not_lt_zero _)⟩, ⟨h7, hc10, fun i hi => ?_⟩, hF.of (oo _ (by decide) (by decide) (by decide)) (oo _ (by decide) (by decide) (by decide)), hSt.of (hj 10 (Or.inl rfl)) (fun q a b => oo q (by omega) (by omega) (by omega)), MLg.no h26, by rw [hj 39 (Or.inr rfl)]; exact hA⟩, (hK.1.mono (fun q hq => by rcases hq with z | z <;> exact ⟨by omega, by omega⟩)).trans (o2.mono (fun q hq => ⟨by omega, by omega⟩))⟩
  have hi' : i < c := hi
  show tb_I M2 196 i = nI (updS g.2.1.2 k g.1 i).length ∧ (updS g.2.1.2 k g.1 i).length ≤ 12 ∧ (∀ j, j < (updS g.2.1.2 k g.1 i).length → tb_I M2 197 (12 * i + j) = la (updS g.2.1.2 k g.1 i) j) ∧ isC (updS g.2.1.2 k g.1 i)
  rw [e196, e197]
  unfold updS va_up
  by_cases e : i = k
  · rw [if_pos e, if_pos e]
    refine ⟨rfl, hH.2.1, fun j hj' => ?_, hC⟩
    have := hH.2.1
    show (if 12 * k ≤ 12 * i + j ∧ 12 * i + j < 12 * k + 12 then tb_I M 195 (12 * i + j - 12 * k) else tb_I M 197 (12 * i + j)) = la g.1 j
    rw [if_pos (by omega), show 12 * i + j - 12 * k = j by omega]
    exact hH.2.2 j hj'
  · rw [if_neg e, if_neg e]
    obtain ⟨a1, a2, a3, a4⟩ := hSc.2.2 i (by omega)
    refine ⟨a1, a2, fun j hj' => ?_, a4⟩
    show (if 12 * k ≤ 12 * i + j ∧ 12 * i + j < 12 * k + 12 then tb_I M 195 (12 * i + j - 12 * k) else tb_I M 197 (12 * i + j)) = la (g.2.1.2 i) j
    rw [if_neg (by omega)]
    exact a3 j hj'
theorem MIs.clear (h : MIs M g) : MIs (tb_sI M 190 5 0) ([], g.2) ∧ On M (tb_sI M 190 5 0) AM := by
  obtain ⟨hS, hH, hC, hF, hSt, hL, hA⟩ := h
  have o : On M (tb_sI M 190 5 0) (fun q => q = 190) := On.sI rfl
  have e : ∀ i, i ≠ 5 → tb_I (tb_sI M 190 5 0) 190 i = tb_I M 190 i := fun i hi => by rw [sI_at]; simp [va_up, hi]
  exact ⟨⟨o.sh hS, ⟨by rw [sI_at]; simp [va_up]; rfl, Nat.zero_le _, fun i hi => absurd hi (Nat.not_lt_zero _)⟩, hC.of (e 7 (by omega)) (o.i (by decide)) (o.i (by decide)), hF.of (o.i (by decide)) (o.i (by decide)), hSt.of (e 10 (by omega)) (fun q h1 h2 => o.i (by omega)), hL.of (e 26 (by omega)) (fun i h1 h2 => e i (by omega)) (fun q h1 h2 => o.i (by omega)), by rw [e 39 (by omega)]; exact hA⟩, o.mono (fun q hq => ⟨by omega, by omega⟩)⟩
def cCmd (t : Nat) : Nat := t
theorem ok_Mo_command (hG : tb_G E) (h : MIs M g) (d : Nat) : tb_Rel E m_Mo_command (d + 5) [.inr (.inl 190)] M (fun v m => (tCmd g = 0 → v = some (.inl (nI g.2.1.1))) ∧ (∃ a, v = some (.inl a)) ∧ MIs m (oCmd g) ∧ On M m AM ∧ tb_I m 190 0 = nI (tCmd g)) := by
  obtain ⟨hM0, o0⟩ := h.put (j := 0) (x := 0) (Or.inl rfl)
  have hS := h.1
  have hc0 := c190 M 0
  generalize hM1 : tb_sI M 190 0 0 = M1 at hM0 o0 hc0
  have hS1 := hM0.1
  obtain ⟨-, hH, hC, hF, hSt, hL, hA⟩ := hM0
  have hn := hC.2.1
  unfold tCmd oCmd
  refine tb_okOf hG (by decide) rfl (Nat.le_of_ble_eq_true rfl) rfl ?_
  refine tb_aload_0 d_Mo_command_0 rfl ?_
  refine tb_iconst (0) (by decide) d_Mo_command_1 rfl ?_
  refine p_Mo_89 d_Mo_command_2 rfl rfl (by exact hS.k rfl) ?_
  refine tb_memeq hM1 ?_
  refine tb_aload_0 d_Mo_command_5 rfl ?_
  refine tb_callVr c_Mo_118 d_Mo_command_6 rfl rfl rfl (Nat.le_of_ble_eq_true rfl) (by first | exact hS1.k rfl) (ok_Mo_cmd hG hS1 hH d) ?_
  refine tb_if_ne 23 d_Mo_command_9 (by decide) rfl (fun h9 => ?_) (fun h9 => ?_)
  · have hc : isC g.1 := Classical.not_not.mp (fun z => h9 (bI_f z))
    rw [cif_t hc, cif_t hc]
    refine tb_aload_0 d_Mo_command_23 rfl ?_
    refine g_Mo_125 d_Mo_command_24 rfl rfl (by first | exact hS1.k rfl) ?_
    refine tb_topI hC.1 ?_
    refine tb_bipush (10) (by decide) d_Mo_command_27 rfl ?_
    refine tb_icmp_ne 38 d_Mo_command_29 (by decide) rfl (fun h29 => ?_) (fun h29 => ?_)
    · have hf : ¬ g.2.1.1 = 10 := fun z => h29 (by rw [z]; rfl)
      rw [if_neg hf, if_neg hf]
      refine tb_aload_0 d_Mo_command_38 rfl ?_
      refine tb_aload_0 d_Mo_command_39 rfl ?_
      refine g_Mo_125 d_Mo_command_40 rfl rfl (by first | exact hS1.k rfl) ?_
      refine tb_topI hC.1 ?_
      refine tb_callVq c_Mo_128 d_Mo_command_43 rfl rfl rfl (Nat.le_of_ble_eq_true rfl) (by first | exact hS1.k rfl) (ok_Mo_keep hG hS1 (show g.2.1.1 < 10 by omega) hH.1 (d + 4)) (fun v1 M2 hP => ?_)
      obtain ⟨rfl, M0, hK, rfl⟩ := hP
      have hSK := hK.1.sh hS1
      have e0 : tb_I M0 190 = tb_I M1 190 := hK.1.i (by decide)
      have eP : tb_I (tb_sI (tb_sI M0 190 5 0) 190 26 0) 190 = va_up (va_up (tb_I M1 190) 5 0) 26 0 := by rw [sI_at, sI_at, e0]
      have oP : On M0 (tb_sI (tb_sI M0 190 5 0) 190 26 0) (fun q => q = 190) := (On.sI (A := fun q => q = 190) rfl).trans (On.sI (A := fun q => q = 190) rfl)
      generalize (tb_sI (tb_sI M0 190 5 0) 190 26 0) = M3 at eP oP
      have hS3 := oP.sh hSK
      refine tb_aload_0 d_Mo_command_46 rfl ?_
      refine tb_dup d_Mo_command_47 rfl ?_
      refine g_Mo_125 d_Mo_command_48 rfl rfl (by exact hS3.k rfl) ?_
      refine tb_topI (y := nI g.2.1.1) (by rw [eP]; simp [va_up]; exact hC.1) ?_
      refine tb_iconst (1) (by decide) d_Mo_command_51 rfl ?_
      refine tb_iadd d_Mo_command_52 rfl ?_
      rw [nI_1]
      refine p_Mo_125 d_Mo_command_53 rfl rfl (by exact hS3.k rfl) ?_
      refine tb_aload_0 d_Mo_command_56 rfl ?_
      refine g_Mo_125 d_Mo_command_57 rfl rfl (by exact hS3.k rfl) ?_
      refine tb_topI (y := nI (g.2.1.1 + 1)) (by rw [sI_at]; simp [va_up]) ?_
      refine tb_iconst (1) (by decide) d_Mo_command_60 rfl ?_
      refine tb_isub d_Mo_command_61 rfl ?_
      rw [nI_pred]
      refine tb_ireturn d_Mo_command_62 rfl (by first | rfl | assumption) ?_
      have oQ : On M0 (tb_sI M3 190 7 (nI (g.2.1.1 + 1))) (fun q => q = 190) := oP.trans (On.sI (A := fun q => q = 190) rfl)
      have eQ : tb_I (tb_sI M3 190 7 (nI (g.2.1.1 + 1))) 190 = va_up (va_up (va_up (tb_I M1 190) 5 0) 26 0) 7 (nI (g.2.1.1 + 1)) := by rw [sI_at, eP]
      have hX := MIs.keep (g := g) (k := g.2.1.1) (c := g.2.1.1 + 1) ⟨hS1, hH, hC, hF, hSt, hL, hA⟩ (by omega) (by omega) (by omega) (Or.inr ⟨rfl, rfl⟩) hc hK oQ (by rw [eQ]; simp [va_up]) (by rw [eQ]; simp [va_up]) (by rw [eQ]; simp [va_up]) (fun j hj => by rw [eQ]; rcases hj with rfl | rfl <;> simp [va_up])
      exact ⟨_, rfl, fun _ => rfl, ⟨_, rfl⟩, hX.1, o0.trans hX.2, by rw [eQ]; simp [va_up]; exact hc0⟩
    · have hf : g.2.1.1 = 10 := (nI_eq (by omega) (by decide)).mp (show nI g.2.1.1 = nI 10 from h29)
      rw [if_pos hf, if_pos hf]
      refine tb_aload_0 d_Mo_command_32 rfl ?_
      refine tb_iconst (2) (by decide) d_Mo_command_33 rfl ?_
      refine tb_callVr c_Mo_122 d_Mo_command_34 rfl rfl rfl (Nat.le_of_ble_eq_true rfl) (by first | exact hS1.k rfl) (ok_Mo_fail hG hS1 2 (d + 4)) ?_
      refine tb_ireturn d_Mo_command_37 rfl (by first | rfl | assumption) ?_
      exact ⟨_, rfl, fun z => absurd z (by decide), ⟨_, rfl⟩, (MIs.put (g := g) ⟨hS1, hH, hC, hF, hSt, hL, hA⟩ (Or.inl rfl)).1, o0.trans (c190b _ 2), c190 _ 2⟩
  · have hc : ¬ isC g.1 := bI_0.mp h9
    rw [cif_f hc, cif_f hc]
    obtain ⟨hX, oX⟩ := MIs.clear (g := g) ⟨hS1, hH, hC, hF, hSt, hL, hA⟩
    refine tb_aload_0 d_Mo_command_12 rfl ?_
    refine tb_iconst (0) (by decide) d_Mo_command_13 rfl ?_
    refine p_Mo_93 d_Mo_command_14 rfl rfl (by first | exact hS1.k rfl) ?_
    refine tb_aload_0 d_Mo_command_17 rfl ?_
    refine tb_iconst (1) (by decide) d_Mo_command_18 rfl ?_
    refine tb_callVr c_Mo_122 d_Mo_command_19 rfl rfl rfl (Nat.le_of_ble_eq_true rfl) (by exact hX.1.k rfl) (ok_Mo_fail hG hX.1 1 (d + 4)) ?_
    refine tb_ireturn d_Mo_command_22 rfl (by first | rfl | assumption) ?_
    exact ⟨_, rfl, fun z => absurd z (by decide), ⟨_, rfl⟩, (hX.put (Or.inl rfl)).1, (o0.trans oX).trans (c190b _ 1), c190 _ 1⟩
noncomputable def cEdi (g : Sg) (x : Int32) : Nat := cif (inI x g.2.1.1) (cif (isC g.1) 0 2) 1
theorem ok_Mo_edit (hG : tb_G E) (h : MIs M g) {x : Int32} (d : Nat) : tb_Rel E m_Mo_edit (d + 5) [.inr (.inl 190), .inl x] M (Mp M (oEdi g x) (cEdi g x) none) := by
  obtain ⟨hM0, o0⟩ := h.put (j := 0) (x := 0) (Or.inl rfl)
  have hS := h.1
  have hc0 := c190 M 0
  generalize hM1 : tb_sI M 190 0 0 = M1 at hM0 o0 hc0
  have hS1 := hM0.1
  obtain ⟨-, hH, hC, hF, hSt, hL, hA⟩ := hM0
  have hn := hC.2.1
  unfold cEdi oEdi
  refine tb_okOf hG (by decide) rfl (Nat.le_of_ble_eq_true rfl) rfl ?_
  refine tb_aload_0 d_Mo_edit_0 rfl ?_
  refine tb_iconst (0) (by decide) d_Mo_edit_1 rfl ?_
  refine p_Mo_89 d_Mo_edit_2 rfl rfl (by exact hS.k rfl) ?_
  refine tb_memeq hM1 ?_
  refine tb_iload_1 d_Mo_edit_5 rfl ?_
  refine tb_if_lt 17 d_Mo_edit_6 (by decide) rfl (fun h6 => ?_) (fun h6 => ?_)
  · have hno : ¬ inI x g.2.1.1 := fun z => Int32.not_lt.mpr z.1 h6
    rw [cif_f hno, cif_f hno]
    refine tb_aload_0 d_Mo_edit_17 rfl ?_
    refine tb_iconst (1) (by decide) d_Mo_edit_18 rfl ?_
    refine p_Mo_89 d_Mo_edit_19 rfl rfl (by first | exact hS1.k rfl) ?_
    refine tb_vreturn d_Mo_edit_22 rfl ?_
    exact ⟨_, rfl, rfl, (MIs.put (g := g) ⟨hS1, hH, hC, hF, hSt, hL, hA⟩ (Or.inl rfl)).1, o0.trans (c190b _ 1), c190 _ 1⟩
  · refine tb_iload_1 d_Mo_edit_9 rfl ?_
    refine tb_aload_0 d_Mo_edit_10 rfl ?_
    refine g_Mo_125 d_Mo_edit_11 rfl rfl (by first | exact hS1.k rfl) ?_
    refine tb_topI hC.1 ?_
    refine tb_icmp_lt 23 d_Mo_edit_14 (by decide) rfl (fun h14 => ?_) (fun h14 => ?_)
    · have hy : inI x g.2.1.1 := ⟨Int32.not_lt.mp h6, h14⟩
      rw [cif_t hy, cif_t hy]
      obtain ⟨k, hk, rfl⟩ := inI_n (by omega) hy
      rw [nI_clamp (show k < 2 ^ 31 by omega)]
      refine tb_aload_0 d_Mo_edit_23 rfl ?_
      refine tb_callVr c_Mo_118 d_Mo_edit_24 rfl rfl rfl (Nat.le_of_ble_eq_true rfl) (by first | exact hS1.k rfl) (ok_Mo_cmd hG hS1 hH d) ?_
      refine tb_if_ne 41 d_Mo_edit_27 (by decide) rfl (fun h27 => ?_) (fun h27 => ?_)
      · have hc : isC g.1 := Classical.not_not.mp (fun z => h27 (bI_f z))
        rw [cif_t hc, cif_t hc]
        refine tb_aload_0 d_Mo_edit_41 rfl ?_
        refine tb_iload_1 d_Mo_edit_42 rfl ?_
        refine tb_callVq c_Mo_128 d_Mo_edit_43 rfl rfl rfl (Nat.le_of_ble_eq_true rfl) (by first | exact hS1.k rfl) (ok_Mo_keep hG hS1 (show k < 10 by omega) hH.1 (d + 4)) (fun v1 M2 hP => ?_)
        obtain ⟨rfl, M0, hK, rfl⟩ := hP
        have e0 : tb_I M0 190 = tb_I M1 190 := hK.1.i (by decide)
        refine tb_vreturn d_Mo_edit_46 rfl ?_
        have eP : tb_I (tb_sI (tb_sI M0 190 5 0) 190 26 0) 190 = va_up (va_up (tb_I M1 190) 5 0) 26 0 := by rw [sI_at, sI_at, e0]
        have oP : On M0 (tb_sI (tb_sI M0 190 5 0) 190 26 0) (fun q => q = 190) := (On.sI (A := fun q => q = 190) rfl).trans (On.sI (A := fun q => q = 190) rfl)
        have hX := MIs.keep (g := g) (k := k) (c := g.2.1.1) ⟨hS1, hH, hC, hF, hSt, hL, hA⟩ (by omega) (by omega) (by omega) (Or.inl rfl) hc hK oP (by rw [eP]; simp [va_up]) (by rw [eP]; simp [va_up]; exact hC.1) (by rw [eP]; simp [va_up]) (fun j hj => by rw [eP]; rcases hj with rfl | rfl <;> simp [va_up])
        exact ⟨_, rfl, rfl, hX.1, o0.trans hX.2, by rw [eP]; simp [va_up]; exact hc0⟩
      · have hc : ¬ isC g.1 := bI_0.mp h27
        rw [cif_f hc, cif_f hc]
        obtain ⟨hX, oX⟩ := MIs.clear (g := g) ⟨hS1, hH, hC, hF, hSt, hL, hA⟩
        refine tb_aload_0 d_Mo_edit_30 rfl ?_
        refine tb_iconst (0) (by decide) d_Mo_edit_31 rfl ?_
        refine p_Mo_93 d_Mo_edit_32 rfl rfl (by first | exact hS1.k rfl) ?_
        refine tb_aload_0 d_Mo_edit_35 rfl ?_
        refine tb_iconst (2) (by decide) d_Mo_edit_36 rfl ?_
        refine p_Mo_89 d_Mo_edit_37 rfl rfl (by first | exact hS1.k rfl) ?_
        refine tb_vreturn d_Mo_edit_40 rfl ?_
        exact ⟨_, rfl, rfl, (hX.put (Or.inl rfl)).1, (o0.trans oX).trans (c190b _ 2), c190 _ 2⟩
    · have hno : ¬ inI x g.2.1.1 := fun z => h14 z.2
      rw [cif_f hno, cif_f hno]
      refine tb_aload_0 d_Mo_edit_17 rfl ?_
      refine tb_iconst (1) (by decide) d_Mo_edit_18 rfl ?_
      refine p_Mo_89 d_Mo_edit_19 rfl rfl (by first | exact hS1.k rfl) ?_
      refine tb_vreturn d_Mo_edit_22 rfl ?_
      exact ⟨_, rfl, rfl, (MIs.put (g := g) ⟨hS1, hH, hC, hF, hSt, hL, hA⟩ (Or.inl rfl)).1, o0.trans (c190b _ 1), c190 _ 1⟩
end Mo4
