/-! The reference: hazards, going ahead. -/
def hzS (M : tb_M) (h : HzV) : tb_M := tb_sI (tb_sI (tb_sI (tb_sI M 190 35 (nI h.1)) 190 36 (nI h.2.1)) 190 37 (nI h.2.2.1)) 190 38 h.2.2.2
def HzN (M M1 : tb_M) (h : HzV) : Prop := (h.1 = 0 ∧ M1 = M) ∨ (¬ h.1 = 0 ∧ M1 = hzS M h)
section Mo10
variable {E : tb_E} {M M1 : tb_M} {fs : Fs} {n i j t u : Nat} {x y : TrV} {S : StV} {D : Nat → DeV} {sc : Nat → List Int32} {R : RS}
theorem MDe.dn {k : Nat} {z : DeV} (h : MDe M k z) : tb_I M 209 k = 0 ↔ dO z = 0 := by
  rw [h.2.1]
  exact ⟨fun q => Classical.not_not.mp (bI_0.mp q), fun q => bI_f (fun w => w q)⟩
theorem kdA_le (D : Nat → DeV) (e f : Nat) : kdA D e f ≤ 3 := by
  unfold kdA
  split
  · omega
  · split
    · omega
    · split <;> omega
def HoP (M M1 : tb_M) (D : Nat → DeV) (f n : Nat) (b : Int32) (v : Option tb_V) : Prop := (v = some (.inl 0) ∧ M1 = M ∧ ∀ e, e < n → ¬ cnA D f b e) ∨ (v = some (.inl 1) ∧ ∃ e, e < n ∧ cnA D f b e ∧ (∀ e', e' < e → ¬ cnA D f b e') ∧ M1 = hzS M (hz1 D e f))
theorem lp_Mo_hazOf (hG : tb_G E) (hS : Sh M) (hN : tb_I M 190 7 = nI n) (hn : n ≤ 10) (hD : ∀ k, k < n → MDe M k (D k)) {f : Nat} (hf : f < n) (hdf : ¬ dO (D f) = 0) {b : Int32} {d rc rs : Nat} {Q : tb_O → tb_M → Prop} (hQ : ∀ v M1, HoP M M1 D f n b v → Q (.inl v) M1) : ∀ (m j : Nat) (l4 : tb_L), n - j = m → j ≤ n → (∀ e, e < j → ¬ cnA D f b e) → tb_Wp E m_Mo_isHazardOf (d + 2) rc rs 2 [some (.inr 190), some (.inl (nI f)), some (.inl b), some (.inl (nI j)), l4] [] M Q := by
  have hF := hD f hf
  intro m
  induction m using Nat.strongRecOn with
  | ind m ih =>
    intro j l4 hm hj hall
    have hnext : ∀ l4, ¬ cnA D f b j → j < n → tb_Wp E m_Mo_isHazardOf (d + 2) rc rs 113 [some (.inr 190), some (.inl (nI f)), some (.inl b), some (.inl (nI j)), l4] [] M Q := by
      intro l4 hno hlt
      refine tb_iinc_3 (1) d_Mo_isHazardOf_113 rfl (by decide) (by decide) ?_
      refine tb_goto 2 d_Mo_isHazardOf_116 (by decide) ?_
      rw [nI_1]
      refine ih (n - (j + 1)) (by omega) (j + 1) _ rfl (by omega) (fun e he => ?_)
      by_cases c : e = j
      · rw [c]; exact hno
      · exact hall e (by omega)
    refine tb_iload_3 d_Mo_isHazardOf_2 rfl ?_
    refine tb_aload_0 d_Mo_isHazardOf_3 rfl ?_
    refine g_Mo_125 d_Mo_isHazardOf_4 rfl rfl (by first | exact hS.k rfl) ?_
    refine tb_topI hN ?_
    refine tb_icmp_ge 119 d_Mo_isHazardOf_7 (by decide) rfl (fun h7 => ?_) (fun h7 => ?_)
    · have hje : n ≤ j := (nI_leI (a := n) (b := j) (by omega) (by omega)).mp h7
      refine tb_iconst (0) (by decide) d_Mo_isHazardOf_119 rfl ?_
      refine tb_ireturn d_Mo_isHazardOf_120 rfl (by first | rfl | assumption) ?_
      exact hQ _ _ (Or.inl ⟨rfl, rfl, fun e he => hall e (by omega)⟩)
    · have hlt : j < n := Nat.lt_of_not_le (fun q => h7 ((nI_leI (a := n) (b := j) (by omega) (by omega)).mpr q))
      have hE := hD j hlt
      refine tb_iload_3 d_Mo_isHazardOf_10 rfl ?_
      refine tb_iload_1 d_Mo_isHazardOf_11 rfl ?_
      refine tb_icmp_eq 113 d_Mo_isHazardOf_12 (by decide) rfl (fun h12 => ?_) (fun h12 => ?_)
      · exact hnext _ (fun z => z.1 ((nI_eq (by omega) (by omega)).mp h12)) hlt
      · have hjf : j ≠ f := fun z => h12 (by rw [z])
        refine tb_aload_0 d_Mo_isHazardOf_15 rfl ?_
        refine g_Mo_64 d_Mo_isHazardOf_16 rfl rfl (by first | exact hS.k rfl) ?_
        refine tb_topR (y := 209) (hS.mr 27 (by decide)) ?_
        refine tb_iload_3 d_Mo_isHazardOf_19 rfl ?_
        refine tb_zaload d_Mo_isHazardOf_20 rfl (by first | exact hS.k rfl) (by first | exact mo_in hS (c := 12) rfl (by omega) (by decide) | exact mo_in hS (c := 10) rfl (by omega) (by decide) | exact mo_in hS (c := 25) rfl (by omega) (by decide) | exact mo_in hS (c := 6) rfl (by omega) (by decide) | exact mo_in hS (c := 72) rfl (by omega) (by decide) | exact mo_in hS (c := 120) rfl (by omega) (by decide) | exact mo_in hS (c := 300) rfl (by omega) (by decide) | exact mo_in hS (c := 150) rfl (by omega) (by decide) | exact mo_in hS (c := 1800) rfl (by omega) (by decide)) ?_
        refine tb_topI (y := tb_I M 209 j) (by rw [nI_clamp (show j < 2 ^ 31 by omega)]) ?_
        refine tb_if_eq 113 d_Mo_isHazardOf_21 (by decide) rfl (fun h21 => ?_) (fun h21 => ?_)
        · exact hnext _ (fun z => z.2.1 (hE.dn.mp h21)) hlt
        · have hdj : ¬ dO (D j) = 0 := fun z => h21 (hE.dn.mpr z)
          refine tb_aload_0 d_Mo_isHazardOf_24 rfl ?_
          refine g_Mo_68 d_Mo_isHazardOf_25 rfl rfl (by first | exact hS.k rfl) ?_
          refine tb_topR (y := 210) (hS.mr 28 (by decide)) ?_
          refine tb_iload_3 d_Mo_isHazardOf_28 rfl ?_
          refine tb_zaload d_Mo_isHazardOf_29 rfl (by first | exact hS.k rfl) (by first | exact mo_in hS (c := 12) rfl (by omega) (by decide) | exact mo_in hS (c := 10) rfl (by omega) (by decide) | exact mo_in hS (c := 25) rfl (by omega) (by decide) | exact mo_in hS (c := 6) rfl (by omega) (by decide) | exact mo_in hS (c := 72) rfl (by omega) (by decide) | exact mo_in hS (c := 120) rfl (by omega) (by decide) | exact mo_in hS (c := 300) rfl (by omega) (by decide) | exact mo_in hS (c := 150) rfl (by omega) (by decide) | exact mo_in hS (c := 1800) rfl (by omega) (by decide)) ?_
          refine tb_topI (y := dA (D j)) (by rw [nI_clamp (show j < 2 ^ 31 by omega)]; exact hE.2.2.1) ?_
          refine tb_if_ne 42 d_Mo_isHazardOf_30 (by decide) rfl (fun h30 => ?_) (fun h30 => ?_)
          · have hg : bI (¬ dA (D j) = 0 ∨ ¬ dA (D f) = 0) = 1 := bI_t (Or.inl h30)
            refine tb_iconst (1) (by decide) d_Mo_isHazardOf_42 rfl ?_
            refine tb_goto 47 d_Mo_isHazardOf_43 (by decide) ?_
            refine tb_topI (y := bI (¬ dA (D j) = 0 ∨ ¬ dA (D f) = 0)) hg.symm ?_
            refine tb_iload_2 d_Mo_isHazardOf_47 rfl ?_
            refine tb_icmp_eq 54 d_Mo_isHazardOf_48 (by decide) rfl (fun h48 => ?_) (fun h48 => ?_)
            · have hgb : bI (¬ dA (D j) = 0 ∨ ¬ dA (D f) = 0) = b := h48
              refine tb_aload_0 d_Mo_isHazardOf_54 rfl ?_
              refine tb_iload_3 d_Mo_isHazardOf_55 rfl ?_
              refine tb_iload_1 d_Mo_isHazardOf_56 rfl ?_
              refine tb_callVr c_Mo_216 d_Mo_isHazardOf_57 rfl rfl rfl (Nat.le_of_ble_eq_true rfl) (by first | exact hS.k rfl) (ok_Mo_kindOf hG hS (by omega) (by omega) hE hF hdj hdf d) ?_
              refine tb_istore_4 d_Mo_isHazardOf_60 rfl (by decide) ?_
              refine tb_iload_4 d_Mo_isHazardOf_62 rfl ?_
              refine tb_if_ne 70 d_Mo_isHazardOf_64 (by decide) rfl (fun h64 => ?_) (fun h64 => ?_)
              · have hk : ¬ kdA D j f = 0 := fun z => h64 (by rw [z]; rfl)
                refine tb_aload_0 d_Mo_isHazardOf_70 rfl ?_
                refine tb_iload_4 d_Mo_isHazardOf_71 rfl ?_
                refine p_Mo_219 d_Mo_isHazardOf_73 rfl rfl (by first | exact hS.k rfl) ?_
                refine tb_aload_0 d_Mo_isHazardOf_76 rfl ?_
                refine tb_iload_3 d_Mo_isHazardOf_77 rfl ?_
                refine p_Mo_222 d_Mo_isHazardOf_78 rfl rfl (by first | exact hS.k rfl) ?_
                refine tb_aload_0 d_Mo_isHazardOf_81 rfl ?_
                refine tb_iload_1 d_Mo_isHazardOf_82 rfl ?_
                refine p_Mo_225 d_Mo_isHazardOf_83 rfl rfl (by first | exact hS.k rfl) ?_
                refine tb_aload_0 d_Mo_isHazardOf_86 rfl ?_
                refine tb_iload_4 d_Mo_isHazardOf_87 rfl ?_
                refine tb_iconst (3) (by decide) d_Mo_isHazardOf_89 rfl ?_
                refine tb_icmp_ne 102 d_Mo_isHazardOf_90 (by decide) rfl (fun h90 => ?_) (fun h90 => ?_)
                · have hk3 : ¬ kdA D j f = 3 := fun z => h90 (by rw [z]; rfl)
                  have hfile : (hz1 D j f).2.2.2 = dWr (D f) := by show (if kdA D j f = 3 then _ else _) = _; rw [if_neg hk3]
                  refine tb_aload_0 d_Mo_isHazardOf_102 rfl ?_
                  refine g_Mo_83 d_Mo_isHazardOf_103 rfl rfl (by first | exact hS.k rfl) ?_
                  refine tb_topR (y := 215) (hS.mr 33 (by decide)) ?_
                  refine tb_iload_1 d_Mo_isHazardOf_106 rfl ?_
                  refine tb_iaload d_Mo_isHazardOf_107 rfl (by first | exact hS.k rfl) (by first | exact mo_in hS (c := 12) rfl (by omega) (by decide) | exact mo_in hS (c := 10) rfl (by omega) (by decide) | exact mo_in hS (c := 25) rfl (by omega) (by decide) | exact mo_in hS (c := 6) rfl (by omega) (by decide) | exact mo_in hS (c := 72) rfl (by omega) (by decide) | exact mo_in hS (c := 120) rfl (by omega) (by decide) | exact mo_in hS (c := 300) rfl (by omega) (by decide) | exact mo_in hS (c := 150) rfl (by omega) (by decide) | exact mo_in hS (c := 1800) rfl (by omega) (by decide)) ?_
                  refine tb_topI (y := (hz1 D j f).2.2.2) (by rw [nI_clamp (show f < 2 ^ 31 by omega)]; rw [hfile]; exact (hF.2.2.2.2.2.2 hdf).2.2.2.2.1) ?_
                  refine p_Mo_228 d_Mo_isHazardOf_108 rfl rfl (by first | exact hS.k rfl) ?_
                  refine tb_iconst (1) (by decide) d_Mo_isHazardOf_111 rfl ?_
                  refine tb_ireturn d_Mo_isHazardOf_112 rfl (by first | rfl | assumption) ?_
                  exact hQ _ _ (Or.inr ⟨rfl, j, hlt, ⟨hjf, hdj, hgb, hk⟩, hall, rfl⟩)
                · have hk3 : kdA D j f = 3 := (nI_eq (by have := kdA_le D j f; omega) (by decide)).mp (show nI (kdA D j f) = nI 3 from h90)
                  have hfile : (hz1 D j f).2.2.2 = dWr (D j) := by show (if kdA D j f = 3 then _ else _) = _; rw [if_pos hk3]
                  refine tb_aload_0 d_Mo_isHazardOf_93 rfl ?_
                  refine g_Mo_83 d_Mo_isHazardOf_94 rfl rfl (by first | exact hS.k rfl) ?_
                  refine tb_topR (y := 215) (hS.mr 33 (by decide)) ?_
                  refine tb_iload_3 d_Mo_isHazardOf_97 rfl ?_
                  refine tb_iaload d_Mo_isHazardOf_98 rfl (by first | exact hS.k rfl) (by first | exact mo_in hS (c := 12) rfl (by omega) (by decide) | exact mo_in hS (c := 10) rfl (by omega) (by decide) | exact mo_in hS (c := 25) rfl (by omega) (by decide) | exact mo_in hS (c := 6) rfl (by omega) (by decide) | exact mo_in hS (c := 72) rfl (by omega) (by decide) | exact mo_in hS (c := 120) rfl (by omega) (by decide) | exact mo_in hS (c := 300) rfl (by omega) (by decide) | exact mo_in hS (c := 150) rfl (by omega) (by decide) | exact mo_in hS (c := 1800) rfl (by omega) (by decide)) ?_
                  refine tb_topI (y := (hz1 D j f).2.2.2) (by rw [nI_clamp (show j < 2 ^ 31 by omega)]; rw [hfile]; exact (hE.2.2.2.2.2.2 hdj).2.2.2.2.1) ?_
                  refine tb_goto 108 d_Mo_isHazardOf_99 (by decide) ?_
                  refine p_Mo_228 d_Mo_isHazardOf_108 rfl rfl (by first | exact hS.k rfl) ?_
                  refine tb_iconst (1) (by decide) d_Mo_isHazardOf_111 rfl ?_
                  refine tb_ireturn d_Mo_isHazardOf_112 rfl (by first | rfl | assumption) ?_
                  exact hQ _ _ (Or.inr ⟨rfl, j, hlt, ⟨hjf, hdj, hgb, hk⟩, hall, rfl⟩)
              · refine tb_goto 113 d_Mo_isHazardOf_67 (by decide) ?_
                exact hnext _ (fun z => z.2.2.2 ((nI_eq (by have := kdA_le D j f; omega) (by decide)).mp (show nI (kdA D j f) = nI 0 from h64))) hlt
            · refine tb_goto 113 d_Mo_isHazardOf_51 (by decide) ?_
              exact hnext _ (fun z => h48 z.2.2.1) hlt
          · refine tb_aload_0 d_Mo_isHazardOf_33 rfl ?_
            refine g_Mo_68 d_Mo_isHazardOf_34 rfl rfl (by first | exact hS.k rfl) ?_
            refine tb_topR (y := 210) (hS.mr 28 (by decide)) ?_
            refine tb_iload_1 d_Mo_isHazardOf_37 rfl ?_
            refine tb_zaload d_Mo_isHazardOf_38 rfl (by first | exact hS.k rfl) (by first | exact mo_in hS (c := 12) rfl (by omega) (by decide) | exact mo_in hS (c := 10) rfl (by omega) (by decide) | exact mo_in hS (c := 25) rfl (by omega) (by decide) | exact mo_in hS (c := 6) rfl (by omega) (by decide) | exact mo_in hS (c := 72) rfl (by omega) (by decide) | exact mo_in hS (c := 120) rfl (by omega) (by decide) | exact mo_in hS (c := 300) rfl (by omega) (by decide) | exact mo_in hS (c := 150) rfl (by omega) (by decide) | exact mo_in hS (c := 1800) rfl (by omega) (by decide)) ?_
            refine tb_topI (y := dA (D f)) (by rw [nI_clamp (show f < 2 ^ 31 by omega)]; exact hF.2.2.1) ?_
            refine tb_if_eq 46 d_Mo_isHazardOf_39 (by decide) rfl (fun h39 => ?_) (fun h39 => ?_)
            · have hg : bI (¬ dA (D j) = 0 ∨ ¬ dA (D f) = 0) = 0 := bI_f (fun z => by rcases z with z | z; exact z h30; exact z h39)
              refine tb_iconst (0) (by decide) d_Mo_isHazardOf_46 rfl ?_
              refine tb_topI (y := bI (¬ dA (D j) = 0 ∨ ¬ dA (D f) = 0)) hg.symm ?_
              refine tb_iload_2 d_Mo_isHazardOf_47 rfl ?_
              refine tb_icmp_eq 54 d_Mo_isHazardOf_48 (by decide) rfl (fun h48 => ?_) (fun h48 => ?_)
              · have hgb : bI (¬ dA (D j) = 0 ∨ ¬ dA (D f) = 0) = b := h48
                refine tb_aload_0 d_Mo_isHazardOf_54 rfl ?_
                refine tb_iload_3 d_Mo_isHazardOf_55 rfl ?_
                refine tb_iload_1 d_Mo_isHazardOf_56 rfl ?_
                refine tb_callVr c_Mo_216 d_Mo_isHazardOf_57 rfl rfl rfl (Nat.le_of_ble_eq_true rfl) (by first | exact hS.k rfl) (ok_Mo_kindOf hG hS (by omega) (by omega) hE hF hdj hdf d) ?_
                refine tb_istore_4 d_Mo_isHazardOf_60 rfl (by decide) ?_
                refine tb_iload_4 d_Mo_isHazardOf_62 rfl ?_
                refine tb_if_ne 70 d_Mo_isHazardOf_64 (by decide) rfl (fun h64 => ?_) (fun h64 => ?_)
                · have hk : ¬ kdA D j f = 0 := fun z => h64 (by rw [z]; rfl)
                  refine tb_aload_0 d_Mo_isHazardOf_70 rfl ?_
                  refine tb_iload_4 d_Mo_isHazardOf_71 rfl ?_
                  refine p_Mo_219 d_Mo_isHazardOf_73 rfl rfl (by first | exact hS.k rfl) ?_
                  refine tb_aload_0 d_Mo_isHazardOf_76 rfl ?_
                  refine tb_iload_3 d_Mo_isHazardOf_77 rfl ?_
                  refine p_Mo_222 d_Mo_isHazardOf_78 rfl rfl (by first | exact hS.k rfl) ?_
                  refine tb_aload_0 d_Mo_isHazardOf_81 rfl ?_
                  refine tb_iload_1 d_Mo_isHazardOf_82 rfl ?_
                  refine p_Mo_225 d_Mo_isHazardOf_83 rfl rfl (by first | exact hS.k rfl) ?_
                  refine tb_aload_0 d_Mo_isHazardOf_86 rfl ?_
                  refine tb_iload_4 d_Mo_isHazardOf_87 rfl ?_
                  refine tb_iconst (3) (by decide) d_Mo_isHazardOf_89 rfl ?_
                  refine tb_icmp_ne 102 d_Mo_isHazardOf_90 (by decide) rfl (fun h90 => ?_) (fun h90 => ?_)
                  · have hk3 : ¬ kdA D j f = 3 := fun z => h90 (by rw [z]; rfl)
                    have hfile : (hz1 D j f).2.2.2 = dWr (D f) := by show (if kdA D j f = 3 then _ else _) = _; rw [if_neg hk3]
                    refine tb_aload_0 d_Mo_isHazardOf_102 rfl ?_
                    refine g_Mo_83 d_Mo_isHazardOf_103 rfl rfl (by first | exact hS.k rfl) ?_
                    refine tb_topR (y := 215) (hS.mr 33 (by decide)) ?_
                    refine tb_iload_1 d_Mo_isHazardOf_106 rfl ?_
                    refine tb_iaload d_Mo_isHazardOf_107 rfl (by first | exact hS.k rfl) (by first | exact mo_in hS (c := 12) rfl (by omega) (by decide) | exact mo_in hS (c := 10) rfl (by omega) (by decide) | exact mo_in hS (c := 25) rfl (by omega) (by decide) | exact mo_in hS (c := 6) rfl (by omega) (by decide) | exact mo_in hS (c := 72) rfl (by omega) (by decide) | exact mo_in hS (c := 120) rfl (by omega) (by decide) | exact mo_in hS (c := 300) rfl (by omega) (by decide) | exact mo_in hS (c := 150) rfl (by omega) (by decide) | exact mo_in hS (c := 1800) rfl (by omega) (by decide)) ?_
                    refine tb_topI (y := (hz1 D j f).2.2.2) (by rw [nI_clamp (show f < 2 ^ 31 by omega)]; rw [hfile]; exact (hF.2.2.2.2.2.2 hdf).2.2.2.2.1) ?_
                    refine p_Mo_228 d_Mo_isHazardOf_108 rfl rfl (by first | exact hS.k rfl) ?_
                    refine tb_iconst (1) (by decide) d_Mo_isHazardOf_111 rfl ?_
                    refine tb_ireturn d_Mo_isHazardOf_112 rfl (by first | rfl | assumption) ?_
                    exact hQ _ _ (Or.inr ⟨rfl, j, hlt, ⟨hjf, hdj, hgb, hk⟩, hall, rfl⟩)
                  · have hk3 : kdA D j f = 3 := (nI_eq (by have := kdA_le D j f; omega) (by decide)).mp (show nI (kdA D j f) = nI 3 from h90)
                    have hfile : (hz1 D j f).2.2.2 = dWr (D j) := by show (if kdA D j f = 3 then _ else _) = _; rw [if_pos hk3]
                    refine tb_aload_0 d_Mo_isHazardOf_93 rfl ?_
                    refine g_Mo_83 d_Mo_isHazardOf_94 rfl rfl (by first | exact hS.k rfl) ?_
                    refine tb_topR (y := 215) (hS.mr 33 (by decide)) ?_
                    refine tb_iload_3 d_Mo_isHazardOf_97 rfl ?_
                    refine tb_iaload d_Mo_isHazardOf_98 rfl (by first | exact hS.k rfl) (by first | exact mo_in hS (c := 12) rfl (by omega) (by decide) | exact mo_in hS (c := 10) rfl (by omega) (by decide) | exact mo_in hS (c := 25) rfl (by omega) (by decide) | exact mo_in hS (c := 6) rfl (by omega) (by decide) | exact mo_in hS (c := 72) rfl (by omega) (by decide) | exact mo_in hS (c := 120) rfl (by omega) (by decide) | exact mo_in hS (c := 300) rfl (by omega) (by decide) | exact mo_in hS (c := 150) rfl (by omega) (by decide) | exact mo_in hS (c := 1800) rfl (by omega) (by decide)) ?_
                    refine tb_topI (y := (hz1 D j f).2.2.2) (by rw [nI_clamp (show j < 2 ^ 31 by omega)]; rw [hfile]; exact (hE.2.2.2.2.2.2 hdj).2.2.2.2.1) ?_
                    refine tb_goto 108 d_Mo_isHazardOf_99 (by decide) ?_
                    refine p_Mo_228 d_Mo_isHazardOf_108 rfl rfl (by first | exact hS.k rfl) ?_
                    refine tb_iconst (1) (by decide) d_Mo_isHazardOf_111 rfl ?_
                    refine tb_ireturn d_Mo_isHazardOf_112 rfl (by first | rfl | assumption) ?_
                    exact hQ _ _ (Or.inr ⟨rfl, j, hlt, ⟨hjf, hdj, hgb, hk⟩, hall, rfl⟩)
                · refine tb_goto 113 d_Mo_isHazardOf_67 (by decide) ?_
                  exact hnext _ (fun z => z.2.2.2 ((nI_eq (by have := kdA_le D j f; omega) (by decide)).mp (show nI (kdA D j f) = nI 0 from h64))) hlt
              · refine tb_goto 113 d_Mo_isHazardOf_51 (by decide) ?_
                exact hnext _ (fun z => h48 z.2.2.1) hlt
            · have hg : bI (¬ dA (D j) = 0 ∨ ¬ dA (D f) = 0) = 1 := bI_t (Or.inr h39)
              refine tb_iconst (1) (by decide) d_Mo_isHazardOf_42 rfl ?_
              refine tb_goto 47 d_Mo_isHazardOf_43 (by decide) ?_
              refine tb_topI (y := bI (¬ dA (D j) = 0 ∨ ¬ dA (D f) = 0)) hg.symm ?_
              refine tb_iload_2 d_Mo_isHazardOf_47 rfl ?_
              refine tb_icmp_eq 54 d_Mo_isHazardOf_48 (by decide) rfl (fun h48 => ?_) (fun h48 => ?_)
              · have hgb : bI (¬ dA (D j) = 0 ∨ ¬ dA (D f) = 0) = b := h48
                refine tb_aload_0 d_Mo_isHazardOf_54 rfl ?_
                refine tb_iload_3 d_Mo_isHazardOf_55 rfl ?_
                refine tb_iload_1 d_Mo_isHazardOf_56 rfl ?_
                refine tb_callVr c_Mo_216 d_Mo_isHazardOf_57 rfl rfl rfl (Nat.le_of_ble_eq_true rfl) (by first | exact hS.k rfl) (ok_Mo_kindOf hG hS (by omega) (by omega) hE hF hdj hdf d) ?_
                refine tb_istore_4 d_Mo_isHazardOf_60 rfl (by decide) ?_
                refine tb_iload_4 d_Mo_isHazardOf_62 rfl ?_
                refine tb_if_ne 70 d_Mo_isHazardOf_64 (by decide) rfl (fun h64 => ?_) (fun h64 => ?_)
                · have hk : ¬ kdA D j f = 0 := fun z => h64 (by rw [z]; rfl)
                  refine tb_aload_0 d_Mo_isHazardOf_70 rfl ?_
                  refine tb_iload_4 d_Mo_isHazardOf_71 rfl ?_
                  refine p_Mo_219 d_Mo_isHazardOf_73 rfl rfl (by first | exact hS.k rfl) ?_
                  refine tb_aload_0 d_Mo_isHazardOf_76 rfl ?_
                  refine tb_iload_3 d_Mo_isHazardOf_77 rfl ?_
                  refine p_Mo_222 d_Mo_isHazardOf_78 rfl rfl (by first | exact hS.k rfl) ?_
                  refine tb_aload_0 d_Mo_isHazardOf_81 rfl ?_
                  refine tb_iload_1 d_Mo_isHazardOf_82 rfl ?_
                  refine p_Mo_225 d_Mo_isHazardOf_83 rfl rfl (by first | exact hS.k rfl) ?_
                  refine tb_aload_0 d_Mo_isHazardOf_86 rfl ?_
                  refine tb_iload_4 d_Mo_isHazardOf_87 rfl ?_
                  refine tb_iconst (3) (by decide) d_Mo_isHazardOf_89 rfl ?_
                  refine tb_icmp_ne 102 d_Mo_isHazardOf_90 (by decide) rfl (fun h90 => ?_) (fun h90 => ?_)
                  · have hk3 : ¬ kdA D j f = 3 := fun z => h90 (by rw [z]; rfl)
                    have hfile : (hz1 D j f).2.2.2 = dWr (D f) := by show (if kdA D j f = 3 then _ else _) = _; rw [if_neg hk3]
                    refine tb_aload_0 d_Mo_isHazardOf_102 rfl ?_
                    refine g_Mo_83 d_Mo_isHazardOf_103 rfl rfl (by first | exact hS.k rfl) ?_
                    refine tb_topR (y := 215) (hS.mr 33 (by decide)) ?_
                    refine tb_iload_1 d_Mo_isHazardOf_106 rfl ?_
                    refine tb_iaload d_Mo_isHazardOf_107 rfl (by first | exact hS.k rfl) (by first | exact mo_in hS (c := 12) rfl (by omega) (by decide) | exact mo_in hS (c := 10) rfl (by omega) (by decide) | exact mo_in hS (c := 25) rfl (by omega) (by decide) | exact mo_in hS (c := 6) rfl (by omega) (by decide) | exact mo_in hS (c := 72) rfl (by omega) (by decide) | exact mo_in hS (c := 120) rfl (by omega) (by decide) | exact mo_in hS (c := 300) rfl (by omega) (by decide) | exact mo_in hS (c := 150) rfl (by omega) (by decide) | exact mo_in hS (c := 1800) rfl (by omega) (by decide)) ?_
                    refine tb_topI (y := (hz1 D j f).2.2.2) (by rw [nI_clamp (show f < 2 ^ 31 by omega)]; rw [hfile]; exact (hF.2.2.2.2.2.2 hdf).2.2.2.2.1) ?_
                    refine p_Mo_228 d_Mo_isHazardOf_108 rfl rfl (by first | exact hS.k rfl) ?_
                    refine tb_iconst (1) (by decide) d_Mo_isHazardOf_111 rfl ?_
                    refine tb_ireturn d_Mo_isHazardOf_112 rfl (by first | rfl | assumption) ?_
                    exact hQ _ _ (Or.inr ⟨rfl, j, hlt, ⟨hjf, hdj, hgb, hk⟩, hall, rfl⟩)
                  · have hk3 : kdA D j f = 3 := (nI_eq (by have := kdA_le D j f; omega) (by decide)).mp (show nI (kdA D j f) = nI 3 from h90)
                    have hfile : (hz1 D j f).2.2.2 = dWr (D j) := by show (if kdA D j f = 3 then _ else _) = _; rw [if_pos hk3]
                    refine tb_aload_0 d_Mo_isHazardOf_93 rfl ?_
                    refine g_Mo_83 d_Mo_isHazardOf_94 rfl rfl (by first | exact hS.k rfl) ?_
                    refine tb_topR (y := 215) (hS.mr 33 (by decide)) ?_
                    refine tb_iload_3 d_Mo_isHazardOf_97 rfl ?_
                    refine tb_iaload d_Mo_isHazardOf_98 rfl (by first | exact hS.k rfl) (by first | exact mo_in hS (c := 12) rfl (by omega) (by decide) | exact mo_in hS (c := 10) rfl (by omega) (by decide) | exact mo_in hS (c := 25) rfl (by omega) (by decide) | exact mo_in hS (c := 6) rfl (by omega) (by decide) | exact mo_in hS (c := 72) rfl (by omega) (by decide) | exact mo_in hS (c := 120) rfl (by omega) (by decide) | exact mo_in hS (c := 300) rfl (by omega) (by decide) | exact mo_in hS (c := 150) rfl (by omega) (by decide) | exact mo_in hS (c := 1800) rfl (by omega) (by decide)) ?_
                    refine tb_topI (y := (hz1 D j f).2.2.2) (by rw [nI_clamp (show j < 2 ^ 31 by omega)]; rw [hfile]; exact (hE.2.2.2.2.2.2 hdj).2.2.2.2.1) ?_
                    refine tb_goto 108 d_Mo_isHazardOf_99 (by decide) ?_
                    refine p_Mo_228 d_Mo_isHazardOf_108 rfl rfl (by first | exact hS.k rfl) ?_
                    refine tb_iconst (1) (by decide) d_Mo_isHazardOf_111 rfl ?_
                    refine tb_ireturn d_Mo_isHazardOf_112 rfl (by first | rfl | assumption) ?_
                    exact hQ _ _ (Or.inr ⟨rfl, j, hlt, ⟨hjf, hdj, hgb, hk⟩, hall, rfl⟩)
                · refine tb_goto 113 d_Mo_isHazardOf_67 (by decide) ?_
                  exact hnext _ (fun z => z.2.2.2 ((nI_eq (by have := kdA_le D j f; omega) (by decide)).mp (show nI (kdA D j f) = nI 0 from h64))) hlt
              · refine tb_goto 113 d_Mo_isHazardOf_51 (by decide) ?_
                exact hnext _ (fun z => h48 z.2.2.1) hlt
theorem ok_Mo_hazOf (hG : tb_G E) (hS : Sh M) (hN : tb_I M 190 7 = nI n) (hn : n ≤ 10) (hD : ∀ k, k < n → MDe M k (D k)) {f : Nat} (hf : f < n) (hdf : ¬ dO (D f) = 0) {b : Int32} (d : Nat) : tb_Rel E m_Mo_isHazardOf (d + 2) [.inr (.inl 190), .inl (nI f), .inl b] M (fun v M1 => HoP M M1 D f n b v) := by
  refine tb_okOf hG (by decide) rfl (Nat.le_of_ble_eq_true rfl) rfl ?_
  refine tb_iconst (0) (by decide) d_Mo_isHazardOf_0 rfl ?_
  refine tb_istore_3 d_Mo_isHazardOf_1 rfl (by decide) ?_
  exact lp_Mo_hazOf hG hS hN hn hD hf hdf (fun v M1 h => ⟨v, rfl, h⟩) n 0 _ rfl (Nat.zero_le _) (fun e he => absurd he (Nat.not_lt_zero _))
theorem ok_Mo_hazard2 (hG : tb_G E) (hS : Sh M) (hN : tb_I M 190 7 = nI n) (hn : n ≤ 10) (hD : ∀ k, k < n → MDe M k (D k)) {f : Nat} (hf : f < n) (hdf : ¬ dO (D f) = 0) (d : Nat) : tb_Rel E m_Mo_isHazard (d + 3) [.inr (.inl 190), .inl (nI f)] M (fun v M1 => v = some (.inl (bI (¬ (hzA D n f).1 = 0))) ∧ HzN M M1 (hzA D n f)) := by
  have key : ∀ b e, e < n → cnA D f b e → (∀ e', e' < e → ¬ cnA D f b e') → fstN (cnA D f b) n 0 = some e := fun b e h1 h2 h3 => fstN_of n 0 (Nat.zero_le _) (by omega) h2 (fun g _ hg => h3 g hg)
  have keyN : ∀ b, (∀ e, e < n → ¬ cnA D f b e) → fstN (cnA D f b) n 0 = none := fun b h => fstN_no n 0 (fun g _ hg => h g (by omega))
  refine tb_okOf hG (by decide) rfl (Nat.le_of_ble_eq_true rfl) rfl ?_
  refine tb_aload_0 d_Mo_isHazard_0 rfl ?_
  refine tb_iload_1 d_Mo_isHazard_1 rfl ?_
  refine tb_iconst (1) (by decide) d_Mo_isHazard_2 rfl ?_
  refine tb_callVq c_Mo_212 d_Mo_isHazard_3 rfl rfl rfl (Nat.le_of_ble_eq_true rfl) (by first | exact hS.k rfl) (ok_Mo_hazOf hG hS hN hn hD hf hdf d) (fun v1 M1 hP => ?_)
  rcases hP with ⟨rfl, rfl, hno⟩ | ⟨rfl, e, he, hc, hall, rfl⟩
  case inr =>
    have hz : hzA D n f = hz1 D e f := by unfold hzA; rw [key 1 e he hc hall]
    refine tb_if_ne 18 d_Mo_isHazard_6 (by decide) rfl (fun h6 => ?_) (fun h6 => absurd h6 (by decide))
    refine tb_iconst (1) (by decide) d_Mo_isHazard_18 rfl ?_
    refine tb_goto 23 d_Mo_isHazard_19 (by decide) ?_
    refine tb_ireturn d_Mo_isHazard_23 rfl (by rfl) ?_
    rw [hz, bI_t (show ¬ (hz1 D e f).1 = 0 from hc.2.2.2)]
    exact ⟨_, rfl, rfl, Or.inr ⟨hc.2.2.2, rfl⟩⟩
  case inl =>
  refine tb_if_ne 18 d_Mo_isHazard_6 (by decide) rfl (fun h6 => ?_) (fun h6 => ?_)
  · exact absurd rfl h6
  · refine tb_aload_0 d_Mo_isHazard_9 rfl ?_
    refine tb_iload_1 d_Mo_isHazard_10 rfl ?_
    refine tb_iconst (0) (by decide) d_Mo_isHazard_11 rfl ?_
    refine tb_callVq c_Mo_212 d_Mo_isHazard_12 rfl rfl rfl (Nat.le_of_ble_eq_true rfl) (by first | exact hS.k rfl) (ok_Mo_hazOf hG hS hN hn hD hf hdf d) (fun v2 M2 hP => ?_)
    rcases hP with ⟨rfl, hM2, hno2⟩ | ⟨rfl, e, he, hc, hall, hM2⟩
    case inr =>
      have hz : hzA D n f = hz1 D e f := by unfold hzA; rw [keyN 1 hno, key 0 e he hc hall]
      refine tb_if_eq 22 d_Mo_isHazard_15 (by decide) rfl (fun h15 => absurd h15 (by decide)) (fun h15 => ?_)
      refine tb_iconst (1) (by decide) d_Mo_isHazard_18 rfl ?_
      refine tb_goto 23 d_Mo_isHazard_19 (by decide) ?_
      refine tb_ireturn d_Mo_isHazard_23 rfl (by rfl) ?_
      rw [hz, bI_t (show ¬ (hz1 D e f).1 = 0 from hc.2.2.2)]
      exact ⟨_, rfl, rfl, Or.inr ⟨hc.2.2.2, hM2⟩⟩
    have hz : hzA D n f = (0, 0, 0, 0) := by unfold hzA; rw [keyN 1 hno, keyN 0 hno2]
    rw [hz, bI_f (fun q => q rfl)]
    refine tb_if_eq 22 d_Mo_isHazard_15 (by decide) rfl (fun h15 => ?_) (fun h15 => ?_)
    · refine tb_iconst (0) (by decide) d_Mo_isHazard_22 rfl ?_
      refine tb_ireturn d_Mo_isHazard_23 rfl (by first | rfl | assumption) ?_
      exact ⟨_, rfl, rfl, Or.inl ⟨rfl, hM2⟩⟩
    · exact absurd rfl h15
theorem ok_Mo_apart (hG : tb_G E) (hS : Sh M) (hT : MTr M t x) (hU : MTr M u y) (ht : t < 25) (hu : u < 25) (d : Nat) : tb_Ret E m_Mo_apart (d + 1) [.inr (.inl 190), .inl (nI t), .inl (nI u)] M (some (.inl (bI (¬ wayA x y)))) M := by
  have wx : WfT x := hT.2.2.2.2.2.2.1
  have wy : WfT y := hU.2.2.2.2.2.2.1
  have tg : ∀ {w : Int32}, (w = -1 ∨ ∃ f, f < 12 ∧ w = nI f) → (0 ≤ w → (1 : Int32) <<< (w &&& 31) = wm w) ∧ (¬ 0 ≤ w → (0 : Int32) = wm w) := fun hw => by
    rcases hw with q | ⟨g, hg, q⟩
    · rw [q]; exact ⟨fun z => absurd z (by decide), fun _ => wm_1.symm⟩
    · rw [q]; exact ⟨fun _ => (wm_f hg).symm, fun z => absurd (nI_pos' (by omega)) z⟩
  refine tb_okOf hG (by decide) rfl (Nat.le_of_ble_eq_true rfl) rfl ?_
  refine tb_aload_0 d_Mo_apart_0 rfl ?_
  refine g_Mo_37 d_Mo_apart_1 rfl rfl (by first | exact hS.k rfl) ?_
  refine tb_topR (y := 200) (hS.mr 13 (by decide)) ?_
  refine tb_iload_1 d_Mo_apart_4 rfl ?_
  refine tb_iaload d_Mo_apart_5 rfl (by first | exact hS.k rfl) (by first | exact mo_in hS (c := 12) rfl (by omega) (by decide) | exact mo_in hS (c := 10) rfl (by omega) (by decide) | exact mo_in hS (c := 25) rfl (by omega) (by decide) | exact mo_in hS (c := 6) rfl (by omega) (by decide) | exact mo_in hS (c := 72) rfl (by omega) (by decide) | exact mo_in hS (c := 120) rfl (by omega) (by decide) | exact mo_in hS (c := 300) rfl (by omega) (by decide) | exact mo_in hS (c := 150) rfl (by omega) (by decide) | exact mo_in hS (c := 1800) rfl (by omega) (by decide)) ?_
  refine tb_topI (y := tRd x) (by rw [nI_clamp (show t < 2 ^ 31 by omega)]; exact hT.2.1) ?_
  refine tb_aload_0 d_Mo_apart_6 rfl ?_
  refine g_Mo_40 d_Mo_apart_7 rfl rfl (by first | exact hS.k rfl) ?_
  refine tb_topR (y := 201) (hS.mr 14 (by decide)) ?_
  refine tb_iload_1 d_Mo_apart_10 rfl ?_
  refine tb_iaload d_Mo_apart_11 rfl (by first | exact hS.k rfl) (by first | exact mo_in hS (c := 12) rfl (by omega) (by decide) | exact mo_in hS (c := 10) rfl (by omega) (by decide) | exact mo_in hS (c := 25) rfl (by omega) (by decide) | exact mo_in hS (c := 6) rfl (by omega) (by decide) | exact mo_in hS (c := 72) rfl (by omega) (by decide) | exact mo_in hS (c := 120) rfl (by omega) (by decide) | exact mo_in hS (c := 300) rfl (by omega) (by decide) | exact mo_in hS (c := 150) rfl (by omega) (by decide) | exact mo_in hS (c := 1800) rfl (by omega) (by decide)) ?_
  refine tb_topI (y := tAk x) (by rw [nI_clamp (show t < 2 ^ 31 by omega)]; exact hT.2.2.1) ?_
  refine tb_ior d_Mo_apart_12 rfl ?_
  refine tb_aload_0 d_Mo_apart_13 rfl ?_
  refine g_Mo_52 d_Mo_apart_14 rfl rfl (by first | exact hS.k rfl) ?_
  refine tb_topR (y := 205) (hS.mr 18 (by decide)) ?_
  refine tb_iload_1 d_Mo_apart_17 rfl ?_
  refine tb_iaload d_Mo_apart_18 rfl (by first | exact hS.k rfl) (by first | exact mo_in hS (c := 12) rfl (by omega) (by decide) | exact mo_in hS (c := 10) rfl (by omega) (by decide) | exact mo_in hS (c := 25) rfl (by omega) (by decide) | exact mo_in hS (c := 6) rfl (by omega) (by decide) | exact mo_in hS (c := 72) rfl (by omega) (by decide) | exact mo_in hS (c := 120) rfl (by omega) (by decide) | exact mo_in hS (c := 300) rfl (by omega) (by decide) | exact mo_in hS (c := 150) rfl (by omega) (by decide) | exact mo_in hS (c := 1800) rfl (by omega) (by decide)) ?_
  refine tb_topI (y := tWr x) (by rw [nI_clamp (show t < 2 ^ 31 by omega)]; exact hT.2.2.2.2.2.1) ?_
  refine tb_if_ge 26 d_Mo_apart_19 (by decide) rfl (fun h19 => ?_) (fun h19 => ?_)
  · refine tb_iconst (1) (by decide) d_Mo_apart_26 rfl ?_
    refine tb_aload_0 d_Mo_apart_27 rfl ?_
    refine g_Mo_52 d_Mo_apart_28 rfl rfl (by first | exact hS.k rfl) ?_
    refine tb_topR (y := 205) (hS.mr 18 (by decide)) ?_
    refine tb_iload_1 d_Mo_apart_31 rfl ?_
    refine tb_iaload d_Mo_apart_32 rfl (by first | exact hS.k rfl) (by first | exact mo_in hS (c := 12) rfl (by omega) (by decide) | exact mo_in hS (c := 10) rfl (by omega) (by decide) | exact mo_in hS (c := 25) rfl (by omega) (by decide) | exact mo_in hS (c := 6) rfl (by omega) (by decide) | exact mo_in hS (c := 72) rfl (by omega) (by decide) | exact mo_in hS (c := 120) rfl (by omega) (by decide) | exact mo_in hS (c := 300) rfl (by omega) (by decide) | exact mo_in hS (c := 150) rfl (by omega) (by decide) | exact mo_in hS (c := 1800) rfl (by omega) (by decide)) ?_
    refine tb_topI (y := tWr x) (by rw [nI_clamp (show t < 2 ^ 31 by omega)]; exact hT.2.2.2.2.2.1) ?_
    refine tb_ishl d_Mo_apart_33 rfl ?_
    refine tb_topI ((tg wx).1 h19) ?_
    refine tb_ior d_Mo_apart_34 rfl ?_
    refine tb_istore_3 d_Mo_apart_35 rfl (by decide) ?_
    refine tb_aload_0 d_Mo_apart_36 rfl ?_
    refine g_Mo_37 d_Mo_apart_37 rfl rfl (by first | exact hS.k rfl) ?_
    refine tb_topR (y := 200) (hS.mr 13 (by decide)) ?_
    refine tb_iload_2 d_Mo_apart_40 rfl ?_
    refine tb_iaload d_Mo_apart_41 rfl (by first | exact hS.k rfl) (by first | exact mo_in hS (c := 12) rfl (by omega) (by decide) | exact mo_in hS (c := 10) rfl (by omega) (by decide) | exact mo_in hS (c := 25) rfl (by omega) (by decide) | exact mo_in hS (c := 6) rfl (by omega) (by decide) | exact mo_in hS (c := 72) rfl (by omega) (by decide) | exact mo_in hS (c := 120) rfl (by omega) (by decide) | exact mo_in hS (c := 300) rfl (by omega) (by decide) | exact mo_in hS (c := 150) rfl (by omega) (by decide) | exact mo_in hS (c := 1800) rfl (by omega) (by decide)) ?_
    refine tb_topI (y := tRd y) (by rw [nI_clamp (show u < 2 ^ 31 by omega)]; exact hU.2.1) ?_
    refine tb_aload_0 d_Mo_apart_42 rfl ?_
    refine g_Mo_40 d_Mo_apart_43 rfl rfl (by first | exact hS.k rfl) ?_
    refine tb_topR (y := 201) (hS.mr 14 (by decide)) ?_
    refine tb_iload_2 d_Mo_apart_46 rfl ?_
    refine tb_iaload d_Mo_apart_47 rfl (by first | exact hS.k rfl) (by first | exact mo_in hS (c := 12) rfl (by omega) (by decide) | exact mo_in hS (c := 10) rfl (by omega) (by decide) | exact mo_in hS (c := 25) rfl (by omega) (by decide) | exact mo_in hS (c := 6) rfl (by omega) (by decide) | exact mo_in hS (c := 72) rfl (by omega) (by decide) | exact mo_in hS (c := 120) rfl (by omega) (by decide) | exact mo_in hS (c := 300) rfl (by omega) (by decide) | exact mo_in hS (c := 150) rfl (by omega) (by decide) | exact mo_in hS (c := 1800) rfl (by omega) (by decide)) ?_
    refine tb_topI (y := tAk y) (by rw [nI_clamp (show u < 2 ^ 31 by omega)]; exact hU.2.2.1) ?_
    refine tb_ior d_Mo_apart_48 rfl ?_
    refine tb_aload_0 d_Mo_apart_49 rfl ?_
    refine g_Mo_52 d_Mo_apart_50 rfl rfl (by first | exact hS.k rfl) ?_
    refine tb_topR (y := 205) (hS.mr 18 (by decide)) ?_
    refine tb_iload_2 d_Mo_apart_53 rfl ?_
    refine tb_iaload d_Mo_apart_54 rfl (by first | exact hS.k rfl) (by first | exact mo_in hS (c := 12) rfl (by omega) (by decide) | exact mo_in hS (c := 10) rfl (by omega) (by decide) | exact mo_in hS (c := 25) rfl (by omega) (by decide) | exact mo_in hS (c := 6) rfl (by omega) (by decide) | exact mo_in hS (c := 72) rfl (by omega) (by decide) | exact mo_in hS (c := 120) rfl (by omega) (by decide) | exact mo_in hS (c := 300) rfl (by omega) (by decide) | exact mo_in hS (c := 150) rfl (by omega) (by decide) | exact mo_in hS (c := 1800) rfl (by omega) (by decide)) ?_
    refine tb_topI (y := tWr y) (by rw [nI_clamp (show u < 2 ^ 31 by omega)]; exact hU.2.2.2.2.2.1) ?_
    refine tb_if_ge 62 d_Mo_apart_55 (by decide) rfl (fun h55 => ?_) (fun h55 => ?_)
    · refine tb_iconst (1) (by decide) d_Mo_apart_62 rfl ?_
      refine tb_aload_0 d_Mo_apart_63 rfl ?_
      refine g_Mo_52 d_Mo_apart_64 rfl rfl (by first | exact hS.k rfl) ?_
      refine tb_topR (y := 205) (hS.mr 18 (by decide)) ?_
      refine tb_iload_2 d_Mo_apart_67 rfl ?_
      refine tb_iaload d_Mo_apart_68 rfl (by first | exact hS.k rfl) (by first | exact mo_in hS (c := 12) rfl (by omega) (by decide) | exact mo_in hS (c := 10) rfl (by omega) (by decide) | exact mo_in hS (c := 25) rfl (by omega) (by decide) | exact mo_in hS (c := 6) rfl (by omega) (by decide) | exact mo_in hS (c := 72) rfl (by omega) (by decide) | exact mo_in hS (c := 120) rfl (by omega) (by decide) | exact mo_in hS (c := 300) rfl (by omega) (by decide) | exact mo_in hS (c := 150) rfl (by omega) (by decide) | exact mo_in hS (c := 1800) rfl (by omega) (by decide)) ?_
      refine tb_topI (y := tWr y) (by rw [nI_clamp (show u < 2 ^ 31 by omega)]; exact hU.2.2.2.2.2.1) ?_
      refine tb_ishl d_Mo_apart_69 rfl ?_
      refine tb_topI ((tg wy).1 h55) ?_
      refine tb_ior d_Mo_apart_70 rfl ?_
      refine tb_istore_4 d_Mo_apart_71 rfl (by decide) ?_
      refine tb_aload_0 d_Mo_apart_73 rfl ?_
      refine tb_iload_4 d_Mo_apart_74 rfl ?_
      refine tb_aload_0 d_Mo_apart_76 rfl ?_
      refine g_Mo_52 d_Mo_apart_77 rfl rfl (by first | exact hS.k rfl) ?_
      refine tb_topR (y := 205) (hS.mr 18 (by decide)) ?_
      refine tb_iload_1 d_Mo_apart_80 rfl ?_
      refine tb_iaload d_Mo_apart_81 rfl (by first | exact hS.k rfl) (by first | exact mo_in hS (c := 12) rfl (by omega) (by decide) | exact mo_in hS (c := 10) rfl (by omega) (by decide) | exact mo_in hS (c := 25) rfl (by omega) (by decide) | exact mo_in hS (c := 6) rfl (by omega) (by decide) | exact mo_in hS (c := 72) rfl (by omega) (by decide) | exact mo_in hS (c := 120) rfl (by omega) (by decide) | exact mo_in hS (c := 300) rfl (by omega) (by decide) | exact mo_in hS (c := 150) rfl (by omega) (by decide) | exact mo_in hS (c := 1800) rfl (by omega) (by decide)) ?_
      refine tb_topI (y := tWr x) (by rw [nI_clamp (show t < 2 ^ 31 by omega)]; exact hT.2.2.2.2.2.1) ?_
      refine tb_callVr c_Mo_209 d_Mo_apart_82 rfl rfl rfl (Nat.le_of_ble_eq_true rfl) (by first | exact hS.k rfl) (ok_Mo_meets (z := tou y) hG wx d) ?_
      refine tb_if_ne 106 d_Mo_apart_85 (by decide) rfl (fun h85 => ?_) (fun h85 => ?_)
      · rw [bI_f (fun q => q (Or.inl (Classical.not_not.mp (fun z => h85 (bI_f z)))))]
        refine tb_iconst (0) (by decide) d_Mo_apart_106 rfl ?_
        refine tb_ireturn d_Mo_apart_107 rfl (by first | rfl | assumption) ?_
        exact ⟨rfl, rfl⟩
      · refine tb_aload_0 d_Mo_apart_88 rfl ?_
        refine tb_iload_3 d_Mo_apart_89 rfl ?_
        refine tb_aload_0 d_Mo_apart_90 rfl ?_
        refine g_Mo_52 d_Mo_apart_91 rfl rfl (by first | exact hS.k rfl) ?_
        refine tb_topR (y := 205) (hS.mr 18 (by decide)) ?_
        refine tb_iload_2 d_Mo_apart_94 rfl ?_
        refine tb_iaload d_Mo_apart_95 rfl (by first | exact hS.k rfl) (by first | exact mo_in hS (c := 12) rfl (by omega) (by decide) | exact mo_in hS (c := 10) rfl (by omega) (by decide) | exact mo_in hS (c := 25) rfl (by omega) (by decide) | exact mo_in hS (c := 6) rfl (by omega) (by decide) | exact mo_in hS (c := 72) rfl (by omega) (by decide) | exact mo_in hS (c := 120) rfl (by omega) (by decide) | exact mo_in hS (c := 300) rfl (by omega) (by decide) | exact mo_in hS (c := 150) rfl (by omega) (by decide) | exact mo_in hS (c := 1800) rfl (by omega) (by decide)) ?_
        refine tb_topI (y := tWr y) (by rw [nI_clamp (show u < 2 ^ 31 by omega)]; exact hU.2.2.2.2.2.1) ?_
        refine tb_callVr c_Mo_209 d_Mo_apart_96 rfl rfl rfl (Nat.le_of_ble_eq_true rfl) (by first | exact hS.k rfl) (ok_Mo_meets (z := tou x) hG wy d) ?_
        refine tb_if_ne 106 d_Mo_apart_99 (by decide) rfl (fun h99 => ?_) (fun h99 => ?_)
        · rw [bI_f (fun q => q (Or.inr (Classical.not_not.mp (fun z => h99 (bI_f z)))))]
          refine tb_iconst (0) (by decide) d_Mo_apart_106 rfl ?_
          refine tb_ireturn d_Mo_apart_107 rfl (by first | rfl | assumption) ?_
          exact ⟨rfl, rfl⟩
        · rw [bI_t (show ¬ wayA x y from fun q => by rcases q with q | q; exact bI_0.mp h85 q; exact bI_0.mp h99 q)]
          refine tb_iconst (1) (by decide) d_Mo_apart_102 rfl ?_
          refine tb_goto 107 d_Mo_apart_103 (by decide) ?_
          refine tb_ireturn d_Mo_apart_107 rfl (by first | rfl | assumption) ?_
          exact ⟨rfl, rfl⟩
    · refine tb_iconst (0) (by decide) d_Mo_apart_58 rfl ?_
      refine tb_topI ((tg wy).2 h55) ?_
      refine tb_goto 70 d_Mo_apart_59 (by decide) ?_
      refine tb_ior d_Mo_apart_70 rfl ?_
      refine tb_istore_4 d_Mo_apart_71 rfl (by decide) ?_
      refine tb_aload_0 d_Mo_apart_73 rfl ?_
      refine tb_iload_4 d_Mo_apart_74 rfl ?_
      refine tb_aload_0 d_Mo_apart_76 rfl ?_
      refine g_Mo_52 d_Mo_apart_77 rfl rfl (by first | exact hS.k rfl) ?_
      refine tb_topR (y := 205) (hS.mr 18 (by decide)) ?_
      refine tb_iload_1 d_Mo_apart_80 rfl ?_
      refine tb_iaload d_Mo_apart_81 rfl (by first | exact hS.k rfl) (by first | exact mo_in hS (c := 12) rfl (by omega) (by decide) | exact mo_in hS (c := 10) rfl (by omega) (by decide) | exact mo_in hS (c := 25) rfl (by omega) (by decide) | exact mo_in hS (c := 6) rfl (by omega) (by decide) | exact mo_in hS (c := 72) rfl (by omega) (by decide) | exact mo_in hS (c := 120) rfl (by omega) (by decide) | exact mo_in hS (c := 300) rfl (by omega) (by decide) | exact mo_in hS (c := 150) rfl (by omega) (by decide) | exact mo_in hS (c := 1800) rfl (by omega) (by decide)) ?_
      refine tb_topI (y := tWr x) (by rw [nI_clamp (show t < 2 ^ 31 by omega)]; exact hT.2.2.2.2.2.1) ?_
      refine tb_callVr c_Mo_209 d_Mo_apart_82 rfl rfl rfl (Nat.le_of_ble_eq_true rfl) (by first | exact hS.k rfl) (ok_Mo_meets (z := tou y) hG wx d) ?_
      refine tb_if_ne 106 d_Mo_apart_85 (by decide) rfl (fun h85 => ?_) (fun h85 => ?_)
      · rw [bI_f (fun q => q (Or.inl (Classical.not_not.mp (fun z => h85 (bI_f z)))))]
        refine tb_iconst (0) (by decide) d_Mo_apart_106 rfl ?_
        refine tb_ireturn d_Mo_apart_107 rfl (by first | rfl | assumption) ?_
        exact ⟨rfl, rfl⟩
      · refine tb_aload_0 d_Mo_apart_88 rfl ?_
        refine tb_iload_3 d_Mo_apart_89 rfl ?_
        refine tb_aload_0 d_Mo_apart_90 rfl ?_
        refine g_Mo_52 d_Mo_apart_91 rfl rfl (by first | exact hS.k rfl) ?_
        refine tb_topR (y := 205) (hS.mr 18 (by decide)) ?_
        refine tb_iload_2 d_Mo_apart_94 rfl ?_
        refine tb_iaload d_Mo_apart_95 rfl (by first | exact hS.k rfl) (by first | exact mo_in hS (c := 12) rfl (by omega) (by decide) | exact mo_in hS (c := 10) rfl (by omega) (by decide) | exact mo_in hS (c := 25) rfl (by omega) (by decide) | exact mo_in hS (c := 6) rfl (by omega) (by decide) | exact mo_in hS (c := 72) rfl (by omega) (by decide) | exact mo_in hS (c := 120) rfl (by omega) (by decide) | exact mo_in hS (c := 300) rfl (by omega) (by decide) | exact mo_in hS (c := 150) rfl (by omega) (by decide) | exact mo_in hS (c := 1800) rfl (by omega) (by decide)) ?_
        refine tb_topI (y := tWr y) (by rw [nI_clamp (show u < 2 ^ 31 by omega)]; exact hU.2.2.2.2.2.1) ?_
        refine tb_callVr c_Mo_209 d_Mo_apart_96 rfl rfl rfl (Nat.le_of_ble_eq_true rfl) (by first | exact hS.k rfl) (ok_Mo_meets (z := tou x) hG wy d) ?_
        refine tb_if_ne 106 d_Mo_apart_99 (by decide) rfl (fun h99 => ?_) (fun h99 => ?_)
        · rw [bI_f (fun q => q (Or.inr (Classical.not_not.mp (fun z => h99 (bI_f z)))))]
          refine tb_iconst (0) (by decide) d_Mo_apart_106 rfl ?_
          refine tb_ireturn d_Mo_apart_107 rfl (by first | rfl | assumption) ?_
          exact ⟨rfl, rfl⟩
        · rw [bI_t (show ¬ wayA x y from fun q => by rcases q with q | q; exact bI_0.mp h85 q; exact bI_0.mp h99 q)]
          refine tb_iconst (1) (by decide) d_Mo_apart_102 rfl ?_
          refine tb_goto 107 d_Mo_apart_103 (by decide) ?_
          refine tb_ireturn d_Mo_apart_107 rfl (by first | rfl | assumption) ?_
          exact ⟨rfl, rfl⟩
  · refine tb_iconst (0) (by decide) d_Mo_apart_22 rfl ?_
    refine tb_topI ((tg wx).2 h19) ?_
    refine tb_goto 34 d_Mo_apart_23 (by decide) ?_
    refine tb_ior d_Mo_apart_34 rfl ?_
    refine tb_istore_3 d_Mo_apart_35 rfl (by decide) ?_
    refine tb_aload_0 d_Mo_apart_36 rfl ?_
    refine g_Mo_37 d_Mo_apart_37 rfl rfl (by first | exact hS.k rfl) ?_
    refine tb_topR (y := 200) (hS.mr 13 (by decide)) ?_
    refine tb_iload_2 d_Mo_apart_40 rfl ?_
    refine tb_iaload d_Mo_apart_41 rfl (by first | exact hS.k rfl) (by first | exact mo_in hS (c := 12) rfl (by omega) (by decide) | exact mo_in hS (c := 10) rfl (by omega) (by decide) | exact mo_in hS (c := 25) rfl (by omega) (by decide) | exact mo_in hS (c := 6) rfl (by omega) (by decide) | exact mo_in hS (c := 72) rfl (by omega) (by decide) | exact mo_in hS (c := 120) rfl (by omega) (by decide) | exact mo_in hS (c := 300) rfl (by omega) (by decide) | exact mo_in hS (c := 150) rfl (by omega) (by decide) | exact mo_in hS (c := 1800) rfl (by omega) (by decide)) ?_
    refine tb_topI (y := tRd y) (by rw [nI_clamp (show u < 2 ^ 31 by omega)]; exact hU.2.1) ?_
    refine tb_aload_0 d_Mo_apart_42 rfl ?_
    refine g_Mo_40 d_Mo_apart_43 rfl rfl (by first | exact hS.k rfl) ?_
    refine tb_topR (y := 201) (hS.mr 14 (by decide)) ?_
    refine tb_iload_2 d_Mo_apart_46 rfl ?_
    refine tb_iaload d_Mo_apart_47 rfl (by first | exact hS.k rfl) (by first | exact mo_in hS (c := 12) rfl (by omega) (by decide) | exact mo_in hS (c := 10) rfl (by omega) (by decide) | exact mo_in hS (c := 25) rfl (by omega) (by decide) | exact mo_in hS (c := 6) rfl (by omega) (by decide) | exact mo_in hS (c := 72) rfl (by omega) (by decide) | exact mo_in hS (c := 120) rfl (by omega) (by decide) | exact mo_in hS (c := 300) rfl (by omega) (by decide) | exact mo_in hS (c := 150) rfl (by omega) (by decide) | exact mo_in hS (c := 1800) rfl (by omega) (by decide)) ?_
    refine tb_topI (y := tAk y) (by rw [nI_clamp (show u < 2 ^ 31 by omega)]; exact hU.2.2.1) ?_
    refine tb_ior d_Mo_apart_48 rfl ?_
    refine tb_aload_0 d_Mo_apart_49 rfl ?_
    refine g_Mo_52 d_Mo_apart_50 rfl rfl (by first | exact hS.k rfl) ?_
    refine tb_topR (y := 205) (hS.mr 18 (by decide)) ?_
    refine tb_iload_2 d_Mo_apart_53 rfl ?_
    refine tb_iaload d_Mo_apart_54 rfl (by first | exact hS.k rfl) (by first | exact mo_in hS (c := 12) rfl (by omega) (by decide) | exact mo_in hS (c := 10) rfl (by omega) (by decide) | exact mo_in hS (c := 25) rfl (by omega) (by decide) | exact mo_in hS (c := 6) rfl (by omega) (by decide) | exact mo_in hS (c := 72) rfl (by omega) (by decide) | exact mo_in hS (c := 120) rfl (by omega) (by decide) | exact mo_in hS (c := 300) rfl (by omega) (by decide) | exact mo_in hS (c := 150) rfl (by omega) (by decide) | exact mo_in hS (c := 1800) rfl (by omega) (by decide)) ?_
    refine tb_topI (y := tWr y) (by rw [nI_clamp (show u < 2 ^ 31 by omega)]; exact hU.2.2.2.2.2.1) ?_
    refine tb_if_ge 62 d_Mo_apart_55 (by decide) rfl (fun h55 => ?_) (fun h55 => ?_)
    · refine tb_iconst (1) (by decide) d_Mo_apart_62 rfl ?_
      refine tb_aload_0 d_Mo_apart_63 rfl ?_
      refine g_Mo_52 d_Mo_apart_64 rfl rfl (by first | exact hS.k rfl) ?_
      refine tb_topR (y := 205) (hS.mr 18 (by decide)) ?_
      refine tb_iload_2 d_Mo_apart_67 rfl ?_
      refine tb_iaload d_Mo_apart_68 rfl (by first | exact hS.k rfl) (by first | exact mo_in hS (c := 12) rfl (by omega) (by decide) | exact mo_in hS (c := 10) rfl (by omega) (by decide) | exact mo_in hS (c := 25) rfl (by omega) (by decide) | exact mo_in hS (c := 6) rfl (by omega) (by decide) | exact mo_in hS (c := 72) rfl (by omega) (by decide) | exact mo_in hS (c := 120) rfl (by omega) (by decide) | exact mo_in hS (c := 300) rfl (by omega) (by decide) | exact mo_in hS (c := 150) rfl (by omega) (by decide) | exact mo_in hS (c := 1800) rfl (by omega) (by decide)) ?_
      refine tb_topI (y := tWr y) (by rw [nI_clamp (show u < 2 ^ 31 by omega)]; exact hU.2.2.2.2.2.1) ?_
      refine tb_ishl d_Mo_apart_69 rfl ?_
      refine tb_topI ((tg wy).1 h55) ?_
      refine tb_ior d_Mo_apart_70 rfl ?_
      refine tb_istore_4 d_Mo_apart_71 rfl (by decide) ?_
      refine tb_aload_0 d_Mo_apart_73 rfl ?_
      refine tb_iload_4 d_Mo_apart_74 rfl ?_
      refine tb_aload_0 d_Mo_apart_76 rfl ?_
      refine g_Mo_52 d_Mo_apart_77 rfl rfl (by first | exact hS.k rfl) ?_
      refine tb_topR (y := 205) (hS.mr 18 (by decide)) ?_
      refine tb_iload_1 d_Mo_apart_80 rfl ?_
      refine tb_iaload d_Mo_apart_81 rfl (by first | exact hS.k rfl) (by first | exact mo_in hS (c := 12) rfl (by omega) (by decide) | exact mo_in hS (c := 10) rfl (by omega) (by decide) | exact mo_in hS (c := 25) rfl (by omega) (by decide) | exact mo_in hS (c := 6) rfl (by omega) (by decide) | exact mo_in hS (c := 72) rfl (by omega) (by decide) | exact mo_in hS (c := 120) rfl (by omega) (by decide) | exact mo_in hS (c := 300) rfl (by omega) (by decide) | exact mo_in hS (c := 150) rfl (by omega) (by decide) | exact mo_in hS (c := 1800) rfl (by omega) (by decide)) ?_
      refine tb_topI (y := tWr x) (by rw [nI_clamp (show t < 2 ^ 31 by omega)]; exact hT.2.2.2.2.2.1) ?_
      refine tb_callVr c_Mo_209 d_Mo_apart_82 rfl rfl rfl (Nat.le_of_ble_eq_true rfl) (by first | exact hS.k rfl) (ok_Mo_meets (z := tou y) hG wx d) ?_
      refine tb_if_ne 106 d_Mo_apart_85 (by decide) rfl (fun h85 => ?_) (fun h85 => ?_)
      · rw [bI_f (fun q => q (Or.inl (Classical.not_not.mp (fun z => h85 (bI_f z)))))]
        refine tb_iconst (0) (by decide) d_Mo_apart_106 rfl ?_
        refine tb_ireturn d_Mo_apart_107 rfl (by first | rfl | assumption) ?_
        exact ⟨rfl, rfl⟩
      · refine tb_aload_0 d_Mo_apart_88 rfl ?_
        refine tb_iload_3 d_Mo_apart_89 rfl ?_
        refine tb_aload_0 d_Mo_apart_90 rfl ?_
        refine g_Mo_52 d_Mo_apart_91 rfl rfl (by first | exact hS.k rfl) ?_
        refine tb_topR (y := 205) (hS.mr 18 (by decide)) ?_
        refine tb_iload_2 d_Mo_apart_94 rfl ?_
        refine tb_iaload d_Mo_apart_95 rfl (by first | exact hS.k rfl) (by first | exact mo_in hS (c := 12) rfl (by omega) (by decide) | exact mo_in hS (c := 10) rfl (by omega) (by decide) | exact mo_in hS (c := 25) rfl (by omega) (by decide) | exact mo_in hS (c := 6) rfl (by omega) (by decide) | exact mo_in hS (c := 72) rfl (by omega) (by decide) | exact mo_in hS (c := 120) rfl (by omega) (by decide) | exact mo_in hS (c := 300) rfl (by omega) (by decide) | exact mo_in hS (c := 150) rfl (by omega) (by decide) | exact mo_in hS (c := 1800) rfl (by omega) (by decide)) ?_
        refine tb_topI (y := tWr y) (by rw [nI_clamp (show u < 2 ^ 31 by omega)]; exact hU.2.2.2.2.2.1) ?_
        refine tb_callVr c_Mo_209 d_Mo_apart_96 rfl rfl rfl (Nat.le_of_ble_eq_true rfl) (by first | exact hS.k rfl) (ok_Mo_meets (z := tou x) hG wy d) ?_
        refine tb_if_ne 106 d_Mo_apart_99 (by decide) rfl (fun h99 => ?_) (fun h99 => ?_)
        · rw [bI_f (fun q => q (Or.inr (Classical.not_not.mp (fun z => h99 (bI_f z)))))]
          refine tb_iconst (0) (by decide) d_Mo_apart_106 rfl ?_
          refine tb_ireturn d_Mo_apart_107 rfl (by first | rfl | assumption) ?_
          exact ⟨rfl, rfl⟩
        · rw [bI_t (show ¬ wayA x y from fun q => by rcases q with q | q; exact bI_0.mp h85 q; exact bI_0.mp h99 q)]
          refine tb_iconst (1) (by decide) d_Mo_apart_102 rfl ?_
          refine tb_goto 107 d_Mo_apart_103 (by decide) ?_
          refine tb_ireturn d_Mo_apart_107 rfl (by first | rfl | assumption) ?_
          exact ⟨rfl, rfl⟩
    · refine tb_iconst (0) (by decide) d_Mo_apart_58 rfl ?_
      refine tb_topI ((tg wy).2 h55) ?_
      refine tb_goto 70 d_Mo_apart_59 (by decide) ?_
      refine tb_ior d_Mo_apart_70 rfl ?_
      refine tb_istore_4 d_Mo_apart_71 rfl (by decide) ?_
      refine tb_aload_0 d_Mo_apart_73 rfl ?_
      refine tb_iload_4 d_Mo_apart_74 rfl ?_
      refine tb_aload_0 d_Mo_apart_76 rfl ?_
      refine g_Mo_52 d_Mo_apart_77 rfl rfl (by first | exact hS.k rfl) ?_
      refine tb_topR (y := 205) (hS.mr 18 (by decide)) ?_
      refine tb_iload_1 d_Mo_apart_80 rfl ?_
      refine tb_iaload d_Mo_apart_81 rfl (by first | exact hS.k rfl) (by first | exact mo_in hS (c := 12) rfl (by omega) (by decide) | exact mo_in hS (c := 10) rfl (by omega) (by decide) | exact mo_in hS (c := 25) rfl (by omega) (by decide) | exact mo_in hS (c := 6) rfl (by omega) (by decide) | exact mo_in hS (c := 72) rfl (by omega) (by decide) | exact mo_in hS (c := 120) rfl (by omega) (by decide) | exact mo_in hS (c := 300) rfl (by omega) (by decide) | exact mo_in hS (c := 150) rfl (by omega) (by decide) | exact mo_in hS (c := 1800) rfl (by omega) (by decide)) ?_
      refine tb_topI (y := tWr x) (by rw [nI_clamp (show t < 2 ^ 31 by omega)]; exact hT.2.2.2.2.2.1) ?_
      refine tb_callVr c_Mo_209 d_Mo_apart_82 rfl rfl rfl (Nat.le_of_ble_eq_true rfl) (by first | exact hS.k rfl) (ok_Mo_meets (z := tou y) hG wx d) ?_
      refine tb_if_ne 106 d_Mo_apart_85 (by decide) rfl (fun h85 => ?_) (fun h85 => ?_)
      · rw [bI_f (fun q => q (Or.inl (Classical.not_not.mp (fun z => h85 (bI_f z)))))]
        refine tb_iconst (0) (by decide) d_Mo_apart_106 rfl ?_
        refine tb_ireturn d_Mo_apart_107 rfl (by first | rfl | assumption) ?_
        exact ⟨rfl, rfl⟩
      · refine tb_aload_0 d_Mo_apart_88 rfl ?_
        refine tb_iload_3 d_Mo_apart_89 rfl ?_
        refine tb_aload_0 d_Mo_apart_90 rfl ?_
        refine g_Mo_52 d_Mo_apart_91 rfl rfl (by first | exact hS.k rfl) ?_
        refine tb_topR (y := 205) (hS.mr 18 (by decide)) ?_
        refine tb_iload_2 d_Mo_apart_94 rfl ?_
        refine tb_iaload d_Mo_apart_95 rfl (by first | exact hS.k rfl) (by first | exact mo_in hS (c := 12) rfl (by omega) (by decide) | exact mo_in hS (c := 10) rfl (by omega) (by decide) | exact mo_in hS (c := 25) rfl (by omega) (by decide) | exact mo_in hS (c := 6) rfl (by omega) (by decide) | exact mo_in hS (c := 72) rfl (by omega) (by decide) | exact mo_in hS (c := 120) rfl (by omega) (by decide) | exact mo_in hS (c := 300) rfl (by omega) (by decide) | exact mo_in hS (c := 150) rfl (by omega) (by decide) | exact mo_in hS (c := 1800) rfl (by omega) (by decide)) ?_
        refine tb_topI (y := tWr y) (by rw [nI_clamp (show u < 2 ^ 31 by omega)]; exact hU.2.2.2.2.2.1) ?_
        refine tb_callVr c_Mo_209 d_Mo_apart_96 rfl rfl rfl (Nat.le_of_ble_eq_true rfl) (by first | exact hS.k rfl) (ok_Mo_meets (z := tou x) hG wy d) ?_
        refine tb_if_ne 106 d_Mo_apart_99 (by decide) rfl (fun h99 => ?_) (fun h99 => ?_)
        · rw [bI_f (fun q => q (Or.inr (Classical.not_not.mp (fun z => h99 (bI_f z)))))]
          refine tb_iconst (0) (by decide) d_Mo_apart_106 rfl ?_
          refine tb_ireturn d_Mo_apart_107 rfl (by first | rfl | assumption) ?_
          exact ⟨rfl, rfl⟩
        · rw [bI_t (show ¬ wayA x y from fun q => by rcases q with q | q; exact bI_0.mp h85 q; exact bI_0.mp h99 q)]
          refine tb_iconst (1) (by decide) d_Mo_apart_102 rfl ?_
          refine tb_goto 107 d_Mo_apart_103 (by decide) ?_
          refine tb_ireturn d_Mo_apart_107 rfl (by first | rfl | assumption) ?_
          exact ⟨rfl, rfl⟩
end Mo10
