/-! The reference: compact. -/
noncomputable def kAt (S : StV) (t : Nat) : List Nat := (List.range t).filter (folA S)
theorem kAt_t {S : StV} {t : Nat} (h : ¬ ∃ v, t < v ∧ v < S.1 ∧ tT (S.2 v) = tT (S.2 t)) : kAt S (t + 1) = kAt S t ++ [t] := by
  unfold kAt
  rw [List.range_succ, List.filter_append]
  congr 1
  have : folA S t = true := by unfold folA; exact @decide_eq_true _ (Classical.propDecidable _) h
  simp [this]
theorem kAt_f {S : StV} {t : Nat} (h : ∃ v, t < v ∧ v < S.1 ∧ tT (S.2 v) = tT (S.2 t)) : kAt S (t + 1) = kAt S t := by
  unfold kAt
  rw [List.range_succ, List.filter_append]
  have : folA S t = false := by unfold folA; exact @decide_eq_false _ (Classical.propDecidable _) (fun z => z h)
  simp [this]
theorem kAt_le (S : StV) (t : Nat) : (kAt S t).length ≤ t := by
  unfold kAt
  exact Nat.le_trans (List.length_filter_le _ _) (by simp)
section Mo19
variable {E : tb_E} {M M1 : tb_M} {g : Sg}
theorem lp_Mo_compact (hG : tb_G E) (hS : Sh M) {S : StV} (hc : S.1 ≤ 24) {d rc rs : Nat} {Q : tb_O → tb_M → Prop} (hQ : ∀ M1, On M M1 (fun q => 198 ≤ q ∧ q < 208) → (∀ i, i < (kAt S S.1).length → MTr M1 i (S.2 ((kAt S S.1).getD i 0))) → Q (.inl (some (.inl (nI (S.1 - (kAt S S.1).length))))) (tb_sI M1 190 10 (nI (kAt S S.1).length))) :
    ∀ (m t : Nat) (l4 l5 : tb_L), S.1 - t = m → t ≤ S.1 → ∀ M1, On M M1 (fun q => 198 ≤ q ∧ q < 208) → (∀ i, i < (kAt S t).length → MTr M1 i (S.2 ((kAt S t).getD i 0))) → (∀ v, t ≤ v → v < S.1 → MTr M1 v (S.2 v)) → tb_Wp E m_Mo_compact (d + 1) rc rs 14 [some (.inr 190), some (.inl (nI (kAt S t).length)), some (.inl (nI S.1)), some (.inl (nI t)), l4, l5] [] M1 Q := by
  intro m
  induction m using Nat.strongRecOn with
  | ind m ih =>
    intro t l4 l5 hm ht M1 o1 h1 h2
    have hS1 := o1.sh hS
    have hle := kAt_le S t
    refine tb_iload_3 d_Mo_compact_14 rfl ?_
    refine tb_iload_2 d_Mo_compact_15 rfl ?_
    refine tb_icmp_ge 84 d_Mo_compact_16 (by decide) rfl (fun h16 => ?_) (fun h16 => ?_)
    · have hje : S.1 ≤ t := (nI_leI (a := S.1) (b := t) (by omega) (by omega)).mp h16
      have hje2 : t = S.1 := by omega
      subst hje2
      refine tb_aload_0 d_Mo_compact_84 rfl ?_
      refine tb_iload_1 d_Mo_compact_85 rfl ?_
      refine p_Mo_176 d_Mo_compact_86 rfl rfl (by first | exact hS1.k rfl) ?_
      refine tb_iload_2 d_Mo_compact_89 rfl ?_
      refine tb_iload_1 d_Mo_compact_90 rfl ?_
      refine tb_isub d_Mo_compact_91 rfl ?_
      refine tb_topI (nI_subN hle) ?_
      refine tb_ireturn d_Mo_compact_92 rfl (by first | rfl | assumption) ?_
      exact hQ M1 o1 h1
    · have hlt : t < S.1 := Nat.lt_of_not_le (fun q => h16 ((nI_leI (a := S.1) (b := t) (by omega) (by omega)).mpr q))
      refine tb_iconst (0) (by decide) d_Mo_compact_19 rfl ?_
      refine tb_istore_4 d_Mo_compact_20 rfl (by decide) ?_
      refine tb_iload_3 d_Mo_compact_22 rfl ?_
      refine tb_iconst (1) (by decide) d_Mo_compact_23 rfl ?_
      refine tb_iadd d_Mo_compact_24 rfl ?_
      rw [nI_1]
      refine tb_istore_5 d_Mo_compact_25 rfl (by decide) ?_
      have e0 : (0 : Int32) = bI (∃ v, t < v ∧ v < t + 1 ∧ tT (S.2 v) = tT (S.2 t)) := (bI_f (fun z => by obtain ⟨v, a, b, -⟩ := z; omega)).symm
      rw [e0]
      refine lp_Mo_later hG hS1 h2 hc hlt (fun l5 => ?_) _ (t + 1) rfl (by omega) (by omega)
      refine tb_iload_4 d_Mo_compact_61 rfl ?_
      refine tb_if_eq 69 d_Mo_compact_63 (by decide) rfl (fun h63 => ?_) (fun h63 => ?_)
      · have hno := bI_0.mp h63
        refine tb_aload_0 d_Mo_compact_69 rfl ?_
        refine tb_iload_3 d_Mo_compact_70 rfl ?_
        refine tb_iload_1 d_Mo_compact_71 rfl ?_
        refine tb_callVq c_Mo_188 d_Mo_compact_72 rfl rfl rfl (Nat.le_of_ble_eq_true rfl) (by exact hS1.k rfl) (ok_Mo_copy hG hS1 (fr := t) (to := (kAt S t).length) (by omega) (by omega) d) (fun v2 M2 hP => ?_)
        obtain ⟨rfl, hP⟩ := hP
        refine tb_iinc_1 (1) d_Mo_compact_75 rfl (by decide) (by decide) ?_
        refine tb_iinc_3 (1) d_Mo_compact_78 rfl (by decide) (by decide) ?_
        refine tb_goto 14 d_Mo_compact_81 (by decide) ?_
        rw [nI_1, nI_1]
        have hk := kAt_t hno
        have hkl : (kAt S (t + 1)).length = (kAt S t).length + 1 := by rw [hk, List.length_append]; rfl
        rw [← hkl]
        refine ih (S.1 - (t + 1)) (by omega) (t + 1) _ _ rfl (by omega) M2 (o1.trans hP.1) (fun i hi => ?_) (fun v a b => hP.ne (by omega) (h2 v (by omega) b))
        rw [hkl] at hi
        by_cases e : i = (kAt S t).length
        · have : (kAt S (t + 1)).getD i 0 = t := by rw [hk, e]; simp
          rw [this, e]
          exact hP.at (h2 t (Nat.le_refl _) hlt)
        · have : (kAt S (t + 1)).getD i 0 = (kAt S t).getD i 0 := by rw [hk, List.getD_eq_getElem?_getD, List.getD_eq_getElem?_getD, List.getElem?_append_left (by omega)]
          rw [this]
          exact hP.ne e (h1 i (by omega))
      · have hyes := Classical.not_not.mp (fun z => h63 (bI_f z))
        refine tb_goto 78 d_Mo_compact_66 (by decide) ?_
        refine tb_iinc_3 (1) d_Mo_compact_78 rfl (by decide) (by decide) ?_
        refine tb_goto 14 d_Mo_compact_81 (by decide) ?_
        rw [nI_1]
        have hk := kAt_f hyes
        rw [← hk]
        exact ih (S.1 - (t + 1)) (by omega) (t + 1) _ _ rfl (by omega) M1 o1 (by rw [hk]; exact h1) (fun v a b => h2 v (by omega) b)
theorem ok_Mo_compact (hG : tb_G E) (h : MIs M g) (d : Nat) : tb_Rel E m_Mo_compact (d + 1) [.inr (.inl 190)] M (Mp M (oCom g) 0 (some (aCom g))) := by
  obtain ⟨hM0, o0⟩ := h.put (j := 0) (x := 0) (Or.inl rfl)
  have hS := h.1
  have hc0 := c190 M 0
  generalize hM1 : tb_sI M 190 0 0 = M1 at hM0 o0 hc0
  have hS1 := hM0.1
  obtain ⟨-, hH, hC, hF, hSt, hL, hA⟩ := hM0
  have hc := hSt.2.1
  refine tb_okOf hG (by decide) rfl (Nat.le_of_ble_eq_true rfl) rfl ?_
  refine tb_aload_0 d_Mo_compact_0 rfl ?_
  refine tb_iconst (0) (by decide) d_Mo_compact_1 rfl ?_
  refine p_Mo_89 d_Mo_compact_2 rfl rfl (by exact hS.k rfl) ?_
  refine tb_memeq hM1 ?_
  refine tb_iconst (0) (by decide) d_Mo_compact_5 rfl ?_
  refine tb_istore_1 d_Mo_compact_6 rfl (by decide) ?_
  refine tb_aload_0 d_Mo_compact_7 rfl ?_
  refine g_Mo_176 d_Mo_compact_8 rfl rfl (by first | exact hS1.k rfl) ?_
  refine tb_topI hSt.1 ?_
  refine tb_istore_2 d_Mo_compact_11 rfl (by decide) ?_
  refine tb_iconst (0) (by decide) d_Mo_compact_12 rfl ?_
  refine tb_istore_3 d_Mo_compact_13 rfl (by decide) ?_
  refine lp_Mo_compact hG hS1 (S := g.2.2.1.2.1) hc (fun M2 o2 hI => ?_) _ 0 _ _ rfl (Nat.zero_le _) M1 On.rf (fun i hi => absurd hi (Nat.not_lt_zero _)) (fun v _ hv => hSt.2.2 v hv)
  have hle := kAt_le g.2.2.1.2.1 g.2.2.1.2.1.1
  have o3 : On M2 (tb_sI M2 190 10 (nI (kAt g.2.2.1.2.1 g.2.2.1.2.1.1).length)) (fun q => q = 190) := On.sI rfl
  have e : ∀ j, j ≠ 10 → tb_I (tb_sI M2 190 10 (nI (kAt g.2.2.1.2.1 g.2.2.1.2.1.1).length)) 190 j = tb_I M1 190 j := fun j hj => by rw [sI_at, o2.i (by omega)]; simp [va_up, hj]
  have oo : ∀ q, ¬ (198 ≤ q ∧ q < 208) → q ≠ 190 → tb_I (tb_sI M2 190 10 (nI (kAt g.2.2.1.2.1 g.2.2.1.2.1.1).length)) q = tb_I M1 q := fun q a b => by rw [o3.i b, o2.i a]
  refine ⟨_, rfl, rfl, ⟨o3.sh (o2.sh hS1), hH.of (e 5 (by decide)) (oo _ (by decide) (by decide)), hC.of (e 7 (by decide)) (oo _ (by decide) (by decide)) (oo _ (by decide) (by decide)), hF.of (oo _ (by decide) (by decide)) (oo _ (by decide) (by decide)), ⟨by rw [sI_at]; simp [va_up]; rfl, by show (kAt g.2.2.1.2.1 g.2.2.1.2.1.1).length ≤ 24; omega, fun t ht => (hI t ht).of (fun q _ _ => o3.i (by omega))⟩, hL.of (e 26 (by decide)) (fun j a b => e j (by omega)) (fun q a b => oo q (by omega) (by omega)), by rw [e 39 (by decide)]; exact hA⟩, o0.trans ((o2.mono (fun q hq => ⟨by omega, by omega⟩)).trans (o3.mono (fun q hq => ⟨by omega, by omega⟩))), by rw [e 0 (by decide)]; exact hc0⟩
end Mo19
