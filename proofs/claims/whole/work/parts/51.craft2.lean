/-! Craft: digits, asking, listing, the whole work. -/
theorem fOf_n {x : Int32} (h : fOf x ≠ -1) : ∃ f, f < 12 ∧ fOf x = nI f := by
  unfold fOf at h ⊢
  by_cases c : 97 ≤ x ∧ x ≤ 108
  · rw [if_pos c]
    obtain ⟨j, hj, rfl⟩ := nI_of (x := x) (fun z => absurd (Int32.lt_of_le_of_lt c.1 z) (by decide))
    have h1 := (nI_leI (a := 97) (by omega) hj).mp c.1
    have h2 := (nI_leI (b := 108) hj (by omega)).mp c.2
    exact ⟨j - 97, by omega, nI_subN (b := 97) h1⟩
  · rw [if_neg c] at h; exact absurd rfl h
theorem dOf_n {x : Int32} (h : dOf x ≠ -1) : ∃ f, (1 ≤ f ∧ f ≤ 9) ∧ dOf x = nI f := by
  unfold dOf at h ⊢
  by_cases c : 49 ≤ x ∧ x ≤ 57
  · rw [if_pos c]
    obtain ⟨j, hj, rfl⟩ := nI_of (x := x) (fun z => absurd (Int32.lt_of_le_of_lt c.1 z) (by decide))
    have h1 := (nI_leI (a := 49) (by omega) hj).mp c.1
    have h2 := (nI_leI (b := 57) hj (by omega)).mp c.2
    exact ⟨j - 48, by omega, nI_subN (b := 48) (by omega)⟩
  · rw [if_neg c] at h; exact absurd rfl h
theorem s16_n : ∀ f, f < 12 → (nI f).toInt16.toInt32 = nI f := by decide +kernel
theorem nar_n {f : Nat} (h : f < 12) : narrow .short (.int (nI f)) = .int (nI f) := by
  have := s16_nar (nI f)
  rw [s16_n f h] at this
  exact this
section Craft2
variable {E : tb_E} {M M1 M2 : tb_M} {t n : Nat} {a : Nat → Int32} {F : Nat → Option (List Int32)} {rd ak wr : Int32} {v w : Option (List Int32)}
def digL (a : Nat → Int32) (s e : Nat) : List Int32 := (List.range (e - s)).map (fun i => dOf (a (s + i)))
theorem digL_1 (a : Nat → Int32) {s e : Nat} (h : s ≤ e) : digL a s (e + 1) = digL a s e ++ [dOf (a e)] := by
  unfold digL
  rw [show e + 1 - s = e - s + 1 by omega, List.range_succ, List.map_append]
  simp only [List.map_cons, List.map_nil]
  rw [show s + (e - s) = e by omega]
theorem lp_Cr_digits (hG : tb_G E) (hS : Sh M) {d rc rs : Nat} {Q : tb_O → tb_M → Prop} {s : Nat} (hs : s + 1 ≤ n) (hd : ∀ i, s ≤ i → i + 1 < n → dOf (a i) ≠ -1) (hQ : ∀ M2, Wk M M2 t n a F rd ak wr (appL v (digL a s (n - 1))) → Q (.inl none) M2) : ∀ (m j : Nat), n - j = m → s ≤ j ∧ j + 1 ≤ n → ∀ M1, Wk M M1 t n a F rd ak wr (appL v (digL a s j)) → tb_Wp E m_Cr_copyDigits (d + 2) rc rs 2 [some (.inr t), some (.inl (nI s)), some (.inl (nI j))] [] M1 Q := by
  intro m
  induction m using Nat.strongRecOn with
  | ind m ih =>
    intro j hm hj M1 hW
    have hS1 := hW.sh hS
    obtain ⟨k1, r0, r1, k2, k3, g4⟩ := hS1.tr hW.2.1.1
    have hSh := hW.2.1.2.2.1
    have hn12 := hW.2.1.2.1.2.2.1
    refine tb_iload_2 d_Cr_copyDigits_2 rfl ?_
    refine tb_aload_0 d_Cr_copyDigits_3 rfl ?_
    refine g_Cr_47 d_Cr_copyDigits_4 rfl rfl (by first | exact k1 | exact k2 | exact k3) ?_
    refine tb_topR r0 ?_
    refine tb_callVr c_Cr_15 d_Cr_copyDigits_7 rfl rfl rfl (Nat.le_of_ble_eq_true rfl) (by first | exact k1 | exact k2 | exact k3) (ok_Tx_length hG hS1 hW.2.1.2.1 (d + 1)) ?_
    refine tb_iconst (1) (by decide) d_Cr_copyDigits_10 rfl ?_
    refine tb_isub d_Cr_copyDigits_11 rfl ?_
    rw [nI_sub1 (by omega)]
    refine tb_icmp_ge 40 d_Cr_copyDigits_12 (by decide) rfl (fun h12 => ?_) (fun h12 => ?_)
    · have hje : n - 1 ≤ j := (nI_leI (a := n - 1) (b := j) (by omega) (by omega)).mp h12
      have hje2 : j = n - 1 := by omega
      refine tb_vreturn d_Cr_copyDigits_40 rfl ?_
      refine hQ _ ?_
      rw [hje2] at hW
      exact hW
    · have hlt : j < n - 1 := Nat.lt_of_not_le (fun q => h12 ((nI_leI (a := n - 1) (b := j) (by omega) (by omega)).mpr q))
      obtain ⟨q, hq, hqe⟩ := dOf_n (hd j hj.1 (by omega))
      refine tb_aload_0 d_Cr_copyDigits_15 rfl ?_
      refine g_Cr_31 d_Cr_copyDigits_16 rfl rfl (by first | exact k1 | exact k2 | exact k3) ?_
      refine tb_topR r1 ?_
      refine tb_bipush (12) (by decide) d_Cr_copyDigits_19 rfl ?_
      refine tb_aload_0 d_Cr_copyDigits_21 rfl ?_
      refine g_Cr_47 d_Cr_copyDigits_22 rfl rfl (by first | exact k1 | exact k2 | exact k3) ?_
      refine tb_topR r0 ?_
      refine tb_iload_2 d_Cr_copyDigits_25 rfl ?_
      refine tb_callVr c_Cr_72 d_Cr_copyDigits_26 rfl rfl rfl (Nat.le_of_ble_eq_true rfl) (by first | exact k1 | exact k2 | exact k3) (ok_Tx_digitAt hG hS1 hW.2.1.2.1 (j := j) (by omega) d) ?_
      refine tb_topI (y := nI q) (by rw [hW.2.2.1 j, hqe]) ?_
      refine tb_i2s d_Cr_copyDigits_29 rfl ?_
      rw [s16_n q (by omega)]
      refine tb_callVq c_Cr_93 d_Cr_copyDigits_30 rfl rfl rfl (Nat.le_of_ble_eq_true rfl) (by first | exact k1 | exact k2 | exact k3) (ok_Sh_append hG hS1 hSh (p := 12) (show 12 < gL (t + 4) by omega) (nar_n (by omega)) d) (fun v2 M2 hP => ?_)
      obtain ⟨rfl, hP⟩ := hP
      refine tb_popi d_Cr_copyDigits_33 rfl ?_
      refine tb_iinc_2 (1) d_Cr_copyDigits_34 rfl (by decide) (by decide) ?_
      refine tb_goto 2 d_Cr_copyDigits_37 (by decide) ?_
      rw [nI_1]
      refine ih (n - (j + 1)) (by omega) (j + 1) rfl (by omega) _ ?_
      rw [digL_1 a hj.1, appL_1, ← hW.2.2.2.2.2.2.2, hqe]
      exact hW.pset hP
theorem ok_Cr_digits (hG : tb_G E) (hS : Sh M) (hW : Wk M M1 t n a F rd ak wr v) {s : Nat} (hs : s + 1 ≤ n) (hd : ∀ i, s ≤ i → i + 1 < n → dOf (a i) ≠ -1) (d : Nat) : tb_Rel E m_Cr_copyDigits (d + 2) [.inr (.inl t), .inl (nI s)] M1 (fun r M2 => r = none ∧ Wk M M2 t n a F rd ak wr (appL v (digL a s (n - 1)))) := by
  refine tb_okOf hG (by decide) rfl (Nat.le_of_ble_eq_true rfl) rfl ?_
  refine tb_iload_1 d_Cr_copyDigits_0 rfl ?_
  refine tb_istore_2 d_Cr_copyDigits_1 rfl (by decide) ?_
  refine lp_Cr_digits hG hS hs hd (fun M2 h => ⟨none, rfl, rfl, h⟩) _ s rfl ⟨Nat.le_refl _, hs⟩ M1 ?_
  unfold digL
  rw [Nat.sub_self]
  exact hW
def thr (v : Option (List Int32)) : Int32 := if v.isSome then 1 else 0
theorem thr_bI (v : Option (List Int32)) : thr v = bI (v ≠ none) := by
  unfold thr
  cases v with
  | none => rw [bI_f (by simp)]; rfl
  | some x => rw [bI_t (by simp)]; rfl
theorem thr_0 {v : Option (List Int32)} (h : thr v = 0) : v.isSome = false := by
  cases v with
  | none => rfl
  | some x => exact absurd h (by simp [thr])
theorem thr_1 {v : Option (List Int32)} (h : ¬ thr v = 0) : v.isSome = true := by
  cases v with
  | none => exact absurd rfl h
  | some x => rfl
theorem ok_Cr_tell (hG : tb_G E) (hS : Sh M) (hW0 : Wk M M1 t n a F rd ak wr v) {f : Nat} (hf : f < 12) (d : Nat) : tb_Rel E m_Cr_tellIfThere (d + 2) [.inr (.inl t), .inl (nI f)] M1 (fun r M2 => r = none ∧ Wk M M2 t n a F rd (ak ||| (1 <<< (nI f &&& 31))) wr (appL v [thr (F f)])) := by
  have k0 := (hW0.sh hS).k hW0.2.1.1
  have hW := hW0.sAk (x := ak ||| (1 <<< (nI f &&& 31)))
  have hS1 := hW.sh hS
  obtain ⟨k1, r0, r1, k2, k3, g4⟩ := hS1.tr hW.2.1.1
  have hSh := hW.2.1.2.2.1
  refine tb_okOf hG (by decide) rfl (Nat.le_of_ble_eq_true rfl) rfl ?_
  refine tb_aload_0 d_Cr_tellIfThere_0 rfl ?_
  refine tb_dup d_Cr_tellIfThere_1 rfl ?_
  refine g_Cr_103 d_Cr_tellIfThere_2 rfl rfl (by first | exact k0 | exact k1 | exact k2 | exact k3) ?_
  refine tb_topI hW0.2.2.2.2.2.1 ?_
  refine tb_iconst (1) (by decide) d_Cr_tellIfThere_5 rfl ?_
  refine tb_iload_1 d_Cr_tellIfThere_6 rfl ?_
  refine tb_ishl d_Cr_tellIfThere_7 rfl ?_
  refine tb_ior d_Cr_tellIfThere_8 rfl ?_
  refine p_Cr_103 d_Cr_tellIfThere_9 rfl rfl (by first | exact k0 | exact k1 | exact k2 | exact k3) ?_
  refine tb_aload_0 d_Cr_tellIfThere_12 rfl ?_
  refine g_Cr_31 d_Cr_tellIfThere_13 rfl rfl (by first | exact k0 | exact k1 | exact k2 | exact k3) ?_
  refine tb_topR r1 ?_
  refine tb_bipush (12) (by decide) d_Cr_tellIfThere_16 rfl ?_
  refine tb_aload_0 d_Cr_tellIfThere_18 rfl ?_
  refine g_Cr_31 d_Cr_tellIfThere_19 rfl rfl (by first | exact k0 | exact k1 | exact k2 | exact k3) ?_
  refine tb_topR r1 ?_
  refine tb_iload_1 d_Cr_tellIfThere_22 rfl ?_
  refine tb_callVr c_Cr_106 d_Cr_tellIfThere_23 rfl rfl rfl (Nat.le_of_ble_eq_true rfl) (by first | exact k0 | exact k1 | exact k2 | exact k3) (ok_Sh_isThere hG hS1 hSh (p := f) (show f < gL (t + 4) by omega) (d + 1)) ?_
  refine tb_topI (y := thr (F f)) (by rw [hW.2.2.2.1 f hf, thr_bI]) ?_
  refine tb_if_eq 33 d_Cr_tellIfThere_26 (by decide) rfl (fun h26 => ?_) (fun h26 => ?_)
  · have e : thr (F f) = nI 0 := h26
    refine tb_iconst (0) (by decide) d_Cr_tellIfThere_33 rfl ?_
    refine tb_topI (y := thr (F f)) e.symm ?_
    refine tb_i2s d_Cr_tellIfThere_34 rfl ?_
    refine tb_topI (y := thr (F f)) (by rw [e]; decide +kernel) ?_
    refine tb_callVq c_Cr_93 d_Cr_tellIfThere_35 rfl rfl rfl (Nat.le_of_ble_eq_true rfl) (by first | exact k0 | exact k1 | exact k2 | exact k3) (ok_Sh_append hG hS1 hSh (p := 12) (show 12 < gL (t + 4) by omega) (by rw [e]; exact nar_n (by omega)) d) (fun v2 M2 hP => ?_)
    obtain ⟨rfl, hP⟩ := hP
    refine tb_popi d_Cr_tellIfThere_38 rfl ?_
    refine tb_vreturn d_Cr_tellIfThere_39 rfl ?_
    rw [hW.2.2.2.2.2.2.2] at hP
    exact ⟨none, rfl, rfl, hW.pset hP⟩
  · have e : thr (F f) = nI 1 := by
      unfold thr at h26 ⊢
      cases hF : (F f).isSome <;> rw [hF] at h26
      · exact absurd rfl h26
      · rfl
    refine tb_iconst (1) (by decide) d_Cr_tellIfThere_29 rfl ?_
    refine tb_topI (y := thr (F f)) e.symm ?_
    refine tb_goto 34 d_Cr_tellIfThere_30 (by decide) ?_
    refine tb_i2s d_Cr_tellIfThere_34 rfl ?_
    refine tb_topI (y := thr (F f)) (by rw [e]; decide +kernel) ?_
    refine tb_callVq c_Cr_93 d_Cr_tellIfThere_35 rfl rfl rfl (Nat.le_of_ble_eq_true rfl) (by first | exact k0 | exact k1 | exact k2 | exact k3) (ok_Sh_append hG hS1 hSh (p := 12) (show 12 < gL (t + 4) by omega) (by rw [e]; exact nar_n (by omega)) d) (fun v2 M2 hP => ?_)
    obtain ⟨rfl, hP⟩ := hP
    refine tb_popi d_Cr_tellIfThere_38 rfl ?_
    refine tb_vreturn d_Cr_tellIfThere_39 rfl ?_
    rw [hW.2.2.2.2.2.2.2] at hP
    exact ⟨none, rfl, rfl, hW.pset hP⟩
theorem msk_all : msk (fun _ => True) 12 = 4095 := by
  simp only [msk, if_true]
  decide +kernel
def thL (F : Nat → Option (List Int32)) (k : Nat) : List Int32 := ((List.range k).filter (fun f => (F f).isSome)).map nI
theorem thL_t (F : Nat → Option (List Int32)) {k : Nat} (h : (F k).isSome = true) : thL F (k + 1) = thL F k ++ [nI k] := by
  unfold thL; rw [List.range_succ, List.filter_append, List.map_append]; simp [h]
theorem thL_f (F : Nat → Option (List Int32)) {k : Nat} (h : (F k).isSome = false) : thL F (k + 1) = thL F k := by
  unfold thL; rw [List.range_succ, List.filter_append, List.map_append]; simp [h]
theorem lp_Cr_list (hG : tb_G E) (hS : Sh M) {d rc rs : Nat} {Q : tb_O → tb_M → Prop} (hQ : ∀ M2, Wk M M2 t n a F rd (msk (fun _ => True) 12) wr (appL v (thL F 12)) → Q (.inl none) M2) : ∀ (m j : Nat), 12 - j = m → j ≤ 12 → ∀ M1, Wk M M1 t n a F rd (msk (fun _ => True) j) wr (appL v (thL F j)) → tb_Wp E m_Cr_listFiles (d + 2) rc rs 2 [some (.inr t), some (.inl (nI j))] [] M1 Q := by
  intro m
  induction m using Nat.strongRecOn with
  | ind m ih =>
    intro j hm hj M1 hW0
    have k0 := (hW0.sh hS).k hW0.2.1.1
    have hW := hW0.sAk (x := msk (fun _ => True) (j + 1))
    have hS1 := hW.sh hS
    obtain ⟨k1, r0, r1, k2, k3, g4⟩ := hS1.tr hW.2.1.1
    have hSh := hW.2.1.2.2.1
    refine tb_iload_1 d_Cr_listFiles_2 rfl ?_
    refine tb_bipush (12) (by decide) d_Cr_listFiles_3 rfl ?_
    refine tb_icmp_ge 49 d_Cr_listFiles_5 (by decide) rfl (fun h5 => ?_) (fun h5 => ?_)
    · have hje : 12 ≤ j := (nI_leI (a := 12) (b := j) (by omega) (by omega)).mp h5
      have hje2 : j = 12 := by omega
      refine tb_vreturn d_Cr_listFiles_49 rfl ?_
      refine hQ _ ?_
      rw [hje2] at hW0
      exact hW0
    · have hlt : j < 12 := Nat.lt_of_not_le (fun q => h5 ((nI_leI (a := 12) (b := j) (by omega) (by omega)).mpr q))
      refine tb_aload_0 d_Cr_listFiles_8 rfl ?_
      refine tb_dup d_Cr_listFiles_9 rfl ?_
      refine g_Cr_103 d_Cr_listFiles_10 rfl rfl (by first | exact k0 | exact k1 | exact k2 | exact k3) ?_
      refine tb_topI hW0.2.2.2.2.2.1 ?_
      refine tb_iconst (1) (by decide) d_Cr_listFiles_13 rfl ?_
      refine tb_iload_1 d_Cr_listFiles_14 rfl ?_
      refine tb_ishl d_Cr_listFiles_15 rfl ?_
      refine tb_ior d_Cr_listFiles_16 rfl ?_
      refine tb_topI (y := msk (fun _ => True) (j + 1)) (msk_t (b := fun _ => True) trivial).symm ?_
      refine p_Cr_103 d_Cr_listFiles_17 rfl rfl (by first | exact k0 | exact k1 | exact k2 | exact k3) ?_
      refine tb_aload_0 d_Cr_listFiles_20 rfl ?_
      refine g_Cr_31 d_Cr_listFiles_21 rfl rfl (by first | exact k0 | exact k1 | exact k2 | exact k3) ?_
      refine tb_topR r1 ?_
      refine tb_iload_1 d_Cr_listFiles_24 rfl ?_
      refine tb_callVr c_Cr_106 d_Cr_listFiles_25 rfl rfl rfl (Nat.le_of_ble_eq_true rfl) (by first | exact k0 | exact k1 | exact k2 | exact k3) (ok_Sh_isThere hG hS1 hSh (p := j) (show j < gL (t + 4) by omega) (d + 1)) ?_
      refine tb_topI (y := thr (F j)) (by rw [hW.2.2.2.1 j hlt, thr_bI]) ?_
      refine tb_if_eq 43 d_Cr_listFiles_28 (by decide) rfl (fun h28 => ?_) (fun h28 => ?_)
      · have e := thr_0 h28
        refine tb_iinc_1 (1) d_Cr_listFiles_43 rfl (by decide) (by decide) ?_
        refine tb_goto 2 d_Cr_listFiles_46 (by decide) ?_
        rw [nI_1]
        refine ih (12 - (j + 1)) (by omega) (j + 1) rfl (by omega) _ ?_
        first
          | (rw [thL_f F e]; exact hW)
          | (rw [thL_t F e, appL_1, ← hW.2.2.2.2.2.2.2]
             exact hW.pset hP)
      · have e := thr_1 h28
        refine tb_aload_0 d_Cr_listFiles_31 rfl ?_
        refine g_Cr_31 d_Cr_listFiles_32 rfl rfl (by first | exact k0 | exact k1 | exact k2 | exact k3) ?_
        refine tb_topR r1 ?_
        refine tb_bipush (12) (by decide) d_Cr_listFiles_35 rfl ?_
        refine tb_iload_1 d_Cr_listFiles_37 rfl ?_
        refine tb_i2s d_Cr_listFiles_38 rfl ?_
        rw [s16_n j hlt]
        refine tb_callVq c_Cr_93 d_Cr_listFiles_39 rfl rfl rfl (Nat.le_of_ble_eq_true rfl) (by first | exact k0 | exact k1 | exact k2 | exact k3) (ok_Sh_append hG hS1 hSh (p := 12) (show 12 < gL (t + 4) by omega) (nar_n hlt) d) (fun v2 M2 hP => ?_)
        obtain ⟨rfl, hP⟩ := hP
        refine tb_popi d_Cr_listFiles_42 rfl ?_
        refine tb_iinc_1 (1) d_Cr_listFiles_43 rfl (by decide) (by decide) ?_
        refine tb_goto 2 d_Cr_listFiles_46 (by decide) ?_
        rw [nI_1]
        refine ih (12 - (j + 1)) (by omega) (j + 1) rfl (by omega) _ ?_
        first
          | (rw [thL_f F e]; exact hW)
          | (rw [thL_t F e, appL_1, ← hW.2.2.2.2.2.2.2]
             exact hW.pset hP)
theorem ok_Cr_list (hG : tb_G E) (hS : Sh M) (hW : Wk M M1 t n a F rd 0 wr v) (d : Nat) : tb_Rel E m_Cr_listFiles (d + 2) [.inr (.inl t)] M1 (fun r M2 => r = none ∧ Wk M M2 t n a F rd 4095 wr (appL v (thL F 12))) := by
  refine tb_okOf hG (by decide) rfl (Nat.le_of_ble_eq_true rfl) rfl ?_
  refine tb_iconst (0) (by decide) d_Cr_listFiles_0 rfl ?_
  refine tb_istore_1 d_Cr_listFiles_1 rfl (by decide) ?_
  exact lp_Cr_list hG hS (fun M2 h => ⟨none, rfl, rfl, by rw [msk_all] at h; exact h⟩) _ 0 rfl (Nat.zero_le _) M1 hW
theorem ok_Cr_read (hG : tb_G E) (hS : Sh M) (hW : Wk M M1 t n a F rd ak wr v) {j f : Nat} (hj : j < 2 ^ 31) (hf : fOf (a j) = nI f) (d : Nat) : tb_Ret E m_Cr_read (d + 2) [.inr (.inl t), .inl (nI j)] M1 (some (.inl (nI f))) (tb_sI M1 t 2 (rd ||| (1 <<< (nI f &&& 31)))) := by
  have hS1 := hW.sh hS
  obtain ⟨k1, r0, r1, k2, k3, g4⟩ := hS1.tr hW.2.1.1
  have hSh := hW.2.1.2.2.1
  refine tb_okOf hG (by decide) rfl (Nat.le_of_ble_eq_true rfl) rfl ?_
  refine tb_aload_0 d_Cr_read_0 rfl ?_
  refine g_Cr_47 d_Cr_read_1 rfl rfl (by first | exact k1 | exact k2 | exact k3) ?_
  refine tb_topR r0 ?_
  refine tb_iload_1 d_Cr_read_4 rfl ?_
  refine tb_callVr c_Cr_51 d_Cr_read_5 rfl rfl rfl (Nat.le_of_ble_eq_true rfl) (by first | exact k1 | exact k2 | exact k3) (ok_Tx_fileAt hG hS1 hW.2.1.2.1 hj d) ?_
  refine tb_topI (y := nI f) (by rw [hW.2.2.1 j, hf]) ?_
  refine tb_istore_2 d_Cr_read_8 rfl (by decide) ?_
  refine tb_aload_0 d_Cr_read_9 rfl ?_
  refine tb_dup d_Cr_read_10 rfl ?_
  refine g_Cr_91 d_Cr_read_11 rfl rfl (by first | exact k1 | exact k2 | exact k3) ?_
  refine tb_topI hW.2.2.2.2.1 ?_
  refine tb_iconst (1) (by decide) d_Cr_read_14 rfl ?_
  refine tb_iload_2 d_Cr_read_15 rfl ?_
  refine tb_ishl d_Cr_read_16 rfl ?_
  refine tb_ior d_Cr_read_17 rfl ?_
  refine p_Cr_91 d_Cr_read_18 rfl rfl (by first | exact k1 | exact k2 | exact k3) ?_
  refine tb_iload_2 d_Cr_read_21 rfl ?_
  refine tb_ireturn d_Cr_read_22 rfl (by first | rfl | assumption) ?_
  exact ⟨rfl, rfl⟩
end Craft2
