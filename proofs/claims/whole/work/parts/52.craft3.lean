/-! Craft: the whole work. -/
def fl (a : Nat → Int32) (F : Nat → Option (List Int32)) (i : Nat) : List Int32 := cl (F (fOf (a i)).toNatClampNeg)
def bF (a : Nat → Int32) (i : Nat) : Int32 := 1 <<< (fOf (a i) &&& 31)
/-- read, asked, wrote, what is written: a command without questions -/
def plainW (a : Nat → Int32) (n : Nat) (F : Nat → Option (List Int32)) (s : Nat) (rd : Int32) : Int32 × Int32 × Int32 × Option (List Int32) :=
  if a s = 43 then ((rd ||| bF a (s + 1)) ||| bF a (s + 2), 0, fOf (a (n - 1)), appL (some []) (sumL (fl a F (s + 1)) (fl a F (s + 2))))
  else if a s = 99 then (rd ||| bF a (s + 1), 0, fOf (a (n - 1)), appL (some []) (fl a F (s + 1)))
  else if a s = 102 then (rd ||| bF a (s + 2), 0, fOf (a (n - 1)), appL (some []) (divL (dOf (a (s + 1))) (fl a F (s + 2))))
  else if a s = 106 then ((rd ||| bF a (s + 1)) ||| bF a (s + 2), 0, fOf (a (n - 1)), appL (appL (some []) (fl a F (s + 1))) (fl a F (s + 2)))
  else if a s = 108 then (rd, 4095, fOf (a (n - 1)), appL (some []) (thL F 12))
  else if a s = 110 then (rd, 0, fOf (a (n - 1)), appL (some []) (digL a (s + 1) (n - 1)))
  else if a s = 112 then (rd, bF a (s + 1), fOf (a (n - 1)), appL (some []) [thr (F (fOf (a (s + 1))).toNatClampNeg)])
  else if a s = 115 then (rd ||| bF a (s + 1), 0, fOf (a (n - 1)), some (srt (cl (appL (some []) (fl a F (s + 1))))))
  else (rd, 0, fOf (a (n - 1)), none)
/-- a command with its questions -/
def craftW (a : Nat → Int32) (n : Nat) (F : Nat → Option (List Int32)) : Nat → Nat → Int32 → Int32 × Int32 × Int32 × Option (List Int32)
  | 0, _, rd => (rd, 0, -1, none)
  | k + 1, s, rd => if s < n ∧ a s = 63 then (if (fl a F (s + 1)).headD 0 = 0 then (rd ||| bF a (s + 1), 0, -1, none) else craftW a n F k (s + 2) (rd ||| bF a (s + 1))) else plainW a n F s rd
theorem appL_cl (l xs : List Int32) : appL (some l) xs = some (cl (appL (some l) xs)) := by
  induction xs generalizing l with
  | nil => rfl
  | cons x xs ih =>
    show appL (app6 (some l) x) xs = some (cl (appL (app6 (some l) x) xs))
    unfold app6
    split
    · exact ih _
    · exact ih _
theorem headD_0 {l : List Int32} (h : l.length = 0) : l.headD 0 = 0 := by rw [List.eq_nil_of_length_eq_zero h]; rfl
theorem headD_get {l : List Int32} (h : 0 < l.length) : l.headD 0 = l[0] := by
  cases l with
  | nil => exact absurd h (Nat.not_lt_zero _)
  | cons x xs => rfl

section Craft3
variable {E : tb_E} {M M1 M2 : tb_M} {t n s : Nat} {a : Nat → Int32} {F : Nat → Option (List Int32)} {rd ak wr : Int32} {v w : Option (List Int32)}
theorem plain_43 (h : plainP a n s) (e : a s = 43) : filesP a n (s + 1) 3 := by
  unfold plainP at h
  rcases h with h | h | h | h | h | h | h | h | h <;> first | exact h.2 | exact absurd (h.1.symm.trans e) (by decide)
theorem plain_99 (h : plainP a n s) (e : a s = 99) : filesP a n (s + 1) 2 := by
  unfold plainP at h
  rcases h with h | h | h | h | h | h | h | h | h <;> first | exact h.2 | exact absurd (h.1.symm.trans e) (by decide)
theorem plain_102 (h : plainP a n s) (e : a s = 102) : dOf (a (s + 1)) ≠ -1 ∧ filesP a n (s + 2) 2 := by
  unfold plainP at h
  rcases h with h | h | h | h | h | h | h | h | h <;> first | exact h.2 | exact absurd (h.1.symm.trans e) (by decide)
theorem plain_106 (h : plainP a n s) (e : a s = 106) : filesP a n (s + 1) 3 := by
  unfold plainP at h
  rcases h with h | h | h | h | h | h | h | h | h <;> first | exact h.2 | exact absurd (h.1.symm.trans e) (by decide)
theorem plain_108 (h : plainP a n s) (e : a s = 108) : filesP a n (s + 1) 1 := by
  unfold plainP at h
  rcases h with h | h | h | h | h | h | h | h | h <;> first | exact h.2 | exact absurd (h.1.symm.trans e) (by decide)
theorem plain_110 (h : plainP a n s) (e : a s = 110) : digsP a n (s + 1) := by
  unfold plainP at h
  rcases h with h | h | h | h | h | h | h | h | h <;> first | exact h.2 | exact absurd (h.1.symm.trans e) (by decide)
theorem plain_112 (h : plainP a n s) (e : a s = 112) : filesP a n (s + 1) 2 := by
  unfold plainP at h
  rcases h with h | h | h | h | h | h | h | h | h <;> first | exact h.2 | exact absurd (h.1.symm.trans e) (by decide)
theorem plain_115 (h : plainP a n s) (e : a s = 115) : filesP a n (s + 1) 2 := by
  unfold plainP at h
  rcases h with h | h | h | h | h | h | h | h | h <;> first | exact h.2 | exact absurd (h.1.symm.trans e) (by decide)
theorem plain_120 (h : plainP a n s) (e : a s = 120) : filesP a n (s + 1) 1 := by
  unfold plainP at h
  rcases h with h | h | h | h | h | h | h | h | h <;> first | exact h.2 | exact absurd (h.1.symm.trans e) (by decide)
theorem plain_last (h : plainP a n s) : fOf (a (n - 1)) ≠ -1 ∧ s + 2 ≤ n := by
  unfold plainP at h
  rcases h with h | h | h | h | h | h | h | h | h
  · exact ⟨h.2.2 (n - 1) (by have := h.2.1; omega) (by have := h.2.1; omega), by have := h.2.1; omega⟩
  · exact ⟨h.2.2 (n - 1) (by have := h.2.1; omega) (by have := h.2.1; omega), by have := h.2.1; omega⟩
  · exact ⟨h.2.2.2 (n - 1) (by have := h.2.2.1; omega) (by have := h.2.2.1; omega), by have := h.2.2.1; omega⟩
  · exact ⟨h.2.2 (n - 1) (by have := h.2.1; omega) (by have := h.2.1; omega), by have := h.2.1; omega⟩
  · exact ⟨h.2.2 (n - 1) (by have := h.2.1; omega) (by have := h.2.1; omega), by have := h.2.1; omega⟩
  · exact ⟨h.2.2.2.2, by have := h.2.1; omega⟩
  · exact ⟨h.2.2 (n - 1) (by have := h.2.1; omega) (by have := h.2.1; omega), by have := h.2.1; omega⟩
  · exact ⟨h.2.2 (n - 1) (by have := h.2.1; omega) (by have := h.2.1; omega), by have := h.2.1; omega⟩
  · exact ⟨h.2.2 (n - 1) (by have := h.2.1; omega) (by have := h.2.1; omega), by have := h.2.1; omega⟩
theorem plain_63 (h : plainP a n s) : ¬ a s = 63 := fun e => by
  unfold plainP at h
  rcases h with h | h | h | h | h | h | h | h | h <;> exact absurd (h.1.symm.trans e) (by decide)
theorem Wk.ks (hW : Wk M M1 t n a F rd ak wr v) (hS : Sh M) : tb_K M1 t = 7 ∧ tb_R M1 t 0 = t + 1 ∧ tb_R M1 t 1 = t + 3 ∧ tb_K M1 (t + 1) = 6 ∧ tb_K M1 (t + 3) = 4 ∧ gL (t + 4) = 13 := (hW.sh hS).tr hW.2.1.1
theorem fl_of {i f : Nat} (hf : f < 12) (e : fOf (a i) = nI f) : fl a F i = cl (F f) ∧ bF a i = 1 <<< (nI f &&& 31) := by
  unfold fl bF
  rw [e, nI_clamp (by omega)]
  exact ⟨rfl, rfl⟩
theorem ok_Cr_plain (hG : tb_G E) (hS : Sh M) (hW : Wk M M1 t n a F rd 0 wr v) (hp : plainP a n s) (d : Nat) : tb_Rel E m_Cr_workPlain (d + 3) [.inr (.inl t), .inl (nI s)] M1 (fun r M2 => r = none ∧ Wk M M2 t n a F (plainW a n F s rd).1 (plainW a n F s rd).2.1 (plainW a n F s rd).2.2.1 (plainW a n F s rd).2.2.2) := by
  have hn12 := hW.2.1.2.1.2.2.1
  obtain ⟨hl1, hl2⟩ := plain_last hp
  obtain ⟨w, hw, ew⟩ := fOf_n hl1
  obtain ⟨k1, r0, r1, k2, k3, g4⟩ := hW.ks hS
  have hWa := hW.sWr (x := nI w) (Or.inr ⟨w, hw, rfl⟩)
  obtain ⟨ka1, ra0, ra1, ka2, ka3, -⟩ := hWa.ks hS
  have hWb := hWa.pset (PlSet.empty hWa.2.1.2.2.1 (p := 12) (show 12 < gL (t + 4) by omega))
  obtain ⟨kb1, rb0, rb1, kb2, kb3, -⟩ := hWb.ks hS
  refine tb_okOf hG (by decide) rfl (Nat.le_of_ble_eq_true rfl) rfl ?_
  refine tb_aload_0 d_Cr_workPlain_0 rfl ?_
  refine tb_aload_0 d_Cr_workPlain_1 rfl ?_
  refine g_Cr_47 d_Cr_workPlain_2 rfl rfl (by first | exact k1 | exact k2 | exact k3 | exact ka1 | exact ka2 | exact ka3 | exact kb1 | exact kb2 | exact kb3) ?_
  refine tb_topR r0 ?_
  refine tb_aload_0 d_Cr_workPlain_5 rfl ?_
  refine g_Cr_47 d_Cr_workPlain_6 rfl rfl (by first | exact k1 | exact k2 | exact k3 | exact ka1 | exact ka2 | exact ka3 | exact kb1 | exact kb2 | exact kb3) ?_
  refine tb_topR r0 ?_
  refine tb_callVr c_Cr_15 d_Cr_workPlain_9 rfl rfl rfl (Nat.le_of_ble_eq_true rfl) (by first | exact k1 | exact k2 | exact k3 | exact ka1 | exact ka2 | exact ka3 | exact kb1 | exact kb2 | exact kb3) (ok_Tx_length hG (hW.sh hS) hW.2.1.2.1 (d + 2)) ?_
  refine tb_iconst (1) (by decide) d_Cr_workPlain_12 rfl ?_
  refine tb_isub d_Cr_workPlain_13 rfl ?_
  rw [nI_sub1 (by omega)]
  refine tb_callVr c_Cr_51 d_Cr_workPlain_14 rfl rfl rfl (Nat.le_of_ble_eq_true rfl) (by first | exact k1 | exact k2 | exact k3 | exact ka1 | exact ka2 | exact ka3 | exact kb1 | exact kb2 | exact kb3) (ok_Tx_fileAt hG (hW.sh hS) hW.2.1.2.1 (j := n - 1) (by omega) (d + 1)) ?_
  refine tb_topI (y := nI w) (by rw [hW.2.2.1 (n - 1), ew]) ?_
  refine p_Cr_54 d_Cr_workPlain_17 rfl rfl (by first | exact k1 | exact k2 | exact k3 | exact ka1 | exact ka2 | exact ka3 | exact kb1 | exact kb2 | exact kb3) ?_
  refine tb_aload_0 d_Cr_workPlain_20 rfl ?_
  refine g_Cr_31 d_Cr_workPlain_21 rfl rfl (by first | exact k1 | exact k2 | exact k3 | exact ka1 | exact ka2 | exact ka3 | exact kb1 | exact kb2 | exact kb3) ?_
  refine tb_topR ra1 ?_
  refine tb_bipush (12) (by decide) d_Cr_workPlain_24 rfl ?_
  refine tb_callVv c_Cr_58 d_Cr_workPlain_26 rfl rfl rfl (Nat.le_of_ble_eq_true rfl) (by first | exact k1 | exact k2 | exact k3 | exact ka1 | exact ka2 | exact ka3 | exact kb1 | exact kb2 | exact kb3) (ok_Sh_makeEmpty hG (hWa.sh hS) hWa.2.1.2.2.1 (p := 12) (show 12 < gL (t + 4) by omega) (d + 2)) ?_
  refine tb_aload_0 d_Cr_workPlain_29 rfl ?_
  refine g_Cr_47 d_Cr_workPlain_30 rfl rfl (by first | exact k1 | exact k2 | exact k3 | exact ka1 | exact ka2 | exact ka3 | exact kb1 | exact kb2 | exact kb3) ?_
  refine tb_topR rb0 ?_
  refine tb_iload_1 d_Cr_workPlain_33 rfl ?_
  refine tb_callVr c_Cr_21 d_Cr_workPlain_34 rfl rfl rfl (Nat.le_of_ble_eq_true rfl) (by first | exact k1 | exact k2 | exact k3 | exact ka1 | exact ka2 | exact ka3 | exact kb1 | exact kb2 | exact kb3) (ok_Tx_at hG (hWb.sh hS) hWb.2.1.2.1 (j := s) (by omega) (d + 2)) ?_
  refine tb_topI (y := a s) (hWb.2.2.1 s) ?_
  refine tb_istore_2 d_Cr_workPlain_37 rfl (by decide) ?_
  refine tb_iload_2 d_Cr_workPlain_38 rfl ?_
  by_cases e43 : a s = 43
  · refine tb_lookup (112) 151 d_Cr_workPlain_39 (by decide) (by rw [e43]; decide +kernel) (by decide) ?_
    have hfp := plain_43 hp e43
    obtain ⟨f1, hf1, ef1⟩ := fOf_n (hfp.2 (s + 1) (by omega) (by have := hfp.1; omega))
    obtain ⟨uf1, bf1⟩ := fl_of (F := F) hf1 ef1
    obtain ⟨f2, hf2, ef2⟩ := fOf_n (hfp.2 (s + 2) (by omega) (by have := hfp.1; omega))
    obtain ⟨uf2, bf2⟩ := fl_of (F := F) hf2 ef2
    refine tb_aload_0 d_Cr_workPlain_151 rfl ?_
    refine tb_aload_0 d_Cr_workPlain_152 rfl ?_
    refine tb_iload_1 d_Cr_workPlain_153 rfl ?_
    refine tb_iconst (1) (by decide) d_Cr_workPlain_154 rfl ?_
    refine tb_iadd d_Cr_workPlain_155 rfl ?_
    rw [show nI s + 1 = nI (s + 1) from nI_add s 1]
    refine tb_callSr c_Cr_25 d_Cr_workPlain_156 rfl rfl rfl (Nat.le_of_ble_eq_true rfl) (ok_Cr_read hG hS hWb (j := s + 1) (by omega) ef1 d) ?_
    have hW1 := hWb.sRd (x := rd ||| (1 <<< (nI f1 &&& 31)))
    refine tb_aload_0 d_Cr_workPlain_159 rfl ?_
    refine tb_iload_1 d_Cr_workPlain_160 rfl ?_
    refine tb_iconst (2) (by decide) d_Cr_workPlain_161 rfl ?_
    refine tb_iadd d_Cr_workPlain_162 rfl ?_
    rw [show nI s + 2 = nI (s + 2) from nI_add s 2]
    refine tb_callSr c_Cr_25 d_Cr_workPlain_163 rfl rfl rfl (Nat.le_of_ble_eq_true rfl) (ok_Cr_read hG hS hW1 (j := s + 2) (by omega) ef2 d) ?_
    have hW3 := hW1.sRd (x := (rd ||| (1 <<< (nI f1 &&& 31))) ||| (1 <<< (nI f2 &&& 31)))
    refine tb_callSq c_Cr_65 d_Cr_workPlain_166 rfl rfl rfl (Nat.le_of_ble_eq_true rfl) (ok_Cr_sum hG hS hW3 hf1 hf2 d) (fun rM4 M4 hRM4 => ?_)
    obtain ⟨rfl, hW4⟩ := hRM4
    refine tb_goto 262 d_Cr_workPlain_169 (by decide) ?_
    refine tb_vreturn d_Cr_workPlain_262 rfl ?_
    have hPW : plainW a n F s rd = ((rd ||| (1 <<< (nI f1 &&& 31))) ||| (1 <<< (nI f2 &&& 31)), 0, nI w, appL (some []) (sumL (cl (F f1)) (cl (F f2)))) := by
      unfold plainW
      rw [ew]
      simp [e43, uf1, bf1, uf2, bf2]
    rw [hPW]
    exact ⟨none, rfl, rfl, hW4⟩
  by_cases e99 : a s = 99
  · refine tb_lookup (73) 112 d_Cr_workPlain_39 (by decide) (by rw [e99]; decide +kernel) (by decide) ?_
    have hfp := plain_99 hp e99
    obtain ⟨f1, hf1, ef1⟩ := fOf_n (hfp.2 (s + 1) (by omega) (by have := hfp.1; omega))
    obtain ⟨uf1, bf1⟩ := fl_of (F := F) hf1 ef1
    refine tb_aload_0 d_Cr_workPlain_112 rfl ?_
    refine tb_aload_0 d_Cr_workPlain_113 rfl ?_
    refine tb_iload_1 d_Cr_workPlain_114 rfl ?_
    refine tb_iconst (1) (by decide) d_Cr_workPlain_115 rfl ?_
    refine tb_iadd d_Cr_workPlain_116 rfl ?_
    rw [show nI s + 1 = nI (s + 1) from nI_add s 1]
    refine tb_callSr c_Cr_25 d_Cr_workPlain_117 rfl rfl rfl (Nat.le_of_ble_eq_true rfl) (ok_Cr_read hG hS hWb (j := s + 1) (by omega) ef1 d) ?_
    have hW1 := hWb.sRd (x := rd ||| (1 <<< (nI f1 &&& 31)))
    refine tb_callSq c_Cr_62 d_Cr_workPlain_120 rfl rfl rfl (Nat.le_of_ble_eq_true rfl) (ok_Cr_copy hG hS hW1 hf1 d) (fun rM3 M3 hRM3 => ?_)
    obtain ⟨rfl, hW2⟩ := hRM3
    refine tb_goto 262 d_Cr_workPlain_123 (by decide) ?_
    refine tb_vreturn d_Cr_workPlain_262 rfl ?_
    have hPW : plainW a n F s rd = (rd ||| (1 <<< (nI f1 &&& 31)), 0, nI w, appL (some []) (cl (F f1))) := by
      unfold plainW
      rw [ew]
      simp [e99, uf1, bf1]
    rw [hPW]
    exact ⟨none, rfl, rfl, hW2⟩
  by_cases e102 : a s = 102
  · refine tb_lookup (156) 195 d_Cr_workPlain_39 (by decide) (by rw [e102]; decide +kernel) (by decide) ?_
    have hfq := plain_102 hp e102
    have hfp := hfq.2
    obtain ⟨q, hq, eq⟩ := dOf_n hfq.1
    obtain ⟨f1, hf1, ef1⟩ := fOf_n (hfp.2 (s + 2) (by omega) (by have := hfp.1; omega))
    obtain ⟨uf1, bf1⟩ := fl_of (F := F) hf1 ef1
    refine tb_aload_0 d_Cr_workPlain_195 rfl ?_
    refine tb_aload_0 d_Cr_workPlain_196 rfl ?_
    refine g_Cr_47 d_Cr_workPlain_197 rfl rfl (by first | exact k1 | exact k2 | exact k3 | exact ka1 | exact ka2 | exact ka3 | exact kb1 | exact kb2 | exact kb3) ?_
    refine tb_topR rb0 ?_
    refine tb_iload_1 d_Cr_workPlain_200 rfl ?_
    refine tb_iconst (1) (by decide) d_Cr_workPlain_201 rfl ?_
    refine tb_iadd d_Cr_workPlain_202 rfl ?_
    rw [show nI s + 1 = nI (s + 1) from nI_add s 1]
    refine tb_callVr c_Cr_72 d_Cr_workPlain_203 rfl rfl rfl (Nat.le_of_ble_eq_true rfl) (by first | exact k1 | exact k2 | exact k3 | exact ka1 | exact ka2 | exact ka3 | exact kb1 | exact kb2 | exact kb3) (ok_Tx_digitAt hG (hWb.sh hS) hWb.2.1.2.1 (j := s + 1) (by omega) (d + 1)) ?_
    refine tb_topI (y := nI q) (by rw [hWb.2.2.1 (s + 1), eq]) ?_
    refine tb_aload_0 d_Cr_workPlain_206 rfl ?_
    refine tb_iload_1 d_Cr_workPlain_207 rfl ?_
    refine tb_iconst (2) (by decide) d_Cr_workPlain_208 rfl ?_
    refine tb_iadd d_Cr_workPlain_209 rfl ?_
    rw [show nI s + 2 = nI (s + 2) from nI_add s 2]
    refine tb_callSr c_Cr_25 d_Cr_workPlain_210 rfl rfl rfl (Nat.le_of_ble_eq_true rfl) (ok_Cr_read hG hS hWb (j := s + 2) (by omega) ef1 d) ?_
    have hW1 := hWb.sRd (x := rd ||| (1 <<< (nI f1 &&& 31)))
    refine tb_callSq c_Cr_75 d_Cr_workPlain_213 rfl rfl rfl (Nat.le_of_ble_eq_true rfl) (ok_Cr_div hG hS hW1 hf1 hq d) (fun rM3 M3 hRM3 => ?_)
    obtain ⟨rfl, hW2⟩ := hRM3
    refine tb_goto 262 d_Cr_workPlain_216 (by decide) ?_
    refine tb_vreturn d_Cr_workPlain_262 rfl ?_
    have hPW : plainW a n F s rd = (rd ||| (1 <<< (nI f1 &&& 31)), 0, nI w, appL (some []) (divL (nI q) (cl (F f1)))) := by
      unfold plainW
      rw [ew]
      simp [e102, uf1, bf1, eq]
    rw [hPW]
    exact ⟨none, rfl, rfl, hW2⟩
  by_cases e106 : a s = 106
  · refine tb_lookup (87) 126 d_Cr_workPlain_39 (by decide) (by rw [e106]; decide +kernel) (by decide) ?_
    have hfp := plain_106 hp e106
    obtain ⟨f1, hf1, ef1⟩ := fOf_n (hfp.2 (s + 1) (by omega) (by have := hfp.1; omega))
    obtain ⟨uf1, bf1⟩ := fl_of (F := F) hf1 ef1
    obtain ⟨f2, hf2, ef2⟩ := fOf_n (hfp.2 (s + 2) (by omega) (by have := hfp.1; omega))
    obtain ⟨uf2, bf2⟩ := fl_of (F := F) hf2 ef2
    refine tb_aload_0 d_Cr_workPlain_126 rfl ?_
    refine tb_aload_0 d_Cr_workPlain_127 rfl ?_
    refine tb_iload_1 d_Cr_workPlain_128 rfl ?_
    refine tb_iconst (1) (by decide) d_Cr_workPlain_129 rfl ?_
    refine tb_iadd d_Cr_workPlain_130 rfl ?_
    rw [show nI s + 1 = nI (s + 1) from nI_add s 1]
    refine tb_callSr c_Cr_25 d_Cr_workPlain_131 rfl rfl rfl (Nat.le_of_ble_eq_true rfl) (ok_Cr_read hG hS hWb (j := s + 1) (by omega) ef1 d) ?_
    have hW1 := hWb.sRd (x := rd ||| (1 <<< (nI f1 &&& 31)))
    refine tb_callSq c_Cr_62 d_Cr_workPlain_134 rfl rfl rfl (Nat.le_of_ble_eq_true rfl) (ok_Cr_copy hG hS hW1 hf1 d) (fun rM3 M3 hRM3 => ?_)
    obtain ⟨rfl, hW2⟩ := hRM3
    refine tb_aload_0 d_Cr_workPlain_137 rfl ?_
    refine tb_aload_0 d_Cr_workPlain_138 rfl ?_
    refine tb_iload_1 d_Cr_workPlain_139 rfl ?_
    refine tb_iconst (2) (by decide) d_Cr_workPlain_140 rfl ?_
    refine tb_iadd d_Cr_workPlain_141 rfl ?_
    rw [show nI s + 2 = nI (s + 2) from nI_add s 2]
    refine tb_callSr c_Cr_25 d_Cr_workPlain_142 rfl rfl rfl (Nat.le_of_ble_eq_true rfl) (ok_Cr_read hG hS hW2 (j := s + 2) (by omega) ef2 d) ?_
    have hW3 := hW2.sRd (x := (rd ||| (1 <<< (nI f1 &&& 31))) ||| (1 <<< (nI f2 &&& 31)))
    refine tb_callSq c_Cr_62 d_Cr_workPlain_145 rfl rfl rfl (Nat.le_of_ble_eq_true rfl) (ok_Cr_copy hG hS hW3 hf2 d) (fun rM4 M4 hRM4 => ?_)
    obtain ⟨rfl, hW4⟩ := hRM4
    refine tb_goto 262 d_Cr_workPlain_148 (by decide) ?_
    refine tb_vreturn d_Cr_workPlain_262 rfl ?_
    have hPW : plainW a n F s rd = ((rd ||| (1 <<< (nI f1 &&& 31))) ||| (1 <<< (nI f2 &&& 31)), 0, nI w, appL (appL (some []) (cl (F f1))) (cl (F f2))) := by
      unfold plainW
      rw [ew]
      simp [e106, uf1, bf1, uf2, bf2]
    rw [hPW]
    exact ⟨none, rfl, rfl, hW4⟩
  by_cases e108 : a s = 108
  · refine tb_lookup (207) 246 d_Cr_workPlain_39 (by decide) (by rw [e108]; decide +kernel) (by decide) ?_
    refine tb_aload_0 d_Cr_workPlain_246 rfl ?_
    refine tb_callSq c_Cr_84 d_Cr_workPlain_247 rfl rfl rfl (Nat.le_of_ble_eq_true rfl) (ok_Cr_list hG hS hWb d) (fun rM3 M3 hRM3 => ?_)
    obtain ⟨rfl, hW2⟩ := hRM3
    refine tb_goto 262 d_Cr_workPlain_250 (by decide) ?_
    refine tb_vreturn d_Cr_workPlain_262 rfl ?_
    have hPW : plainW a n F s rd = (rd, 4095, nI w, appL (some []) (thL F 12)) := by
      unfold plainW
      rw [ew]
      simp [e108]
    rw [hPW]
    exact ⟨none, rfl, rfl, hW2⟩
  by_cases e110 : a s = 110
  · refine tb_lookup (180) 219 d_Cr_workPlain_39 (by decide) (by rw [e110]; decide +kernel) (by decide) ?_
    have hfp := plain_110 hp e110
    refine tb_aload_0 d_Cr_workPlain_219 rfl ?_
    refine tb_iload_1 d_Cr_workPlain_220 rfl ?_
    refine tb_iconst (1) (by decide) d_Cr_workPlain_221 rfl ?_
    refine tb_iadd d_Cr_workPlain_222 rfl ?_
    rw [show nI s + 1 = nI (s + 1) from nI_add s 1]
    refine tb_callSq c_Cr_78 d_Cr_workPlain_223 rfl rfl rfl (Nat.le_of_ble_eq_true rfl) (ok_Cr_digits hG hS hWb (s := s + 1) (by have := hfp.1; omega) hfp.2.2.1 d) (fun rM3 M3 hRM3 => ?_)
    obtain ⟨rfl, hW2⟩ := hRM3
    refine tb_goto 262 d_Cr_workPlain_226 (by decide) ?_
    refine tb_vreturn d_Cr_workPlain_262 rfl ?_
    have hPW : plainW a n F s rd = (rd, 0, nI w, appL (some []) (digL a (s + 1) (n - 1))) := by
      unfold plainW
      rw [ew]
      simp [e110]
    rw [hPW]
    exact ⟨none, rfl, rfl, hW2⟩
  by_cases e112 : a s = 112
  · refine tb_lookup (190) 229 d_Cr_workPlain_39 (by decide) (by rw [e112]; decide +kernel) (by decide) ?_
    have hfp := plain_112 hp e112
    obtain ⟨f1, hf1, ef1⟩ := fOf_n (hfp.2 (s + 1) (by omega) (by have := hfp.1; omega))
    obtain ⟨uf1, bf1⟩ := fl_of (F := F) hf1 ef1
    refine tb_aload_0 d_Cr_workPlain_229 rfl ?_
    refine tb_aload_0 d_Cr_workPlain_230 rfl ?_
    refine g_Cr_47 d_Cr_workPlain_231 rfl rfl (by first | exact k1 | exact k2 | exact k3 | exact ka1 | exact ka2 | exact ka3 | exact kb1 | exact kb2 | exact kb3) ?_
    refine tb_topR rb0 ?_
    refine tb_iload_1 d_Cr_workPlain_234 rfl ?_
    refine tb_iconst (1) (by decide) d_Cr_workPlain_235 rfl ?_
    refine tb_iadd d_Cr_workPlain_236 rfl ?_
    rw [show nI s + 1 = nI (s + 1) from nI_add s 1]
    refine tb_callVr c_Cr_51 d_Cr_workPlain_237 rfl rfl rfl (Nat.le_of_ble_eq_true rfl) (by first | exact k1 | exact k2 | exact k3 | exact ka1 | exact ka2 | exact ka3 | exact kb1 | exact kb2 | exact kb3) (ok_Tx_fileAt hG (hWb.sh hS) hWb.2.1.2.1 (j := s + 1) (by omega) (d + 1)) ?_
    refine tb_topI (y := nI f1) (by rw [hWb.2.2.1 (s + 1), ef1]) ?_
    refine tb_callSq c_Cr_81 d_Cr_workPlain_240 rfl rfl rfl (Nat.le_of_ble_eq_true rfl) (ok_Cr_tell hG hS hWb hf1 d) (fun rM3 M3 hRM3 => ?_)
    obtain ⟨rfl, hW2⟩ := hRM3
    refine tb_goto 262 d_Cr_workPlain_243 (by decide) ?_
    refine tb_vreturn d_Cr_workPlain_262 rfl ?_
    have hPW : plainW a n F s rd = (rd, (0 : Int32) ||| (1 <<< (nI f1 &&& 31)), nI w, appL (some []) [thr (F f1)]) := by
      unfold plainW
      rw [ew]
      simp [e112, bf1, ef1, nI_clamp (show f1 < 2 ^ 31 by omega)]
    rw [hPW]
    exact ⟨none, rfl, rfl, hW2⟩
  by_cases e115 : a s = 115
  · refine tb_lookup (133) 172 d_Cr_workPlain_39 (by decide) (by rw [e115]; decide +kernel) (by decide) ?_
    have hfp := plain_115 hp e115
    obtain ⟨f1, hf1, ef1⟩ := fOf_n (hfp.2 (s + 1) (by omega) (by have := hfp.1; omega))
    obtain ⟨uf1, bf1⟩ := fl_of (F := F) hf1 ef1
    refine tb_aload_0 d_Cr_workPlain_172 rfl ?_
    refine tb_aload_0 d_Cr_workPlain_173 rfl ?_
    refine tb_iload_1 d_Cr_workPlain_174 rfl ?_
    refine tb_iconst (1) (by decide) d_Cr_workPlain_175 rfl ?_
    refine tb_iadd d_Cr_workPlain_176 rfl ?_
    rw [show nI s + 1 = nI (s + 1) from nI_add s 1]
    refine tb_callSr c_Cr_25 d_Cr_workPlain_177 rfl rfl rfl (Nat.le_of_ble_eq_true rfl) (ok_Cr_read hG hS hWb (j := s + 1) (by omega) ef1 d) ?_
    have hW1 := hWb.sRd (x := rd ||| (1 <<< (nI f1 &&& 31)))
    refine tb_callSq c_Cr_62 d_Cr_workPlain_180 rfl rfl rfl (Nat.le_of_ble_eq_true rfl) (ok_Cr_copy hG hS hW1 hf1 d) (fun rM3 M3 hRM3 => ?_)
    obtain ⟨rfl, hW2⟩ := hRM3
    obtain ⟨kc1, rc0, rc1, kc2, kc3, -⟩ := hW2.ks hS
    refine tb_aload_0 d_Cr_workPlain_183 rfl ?_
    refine g_Cr_31 d_Cr_workPlain_184 rfl rfl (by exact kc1) ?_
    refine tb_topR rc1 ?_
    refine tb_bipush (12) (by decide) d_Cr_workPlain_187 rfl ?_
    refine tb_callVq c_Cr_69 d_Cr_workPlain_189 rfl rfl rfl (Nat.le_of_ble_eq_true rfl) (by exact kc3) (ok_Sh_sort hG (hW2.sh hS) hW2.2.1.2.2.1 (p := 12) (show 12 < gL (t + 4) by omega) (hW2.2.2.2.2.2.2.2.trans (appL_cl _ _)) (d + 1)) (fun r4 M4 hR4 => ?_)
    obtain ⟨rfl, hR4⟩ := hR4
    have hW4 := hW2.pset hR4
    refine tb_goto 262 d_Cr_workPlain_192 (by decide) ?_
    refine tb_vreturn d_Cr_workPlain_262 rfl ?_
    have hPW : plainW a n F s rd = (rd ||| (1 <<< (nI f1 &&& 31)), 0, nI w, some (srt (cl (appL (some []) (cl (F f1)))))) := by
      unfold plainW
      rw [ew]
      simp [e115, uf1, bf1]
    rw [hPW]
    exact ⟨none, rfl, rfl, hW4⟩
  refine tb_lookup (214) 253 d_Cr_workPlain_39 (by decide) (by show Op.lookupswitch.offset [(43, 112), (99, 73), (102, 156), (106, 87), (108, 207), (110, 180), (112, 190), (115, 133)] (214) _ = _; rw [lv_osw e43 (by decide), lv_osw e99 (by decide), lv_osw e102 (by decide), lv_osw e106 (by decide), lv_osw e108 (by decide), lv_osw e110 (by decide), lv_osw e112 (by decide), lv_osw e115 (by decide)]; rfl) (by decide) ?_
  refine tb_aload_0 d_Cr_workPlain_253 rfl ?_
  refine g_Cr_31 d_Cr_workPlain_254 rfl rfl (by first | exact k1 | exact k2 | exact k3 | exact ka1 | exact ka2 | exact ka3 | exact kb1 | exact kb2 | exact kb3) ?_
  refine tb_topR rb1 ?_
  refine tb_bipush (12) (by decide) d_Cr_workPlain_257 rfl ?_
  refine tb_callVv c_Cr_88 d_Cr_workPlain_259 rfl rfl rfl (Nat.le_of_ble_eq_true rfl) (by first | exact k1 | exact k2 | exact k3 | exact ka1 | exact ka2 | exact ka3 | exact kb1 | exact kb2 | exact kb3) (ok_Sh_takeAway hG (hWb.sh hS) hWb.2.1.2.2.1 (p := 12) (show 12 < gL (t + 4) by omega) (d + 2)) ?_
  refine tb_vreturn d_Cr_workPlain_262 rfl ?_
  have hW2 := hWb.pset (PlSet.away hWb.2.1.2.2.1 (p := 12) (show 12 < gL (t + 4) by omega))
  have hPW : plainW a n F s rd = (rd, 0, nI w, none) := by
    unfold plainW
    rw [ew, if_neg e43, if_neg e99, if_neg e102, if_neg e106, if_neg e108, if_neg e110, if_neg e112, if_neg e115]
  rw [hPW]
  exact ⟨none, rfl, rfl, hW2⟩
theorem lp_Cr_work (hG : tb_G E) (hS : Sh M) {o sh : Nat} (hO : TxOk M o n) (ho : o + 1 < 34) (ha : ∀ i, ta M o n i = a i) {q : Nat} (hq1 : ∀ i, i < q → askP a n (2 * i)) (hq2 : plainP a n (2 * q)) {d rc rs : Nat} {Q : tb_O → tb_M → Prop} {r : Int32 × Int32 × Int32 × Option (List Int32)} (hQ : ∀ M2 v', Wk M M2 t n a F r.1 r.2.1 r.2.2.1 v' → (r.2.2.1 ≠ -1 → v' = r.2.2.2) → Q (.inl none) M2) :
    ∀ (k j : Nat) (rd : Int32) (l4 : tb_L) (M1 : tb_M), n < 2 * j + 2 * k → j ≤ q → craftW a n F k (2 * j) rd = r → Wk M M1 t n a F rd 0 (-1) v → tb_Wp E m_Cr_work (d + 4) rc rs 8 [some (.inr t), some (.inr o), some (.inr sh), some (.inl (nI (2 * j))), l4] [] M1 Q := by
  have hn12 := hO.2.2.1
  have hql := plain_last hq2
  intro k
  induction k with
  | zero => intro j rd l4 M1 hk hj; exact absurd hk (by omega)
  | succ k ih =>
    intro j rd l4 M1 hk hj hr hW
    have hS1 := hW.sh hS
    have ht34 := gK_tr34 t (gK_lt (by rw [hW.2.1.1]; decide)) hW.2.1.1
    obtain ⟨k1, r0, r1, k2, k3, g4⟩ := hW.ks hS
    have hno : ∀ q, q = o ∨ q = o + 1 → ¬ ATr t q := fun q hq z => by have := z.1; omega
    have hO1 := hO.on hW.1 (hno _ (Or.inl rfl)) (hno _ (Or.inr rfl))
    have ha1 : ∀ i, ta M1 o n i = a i := fun i => by rw [← ha i]; unfold ta; rw [hW.1.i (hno _ (Or.inr rfl))]
    have ko := hS1.k hO.1
    simp only [craftW] at hr
    refine tb_iload_3 d_Cr_work_8 rfl ?_
    refine tb_aload_1 d_Cr_work_9 rfl ?_
    refine tb_callVr c_Cr_15 d_Cr_work_10 rfl rfl rfl (Nat.le_of_ble_eq_true rfl) (by first | exact k1 | exact k2 | exact k3 | exact ko) (ok_Tx_length hG hS1 hO1 (d + 3)) ?_
    refine tb_icmp_ge 67 d_Cr_work_13 (by decide) rfl (fun h13 => ?_) (fun h13 => ?_)
    · exfalso
      have := (nI_leI (a := n) (b := 2 * j) (by omega) (by omega)).mp h13
      omega
    · refine tb_aload_1 d_Cr_work_16 rfl ?_
      refine tb_iload_3 d_Cr_work_17 rfl ?_
      refine tb_callVr c_Cr_21 d_Cr_work_18 rfl rfl rfl (Nat.le_of_ble_eq_true rfl) (by first | exact k1 | exact k2 | exact k3 | exact ko) (ok_Tx_at hG hS1 hO1 (j := 2 * j) (by omega) (d + 3)) ?_
      refine tb_topI (y := a (2 * j)) (ha1 _) ?_
      refine tb_bipush (63) (by decide) d_Cr_work_21 rfl ?_
      refine tb_icmp_ne 67 d_Cr_work_23 (by decide) rfl (fun h23 => ?_) (fun h23 => ?_)
      · have hjq : j = q := by
          rcases Nat.lt_or_ge j q with z | z
          · exact absurd (hq1 j z).2.1 h23
          · omega
        subst hjq
        rw [if_neg (fun z => h23 z.2)] at hr
        refine tb_aload_0 d_Cr_work_67 rfl ?_
        refine tb_iload_3 d_Cr_work_68 rfl ?_
        refine tb_callSq c_Cr_43 d_Cr_work_69 rfl rfl rfl (Nat.le_of_ble_eq_true rfl) (ok_Cr_plain hG hS hW hq2 d) (fun r2 M2 hR => ?_)
        obtain ⟨rfl, hR⟩ := hR
        rw [hr] at hR
        refine tb_vreturn d_Cr_work_72 rfl ?_
        exact hQ _ _ hR (fun _ => rfl)
      · have hjq : j < q := by
          rcases Nat.lt_or_ge j q with z | z
          · exact z
          · rw [show q = j by omega] at hq2; exact absurd h23 (plain_63 hq2)
        have hask := hq1 j hjq
        obtain ⟨f1, hf1, ef1⟩ := fOf_n hask.2.2
        obtain ⟨uf1, bf1⟩ := fl_of (F := F) hf1 ef1
        rw [if_pos ⟨hask.1, hask.2.1⟩, uf1, bf1] at hr
        have hle := hW.le hf1
        refine tb_aload_0 d_Cr_work_26 rfl ?_
        refine tb_iload_3 d_Cr_work_27 rfl ?_
        refine tb_iconst (1) (by decide) d_Cr_work_28 rfl ?_
        refine tb_iadd d_Cr_work_29 rfl ?_
        rw [nI_1]
        refine tb_callSr c_Cr_25 d_Cr_work_30 rfl rfl rfl (Nat.le_of_ble_eq_true rfl) (ok_Cr_read hG hS hW (j := 2 * j + 1) (by omega) ef1 (d + 1)) ?_
        have hW1 := hW.sRd (x := rd ||| (1 <<< (nI f1 &&& 31)))
        have hS2 := hW1.sh hS
        obtain ⟨kb1, rb0, rb1, kb2, kb3, -⟩ := hW1.ks hS
        refine tb_istore_4 d_Cr_work_33 rfl (by decide) ?_
        refine tb_aload_0 d_Cr_work_35 rfl ?_
        refine g_Cr_31 d_Cr_work_36 rfl rfl (by exact kb1) ?_
        refine tb_topR rb1 ?_
        refine tb_iload_4 d_Cr_work_39 rfl ?_
        refine tb_callVr c_Cr_35 d_Cr_work_41 rfl rfl rfl (Nat.le_of_ble_eq_true rfl) (by exact kb3) (ok_Sh_length hG hS2 hW1.2.1.2.2.1 (p := f1) (show f1 < gL (t + 4) by omega) (d + 3)) ?_
        refine tb_topI (y := nI (cl (F f1)).length) (by rw [hW1.2.2.2.1 f1 hf1]; rfl) ?_
        refine tb_if_eq 60 d_Cr_work_44 (by decide) rfl (fun h44 => ?_) (fun h44 => ?_)
        · have hl0 : (cl (F f1)).length = 0 := (nI_eq (by omega) (by omega)).mp (show nI (cl (F f1)).length = nI 0 from h44)
          have hhd := headD_0 hl0
          refine tb_vreturn d_Cr_work_60 rfl ?_
          rw [if_pos hhd] at hr
          subst hr
          exact hQ _ _ hW1 (fun z => absurd rfl z)
        · have hl0 : 0 < (cl (F f1)).length := Nat.pos_of_ne_zero (fun z => h44 (by rw [z]; rfl))
          refine tb_aload_0 d_Cr_work_47 rfl ?_
          refine g_Cr_31 d_Cr_work_48 rfl rfl (by exact kb1) ?_
          refine tb_topR rb1 ?_
          refine tb_iload_4 d_Cr_work_51 rfl ?_
          refine tb_iconst (0) (by decide) d_Cr_work_53 rfl ?_
          refine tb_callVr c_Cr_40 d_Cr_work_54 rfl rfl rfl (Nat.le_of_ble_eq_true rfl) (by exact kb3) (ok_Sh_at hG hS2 hW1.2.1.2.2.1 (p := f1) (show f1 < gL (t + 4) by omega) (i := 0) (by omega) (d + 3)) ?_
          refine tb_topI (y := (cl (F f1))[0]) (hW1.at hf1 hl0) ?_
          refine tb_if_ne 61 d_Cr_work_57 (by decide) rfl (fun h57 => ?_) (fun h57 => ?_)
          · have hhd : ¬ (cl (F f1)).headD 0 = 0 := by rw [headD_get hl0]; exact h57
            refine tb_iinc_3 (2) d_Cr_work_61 rfl (by decide) (by decide) ?_
            refine tb_goto 8 d_Cr_work_64 (by decide) ?_
            rw [show nI (2 * j) + 2 = nI (2 * (j + 1)) from nI_add (2 * j) 2]
            rw [if_neg hhd] at hr
            exact ih (j + 1) _ _ _ (by omega) (by omega) hr hW1
          · have hhd : (cl (F f1)).headD 0 = 0 := by rw [headD_get hl0]; exact h57
            refine tb_vreturn d_Cr_work_60 rfl ?_
            rw [if_pos hhd] at hr
            subst hr
            exact hQ _ _ hW1 (fun z => absurd rfl z)
theorem ok_Cr_work (hG : tb_G E) (hS : Sh M) {n0 : Nat} (hT : TrOk M t n0) {o sh : Nat} (hO : TxOk M o n) (ho : o + 1 < 34) (hF : ShOk M sh) (hs : sh + 2 < 34) (hc : cmdP (ta M o n) n) (d : Nat) : tb_Rel E m_Cr_work (d + 4) [.inr (.inl t), .inr (.inl o), .inr (.inl sh)] M (fun r M2 => r = none ∧ ∃ v', Wk M M2 t n (ta M o n) (pl M sh) (craftW (ta M o n) n (pl M sh) 8 0 0).1 (craftW (ta M o n) n (pl M sh) 8 0 0).2.1 (craftW (ta M o n) n (pl M sh) 8 0 0).2.2.1 v' ∧ ((craftW (ta M o n) n (pl M sh) 8 0 0).2.2.1 ≠ -1 → v' = (craftW (ta M o n) n (pl M sh) 8 0 0).2.2.2)) := by
  have hn12 := hO.2.2.1
  obtain ⟨q, hq1, -, hq2⟩ := hc
  have k1 := hS.k hT.1
  refine tb_okOf hG (by decide) rfl (Nat.le_of_ble_eq_true rfl) rfl ?_
  refine tb_aload_0 d_Cr_work_0 rfl ?_
  refine tb_aload_1 d_Cr_work_1 rfl ?_
  refine tb_aload_2 d_Cr_work_2 rfl ?_
  refine tb_callVq c_Cr_9 d_Cr_work_3 rfl rfl rfl (Nat.le_of_ble_eq_true rfl) (by first | exact k1) (ok_Tr_begin hG hS hT hO ho hF hs (d + 1)) (fun r1 M1 hB => ?_)
  obtain ⟨rfl, hB⟩ := hB
  have hW : Wk M M1 t n (ta M o n) (pl M sh) 0 0 (-1) (pl M1 (t + 3) 12) := ⟨hB.1, hB.2.1, fun i => by
    unfold ta
    by_cases h : i < n
    · rw [if_pos h, if_pos h]; exact hB.2.2.1 i h
    · rw [if_neg h, if_neg h], hB.2.2.2.1, hB.2.2.2.2.1, hB.2.2.2.2.2.1, hB.2.2.2.2.2.2, rfl⟩
  refine tb_iconst (0) (by decide) d_Cr_work_6 rfl ?_
  refine tb_istore_3 d_Cr_work_7 rfl (by decide) ?_
  exact lp_Cr_work hG hS hO ho (fun _ => rfl) hq1 hq2 (fun M2 v' h1 h2 => ⟨none, rfl, rfl, v', h1, h2⟩) 8 0 0 _ M1 (by omega) (Nat.zero_le _) rfl hW
end Craft3
