/-! Craft: what a command makes. -/
def cl (v : Option (List Int32)) : List Int32 := v.getD []
def appL (v : Option (List Int32)) (xs : List Int32) : Option (List Int32) := xs.foldl app6 v
theorem appL_1 (v : Option (List Int32)) (xs : List Int32) (x : Int32) : appL v (xs ++ [x]) = app6 (appL v xs) x := by unfold appL; rw [List.foldl_append]; rfl
theorem take_1 (l : List Int32) {j : Nat} (h : j < l.length) : l.take (j + 1) = l.take j ++ [l[j]] := by rw [List.take_add_one, List.getElem?_eq_getElem h]; rfl
theorem pl_at {M : tb_M} {s p i : Nat} (hT : ShOk M s) (hp : p < gL (s + 1)) (hi : i < (cl (pl M s p)).length) : tb_I M (s + 2) (6 * p + i) = (cl (pl M s p))[i] := by
  rcases pl_cases hT hp with ⟨e1, e2⟩ | ⟨n, hn, e1, e2⟩
  · exfalso; rw [e2] at hi; exact Nat.not_lt_zero _ hi
  · simp only [e2, cl, Option.getD_some, List.getElem_map, List.getElem_range]
theorem nI_inj {p q : Nat} (hp : p < 2 ^ 31) (hq : q < 2 ^ 31) (h : nI p = nI q) : p = q := by rw [← nI_clamp hp, ← nI_clamp hq, h]
theorem s16_nar (x : Int32) : narrow .short (.int x.toInt16.toInt32) = .int x.toInt16.toInt32 := by
  unfold narrow
  simp
theorem PlSet.trans {M M1 M2 : tb_M} {s p : Nat} {v w : Option (List Int32)} (h : PlSet M M1 s p v) (h2 : PlSet M1 M2 s p w) : PlSet M M2 s p w :=
  ⟨h.1.trans h2.1, h2.2.1, h2.2.2.1, fun q h1 h3 => (h2.2.2.2 q h1 h3).trans (h.2.2.2 q h1 h3)⟩
/-- a trace that is worked at: its text, the files it knows, read, asked, wrote, what is made so far -/
def Wk (M M1 : tb_M) (t n : Nat) (a : Nat → Int32) (F : Nat → Option (List Int32)) (rd ak wr : Int32) (v : Option (List Int32)) : Prop := On M M1 (ATr t) ∧ TrOk M1 t n ∧ (∀ i, ta M1 (t + 1) n i = a i) ∧ (∀ p, p < 12 → pl M1 (t + 3) p = F p) ∧ tb_I M1 t 2 = rd ∧ tb_I M1 t 3 = ak ∧ tb_I M1 t 4 = wr ∧ pl M1 (t + 3) 12 = v
section Craft
variable {E : tb_E} {M M1 M2 : tb_M} {t n : Nat} {a : Nat → Int32} {F : Nat → Option (List Int32)} {rd ak wr : Int32} {v w : Option (List Int32)}
theorem Wk.sh (h : Wk M M1 t n a F rd ak wr v) (hS : Sh M) : Sh M1 := h.1.sh hS
theorem Wk.pset (h : Wk M M1 t n a F rd ak wr v) (h2 : PlSet M1 M2 (t + 3) 12 w) : Wk M M2 t n a F rd ak wr w := by
  obtain ⟨h1, ⟨q1, q2, q3, q4⟩, h3, h4, h5, h6, h7, h8⟩ := h
  have hn : ∀ q, q = t ∨ q = t + 1 ∨ q = t + 2 → ¬ A2 (t + 3) q := fun q hq z => by rcases z with z | z <;> omega
  have e0 := h2.1.i (hn t (by omega))
  have e1 := h2.1.i (hn (t + 1) (by omega))
  have e2 := h2.1.i (hn (t + 2) (by omega))
  have g4 := gK_tr t (gK_lt (by rw [q1]; decide)) q1
  refine ⟨h1.trans (h2.1.mono (fun q hq => by rcases hq with z | z <;> exact ⟨by omega, by omega⟩)), ⟨q1, q2.on h2.1 (hn _ (by omega)) (hn _ (by omega)), h2.2.1, by rw [e0]; exact q4⟩, fun i => ?_, fun p hp => ?_, by rw [e0]; exact h5, by rw [e0]; exact h6, by rw [e0]; exact h7, h2.2.2.1⟩
  · rw [← h3 i]; unfold ta; rw [e2]
  · rw [h2.2.2.2 p (by omega) (by rw [g4.2.2.1]; omega)]; exact h4 p hp
theorem Wk.self {j : Nat} {x : Int32} (h : Wk M M1 t n a F rd ak wr v) (hx : (va_up (tb_I M1 t) j x) 4 = -1 ∨ ∃ f, f < 12 ∧ (va_up (tb_I M1 t) j x) 4 = nI f) : Wk M (tb_sI M1 t j x) t n a F ((va_up (tb_I M1 t) j x) 2) ((va_up (tb_I M1 t) j x) 3) ((va_up (tb_I M1 t) j x) 4) v := by
  obtain ⟨h1, ⟨q1, q2, q3, q4⟩, h3, h4, h5, h6, h7, h8⟩ := h
  have o : On M1 (tb_sI M1 t j x) (fun q => q = t) := On.sI rfl
  have e2 := o.i (q := t + 2) (by omega)
  refine ⟨h1.trans (o.mono (fun q hq => ⟨by omega, by omega⟩)), ⟨q1, q2.on o (by omega) (by omega), q3.on o (by omega) (by omega), by rw [sI_at]; exact hx⟩, fun i => ?_, fun p hp => ?_, by rw [sI_at], by rw [sI_at], by rw [sI_at], ?_⟩
  · rw [← h3 i]; unfold ta; rw [e2]
  · rw [pl_on o (by omega) (by omega)]; exact h4 p hp
  · rw [pl_on o (by omega) (by omega)]; exact h8
theorem Wk.sRd {x : Int32} (h : Wk M M1 t n a F rd ak wr v) : Wk M (tb_sI M1 t 2 x) t n a F x ak wr v := by
  have := h.self (j := 2) (x := x) (by simpa [va_up] using h.2.1.2.2.2)
  simpa [va_up, h.2.2.2.2.2.1, h.2.2.2.2.2.2.1] using this
theorem Wk.sAk {x : Int32} (h : Wk M M1 t n a F rd ak wr v) : Wk M (tb_sI M1 t 3 x) t n a F rd x wr v := by
  have := h.self (j := 3) (x := x) (by simpa [va_up] using h.2.1.2.2.2)
  simpa [va_up, h.2.2.2.2.1, h.2.2.2.2.2.2.1] using this
theorem Wk.sWr {x : Int32} (h : Wk M M1 t n a F rd ak wr v) (hx : x = -1 ∨ ∃ f, f < 12 ∧ x = nI f) : Wk M (tb_sI M1 t 4 x) t n a F rd ak x v := by
  have := h.self (j := 4) (x := x) (by simpa [va_up] using hx)
  simpa [va_up, h.2.2.2.2.1, h.2.2.2.2.2.1] using this
theorem Wk.g (h : Wk M M1 t n a F rd ak wr v) : gL (t + 4) = 13 := (gK_tr t (gK_lt (by rw [h.2.1.1]; decide)) h.2.1.1).2.2.1
theorem Wk.le (h : Wk M M1 t n a F rd ak wr v) {f : Nat} (hf : f < 12) : (cl (F f)).length ≤ 6 := by
  rw [← h.2.2.2.1 f hf]; exact ln_le h.2.1.2.2.1 (by rw [h.g]; omega)
theorem Wk.at (h : Wk M M1 t n a F rd ak wr v) {f i : Nat} (hf : f < 12) (hi : i < (cl (F f)).length) : tb_I M1 (t + 5) (6 * f + i) = (cl (F f))[i] := by
  have e := h.2.2.2.1 f hf
  have := pl_at (i := i) h.2.1.2.2.1 (p := f) (by rw [h.g]; omega) (by rw [e]; exact hi)
  rw [show t + 5 = t + 3 + 2 by omega, this]
  simp only [e]
theorem Wk.nar (h : Wk M M1 t n a F rd ak wr v) {f i : Nat} (hf : f < 12) (hi : i < (cl (F f)).length) : narrow .short (.int (cl (F f))[i]) = .int (cl (F f))[i] := by
  have g := gK_tr t (gK_lt (by rw [h.2.1.1]; decide)) h.2.1.1
  have := h.le hf
  rw [← h.at hf hi]
  exact h.2.1.2.2.1.2.2 (6 * f + i) (by rw [show t + 3 + 2 = t + 5 by omega, g.2.2.2]; omega)

theorem lp_Cr_copy (hG : tb_G E) (hS : Sh M) {d rc rs : Nat} {Q : tb_O → tb_M → Prop} {f : Nat} (hf : f < 12) (hQ : ∀ M2, Wk M M2 t n a F rd ak wr (appL v (cl (F f))) → Q (.inl none) M2) : ∀ (m j : Nat), (cl (F f)).length - j = m → j ≤ (cl (F f)).length → ∀ M1, Wk M M1 t n a F rd ak wr (appL v ((cl (F f)).take j)) → tb_Wp E m_Cr_copy (d + 2) rc rs 2 [some (.inr t), some (.inl (nI f)), some (.inl (nI j))] [] M1 Q := by
  intro m
  induction m using Nat.strongRecOn with
  | ind m ih =>
    intro j hm hj M1 hW
    have hS1 := hW.sh hS
    obtain ⟨k1, r0, r1, k2, k3, g4⟩ := hS1.tr hW.2.1.1
    have hSh := hW.2.1.2.2.1
    have hle := hW.le hf
    refine tb_iload_2 d_Cr_copy_2 rfl ?_
    refine tb_aload_0 d_Cr_copy_3 rfl ?_
    refine g_Cr_31 d_Cr_copy_4 rfl rfl (by first | exact k1 | exact k2 | exact k3) ?_
    refine tb_topR r1 ?_
    refine tb_iload_1 d_Cr_copy_7 rfl ?_
    refine tb_callVr c_Cr_35 d_Cr_copy_8 rfl rfl rfl (Nat.le_of_ble_eq_true rfl) (by first | exact k1 | exact k2 | exact k3) (ok_Sh_length hG hS1 hSh (p := f) (show f < gL (t + 4) by omega) (d + 1)) ?_
    refine tb_topI (y := nI (cl (F f)).length) (by rw [hW.2.2.2.1 f (by assumption)]; rfl) ?_
    refine tb_icmp_ge 39 d_Cr_copy_11 (by decide) rfl (fun h11 => ?_) (fun h11 => ?_)
    · have hje : (cl (F f)).length ≤ j := (nI_leI (a := (cl (F f)).length) (b := j) (by omega) (by omega)).mp h11
      have hje2 : j = (cl (F f)).length := by omega
      refine tb_vreturn d_Cr_copy_39 rfl ?_
      refine hQ _ ?_
      rw [hje2, List.take_length] at hW
      exact hW
    · have hlt : j < (cl (F f)).length := Nat.lt_of_not_le (fun q => h11 ((nI_leI (a := (cl (F f)).length) (b := j) (by omega) (by omega)).mpr q))
      refine tb_aload_0 d_Cr_copy_14 rfl ?_
      refine g_Cr_31 d_Cr_copy_15 rfl rfl (by first | exact k1 | exact k2 | exact k3) ?_
      refine tb_topR r1 ?_
      refine tb_bipush (12) (by decide) d_Cr_copy_18 rfl ?_
      refine tb_aload_0 d_Cr_copy_20 rfl ?_
      refine g_Cr_31 d_Cr_copy_21 rfl rfl (by first | exact k1 | exact k2 | exact k3) ?_
      refine tb_topR r1 ?_
      refine tb_iload_1 d_Cr_copy_24 rfl ?_
      refine tb_iload_2 d_Cr_copy_25 rfl ?_
      refine tb_callVr c_Cr_40 d_Cr_copy_26 rfl rfl rfl (Nat.le_of_ble_eq_true rfl) (by first | exact k1 | exact k2 | exact k3) (ok_Sh_at hG hS1 hSh (p := f) (show f < gL (t + 4) by omega) (i := j) (by omega) (d + 1)) ?_
      refine tb_topI (y := (cl (F f))[j]) (hW.at (by assumption) (by omega)) ?_
      refine tb_callVq c_Cr_93 d_Cr_copy_29 rfl rfl rfl (Nat.le_of_ble_eq_true rfl) (by first | exact k1 | exact k2 | exact k3) (ok_Sh_append hG hS1 hSh (p := 12) (show 12 < gL (t + 4) by omega) (hW.nar hf hlt) d) (fun v2 M2 hP => ?_)
      obtain ⟨rfl, hP⟩ := hP
      refine tb_popi d_Cr_copy_32 rfl ?_
      refine tb_iinc_2 (1) d_Cr_copy_33 rfl (by decide) (by decide) ?_
      refine tb_goto 2 d_Cr_copy_36 (by decide) ?_
      rw [nI_1]
      refine ih ((cl (F f)).length - (j + 1)) (by omega) (j + 1) rfl (by omega) _ ?_
      rw [take_1 _ hlt, appL_1, ← hW.2.2.2.2.2.2.2]
      exact hW.pset hP
theorem ok_Cr_copy (hG : tb_G E) (hS : Sh M) (hW : Wk M M1 t n a F rd ak wr v) {f : Nat} (hf : f < 12) (d : Nat) : tb_Rel E m_Cr_copy (d + 2) [.inr (.inl t), .inl (nI f)] M1 (fun r M2 => r = none ∧ Wk M M2 t n a F rd ak wr (appL v (cl (F f)))) := by
  refine tb_okOf hG (by decide) rfl (Nat.le_of_ble_eq_true rfl) rfl ?_
  refine tb_iconst (0) (by decide) d_Cr_copy_0 rfl ?_
  refine tb_istore_2 d_Cr_copy_1 rfl (by decide) ?_
  exact lp_Cr_copy hG hS hf (fun M2 h => ⟨none, rfl, rfl, h⟩) _ 0 rfl (Nat.zero_le _) M1 hW
def sumL (x y : List Int32) : List Int32 := List.zipWith (fun p q => (p + q).toInt16.toInt32) x y
theorem sumL_len (x y : List Int32) : (sumL x y).length = min x.length y.length := List.length_zipWith
theorem mmin_nI {p q : Nat} (hp : p < 2 ^ 31) (hq : q < 2 ^ 31) : (if nI q < nI p then nI q else nI p) = nI (min p q) := by
  by_cases h : q < p
  · rw [if_pos ((nI_ltI hq hp).mpr h), Nat.min_eq_right (by omega)]
  · rw [if_neg (fun z => h ((nI_ltI hq hp).mp z)), Nat.min_eq_left (by omega)]
theorem lp_Cr_sum (hG : tb_G E) (hS : Sh M) {d rc rs : Nat} {Q : tb_O → tb_M → Prop} {f g : Nat} (hf : f < 12) (hg : g < 12) (hQ : ∀ M2, Wk M M2 t n a F rd ak wr (appL v (sumL (cl (F f)) (cl (F g)))) → Q (.inl none) M2) : ∀ (m j : Nat), (sumL (cl (F f)) (cl (F g))).length - j = m → j ≤ (sumL (cl (F f)) (cl (F g))).length → ∀ M1, Wk M M1 t n a F rd ak wr (appL v ((sumL (cl (F f)) (cl (F g))).take j)) → tb_Wp E m_Cr_sum (d + 2) rc rs 23 [some (.inr t), some (.inl (nI f)), some (.inl (nI g)), some (.inl (nI (sumL (cl (F f)) (cl (F g))).length)), some (.inl (nI j))] [] M1 Q := by
  intro m
  induction m using Nat.strongRecOn with
  | ind m ih =>
    intro j hm hj M1 hW
    have hS1 := hW.sh hS
    obtain ⟨k1, r0, r1, k2, k3, g4⟩ := hS1.tr hW.2.1.1
    have hSh := hW.2.1.2.2.1
    have hle := hW.le hf
    have hle2 := hW.le hg
    have hsl := sumL_len (cl (F f)) (cl (F g))
    refine tb_iload_4 d_Cr_sum_23 rfl ?_
    refine tb_iload_3 d_Cr_sum_25 rfl ?_
    refine tb_icmp_ge 67 d_Cr_sum_26 (by decide) rfl (fun h26 => ?_) (fun h26 => ?_)
    · have hje : (sumL (cl (F f)) (cl (F g))).length ≤ j := (nI_leI (a := (sumL (cl (F f)) (cl (F g))).length) (b := j) (by omega) (by omega)).mp h26
      have hje2 : j = (sumL (cl (F f)) (cl (F g))).length := by omega
      refine tb_vreturn d_Cr_sum_67 rfl ?_
      refine hQ _ ?_
      rw [hje2, List.take_length] at hW
      exact hW
    · have hlt : j < (sumL (cl (F f)) (cl (F g))).length := Nat.lt_of_not_le (fun q => h26 ((nI_leI (a := (sumL (cl (F f)) (cl (F g))).length) (b := j) (by omega) (by omega)).mpr q))
      have e3 : (sumL (cl (F f)) (cl (F g)))[j] = ((cl (F f))[j] + (cl (F g))[j]).toInt16.toInt32 := by unfold sumL; exact List.getElem_zipWith
      refine tb_aload_0 d_Cr_sum_29 rfl ?_
      refine g_Cr_31 d_Cr_sum_30 rfl rfl (by first | exact k1 | exact k2 | exact k3) ?_
      refine tb_topR r1 ?_
      refine tb_bipush (12) (by decide) d_Cr_sum_33 rfl ?_
      refine tb_aload_0 d_Cr_sum_35 rfl ?_
      refine g_Cr_31 d_Cr_sum_36 rfl rfl (by first | exact k1 | exact k2 | exact k3) ?_
      refine tb_topR r1 ?_
      refine tb_iload_1 d_Cr_sum_39 rfl ?_
      refine tb_iload_4 d_Cr_sum_40 rfl ?_
      refine tb_callVr c_Cr_40 d_Cr_sum_42 rfl rfl rfl (Nat.le_of_ble_eq_true rfl) (by first | exact k1 | exact k2 | exact k3) (ok_Sh_at hG hS1 hSh (p := f) (show f < gL (t + 4) by omega) (i := j) (by omega) (d + 1)) ?_
      refine tb_topI (y := (cl (F f))[j]) (hW.at (by assumption) (by omega)) ?_
      refine tb_aload_0 d_Cr_sum_45 rfl ?_
      refine g_Cr_31 d_Cr_sum_46 rfl rfl (by first | exact k1 | exact k2 | exact k3) ?_
      refine tb_topR r1 ?_
      refine tb_iload_2 d_Cr_sum_49 rfl ?_
      refine tb_iload_4 d_Cr_sum_50 rfl ?_
      refine tb_callVr c_Cr_40 d_Cr_sum_52 rfl rfl rfl (Nat.le_of_ble_eq_true rfl) (by first | exact k1 | exact k2 | exact k3) (ok_Sh_at hG hS1 hSh (p := g) (show g < gL (t + 4) by omega) (i := j) (by omega) (d + 1)) ?_
      refine tb_topI (y := (cl (F g))[j]) (hW.at (by assumption) (by omega)) ?_
      refine tb_iadd d_Cr_sum_55 rfl ?_
      refine tb_i2s d_Cr_sum_56 rfl ?_
      refine tb_callVq c_Cr_93 d_Cr_sum_57 rfl rfl rfl (Nat.le_of_ble_eq_true rfl) (by first | exact k1 | exact k2 | exact k3) (ok_Sh_append hG hS1 hSh (p := 12) (show 12 < gL (t + 4) by omega) (s16_nar _) d) (fun v2 M2 hP => ?_)
      obtain ⟨rfl, hP⟩ := hP
      refine tb_popi d_Cr_sum_60 rfl ?_
      refine tb_iinc_4 (1) d_Cr_sum_61 rfl (by decide) (by decide) ?_
      refine tb_goto 23 d_Cr_sum_64 (by decide) ?_
      rw [nI_1]
      refine ih ((sumL (cl (F f)) (cl (F g))).length - (j + 1)) (by omega) (j + 1) rfl (by omega) _ ?_
      rw [take_1 _ hlt, appL_1, ← hW.2.2.2.2.2.2.2, e3]
      exact hW.pset hP
theorem ok_Cr_sum (hG : tb_G E) (hS : Sh M) (hW : Wk M M1 t n a F rd ak wr v) {f g : Nat} (hf : f < 12) (hg : g < 12) (d : Nat) : tb_Rel E m_Cr_sum (d + 2) [.inr (.inl t), .inl (nI f), .inl (nI g)] M1 (fun r M2 => r = none ∧ Wk M M2 t n a F rd ak wr (appL v (sumL (cl (F f)) (cl (F g))))) := by
  have hle := hW.le hf
  have hle2 := hW.le hg
  have hS1 := hW.sh hS
  obtain ⟨k1, r0, r1, k2, k3, g4⟩ := hS1.tr hW.2.1.1
  have hSh := hW.2.1.2.2.1
  refine tb_okOf hG (by decide) rfl (Nat.le_of_ble_eq_true rfl) rfl ?_
  refine tb_aload_0 d_Cr_sum_0 rfl ?_
  refine g_Cr_31 d_Cr_sum_1 rfl rfl (by first | exact k1 | exact k2 | exact k3) ?_
  refine tb_topR r1 ?_
  refine tb_iload_1 d_Cr_sum_4 rfl ?_
  refine tb_callVr c_Cr_35 d_Cr_sum_5 rfl rfl rfl (Nat.le_of_ble_eq_true rfl) (by first | exact k1 | exact k2 | exact k3) (ok_Sh_length hG hS1 hSh (p := f) (show f < gL (t + 4) by omega) (d + 1)) ?_
  refine tb_topI (y := nI (cl (F f)).length) (by rw [hW.2.2.2.1 f (by assumption)]; rfl) ?_
  refine tb_aload_0 d_Cr_sum_8 rfl ?_
  refine g_Cr_31 d_Cr_sum_9 rfl rfl (by first | exact k1 | exact k2 | exact k3) ?_
  refine tb_topR r1 ?_
  refine tb_iload_2 d_Cr_sum_12 rfl ?_
  refine tb_callVr c_Cr_35 d_Cr_sum_13 rfl rfl rfl (Nat.le_of_ble_eq_true rfl) (by first | exact k1 | exact k2 | exact k3) (ok_Sh_length hG hS1 hSh (p := g) (show g < gL (t + 4) by omega) (d + 1)) ?_
  refine tb_topI (y := nI (cl (F g)).length) (by rw [hW.2.2.2.1 g (by assumption)]; rfl) ?_
  refine tb_mmin d_Cr_sum_16 rfl (tb_ix 686 (by decide +kernel) rfl) (tb_ix 687 (by decide +kernel) rfl) (tb_ix 74 (by decide +kernel) rfl) (tb_ix 688 (by decide +kernel) rfl) (by omega) (Nat.le_of_ble_eq_true rfl) ?_
  refine tb_topI (y := nI (sumL (cl (F f)) (cl (F g))).length) (by rw [mmin_nI (by omega) (by omega), sumL_len]) ?_
  refine tb_istore_3 d_Cr_sum_19 rfl (by decide) ?_
  refine tb_iconst (0) (by decide) d_Cr_sum_20 rfl ?_
  refine tb_istore_4 d_Cr_sum_21 rfl (by decide) ?_
  exact lp_Cr_sum hG hS hf hg (fun M2 h => ⟨none, rfl, rfl, h⟩) _ 0 rfl (Nat.zero_le _) M1 hW
def divL (q : Int32) (l : List Int32) : List Int32 := l.filter (fun x => decide (x - x / q * q = 0))
theorem divL_t {q x : Int32} (l : List Int32) (h : x - x / q * q = 0) : divL q (l ++ [x]) = divL q l ++ [x] := by unfold divL; rw [List.filter_append]; simp [h]
theorem divL_f {q x : Int32} (l : List Int32) (h : ¬ x - x / q * q = 0) : divL q (l ++ [x]) = divL q l := by unfold divL; rw [List.filter_append]; simp [h]
theorem lp_Cr_div (hG : tb_G E) (hS : Sh M) {d rc rs : Nat} {Q : tb_O → tb_M → Prop} {f q : Nat} (hf : f < 12) (hq : 1 ≤ q ∧ q ≤ 9) (hQ : ∀ M2, Wk M M2 t n a F rd ak wr (appL v (divL (nI q) (cl (F f)))) → Q (.inl none) M2) : ∀ (m j : Nat), (cl (F f)).length - j = m → j ≤ (cl (F f)).length → ∀ l4 M1, Wk M M1 t n a F rd ak wr (appL v (divL (nI q) ((cl (F f)).take j))) → tb_Wp E m_Cr_copyDivided (d + 2) rc rs 2 [some (.inr t), some (.inl (nI q)), some (.inl (nI f)), some (.inl (nI j)), l4] [] M1 Q := by
  intro m
  induction m using Nat.strongRecOn with
  | ind m ih =>
    intro j hm hj l4 M1 hW
    have hS1 := hW.sh hS
    obtain ⟨k1, r0, r1, k2, k3, g4⟩ := hS1.tr hW.2.1.1
    have hSh := hW.2.1.2.2.1
    have hle := hW.le hf
    refine tb_iload_3 d_Cr_copyDivided_2 rfl ?_
    refine tb_aload_0 d_Cr_copyDivided_3 rfl ?_
    refine g_Cr_31 d_Cr_copyDivided_4 rfl rfl (by first | exact k1 | exact k2 | exact k3) ?_
    refine tb_topR r1 ?_
    refine tb_iload_2 d_Cr_copyDivided_7 rfl ?_
    refine tb_callVr c_Cr_35 d_Cr_copyDivided_8 rfl rfl rfl (Nat.le_of_ble_eq_true rfl) (by first | exact k1 | exact k2 | exact k3) (ok_Sh_length hG hS1 hSh (p := f) (show f < gL (t + 4) by omega) (d + 1)) ?_
    refine tb_topI (y := nI (cl (F f)).length) (by rw [hW.2.2.2.1 f (by assumption)]; rfl) ?_
    refine tb_icmp_ge 54 d_Cr_copyDivided_11 (by decide) rfl (fun h11 => ?_) (fun h11 => ?_)
    · have hje : (cl (F f)).length ≤ j := (nI_leI (a := (cl (F f)).length) (b := j) (by omega) (by omega)).mp h11
      have hje2 : j = (cl (F f)).length := by omega
      refine tb_vreturn d_Cr_copyDivided_54 rfl ?_
      refine hQ _ ?_
      rw [hje2, List.take_length] at hW
      exact hW
    · have hlt : j < (cl (F f)).length := Nat.lt_of_not_le (fun q => h11 ((nI_leI (a := (cl (F f)).length) (b := j) (by omega) (by omega)).mpr q))
      refine tb_aload_0 d_Cr_copyDivided_14 rfl ?_
      refine g_Cr_31 d_Cr_copyDivided_15 rfl rfl (by first | exact k1 | exact k2 | exact k3) ?_
      refine tb_topR r1 ?_
      refine tb_iload_2 d_Cr_copyDivided_18 rfl ?_
      refine tb_iload_3 d_Cr_copyDivided_19 rfl ?_
      refine tb_callVr c_Cr_40 d_Cr_copyDivided_20 rfl rfl rfl (Nat.le_of_ble_eq_true rfl) (by first | exact k1 | exact k2 | exact k3) (ok_Sh_at hG hS1 hSh (p := f) (show f < gL (t + 4) by omega) (i := j) (by omega) (d + 1)) ?_
      refine tb_topI (y := (cl (F f))[j]) (hW.at (by assumption) (by omega)) ?_
      refine tb_istore_4 d_Cr_copyDivided_23 rfl (by decide) ?_
      refine tb_iload_1 d_Cr_copyDivided_25 rfl ?_
      refine tb_if_le 48 d_Cr_copyDivided_26 (by decide) rfl (fun h26 => ?_) (fun h26 => ?_)
      · exact absurd ((nI_leI (a := q) (b := 0) (by omega) (by omega)).mp h26) (by omega)
      · refine tb_iload_4 d_Cr_copyDivided_29 rfl ?_
        refine tb_iload_1 d_Cr_copyDivided_31 rfl ?_
        refine tb_irem (by intro z; have := nI_inj (by omega) (by omega) (show nI q = nI 0 from z); omega) d_Cr_copyDivided_32 rfl ?_
        refine tb_if_ne 48 d_Cr_copyDivided_33 (by decide) rfl (fun h33 => ?_) (fun h33 => ?_)
        · refine tb_iinc_3 (1) d_Cr_copyDivided_48 rfl (by decide) (by decide) ?_
          refine tb_goto 2 d_Cr_copyDivided_51 (by decide) ?_
          rw [nI_1]
          refine ih ((cl (F f)).length - (j + 1)) (by omega) (j + 1) rfl (by omega) _ _ ?_
          first
            | (rw [take_1 _ hlt, divL_f _ (by assumption)]; exact hW)
            | (rw [take_1 _ hlt, divL_t _ h33, appL_1, ← hW.2.2.2.2.2.2.2]
               exact hW.pset hP)
        · refine tb_aload_0 d_Cr_copyDivided_36 rfl ?_
          refine g_Cr_31 d_Cr_copyDivided_37 rfl rfl (by first | exact k1 | exact k2 | exact k3) ?_
          refine tb_topR r1 ?_
          refine tb_bipush (12) (by decide) d_Cr_copyDivided_40 rfl ?_
          refine tb_iload_4 d_Cr_copyDivided_42 rfl ?_
          refine tb_callVq c_Cr_93 d_Cr_copyDivided_44 rfl rfl rfl (Nat.le_of_ble_eq_true rfl) (by first | exact k1 | exact k2 | exact k3) (ok_Sh_append hG hS1 hSh (p := 12) (show 12 < gL (t + 4) by omega) (hW.nar hf hlt) d) (fun v2 M2 hP => ?_)
          obtain ⟨rfl, hP⟩ := hP
          refine tb_popi d_Cr_copyDivided_47 rfl ?_
          refine tb_iinc_3 (1) d_Cr_copyDivided_48 rfl (by decide) (by decide) ?_
          refine tb_goto 2 d_Cr_copyDivided_51 (by decide) ?_
          rw [nI_1]
          refine ih ((cl (F f)).length - (j + 1)) (by omega) (j + 1) rfl (by omega) _ _ ?_
          first
            | (rw [take_1 _ hlt, divL_f _ (by assumption)]; exact hW)
            | (rw [take_1 _ hlt, divL_t _ h33, appL_1, ← hW.2.2.2.2.2.2.2]
               exact hW.pset hP)
theorem ok_Cr_div (hG : tb_G E) (hS : Sh M) (hW : Wk M M1 t n a F rd ak wr v) {f q : Nat} (hf : f < 12) (hq : 1 ≤ q ∧ q ≤ 9) (d : Nat) : tb_Rel E m_Cr_copyDivided (d + 2) [.inr (.inl t), .inl (nI q), .inl (nI f)] M1 (fun r M2 => r = none ∧ Wk M M2 t n a F rd ak wr (appL v (divL (nI q) (cl (F f))))) := by
  refine tb_okOf hG (by decide) rfl (Nat.le_of_ble_eq_true rfl) rfl ?_
  refine tb_iconst (0) (by decide) d_Cr_copyDivided_0 rfl ?_
  refine tb_istore_3 d_Cr_copyDivided_1 rfl (by decide) ?_
  exact lp_Cr_div hG hS hf hq (fun M2 h => ⟨none, rfl, rfl, h⟩) _ 0 rfl (Nat.zero_le _) _ M1 hW
end Craft
