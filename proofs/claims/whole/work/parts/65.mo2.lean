/-! The reference: how its memory shows the state; its light calls. -/
abbrev AM : Nat → Prop := fun q => 190 ≤ q ∧ q < 217
def Le6 (x : Int32) : Prop := x = -1 ∨ ∃ n, n ≤ 6 ∧ x = nI n
def MFs (M : tb_M) (fs : Fs) : Prop := (∀ f, f < 12 → Le6 (tb_I M 191 f)) ∧ ∀ f, f < 12 → pl M 190 f = fs f
def MSc (M : tb_M) (n : Nat) (sc : Nat → List Int32) : Prop := tb_I M 190 7 = nI n ∧ n ≤ 10 ∧ ∀ k, k < n → tb_I M 196 k = nI (sc k).length ∧ (sc k).length ≤ 12 ∧ (∀ i, i < (sc k).length → tb_I M 197 (12 * k + i) = la (sc k) i) ∧ isC (sc k)
def MTr (M : tb_M) (t : Nat) (x : TrV) : Prop := (tb_I M 198 t = nI (tT x).length ∧ (tT x).length ≤ 12 ∧ ∀ i, i < (tT x).length → tb_I M 199 (12 * t + i) = la (tT x) i) ∧ tb_I M 200 t = tRd x ∧ tb_I M 201 t = tAk x ∧ (∀ f, f < 12 → (gb (tb_I M 202 t) f = true ↔ tF x f ≠ none)) ∧ (∀ f, f < 12 → Le6 (tb_I M 203 (12 * t + f)) ∧ pl M 202 (12 * t + f) = tF x f) ∧ tb_I M 205 t = tWr x ∧ WfT x ∧ (¬ tWr x = -1 → Le6 (tb_I M 206 t) ∧ pl M 205 t = tRs x)
def MSt (M : tb_M) (S : StV) : Prop := tb_I M 190 10 = nI S.1 ∧ S.1 ≤ 24 ∧ ∀ t, t < S.1 → MTr M t (S.2 t)
def MDe (M : tb_M) (k : Nat) (x : DeV) : Prop := WfD x ∧ tb_I M 209 k = bI (¬ dO x = 0) ∧ tb_I M 210 k = dA x ∧ tb_I M 211 k = dO x ∧ (dO x = 1 → tb_I M 212 k = dY x) ∧ (¬ dO x = 1 → dY x = -1) ∧ (¬ dO x = 0 → (dWr x = -1 ∨ ∃ f, f < 12 ∧ dWr x = nI f) ∧ (dTu x = 0 ∨ dTu x = 1) ∧ tb_I M 213 k = dRd x ∧ tb_I M 214 k = dAk x ∧ tb_I M 215 k = dWr x ∧ tb_I M 216 k = dTu x)
def MHz (M : tb_M) (n : Nat) (h : HzV) : Prop := (h.1 = 0 → tb_I M 190 35 = 0) ∧ (¬ h.1 = 0 → h.1 ≤ 3 ∧ h.2.1 < n ∧ h.2.2.1 < n ∧ tb_I M 190 35 = nI h.1 ∧ tb_I M 190 36 = nI h.2.1 ∧ tb_I M 190 37 = nI h.2.2.1 ∧ tb_I M 190 38 = h.2.2.2)
def MLg (M : tb_M) (n : Nat) (b : Int32) (R : RS) : Prop := tb_I M 190 26 = b ∧ (b = 0 ∨ b = 1) ∧ (b = 1 → (∀ k, k < n → MDe M k (R.2.2.1 k)) ∧ MHz M n R.2.2.2)
def MIs (M : tb_M) (g : Sg) : Prop := Sh M ∧ MHd M g.1 ∧ MSc M g.2.1.1 g.2.1.2 ∧ MFs M g.2.2.1.1 ∧ MSt M g.2.2.1.2.1 ∧ MLg M g.2.1.1 g.2.2.2.1 g.2.2.1 ∧ tb_I M 190 39 = g.2.2.2.2
abbrev Mp (M : tb_M) (g : Sg) (c : Nat) (a : Option Int32) : Option tb_V → tb_M → Prop := fun v m => v = a.map Sum.inl ∧ MIs m g ∧ On M m AM ∧ tb_I m 190 0 = nI c
section Mo2
variable {E : tb_E} {M M1 : tb_M} {g : Sg}
theorem MHd.of {h : List Int32} (hh : MHd M h) (h1 : tb_I M1 190 5 = tb_I M 190 5) (h2 : tb_I M1 195 = tb_I M 195) : MHd M1 h := ⟨by rw [h1]; exact hh.1, hh.2.1, by rw [h2]; exact hh.2.2⟩
theorem MFs.of {fs : Fs} (hh : MFs M fs) (h1 : tb_I M1 191 = tb_I M 191) (h2 : tb_I M1 192 = tb_I M 192) : MFs M1 fs := ⟨by rw [h1]; exact hh.1, fun f hf => by rw [pl_of h1 h2]; exact hh.2 f hf⟩
theorem MSc.of {n : Nat} {sc : Nat → List Int32} (hh : MSc M n sc) (h1 : tb_I M1 190 7 = tb_I M 190 7) (h2 : tb_I M1 196 = tb_I M 196) (h3 : tb_I M1 197 = tb_I M 197) : MSc M1 n sc := ⟨by rw [h1]; exact hh.1, hh.2.1, by rw [h2, h3]; exact hh.2.2⟩
theorem MTr.of {t : Nat} {x : TrV} (hh : MTr M t x) (hI : ∀ q, 198 ≤ q → q < 208 → tb_I M1 q = tb_I M q) : MTr M1 t x := by
  have hp : ∀ p, pl M1 202 p = pl M 202 p := fun p => pl_of (hI 203 (by omega) (by omega)) (hI 204 (by omega) (by omega))
  have hq : ∀ p, pl M1 205 p = pl M 205 p := fun p => pl_of (hI 206 (by omega) (by omega)) (hI 207 (by omega) (by omega))
  unfold MTr
  simp only [hp, hq, hI 198 (by omega) (by omega), hI 199 (by omega) (by omega), hI 200 (by omega) (by omega), hI 201 (by omega) (by omega), hI 202 (by omega) (by omega), hI 203 (by omega) (by omega), hI 205 (by omega) (by omega), hI 206 (by omega) (by omega)]
  exact hh
theorem MSt.of {S : StV} (hh : MSt M S) (h1 : tb_I M1 190 10 = tb_I M 190 10) (hI : ∀ q, 198 ≤ q → q < 208 → tb_I M1 q = tb_I M q) : MSt M1 S := ⟨by rw [h1]; exact hh.1, hh.2.1, fun t ht => (hh.2.2 t ht).of hI⟩
theorem MDe.of {k : Nat} {x : DeV} (hh : MDe M k x) (hI : ∀ q, 209 ≤ q → q < 217 → tb_I M1 q = tb_I M q) : MDe M1 k x := by
  unfold MDe
  simp only [hI 209 (by omega) (by omega), hI 210 (by omega) (by omega), hI 211 (by omega) (by omega), hI 212 (by omega) (by omega), hI 213 (by omega) (by omega), hI 214 (by omega) (by omega), hI 215 (by omega) (by omega), hI 216 (by omega) (by omega)]
  exact hh
theorem MHz.of {n : Nat} {h : HzV} (hh : MHz M n h) (hj : ∀ j, 35 ≤ j → j ≤ 38 → tb_I M1 190 j = tb_I M 190 j) : MHz M1 n h := by
  unfold MHz
  rw [hj 35 (by omega) (by omega), hj 36 (by omega) (by omega), hj 37 (by omega) (by omega), hj 38 (by omega) (by omega)]
  exact hh
theorem MLg.of {n : Nat} {b : Int32} {R : RS} (hh : MLg M n b R) (h1 : tb_I M1 190 26 = tb_I M 190 26) (hj : ∀ j, 35 ≤ j → j ≤ 38 → tb_I M1 190 j = tb_I M 190 j) (hI : ∀ q, 209 ≤ q → q < 217 → tb_I M1 q = tb_I M q) : MLg M1 n b R :=
  ⟨by rw [h1]; exact hh.1, hh.2.1, fun z => ⟨fun k hk => ((hh.2.2 z).1 k hk).of hI, (hh.2.2 z).2.of hj⟩⟩
theorem MLg.no {n : Nat} {R : RS} (h1 : tb_I M1 190 26 = 0) : MLg M1 n 0 R := ⟨h1, Or.inl rfl, fun z => absurd z (by decide)⟩
/-- a field of the reference that the state doesn't show -/
theorem MIs.put (h : MIs M g) {j : Nat} {x : Int32} (hj : j = 0 ∨ (21 ≤ j ∧ j ≤ 24)) : MIs (tb_sI M 190 j x) g ∧ On M (tb_sI M 190 j x) AM := by
  obtain ⟨hS, hH, hC, hF, hSt, hL, hA⟩ := h
  have o : On M (tb_sI M 190 j x) (fun q => q = 190) := On.sI rfl
  have e : ∀ i, i ≠ j → tb_I (tb_sI M 190 j x) 190 i = tb_I M 190 i := fun i hi => by rw [sI_at]; simp [va_up, hi]
  exact ⟨⟨o.sh hS, hH.of (e 5 (by omega)) (o.i (by decide)), hC.of (e 7 (by omega)) (o.i (by decide)) (o.i (by decide)), hF.of (o.i (by decide)) (o.i (by decide)), hSt.of (e 10 (by omega)) (fun q h1 h2 => o.i (by omega)), hL.of (e 26 (by omega)) (fun i h1 h2 => e i (by omega)) (fun q h1 h2 => o.i (by omega)), by rw [e 39 (by omega)]; exact hA⟩, o.mono (fun q hq => ⟨by omega, by omega⟩)⟩
theorem c190 (M : tb_M) (x : Int32) : tb_I (tb_sI M 190 0 x) 190 0 = x := by rw [sI_at]; simp [va_up]

theorem ok_Mo_thrown (hG : tb_G E) (hS : Sh M) (d : Nat) : tb_Ret E m_Mo_thrown d [.inr (.inl 190)] M (some (.inl (tb_I M 190 0))) M := by
  refine tb_okOf hG (by decide) rfl (Nat.le_of_ble_eq_true rfl) rfl ?_
  refine tb_aload_0 d_Mo_thrown_0 rfl ?_
  refine g_Mo_89 d_Mo_thrown_1 rfl rfl (by first | exact hS.k rfl) ?_
  refine tb_ireturn d_Mo_thrown_4 rfl (by first | rfl | assumption) ?_
  exact ⟨rfl, rfl⟩
theorem ok_Mo_fail (hG : tb_G E) (hS : Sh M) (c : Int32) (d : Nat) : tb_Ret E m_Mo_fail d [.inr (.inl 190), .inl c] M (some (.inl 0)) (tb_sI M 190 0 c) := by
  refine tb_okOf hG (by decide) rfl (Nat.le_of_ble_eq_true rfl) rfl ?_
  refine tb_aload_0 d_Mo_fail_0 rfl ?_
  refine tb_iload_1 d_Mo_fail_1 rfl ?_
  refine p_Mo_89 d_Mo_fail_2 rfl rfl (by first | exact hS.k rfl) ?_
  refine tb_iconst (0) (by decide) d_Mo_fail_5 rfl ?_
  refine tb_ireturn d_Mo_fail_6 rfl (by first | rfl | assumption) ?_
  exact ⟨rfl, rfl⟩
theorem ok_Mo_commands (hG : tb_G E) (h : MIs M g) (d : Nat) : tb_Rel E m_Mo_commands d [.inr (.inl 190)] M (Mp M g 0 (some (nI g.2.1.1))) := by
  obtain ⟨hM0, o0⟩ := h.put (j := 0) (x := 0) (Or.inl rfl)
  have hS := h.1
  have hc0 := c190 M 0
  generalize hM1 : tb_sI M 190 0 0 = M1 at hM0 o0 hc0
  have hS1 := hM0.1
  obtain ⟨-, hH, hC, hF, hSt, hL, hA⟩ := hM0
  refine tb_okOf hG (by decide) rfl (Nat.le_of_ble_eq_true rfl) rfl ?_
  refine tb_aload_0 d_Mo_commands_0 rfl ?_
  refine tb_iconst (0) (by decide) d_Mo_commands_1 rfl ?_
  refine p_Mo_89 d_Mo_commands_2 rfl rfl (by exact hS.k rfl) ?_
  refine tb_memeq hM1 ?_
  refine tb_aload_0 d_Mo_commands_5 rfl ?_
  refine g_Mo_125 d_Mo_commands_6 rfl rfl (by first | exact hS1.k rfl) ?_
  refine tb_topI hC.1 ?_
  refine tb_ireturn d_Mo_commands_9 rfl (by first | rfl | assumption) ?_
  exact ⟨_, rfl, rfl, ⟨hS1, hH, hC, hF, hSt, hL, hA⟩, o0, hc0⟩
theorem ok_Mo_again (hG : tb_G E) (h : MIs M g) (d : Nat) : tb_Rel E m_Mo_again d [.inr (.inl 190)] M (Mp M g 0 (some (g.2.2.2.2))) := by
  obtain ⟨hM0, o0⟩ := h.put (j := 0) (x := 0) (Or.inl rfl)
  have hS := h.1
  have hc0 := c190 M 0
  generalize hM1 : tb_sI M 190 0 0 = M1 at hM0 o0 hc0
  have hS1 := hM0.1
  obtain ⟨-, hH, hC, hF, hSt, hL, hA⟩ := hM0
  refine tb_okOf hG (by decide) rfl (Nat.le_of_ble_eq_true rfl) rfl ?_
  refine tb_aload_0 d_Mo_again_0 rfl ?_
  refine tb_iconst (0) (by decide) d_Mo_again_1 rfl ?_
  refine p_Mo_89 d_Mo_again_2 rfl rfl (by exact hS.k rfl) ?_
  refine tb_memeq hM1 ?_
  refine tb_aload_0 d_Mo_again_5 rfl ?_
  refine g_Mo_254 d_Mo_again_6 rfl rfl (by first | exact hS1.k rfl) ?_
  refine tb_topI hA ?_
  refine tb_ireturn d_Mo_again_9 rfl (by first | rfl | assumption) ?_
  exact ⟨_, rfl, rfl, ⟨hS1, hH, hC, hF, hSt, hL, hA⟩, o0, hc0⟩
theorem ok_Mo_traces (hG : tb_G E) (h : MIs M g) (d : Nat) : tb_Rel E m_Mo_traces d [.inr (.inl 190)] M (Mp M g 0 (some (nI g.2.2.1.2.1.1))) := by
  obtain ⟨hM0, o0⟩ := h.put (j := 0) (x := 0) (Or.inl rfl)
  have hS := h.1
  have hc0 := c190 M 0
  generalize hM1 : tb_sI M 190 0 0 = M1 at hM0 o0 hc0
  have hS1 := hM0.1
  obtain ⟨-, hH, hC, hF, hSt, hL, hA⟩ := hM0
  refine tb_okOf hG (by decide) rfl (Nat.le_of_ble_eq_true rfl) rfl ?_
  refine tb_aload_0 d_Mo_traces_0 rfl ?_
  refine tb_iconst (0) (by decide) d_Mo_traces_1 rfl ?_
  refine p_Mo_89 d_Mo_traces_2 rfl rfl (by exact hS.k rfl) ?_
  refine tb_memeq hM1 ?_
  refine tb_aload_0 d_Mo_traces_5 rfl ?_
  refine g_Mo_176 d_Mo_traces_6 rfl rfl (by first | exact hS1.k rfl) ?_
  refine tb_topI hSt.1 ?_
  refine tb_ireturn d_Mo_traces_9 rfl (by first | rfl | assumption) ?_
  exact ⟨_, rfl, rfl, ⟨hS1, hH, hC, hF, hSt, hL, hA⟩, o0, hc0⟩
theorem ok_Mo_type (hG : tb_G E) (h : MIs M g) {c : Int32} (d : Nat) : tb_Rel E m_Mo_type d [.inr (.inl 190), .inl c] M (Mp M (oType g c) 0 (some (aType g))) := by
  obtain ⟨hM0, o0⟩ := h.put (j := 0) (x := 0) (Or.inl rfl)
  have hS := h.1
  have hc0 := c190 M 0
  generalize hM1 : tb_sI M 190 0 0 = M1 at hM0 o0 hc0
  have hS1 := hM0.1
  obtain ⟨-, hH, hC, hF, hSt, hL, hA⟩ := hM0
  have h12 := hH.2.1
  unfold oType aType
  refine tb_okOf hG (by decide) rfl (Nat.le_of_ble_eq_true rfl) rfl ?_
  refine tb_aload_0 d_Mo_type_0 rfl ?_
  refine tb_iconst (0) (by decide) d_Mo_type_1 rfl ?_
  refine p_Mo_89 d_Mo_type_2 rfl rfl (by exact hS.k rfl) ?_
  refine tb_memeq hM1 ?_
  refine tb_aload_0 d_Mo_type_5 rfl ?_
  refine g_Mo_93 d_Mo_type_6 rfl rfl (by first | exact hS1.k rfl) ?_
  refine tb_topI hH.1 ?_
  refine tb_bipush (12) (by decide) d_Mo_type_9 rfl ?_
  refine tb_icmp_ne 16 d_Mo_type_11 (by decide) rfl (fun h11 => ?_) (fun h11 => ?_)
  · have hl : g.1.length < 12 := by
      have : g.1.length ≠ 12 := fun z => h11 (by rw [z]; rfl)
      omega
    rw [if_pos hl, if_pos hl]
    refine tb_aload_0 d_Mo_type_16 rfl ?_
    refine g_Mo_22 d_Mo_type_17 rfl rfl (by first | exact hS1.k rfl) ?_
    refine tb_topR (y := 195) (hS1.mr 6 (by decide)) ?_
    refine tb_aload_0 d_Mo_type_20 rfl ?_
    refine g_Mo_93 d_Mo_type_21 rfl rfl (by first | exact hS1.k rfl) ?_
    refine tb_topI hH.1 ?_
    refine tb_iload_1 d_Mo_type_24 rfl ?_
    refine tb_iastore d_Mo_type_25 rfl (by first | exact hS1.k rfl) (by first | exact mo_in hS1 (c := 12) rfl (by omega) (by decide) | exact mo_in hS1 (c := 10) rfl (by omega) (by decide) | exact mo_in hS1 (c := 25) rfl (by omega) (by decide) | exact mo_in hS1 (c := 6) rfl (by omega) (by decide) | exact mo_in hS1 (c := 72) rfl (by omega) (by decide) | exact mo_in hS1 (c := 120) rfl (by omega) (by decide) | exact mo_in hS1 (c := 300) rfl (by omega) (by decide) | exact mo_in hS1 (c := 150) rfl (by omega) (by decide) | exact mo_in hS1 (c := 1800) rfl (by omega) (by decide)) ?_
    rw [nI_clamp (show g.1.length < 2 ^ 31 by omega)]
    refine tb_aload_0 d_Mo_type_26 rfl ?_
    refine tb_dup d_Mo_type_27 rfl ?_
    refine g_Mo_93 d_Mo_type_28 rfl rfl (by first | exact hS1.k rfl) ?_
    refine tb_topI (y := nI g.1.length) hH.1 ?_
    refine tb_iconst (1) (by decide) d_Mo_type_31 rfl ?_
    refine tb_iadd d_Mo_type_32 rfl ?_
    rw [nI_1]
    refine p_Mo_93 d_Mo_type_33 rfl rfl (by first | exact hS1.k rfl) ?_
    refine tb_iconst (1) (by decide) d_Mo_type_36 rfl ?_
    refine tb_ireturn d_Mo_type_37 rfl (by first | rfl | assumption) ?_
    have o1 : On M1 (tb_sI M1 195 g.1.length c) (fun q => q = 195) := On.sI rfl
    have o2 : On (tb_sI M1 195 g.1.length c) (tb_sI (tb_sI M1 195 g.1.length c) 190 5 (nI (g.1.length + 1))) (fun q => q = 190) := On.sI rfl
    have e : ∀ i, i ≠ 5 → tb_I (tb_sI (tb_sI M1 195 g.1.length c) 190 5 (nI (g.1.length + 1))) 190 i = tb_I M1 190 i := fun i hi => by rw [sI_at, o1.i (by decide)]; simp [va_up, hi]
    have oo : ∀ q, q ≠ 190 → q ≠ 195 → tb_I (tb_sI (tb_sI M1 195 g.1.length c) 190 5 (nI (g.1.length + 1))) q = tb_I M1 q := fun q a b => by rw [o2.i a, o1.i b]
    refine ⟨_, rfl, rfl, ⟨o2.sh (o1.sh hS1), ⟨?_, ?_, fun i hi => ?_⟩, hC.of (e 7 (by decide)) (oo _ (by decide) (by decide)) (oo _ (by decide) (by decide)), hF.of (oo _ (by decide) (by decide)) (oo _ (by decide) (by decide)), hSt.of (e 10 (by decide)) (fun q a b => oo q (by omega) (by omega)), hL.of (e 26 (by decide)) (fun j a b => e j (by omega)) (fun q a b => oo q (by omega) (by omega)), by rw [e 39 (by decide)]; exact hA⟩, o0.trans ((o1.mono (fun q hq => ⟨by omega, by omega⟩)).trans (o2.mono (fun q hq => ⟨by omega, by omega⟩))), by rw [e 0 (by decide)]; exact hc0⟩
    · rw [sI_at]; simp [va_up]
    · show (g.1 ++ [c]).length ≤ 12
      rw [List.length_append]
      show g.1.length + 1 ≤ 12
      omega
    · rw [o2.i (by decide), sI_at]
      have hi' : i < g.1.length + 1 := by
        have : i < (g.1 ++ [c]).length := hi
        rw [List.length_append] at this
        exact this
      show va_up (tb_I M1 195) g.1.length c i = la (g.1 ++ [c]) i
      unfold va_up la
      by_cases z : i = g.1.length
      · rw [if_pos z, z]
        simp
      · rw [if_neg z, hH.2.2 i (by omega)]
        unfold la
        rw [List.getD_eq_getElem?_getD, List.getD_eq_getElem?_getD, List.getElem?_append_left (by omega)]
  · have hl : g.1.length = 12 := (nI_eq (by omega) (by decide)).mp (show nI g.1.length = nI 12 from h11)
    rw [if_neg (by omega), if_neg (by omega)]
    refine tb_iconst (0) (by decide) d_Mo_type_14 rfl ?_
    refine tb_ireturn d_Mo_type_15 rfl (by first | rfl | assumption) ?_
    exact ⟨_, rfl, rfl, ⟨hS1, hH, hC, hF, hSt, hL, hA⟩, o0, hc0⟩
end Mo2
