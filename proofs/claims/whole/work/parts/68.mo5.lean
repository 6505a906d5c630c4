/-! The reference: what a command makes. -/
def szV (v : Option (List Int32)) : Int32 := match v with
  | none => -1
  | some l => nI l.length
def a6 (l : List Int32) (x : Int32) : List Int32 := if l.length < 6 then l ++ [x] else l
def aL (l xs : List Int32) : List Int32 := xs.foldl a6 l
theorem aL_1 (l xs : List Int32) (x : Int32) : aL l (xs ++ [x]) = a6 (aL l xs) x := by unfold aL; rw [List.foldl_append]; rfl
theorem app6_a6 (l : List Int32) (x : Int32) : app6 (some l) x = some (a6 l x) := by
  unfold app6 a6
  show (if l.length < 6 then some (l ++ [x]) else some l) = _
  by_cases c : l.length < 6
  · rw [if_pos c, if_pos c]
  · rw [if_neg c, if_neg c]
theorem appL_aL (l xs : List Int32) : appL (some l) xs = some (aL l xs) := by
  induction xs generalizing l with
  | nil => rfl
  | cons x xs ih =>
    show appL (app6 (some l) x) xs = some (aL (a6 l x) xs)
    rw [app6_a6]
    exact ih _
theorem divL_one (l : List Int32) : divL 1 l = l := by
  unfold divL
  rw [List.filter_eq_self]
  intro x _
  have : x / 1 = x := Int32.div_one
  simp [this]
section Mo5
variable {E : tb_E} {M M1 : tb_M} {fs : Fs}
theorem MFs.sz (h : MFs M fs) {f : Nat} (hf : f < 12) : tb_I M 191 f = szV (fs f) := by
  have := (pl_len (M := M) (s := 190) (h.1 f hf)).1
  rw [h.2 f hf] at this
  exact this
theorem MFs.le (h : MFs M fs) {f : Nat} (hf : f < 12) : (cl (fs f)).length ≤ 6 := by
  have := (pl_len (M := M) (s := 190) (h.1 f hf)).2
  rw [h.2 f hf] at this
  exact this
theorem MFs.at (h : MFs M fs) {f i : Nat} (hf : f < 12) (hi : i < (cl (fs f)).length) : tb_I M 192 (6 * f + i) = (cl (fs f))[i] := by
  have hp := h.2 f hf
  rcases h.1 f hf with q | ⟨n, hn, q⟩
  · rw [pl_none (s := 190) q] at hp
    exfalso
    rw [← hp] at hi
    exact Nat.not_lt_zero _ hi
  · rw [pl_some (s := 190) hn q] at hp
    simp only [← hp, cl, Option.getD_some, List.getElem_map, List.getElem_range]
theorem sz_le {v : Option (List Int32)} (hv : (cl v).length ≤ 6) {j : Nat} (hj : j < 2 ^ 31) : szV v ≤ nI j ↔ (cl v).length ≤ j := by
  cases v with
  | none => exact ⟨fun _ => Nat.zero_le _, fun _ => Int32.le_trans (b := 0) (by decide) (nI_pos' hj)⟩
  | some l =>
    have hl : l.length ≤ 6 := hv
    show nI l.length ≤ nI j ↔ l.length ≤ j
    exact nI_leI (by omega) hj
theorem sz_neg {v : Option (List Int32)} (hv : (cl v).length ≤ 6) : szV v < 0 ↔ v = none := by
  cases v with
  | none => exact ⟨fun _ => rfl, fun _ => by decide⟩
  | some l =>
    have hl : l.length ≤ 6 := hv
    exact ⟨fun z => absurd z (nI_pos (by omega)), fun z => by cases z⟩
/-- the reference at work: read, asked, target, what is made so far -/
def MWk (M M1 : tb_M) (rd ak tg : Int32) (l : List Int32) : Prop := On M M1 (fun q => q = 190 ∨ q = 208) ∧ (∀ j, ¬ (21 ≤ j ∧ j ≤ 24) → tb_I M1 190 j = tb_I M 190 j) ∧ tb_I M1 190 21 = rd ∧ tb_I M1 190 22 = ak ∧ tb_I M1 190 23 = tg ∧ tb_I M1 190 24 = nI l.length ∧ l.length ≤ 6 ∧ ∀ i (h : i < l.length), tb_I M1 208 i = l[i]
variable {rd ak tg : Int32} {l : List Int32}
theorem MWk.fF (h : MWk M M1 rd ak tg l) (hF : MFs M fs) : MFs M1 fs := hF.of (h.1.i (by decide)) (h.1.i (by decide))
theorem MWk.fld (h : MWk M M1 rd ak tg l) {j : Nat} {x : Int32} (hj : 21 ≤ j ∧ j ≤ 23) : MWk M (tb_sI M1 190 j x) (va_up (tb_I M1 190) j x 21) (va_up (tb_I M1 190) j x 22) (va_up (tb_I M1 190) j x 23) l := by
  obtain ⟨h1, h2, h3, h4, h5, h6, h7, h8⟩ := h
  refine ⟨h1.trans (On.sI (Or.inl rfl)), fun i hi => ?_, by rw [sI_at], by rw [sI_at], by rw [sI_at], ?_, h7, fun i hi => by rw [sI_of _ _ _ (by decide)]; exact h8 i hi⟩
  · rw [sI_at, ← h2 i hi]; simp [va_up]; omega
  · rw [sI_at, ← h6]; simp [va_up]; omega
theorem MWk.sRd (h : MWk M M1 rd ak tg l) {x : Int32} : MWk M (tb_sI M1 190 21 x) x ak tg l := by
  have := h.fld (j := 21) (x := x) (by omega)
  simpa [va_up, h.2.2.2.1, h.2.2.2.2.1] using this
theorem MWk.sAk (h : MWk M M1 rd ak tg l) {x : Int32} : MWk M (tb_sI M1 190 22 x) rd x tg l := by
  have := h.fld (j := 22) (x := x) (by omega)
  simpa [va_up, h.2.2.1, h.2.2.2.2.1] using this
theorem MWk.sTg (h : MWk M M1 rd ak tg l) {x : Int32} : MWk M (tb_sI M1 190 23 x) rd ak x l := by
  have := h.fld (j := 23) (x := x) (by omega)
  simpa [va_up, h.2.2.1, h.2.2.2.1] using this
theorem MWk.app (h : MWk M M1 rd ak tg l) {x : Int32} (hl : l.length < 6) : MWk M (tb_sI (tb_sI M1 208 l.length x) 190 24 (nI (l.length + 1))) rd ak tg (l ++ [x]) := by
  obtain ⟨h1, h2, h3, h4, h5, h6, h7, h8⟩ := h
  have e : ∀ j, j ≠ 24 → tb_I (tb_sI (tb_sI M1 208 l.length x) 190 24 (nI (l.length + 1))) 190 j = tb_I M1 190 j := fun j hj => by rw [sI_at, sI_of _ _ _ (by decide)]; simp [va_up, hj]
  refine ⟨(h1.trans (On.sI (Or.inr rfl))).trans (On.sI (Or.inl rfl)), fun i hi => by rw [e i (by omega)]; exact h2 i hi, by rw [e 21 (by decide)]; exact h3, by rw [e 22 (by decide)]; exact h4, by rw [e 23 (by decide)]; exact h5, by rw [sI_at]; simp [va_up], by rw [List.length_append]; show l.length + 1 ≤ 6; omega, fun i hi => ?_⟩
  rw [sI_of _ _ _ (by decide), sI_at]
  unfold va_up
  have hi' : i < l.length + 1 := by rw [List.length_append] at hi; exact hi
  by_cases c : i = l.length
  · subst c; rw [if_pos rfl, List.getElem_append_right (Nat.le_refl _)]; simp
  · rw [if_neg c, List.getElem_append_left (by omega)]; exact h8 i (by omega)
theorem ok_Mo_add (hG : tb_G E) (hS : Sh M) (hW : MWk M M1 rd ak tg l) (x : Int32) (d : Nat) : tb_Rel E m_Mo_add d [.inr (.inl 190), .inl x] M1 (fun v M2 => v = none ∧ MWk M M2 rd ak tg (a6 l x)) := by
  have hS1 := hW.1.sh hS
  have h6 := hW.2.2.2.2.2.2.1
  refine tb_okOf hG (by decide) rfl (Nat.le_of_ble_eq_true rfl) rfl ?_
  refine tb_aload_0 d_Mo_add_0 rfl ?_
  refine g_Mo_132 d_Mo_add_1 rfl rfl (by first | exact hS1.k rfl) ?_
  refine tb_topI hW.2.2.2.2.2.1 ?_
  refine tb_bipush (6) (by decide) d_Mo_add_4 rfl ?_
  refine tb_icmp_lt 10 d_Mo_add_6 (by decide) rfl (fun h6_ => ?_) (fun h6_ => ?_)
  · have hl : l.length < 6 := (nI_ltI (by omega) (by decide)).mp (show nI l.length < nI 6 from h6_)
    refine tb_aload_0 d_Mo_add_10 rfl ?_
    refine g_Mo_61 d_Mo_add_11 rfl rfl (by first | exact hS1.k rfl) ?_
    refine tb_topR (y := 208) (hS1.mr 25 (by decide)) ?_
    refine tb_aload_0 d_Mo_add_14 rfl ?_
    refine g_Mo_132 d_Mo_add_15 rfl rfl (by first | exact hS1.k rfl) ?_
    refine tb_topI hW.2.2.2.2.2.1 ?_
    refine tb_iload_1 d_Mo_add_18 rfl ?_
    refine tb_iastore d_Mo_add_19 rfl (by first | exact hS1.k rfl) (by first | exact mo_in hS1 (c := 12) rfl (by omega) (by decide) | exact mo_in hS1 (c := 10) rfl (by omega) (by decide) | exact mo_in hS1 (c := 25) rfl (by omega) (by decide) | exact mo_in hS1 (c := 6) rfl (by omega) (by decide) | exact mo_in hS1 (c := 72) rfl (by omega) (by decide) | exact mo_in hS1 (c := 120) rfl (by omega) (by decide) | exact mo_in hS1 (c := 300) rfl (by omega) (by decide) | exact mo_in hS1 (c := 150) rfl (by omega) (by decide) | exact mo_in hS1 (c := 1800) rfl (by omega) (by decide)) ?_
    rw [nI_clamp (show l.length < 2 ^ 31 by omega)]
    refine tb_aload_0 d_Mo_add_20 rfl ?_
    refine tb_dup d_Mo_add_21 rfl ?_
    refine g_Mo_132 d_Mo_add_22 rfl rfl (by first | exact hS1.k rfl) ?_
    refine tb_topI (y := nI l.length) (by rw [sI_of _ _ _ (by decide)]; exact hW.2.2.2.2.2.1) ?_
    refine tb_iconst (1) (by decide) d_Mo_add_25 rfl ?_
    refine tb_iadd d_Mo_add_26 rfl ?_
    rw [nI_1]
    refine p_Mo_132 d_Mo_add_27 rfl rfl (by first | exact hS1.k rfl) ?_
    refine tb_vreturn d_Mo_add_30 rfl ?_
    refine ⟨none, rfl, rfl, ?_⟩
    unfold a6
    rw [if_pos hl]
    exact hW.app hl
  · have hl : ¬ l.length < 6 := fun z => h6_ (nI_lt (b := 6) z (by decide))
    refine tb_vreturn d_Mo_add_9 rfl ?_
    refine ⟨none, rfl, rfl, ?_⟩
    unfold a6
    rw [if_neg hl]
    exact hW
theorem ok_Mo_readFile (hG : tb_G E) (hS : Sh M) (hW : MWk M M1 rd ak tg l) (x : Int32) (d : Nat) : tb_Rel E m_Mo_readFile d [.inr (.inl 190), .inl x] M1 (fun v M2 => v = none ∧ MWk M M2 (rd ||| (1 <<< (x &&& 31))) ak tg l) := by
  have hS1 := hW.1.sh hS
  refine tb_okOf hG (by decide) rfl (Nat.le_of_ble_eq_true rfl) rfl ?_
  refine tb_aload_0 d_Mo_readFile_0 rfl ?_
  refine tb_dup d_Mo_readFile_1 rfl ?_
  refine g_Mo_135 d_Mo_readFile_2 rfl rfl (by first | exact hS1.k rfl) ?_
  refine tb_topI hW.2.2.1 ?_
  refine tb_iconst (1) (by decide) d_Mo_readFile_5 rfl ?_
  refine tb_iload_1 d_Mo_readFile_6 rfl ?_
  refine tb_ishl d_Mo_readFile_7 rfl ?_
  refine tb_ior d_Mo_readFile_8 rfl ?_
  refine p_Mo_135 d_Mo_readFile_9 rfl rfl (by first | exact hS1.k rfl) ?_
  refine tb_vreturn d_Mo_readFile_12 rfl ?_
  exact ⟨none, rfl, rfl, hW.sRd⟩
theorem lp_Mo_addAll (hG : tb_G E) (hS : Sh M) (hF : MFs M fs) {f q : Nat} (hf : f < 12) (hq : 1 ≤ q ∧ q ≤ 9) {d rc rs : Nat} {Q : tb_O → tb_M → Prop} (hQ : ∀ M2, MWk M M2 rd ak tg (aL l (divL (nI q) (cl (fs f)))) → Q (.inl none) M2) : ∀ (m j : Nat), (cl (fs f)).length - j = m → j ≤ (cl (fs f)).length → ∀ M1, MWk M M1 rd ak tg (aL l (divL (nI q) ((cl (fs f)).take j))) → tb_Wp E m_Mo_addAll (d + 1) rc rs 7 [some (.inr 190), some (.inl (nI f)), some (.inl (nI q)), some (.inl (nI j))] [] M1 Q := by
  have hle := hF.le hf
  intro m
  induction m using Nat.strongRecOn with
  | ind m ih =>
    intro j hm hj M1 hW
    have hS1 := hW.1.sh hS
    have hF1 := hW.fF hF
    refine tb_iload_3 d_Mo_addAll_7 rfl ?_
    refine tb_aload_0 d_Mo_addAll_8 rfl ?_
    refine g_Mo_7 d_Mo_addAll_9 rfl rfl (by first | exact hS1.k rfl) ?_
    refine tb_topR (y := 191) (hS1.mr 1 (by decide)) ?_
    refine tb_iload_1 d_Mo_addAll_12 rfl ?_
    refine tb_iaload d_Mo_addAll_13 rfl (by first | exact hS1.k rfl) (by first | exact mo_in hS1 (c := 12) rfl (by omega) (by decide) | exact mo_in hS1 (c := 10) rfl (by omega) (by decide) | exact mo_in hS1 (c := 25) rfl (by omega) (by decide) | exact mo_in hS1 (c := 6) rfl (by omega) (by decide) | exact mo_in hS1 (c := 72) rfl (by omega) (by decide) | exact mo_in hS1 (c := 120) rfl (by omega) (by decide) | exact mo_in hS1 (c := 300) rfl (by omega) (by decide) | exact mo_in hS1 (c := 150) rfl (by omega) (by decide) | exact mo_in hS1 (c := 1800) rfl (by omega) (by decide)) ?_
    refine tb_topI (y := szV (fs f)) (by rw [nI_clamp (show f < 2 ^ 31 by omega)]; exact hF1.sz (by assumption)) ?_
    refine tb_icmp_ge 54 d_Mo_addAll_14 (by decide) rfl (fun h14 => ?_) (fun h14 => ?_)
    · have hje := (sz_le hle (show j < 2 ^ 31 by omega)).mp h14
      have hje2 : j = (cl (fs f)).length := by omega
      refine tb_vreturn d_Mo_addAll_54 rfl ?_
      refine hQ _ ?_
      rw [hje2, List.take_length] at hW
      exact hW
    · have hlt : j < (cl (fs f)).length := Nat.lt_of_not_le (fun z => h14 ((sz_le hle (by omega)).mpr z))
      refine tb_aload_0 d_Mo_addAll_17 rfl ?_
      refine g_Mo_13 d_Mo_addAll_18 rfl rfl (by first | exact hS1.k rfl) ?_
      refine tb_topR (y := 192) (hS1.mr 2 (by decide)) ?_
      refine tb_bipush (6) (by decide) d_Mo_addAll_21 rfl ?_
      refine tb_iload_1 d_Mo_addAll_23 rfl ?_
      refine tb_imul d_Mo_addAll_24 rfl ?_
      refine tb_topI (show (6 : Int32) * nI f = nI (6 * f) from nI_mul 6 f) ?_
      refine tb_iload_3 d_Mo_addAll_25 rfl ?_
      refine tb_iadd d_Mo_addAll_26 rfl ?_
      rw [nI_add]
      refine tb_iaload d_Mo_addAll_27 rfl (by first | exact hS1.k rfl) (by first | exact mo_in hS1 (c := 12) rfl (by omega) (by decide) | exact mo_in hS1 (c := 10) rfl (by omega) (by decide) | exact mo_in hS1 (c := 25) rfl (by omega) (by decide) | exact mo_in hS1 (c := 6) rfl (by omega) (by decide) | exact mo_in hS1 (c := 72) rfl (by omega) (by decide) | exact mo_in hS1 (c := 120) rfl (by omega) (by decide) | exact mo_in hS1 (c := 300) rfl (by omega) (by decide) | exact mo_in hS1 (c := 150) rfl (by omega) (by decide) | exact mo_in hS1 (c := 1800) rfl (by omega) (by decide)) ?_
      refine tb_topI (y := (cl (fs f))[j]) (by rw [nI_clamp (show 6 * f + j < 2 ^ 31 by omega)]; exact hF1.at (by assumption) (by omega)) ?_
      refine tb_iload_2 d_Mo_addAll_28 rfl ?_
      refine tb_irem (by intro z; have := (nI_eq (by omega) (by decide)).mp (show nI q = nI 0 from z); omega) d_Mo_addAll_29 rfl ?_
      refine tb_if_ne 48 d_Mo_addAll_30 (by decide) rfl (fun h30 => ?_) (fun h30 => ?_)
      · refine tb_iinc_3 (1) d_Mo_addAll_48 rfl (by decide) (by decide) ?_
        refine tb_goto 7 d_Mo_addAll_51 (by decide) ?_
        rw [nI_1]
        refine ih ((cl (fs f)).length - (j + 1)) (by omega) (j + 1) rfl (by omega) _ ?_
        first
          | (rw [take_1 _ hlt, divL_f _ h30]; exact hW)
          | (rw [take_1 _ hlt, divL_t _ h30, aL_1]; exact hP)
      · refine tb_aload_0 d_Mo_addAll_33 rfl ?_
        refine tb_aload_0 d_Mo_addAll_34 rfl ?_
        refine g_Mo_13 d_Mo_addAll_35 rfl rfl (by first | exact hS1.k rfl) ?_
        refine tb_topR (y := 192) (hS1.mr 2 (by decide)) ?_
        refine tb_bipush (6) (by decide) d_Mo_addAll_38 rfl ?_
        refine tb_iload_1 d_Mo_addAll_40 rfl ?_
        refine tb_imul d_Mo_addAll_41 rfl ?_
        refine tb_topI (show (6 : Int32) * nI f = nI (6 * f) from nI_mul 6 f) ?_
        refine tb_iload_3 d_Mo_addAll_42 rfl ?_
        refine tb_iadd d_Mo_addAll_43 rfl ?_
        rw [nI_add]
        refine tb_iaload d_Mo_addAll_44 rfl (by first | exact hS1.k rfl) (by first | exact mo_in hS1 (c := 12) rfl (by omega) (by decide) | exact mo_in hS1 (c := 10) rfl (by omega) (by decide) | exact mo_in hS1 (c := 25) rfl (by omega) (by decide) | exact mo_in hS1 (c := 6) rfl (by omega) (by decide) | exact mo_in hS1 (c := 72) rfl (by omega) (by decide) | exact mo_in hS1 (c := 120) rfl (by omega) (by decide) | exact mo_in hS1 (c := 300) rfl (by omega) (by decide) | exact mo_in hS1 (c := 150) rfl (by omega) (by decide) | exact mo_in hS1 (c := 1800) rfl (by omega) (by decide)) ?_
        refine tb_topI (y := (cl (fs f))[j]) (by rw [nI_clamp (show 6 * f + j < 2 ^ 31 by omega)]; exact hF1.at (by assumption) (by omega)) ?_
        refine tb_callVq c_Mo_141 d_Mo_addAll_45 rfl rfl rfl (Nat.le_of_ble_eq_true rfl) (by first | exact hS1.k rfl) (ok_Mo_add hG hS hW _ d) (fun v2 M2 hP => ?_)
        obtain ⟨rfl, hP⟩ := hP
        refine tb_iinc_3 (1) d_Mo_addAll_48 rfl (by decide) (by decide) ?_
        refine tb_goto 7 d_Mo_addAll_51 (by decide) ?_
        rw [nI_1]
        refine ih ((cl (fs f)).length - (j + 1)) (by omega) (j + 1) rfl (by omega) _ ?_
        first
          | (rw [take_1 _ hlt, divL_f _ h30]; exact hW)
          | (rw [take_1 _ hlt, divL_t _ h30, aL_1]; exact hP)
theorem ok_Mo_addAll (hG : tb_G E) (hS : Sh M) (hF : MFs M fs) (hW : MWk M M1 rd ak tg l) {f q : Nat} (hf : f < 12) (hq : 1 ≤ q ∧ q ≤ 9) (d : Nat) : tb_Rel E m_Mo_addAll (d + 1) [.inr (.inl 190), .inl (nI f), .inl (nI q)] M1 (fun v M2 => v = none ∧ MWk M M2 (rd ||| (1 <<< (nI f &&& 31))) ak tg (aL l (divL (nI q) (cl (fs f))))) := by
  have hS1 := hW.1.sh hS
  refine tb_okOf hG (by decide) rfl (Nat.le_of_ble_eq_true rfl) rfl ?_
  refine tb_aload_0 d_Mo_addAll_0 rfl ?_
  refine tb_iload_1 d_Mo_addAll_1 rfl ?_
  refine tb_callVq c_Mo_138 d_Mo_addAll_2 rfl rfl rfl (Nat.le_of_ble_eq_true rfl) (by first | exact hS1.k rfl) (ok_Mo_readFile hG hS hW (nI f) d) (fun v_hR M_hR hR => ?_)
  obtain ⟨rfl, hR⟩ := hR
  refine tb_iconst (0) (by decide) d_Mo_addAll_5 rfl ?_
  refine tb_istore_3 d_Mo_addAll_6 rfl (by decide) ?_
  exact lp_Mo_addAll hG hS hF hf hq (fun M2 h => ⟨none, rfl, rfl, h⟩) _ 0 rfl (Nat.zero_le _) _ hR
theorem ok_Mo_addAll1 (hG : tb_G E) (hS : Sh M) (hF : MFs M fs) (hW : MWk M M1 rd ak tg l) {f : Nat} (hf : f < 12) (d : Nat) : tb_Rel E m_Mo_addAll (d + 1) [.inr (.inl 190), .inl (nI f), .inl 1] M1 (fun v M2 => v = none ∧ MWk M M2 (rd ||| (1 <<< (nI f &&& 31))) ak tg (aL l (cl (fs f)))) := by
  have := ok_Mo_addAll hG hS hF hW hf (q := 1) (by omega) d
  rw [show divL (nI 1) (cl (fs f)) = cl (fs f) from divL_one _] at this
  exact this
theorem ok_Mo_join (hG : tb_G E) (hS : Sh M) (hF : MFs M fs) (hW : MWk M M1 rd ak tg l) {f g : Nat} (hf : f < 12) (hg : g < 12) (d : Nat) : tb_Rel E m_Mo_join (d + 2) [.inr (.inl 190), .inl (nI f), .inl (nI g)] M1 (fun v M2 => v = none ∧ MWk M M2 ((rd ||| (1 <<< (nI f &&& 31))) ||| (1 <<< (nI g &&& 31))) ak tg (aL (aL l (cl (fs f))) (cl (fs g)))) := by
  have hS1 := hW.1.sh hS
  refine tb_okOf hG (by decide) rfl (Nat.le_of_ble_eq_true rfl) rfl ?_
  refine tb_aload_0 d_Mo_join_0 rfl ?_
  refine tb_iload_1 d_Mo_join_1 rfl ?_
  refine tb_iconst (1) (by decide) d_Mo_join_2 rfl ?_
  refine tb_callVq c_Mo_154 d_Mo_join_3 rfl rfl rfl (Nat.le_of_ble_eq_true rfl) (by first | exact hS1.k rfl) (ok_Mo_addAll1 hG hS hF hW hf d) (fun v2 M2 hP => ?_)
  obtain ⟨rfl, hP⟩ := hP
  have hS2 := hP.1.sh hS
  refine tb_aload_0 d_Mo_join_6 rfl ?_
  refine tb_iload_2 d_Mo_join_7 rfl ?_
  refine tb_iconst (1) (by decide) d_Mo_join_8 rfl ?_
  refine tb_callVq c_Mo_154 d_Mo_join_9 rfl rfl rfl (Nat.le_of_ble_eq_true rfl) (by exact hS2.k rfl) (ok_Mo_addAll1 hG hS hF hP hg d) (fun v3 M3 hP3 => ?_)
  obtain ⟨rfl, hP3⟩ := hP3
  refine tb_vreturn d_Mo_join_12 rfl ?_
  exact ⟨none, rfl, rfl, hP3⟩
theorem lp_Mo_sums (hG : tb_G E) (hS : Sh M) (hF : MFs M fs) {f g : Nat} (hf : f < 12) (hg : g < 12) {d rc rs : Nat} {Q : tb_O → tb_M → Prop} (hQ : ∀ M2, MWk M M2 rd ak tg (aL l (sumL (cl (fs f)) (cl (fs g)))) → Q (.inl none) M2) : ∀ (m j : Nat), (sumL (cl (fs f)) (cl (fs g))).length - j = m → j ≤ (sumL (cl (fs f)) (cl (fs g))).length → ∀ M1, MWk M M1 rd ak tg (aL l ((sumL (cl (fs f)) (cl (fs g))).take j)) → tb_Wp E m_Mo_sums (d + 1) rc rs 12 [some (.inr 190), some (.inl (nI f)), some (.inl (nI g)), some (.inl (nI j))] [] M1 Q := by
  have hle := hF.le hf
  have hle2 := hF.le hg
  have hsl := sumL_len (cl (fs f)) (cl (fs g))
  intro m
  induction m using Nat.strongRecOn with
  | ind m ih =>
    intro j hm hj M1 hW
    have hS1 := hW.1.sh hS
    have hF1 := hW.fF hF
    refine tb_iload_3 d_Mo_sums_12 rfl ?_
    refine tb_aload_0 d_Mo_sums_13 rfl ?_
    refine g_Mo_7 d_Mo_sums_14 rfl rfl (by first | exact hS1.k rfl) ?_
    refine tb_topR (y := 191) (hS1.mr 1 (by decide)) ?_
    refine tb_iload_1 d_Mo_sums_17 rfl ?_
    refine tb_iaload d_Mo_sums_18 rfl (by first | exact hS1.k rfl) (by first | exact mo_in hS1 (c := 12) rfl (by omega) (by decide) | exact mo_in hS1 (c := 10) rfl (by omega) (by decide) | exact mo_in hS1 (c := 25) rfl (by omega) (by decide) | exact mo_in hS1 (c := 6) rfl (by omega) (by decide) | exact mo_in hS1 (c := 72) rfl (by omega) (by decide) | exact mo_in hS1 (c := 120) rfl (by omega) (by decide) | exact mo_in hS1 (c := 300) rfl (by omega) (by decide) | exact mo_in hS1 (c := 150) rfl (by omega) (by decide) | exact mo_in hS1 (c := 1800) rfl (by omega) (by decide)) ?_
    refine tb_topI (y := szV (fs f)) (by rw [nI_clamp (show f < 2 ^ 31 by omega)]; exact hF1.sz (by assumption)) ?_
    refine tb_icmp_ge 66 d_Mo_sums_19 (by decide) rfl (fun h19 => ?_) (fun h19 => ?_)
    · have hje := (sz_le hle (show j < 2 ^ 31 by omega)).mp h19
      have hje2 : j = (sumL (cl (fs f)) (cl (fs g))).length := by omega
      refine tb_vreturn d_Mo_sums_66 rfl ?_
      refine hQ _ ?_
      rw [hje2, List.take_length] at hW
      exact hW
    · have hlt1 : j < (cl (fs f)).length := Nat.lt_of_not_le (fun z => h19 ((sz_le hle (by omega)).mpr z))
      refine tb_iload_3 d_Mo_sums_22 rfl ?_
      refine tb_aload_0 d_Mo_sums_23 rfl ?_
      refine g_Mo_7 d_Mo_sums_24 rfl rfl (by first | exact hS1.k rfl) ?_
      refine tb_topR (y := 191) (hS1.mr 1 (by decide)) ?_
      refine tb_iload_2 d_Mo_sums_27 rfl ?_
      refine tb_iaload d_Mo_sums_28 rfl (by first | exact hS1.k rfl) (by first | exact mo_in hS1 (c := 12) rfl (by omega) (by decide) | exact mo_in hS1 (c := 10) rfl (by omega) (by decide) | exact mo_in hS1 (c := 25) rfl (by omega) (by decide) | exact mo_in hS1 (c := 6) rfl (by omega) (by decide) | exact mo_in hS1 (c := 72) rfl (by omega) (by decide) | exact mo_in hS1 (c := 120) rfl (by omega) (by decide) | exact mo_in hS1 (c := 300) rfl (by omega) (by decide) | exact mo_in hS1 (c := 150) rfl (by omega) (by decide) | exact mo_in hS1 (c := 1800) rfl (by omega) (by decide)) ?_
      refine tb_topI (y := szV (fs g)) (by rw [nI_clamp (show g < 2 ^ 31 by omega)]; exact hF1.sz (by assumption)) ?_
      refine tb_icmp_ge 66 d_Mo_sums_29 (by decide) rfl (fun h29 => ?_) (fun h29 => ?_)
      · have hje := (sz_le hle2 (show j < 2 ^ 31 by omega)).mp h29
        have hje2 : j = (sumL (cl (fs f)) (cl (fs g))).length := by omega
        refine tb_vreturn d_Mo_sums_66 rfl ?_
        refine hQ _ ?_
        rw [hje2, List.take_length] at hW
        exact hW
      · have hlt2 : j < (cl (fs g)).length := Nat.lt_of_not_le (fun z => h29 ((sz_le hle2 (by omega)).mpr z))
        have hlt : j < (sumL (cl (fs f)) (cl (fs g))).length := by omega
        have e3 : (sumL (cl (fs f)) (cl (fs g)))[j] = ((cl (fs f))[j] + (cl (fs g))[j]).toInt16.toInt32 := by unfold sumL; exact List.getElem_zipWith
        refine tb_aload_0 d_Mo_sums_32 rfl ?_
        refine tb_aload_0 d_Mo_sums_33 rfl ?_
        refine g_Mo_13 d_Mo_sums_34 rfl rfl (by first | exact hS1.k rfl) ?_
        refine tb_topR (y := 192) (hS1.mr 2 (by decide)) ?_
        refine tb_bipush (6) (by decide) d_Mo_sums_37 rfl ?_
        refine tb_iload_1 d_Mo_sums_39 rfl ?_
        refine tb_imul d_Mo_sums_40 rfl ?_
        refine tb_topI (show (6 : Int32) * nI f = nI (6 * f) from nI_mul 6 f) ?_
        refine tb_iload_3 d_Mo_sums_41 rfl ?_
        refine tb_iadd d_Mo_sums_42 rfl ?_
        rw [nI_add]
        refine tb_iaload d_Mo_sums_43 rfl (by first | exact hS1.k rfl) (by first | exact mo_in hS1 (c := 12) rfl (by omega) (by decide) | exact mo_in hS1 (c := 10) rfl (by omega) (by decide) | exact mo_in hS1 (c := 25) rfl (by omega) (by decide) | exact mo_in hS1 (c := 6) rfl (by omega) (by decide) | exact mo_in hS1 (c := 72) rfl (by omega) (by decide) | exact mo_in hS1 (c := 120) rfl (by omega) (by decide) | exact mo_in hS1 (c := 300) rfl (by omega) (by decide) | exact mo_in hS1 (c := 150) rfl (by omega) (by decide) | exact mo_in hS1 (c := 1800) rfl (by omega) (by decide)) ?_
        refine tb_topI (y := (cl (fs f))[j]) (by rw [nI_clamp (show 6 * f + j < 2 ^ 31 by omega)]; exact hF1.at (by assumption) (by omega)) ?_
        refine tb_aload_0 d_Mo_sums_44 rfl ?_
        refine g_Mo_13 d_Mo_sums_45 rfl rfl (by first | exact hS1.k rfl) ?_
        refine tb_topR (y := 192) (hS1.mr 2 (by decide)) ?_
        refine tb_bipush (6) (by decide) d_Mo_sums_48 rfl ?_
        refine tb_iload_2 d_Mo_sums_50 rfl ?_
        refine tb_imul d_Mo_sums_51 rfl ?_
        refine tb_topI (show (6 : Int32) * nI g = nI (6 * g) from nI_mul 6 g) ?_
        refine tb_iload_3 d_Mo_sums_52 rfl ?_
        refine tb_iadd d_Mo_sums_53 rfl ?_
        rw [nI_add]
        refine tb_iaload d_Mo_sums_54 rfl (by first | exact hS1.k rfl) (by first | exact mo_in hS1 (c := 12) rfl (by omega) (by decide) | exact mo_in hS1 (c := 10) rfl (by omega) (by decide) | exact mo_in hS1 (c := 25) rfl (by omega) (by decide) | exact mo_in hS1 (c := 6) rfl (by omega) (by decide) | exact mo_in hS1 (c := 72) rfl (by omega) (by decide) | exact mo_in hS1 (c := 120) rfl (by omega) (by decide) | exact mo_in hS1 (c := 300) rfl (by omega) (by decide) | exact mo_in hS1 (c := 150) rfl (by omega) (by decide) | exact mo_in hS1 (c := 1800) rfl (by omega) (by decide)) ?_
        refine tb_topI (y := (cl (fs g))[j]) (by rw [nI_clamp (show 6 * g + j < 2 ^ 31 by omega)]; exact hF1.at (by assumption) (by omega)) ?_
        refine tb_iadd d_Mo_sums_55 rfl ?_
        refine tb_i2s d_Mo_sums_56 rfl ?_
        refine tb_callVq c_Mo_141 d_Mo_sums_57 rfl rfl rfl (Nat.le_of_ble_eq_true rfl) (by first | exact hS1.k rfl) (ok_Mo_add hG hS hW _ d) (fun v2 M2 hP => ?_)
        obtain ⟨rfl, hP⟩ := hP
        refine tb_iinc_3 (1) d_Mo_sums_60 rfl (by decide) (by decide) ?_
        refine tb_goto 12 d_Mo_sums_63 (by decide) ?_
        rw [nI_1]
        refine ih ((sumL (cl (fs f)) (cl (fs g))).length - (j + 1)) (by omega) (j + 1) rfl (by omega) _ ?_
        rw [take_1 _ hlt, aL_1, e3]
        exact hP
theorem ok_Mo_sums (hG : tb_G E) (hS : Sh M) (hF : MFs M fs) (hW : MWk M M1 rd ak tg l) {f g : Nat} (hf : f < 12) (hg : g < 12) (d : Nat) : tb_Rel E m_Mo_sums (d + 1) [.inr (.inl 190), .inl (nI f), .inl (nI g)] M1 (fun v M2 => v = none ∧ MWk M M2 ((rd ||| (1 <<< (nI f &&& 31))) ||| (1 <<< (nI g &&& 31))) ak tg (aL l (sumL (cl (fs f)) (cl (fs g))))) := by
  have hS1 := hW.1.sh hS
  refine tb_okOf hG (by decide) rfl (Nat.le_of_ble_eq_true rfl) rfl ?_
  refine tb_aload_0 d_Mo_sums_0 rfl ?_
  refine tb_iload_1 d_Mo_sums_1 rfl ?_
  refine tb_callVq c_Mo_138 d_Mo_sums_2 rfl rfl rfl (Nat.le_of_ble_eq_true rfl) (by first | exact hS1.k rfl) (ok_Mo_readFile hG hS hW (nI f) d) (fun v_hR M_hR hR => ?_)
  obtain ⟨rfl, hR⟩ := hR
  have hS2 := hR.1.sh hS
  refine tb_aload_0 d_Mo_sums_5 rfl ?_
  refine tb_iload_2 d_Mo_sums_6 rfl ?_
  refine tb_callVq c_Mo_138 d_Mo_sums_7 rfl rfl rfl (Nat.le_of_ble_eq_true rfl) (by exact hS2.k rfl) (ok_Mo_readFile hG hS hR (nI g) d) (fun v_hR2 M_hR2 hR2 => ?_)
  obtain ⟨rfl, hR2⟩ := hR2
  refine tb_iconst (0) (by decide) d_Mo_sums_10 rfl ?_
  refine tb_istore_3 d_Mo_sums_11 rfl (by decide) ?_
  exact lp_Mo_sums hG hS hF hf hg (fun M2 h => ⟨none, rfl, rfl, h⟩) _ 0 rfl (Nat.zero_le _) _ hR2
theorem lp_Mo_there (hG : tb_G E) (hS : Sh M) (hF : MFs M fs) {y : Int32} {d rc rs : Nat} {Q : tb_O → tb_M → Prop} (hQ : ∀ M2, MWk M M2 rd ak y (aL l (thL fs 12)) → Q (.inl none) M2) : ∀ (m j : Nat), 12 - j = m → j ≤ 12 → ∀ M1, MWk M M1 rd ak tg (aL l (thL fs j)) → tb_Wp E m_Mo_there (d + 1) rc rs 9 [some (.inr 190), some (.inl y), some (.inl (nI j))] [] M1 Q := by
  intro m
  induction m using Nat.strongRecOn with
  | ind m ih =>
    intro j hm hj M1 hW
    have hS1 := hW.1.sh hS
    have hF1 := hW.fF hF
    refine tb_iload_2 d_Mo_there_9 rfl ?_
    refine tb_bipush (12) (by decide) d_Mo_there_10 rfl ?_
    refine tb_icmp_ge 35 d_Mo_there_12 (by decide) rfl (fun h12 => ?_) (fun h12 => ?_)
    · have hje : 12 ≤ j := (nI_leI (a := 12) (b := j) (by omega) (by omega)).mp h12
      have hje2 : j = 12 := by omega
      rw [hje2] at hW
      refine tb_aload_0 d_Mo_there_35 rfl ?_
      refine tb_iload_1 d_Mo_there_36 rfl ?_
      refine p_Mo_147 d_Mo_there_37 rfl rfl (by first | exact hS1.k rfl) ?_
      refine tb_vreturn d_Mo_there_40 rfl ?_
      exact hQ _ hW.sTg
    · have hlt : j < 12 := Nat.lt_of_not_le (fun q => h12 ((nI_leI (a := 12) (b := j) (by omega) (by omega)).mpr q))
      refine tb_aload_0 d_Mo_there_15 rfl ?_
      refine g_Mo_7 d_Mo_there_16 rfl rfl (by first | exact hS1.k rfl) ?_
      refine tb_topR (y := 191) (hS1.mr 1 (by decide)) ?_
      refine tb_iload_2 d_Mo_there_19 rfl ?_
      refine tb_iaload d_Mo_there_20 rfl (by first | exact hS1.k rfl) (by first | exact mo_in hS1 (c := 12) rfl (by omega) (by decide) | exact mo_in hS1 (c := 10) rfl (by omega) (by decide) | exact mo_in hS1 (c := 25) rfl (by omega) (by decide) | exact mo_in hS1 (c := 6) rfl (by omega) (by decide) | exact mo_in hS1 (c := 72) rfl (by omega) (by decide) | exact mo_in hS1 (c := 120) rfl (by omega) (by decide) | exact mo_in hS1 (c := 300) rfl (by omega) (by decide) | exact mo_in hS1 (c := 150) rfl (by omega) (by decide) | exact mo_in hS1 (c := 1800) rfl (by omega) (by decide)) ?_
      refine tb_topI (y := szV (fs j)) (by rw [nI_clamp (show j < 2 ^ 31 by omega)]; exact hF1.sz (by assumption)) ?_
      refine tb_if_lt 29 d_Mo_there_21 (by decide) rfl (fun h21 => ?_) (fun h21 => ?_)
      · have e : (fs j).isSome = false := by rw [(sz_neg (hF.le hlt)).mp h21]; rfl
        refine tb_iinc_2 (1) d_Mo_there_29 rfl (by decide) (by decide) ?_
        refine tb_goto 9 d_Mo_there_32 (by decide) ?_
        rw [nI_1]
        refine ih (12 - (j + 1)) (by omega) (j + 1) rfl (by omega) _ ?_
        first
          | (rw [thL_f fs e]; exact hW)
          | (rw [thL_t fs e, aL_1]; exact hP)
      · have e : (fs j).isSome = true := by
          cases hv : fs j with
          | none => exact absurd ((sz_neg (hF.le hlt)).mpr hv) h21
          | some q => rfl
        refine tb_aload_0 d_Mo_there_24 rfl ?_
        refine tb_iload_2 d_Mo_there_25 rfl ?_
        refine tb_callVq c_Mo_141 d_Mo_there_26 rfl rfl rfl (Nat.le_of_ble_eq_true rfl) (by first | exact hS1.k rfl) (ok_Mo_add hG hS hW _ d) (fun v2 M2 hP => ?_)
        obtain ⟨rfl, hP⟩ := hP
        refine tb_iinc_2 (1) d_Mo_there_29 rfl (by decide) (by decide) ?_
        refine tb_goto 9 d_Mo_there_32 (by decide) ?_
        rw [nI_1]
        refine ih (12 - (j + 1)) (by omega) (j + 1) rfl (by omega) _ ?_
        first
          | (rw [thL_f fs e]; exact hW)
          | (rw [thL_t fs e, aL_1]; exact hP)
theorem ok_Mo_there (hG : tb_G E) (hS : Sh M) (hF : MFs M fs) (hW : MWk M M1 rd ak tg l) (y : Int32) (d : Nat) : tb_Rel E m_Mo_there (d + 1) [.inr (.inl 190), .inl y] M1 (fun v M2 => v = none ∧ MWk M M2 rd 4095 y (aL l (thL fs 12))) := by
  have hS1 := hW.1.sh hS
  refine tb_okOf hG (by decide) rfl (Nat.le_of_ble_eq_true rfl) rfl ?_
  refine tb_aload_0 d_Mo_there_0 rfl ?_
  refine tb_sipush (4095) (by decide) d_Mo_there_1 rfl ?_
  refine p_Mo_144 d_Mo_there_4 rfl rfl (by first | exact hS1.k rfl) ?_
  refine tb_iconst (0) (by decide) d_Mo_there_7 rfl ?_
  refine tb_istore_2 d_Mo_there_8 rfl (by decide) ?_
  exact lp_Mo_there hG hS hF (fun M2 h => ⟨none, rfl, rfl, h⟩) _ 0 rfl (Nat.zero_le _) _ hW.sAk
theorem ok_Mo_ask (hG : tb_G E) (hS : Sh M) (hF : MFs M fs) (hW0 : MWk M M1 rd ak tg l) {f : Nat} (hf : f < 12) (d : Nat) : tb_Rel E m_Mo_ask (d + 1) [.inr (.inl 190), .inl (nI f)] M1 (fun v M2 => v = none ∧ MWk M M2 rd (1 <<< (nI f &&& 31)) tg (aL l [thr (fs f)])) := by
  have hS0 := hW0.1.sh hS
  have hW := hW0.sAk (x := 1 <<< (nI f &&& 31))
  have hS1 := hW.1.sh hS
  have hF1 := hW.fF hF
  refine tb_okOf hG (by decide) rfl (Nat.le_of_ble_eq_true rfl) rfl ?_
  refine tb_aload_0 d_Mo_ask_0 rfl ?_
  refine tb_iconst (1) (by decide) d_Mo_ask_1 rfl ?_
  refine tb_iload_1 d_Mo_ask_2 rfl ?_
  refine tb_ishl d_Mo_ask_3 rfl ?_
  refine p_Mo_144 d_Mo_ask_4 rfl rfl (by exact hS0.k rfl) ?_
  refine tb_aload_0 d_Mo_ask_7 rfl ?_
  refine tb_aload_0 d_Mo_ask_8 rfl ?_
  refine g_Mo_7 d_Mo_ask_9 rfl rfl (by first | exact hS1.k rfl) ?_
  refine tb_topR (y := 191) (hS1.mr 1 (by decide)) ?_
  refine tb_iload_1 d_Mo_ask_12 rfl ?_
  refine tb_iaload d_Mo_ask_13 rfl (by first | exact hS1.k rfl) (by first | exact mo_in hS1 (c := 12) rfl (by omega) (by decide) | exact mo_in hS1 (c := 10) rfl (by omega) (by decide) | exact mo_in hS1 (c := 25) rfl (by omega) (by decide) | exact mo_in hS1 (c := 6) rfl (by omega) (by decide) | exact mo_in hS1 (c := 72) rfl (by omega) (by decide) | exact mo_in hS1 (c := 120) rfl (by omega) (by decide) | exact mo_in hS1 (c := 300) rfl (by omega) (by decide) | exact mo_in hS1 (c := 150) rfl (by omega) (by decide) | exact mo_in hS1 (c := 1800) rfl (by omega) (by decide)) ?_
  refine tb_topI (y := szV (fs f)) (by rw [nI_clamp (show f < 2 ^ 31 by omega)]; exact hF1.sz (by assumption)) ?_
  refine tb_if_lt 21 d_Mo_ask_14 (by decide) rfl (fun h14 => ?_) (fun h14 => ?_)
  · have e : thr (fs f) = 0 := by rw [(sz_neg (hF.le hf)).mp h14]; rfl
    refine tb_iconst (0) (by decide) d_Mo_ask_21 rfl ?_
    refine tb_topI (y := thr (fs f)) e.symm ?_
    refine tb_callVq c_Mo_141 d_Mo_ask_22 rfl rfl rfl (Nat.le_of_ble_eq_true rfl) (by first | exact hS1.k rfl) (ok_Mo_add hG hS hW _ d) (fun v2 M2 hP => ?_)
    obtain ⟨rfl, hP⟩ := hP
    refine tb_vreturn d_Mo_ask_25 rfl ?_
    exact ⟨none, rfl, rfl, hP⟩
  · have e : thr (fs f) = 1 := by
      cases hv : fs f with
      | none => exact absurd ((sz_neg (hF.le hf)).mpr hv) h14
      | some q => rfl
    refine tb_iconst (1) (by decide) d_Mo_ask_17 rfl ?_
    refine tb_topI (y := thr (fs f)) e.symm ?_
    refine tb_goto 22 d_Mo_ask_18 (by decide) ?_
    refine tb_callVq c_Mo_141 d_Mo_ask_22 rfl rfl rfl (Nat.le_of_ble_eq_true rfl) (by first | exact hS1.k rfl) (ok_Mo_add hG hS hW _ d) (fun v2 M2 hP => ?_)
    obtain ⟨rfl, hP⟩ := hP
    refine tb_vreturn d_Mo_ask_25 rfl ?_
    exact ⟨none, rfl, rfl, hP⟩
end Mo5
