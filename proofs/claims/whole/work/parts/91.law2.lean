/-! The law's helpers: what is thrown becomes a number. -/
section LawHelp
variable {E : tb_E} {k : tb_MD} {d rc rs pc pc' : Nat} {L : List tb_L} {S : List tb_V} {M : tb_M} {Q : tb_O → tb_M → Prop}
theorem tb_callVD {index ci n d' mc' ms' o : Nat} {k' : tb_MD} {A St : List tb_V} {Q' : tb_O → tb_M → Prop} (hs : tb_SV k.1.cls index ci k' n) (hd : decode k.2.1 pc = .ok (.invokevirtual index, 3)) (hp : pc + 3 = pc') (hSt : A.reverse ++ .inr (.inl o) :: S = St) (hn : A.length = n) (hS4 : S.length ≤ 4) (hKo : tb_K M o = ci + 1) (hdd : d' + 1 ≤ d) (hrc : mc' ≤ rc) (hrs : ms' ≤ rs) (hok : tb_Ok E k' d' mc' ms' (.inr (.inl o) :: A) M Q') (kr : ∀ v M', Q' (.inl v) M' → tb_Wp E k d (rc - mc') (rs - ms') pc' L (v.toList ++ S) M' Q) (kx : ∀ x M', Q' (.inr x) M' → ∃ (hp : Nat) (i : Nat), tb_Hd k pc x hp ∧ decode k.2.1 hp = .ok (.astore i, 2) ∧ i < k.2.2.1 ∧ tb_Wp E k d (rc - mc') (rs - ms') (hp + 2) (L.set i none) [] M' Q) : tb_Wp E k d rc rs pc L St M Q := by
  subst hp; subst hSt
  intro p e R s m args below meth c H locs cells slots mc ms ls C hl hH hS h1 h2 hR
  obtain ⟨⟨b1, b2, b3, b4, b5, b6⟩, hh, w1, w2, w3, hci, hcl⟩ := hs
  have hts := tb_cw C args
  obtain ⟨r, rfl, hr, he⟩ := tb_cell hH (by rw [hKo]; omega)
  rw [tb_obj hKo hci] at he
  obtain ⟨q, hq, hqc⟩ := Option.map_eq_some_iff.mp hcl
  obtain ⟨cell, c1, c2, c3⟩ := va_recv (tb_cK C) hH.1 hq he
  rw [hqc] at c3
  have hcode := hts _ b1
  rw [tb_hcode0 hh] at hcode
  have hI := tb_InvV (l := E.1) (e := e) (R := R) (below := below) (meth := meth) (locs := locs) (cells := cells) (slots := slots) (g := F0 m pc ls ((A.reverse ++ .inr (.inl (r + 1)) :: S).map (tv E))) (argsL := A.map (tv E)) (rest := S.map (tv E)) C.1 (tb_cO C) (hts _ w1) (hts _ w2) (hts _ w3) hcode b3 c1 c2 c3 rfl (fun sig h => by rw [List.length_map, hn]; exact tb_parn b4 sig h) (tb_map_rev E A _) (by rw [C.2.1]; exact hd)
  refine tb_callW (k' := k') (A := .inr (.inl (r + 1)) :: A) (rest := S.map (tv E)) hI hok (tb_cW C) (hts _ b1) b6 (hts _ b2) hH hS (hl.1.trans C.2.2.1.symm) (tb_cats hS4) (by rw [C.2.1]; exact hd) hR hdd b5 (by omega) (by omega) ?_ ?_
  · intro v M' hQ H' locs' hH' hS'
    have hk := kr v M' hQ p e R s m args below meth c H' locs' (cells + mc') (slots + ms') mc ms ls C hl hH' hS' (by omega) (by omega) hR
    cases v <;> exact hk
  · intro x M' hQ H' locs' a cell hH' hS' c1 c2 c3
    obtain ⟨hp, i, hHd, hdi, hi, hk⟩ := kx x M' hQ
    have hw : W p E.1 e R s m args below meth c H' locs' (cells + mc') (slots + ms') (tb_MQ below (tb_Qc E Q) s mc ms (tb_A E)) (F0 m hp ls [.ref a]) :=
      lv_astore C.1 C.2.1 hdi hl hi rfl (fun ls' hl' => hk p e R s m args below meth c H' locs' (cells + mc') (slots + ms') mc ms ls' C (tb_stored0 hl') hH' hS' (by omega) (by omega) hR)
    obtain ⟨ct, h0, w9, hcm, ⟨st, en, rest, hk9, hc1, hc2⟩ | ⟨st1, en1, hp1, ct1, C1, st, en, rest, hk9, hcv1, h01, w91, hnc, hc1, hc2⟩⟩ := hHd
    · exact tb_wt1 C hk9 ⟨hc1, hc2⟩ h0 w9 hcm c1 c2 c3 hw
    · exact tb_wt2 C hk9 hcv1 h01 w91 hnc ⟨hc1, hc2⟩ h0 w9 hcm c1 c2 c3 hw
end LawHelp
section LawHelp2
variable {E : tb_E} {M : tb_M} {g : Sg}
theorem Ans_l {th : Nat} {a : Option Int32} {v : Option tb_V} (h : (.inl v : tb_O) = Ans th a) : th = 0 ∧ v = a.map Sum.inl := by
  unfold Ans at h
  by_cases c : th = 0
  · rw [if_pos c] at h
    cases h
    exact ⟨c, rfl⟩
  · rw [if_neg c] at h
    cases h
theorem Ans_r {th x : Nat} {a : Option Int32} (h : (.inr x : tb_O) = Ans th a) : th = x ∧ ¬ th = 0 := by
  unfold Ans at h
  by_cases c : th = 0
  · rw [if_pos c] at h
    cases h
  · rw [if_neg c] at h
    cases h
    exact ⟨rfl, c⟩
theorem sJ_at (m : tb_M) (o k : Nat) (x : Int64) : tb_J (tb_sJ m o k x) o k = x := by simp [tb_sJ, tb_J, va_up]
/-- what a helper leaves -/
def HpP (M : tb_M) (g : Sg) (c : Nat) (a : Option Int32) : tb_O → tb_M → Prop := fun o m => o = .inl (some (.inl (nI c))) ∧ CIs m g ∧ (∀ q, 190 ≤ q → tb_I m q = tb_I M q) ∧ (c = 0 → ∀ z, a = some z → tb_J m 217 0 = z.toInt64)
theorem tCmd_v (g : Sg) : tCmd g = 0 ∨ tCmd g = 1 ∨ tCmd g = 2 := by
  unfold tCmd cif
  split
  · split
    · exact Or.inr (Or.inr rfl)
    · exact Or.inl rfl
  · exact Or.inr (Or.inl rfl)
theorem tRun_v (g : Sg) (x : Int32) : tRun g x = 0 ∨ tRun g x = 1 ∨ tRun g x = 2 := by
  unfold tRun cif
  split
  · split
    · exact Or.inr (Or.inr rfl)
    · exact Or.inl rfl
  · exact Or.inr (Or.inl rfl)
theorem tEdi_v (g : Sg) (x : Int32) : (tEdi g x = 0 ∧ cEdi g x = 0) ∨ (tEdi g x = 3 ∧ cEdi g x = 1) ∨ (tEdi g x = 1 ∧ cEdi g x = 2) := by
  unfold tEdi cEdi cif
  split
  · split
    · exact Or.inl ⟨rfl, rfl⟩
    · exact Or.inr (Or.inr ⟨rfl, rfl⟩)
  · exact Or.inr (Or.inl ⟨rfl, rfl⟩)
theorem tDro_v (g : Sg) (x : Int32) : (tDro g x = 0 ∧ cDro g x = 0) ∨ (tDro g x = 3 ∧ cDro g x = 1) := by
  unfold tDro cDro cif
  split
  · exact Or.inl ⟨rfl, rfl⟩
  · exact Or.inr ⟨rfl, rfl⟩
theorem tTra_v (g : Sg) (x : Int32) : (tTra g x = 0 ∧ (if tTra g x = 0 then 0 else 1) = 0) ∨ (tTra g x = 3 ∧ (if tTra g x = 0 then 0 else 1) = 1) := by
  by_cases c : tTra g x = 0
  · exact Or.inl ⟨c, if_pos c⟩
  · refine Or.inr ⟨?_, if_neg c⟩
    unfold tTra cif at c ⊢
    split
    · rename_i h; rw [if_pos h] at c; exact absurd rfl c
    · rfl
theorem tNum_v (g : Sg) (x y : Int32) : (tNum g x y = 0 ∧ (if tNum g x y = 0 then 0 else 1) = 0) ∨ (tNum g x y = 3 ∧ (if tNum g x y = 0 then 0 else 1) = 1) := by
  by_cases c : tNum g x y = 0
  · exact Or.inl ⟨c, if_pos c⟩
  · refine Or.inr ⟨?_, if_neg c⟩
    unfold tNum cif at c ⊢
    split
    · rename_i h; rw [if_pos h] at c; exact absurd rfl c
    · rfl
theorem ok_La_command (hG : tb_G E) (h : CIs M g) (d : Nat) : tb_Ok E m_La_command (d + 8) 2 12 [.inr (.inl 1), .inr (.inl 217)] M (HpP M (oCmd g) (tCmd g) (some (nI g.2.1.1))) := by
  have hS := h.1
  refine tb_okOf hG (by decide) rfl (Nat.le_of_ble_eq_true rfl) rfl ?_
  refine tb_aload_1 d_La_command_0 rfl ?_
  refine tb_iconst (0) (by decide) d_La_command_1 rfl ?_
  refine tb_aload_0 d_La_command_2 rfl ?_
  refine tb_callVC c_La_7 d_La_command_3 rfl rfl rfl (Nat.le_of_ble_eq_true rfl) (by exact hS.k rfl) (by omega) (by omega) (by omega) (ok_TB_command hG h d) (fun v m hP => ?_) (fun xx m hP => ?_)
  · obtain ⟨hv, hC, hcf⟩ := hP
    obtain ⟨hth, rfl⟩ := Ans_l hv
    have hSm := hC.1
    have hcode := hth
    refine tb_i2l d_La_command_6 rfl ?_
    refine tb_lastore d_La_command_7 rfl (by exact hSm.k rfl) (by rw [hSm.l rfl]; show vp_in (nI 0) 1; exact vp_in_nI (by omega) (by omega)) ?_
    refine tb_goto 17 d_La_command_8 (by decide) ?_
    refine tb_iconst (0) (by decide) d_La_command_17 rfl ?_
    refine tb_ireturn d_La_command_18 rfl (by first | rfl | assumption) ?_
    refine ⟨?_, hC, fun q hq => hcf.2.2 q hq, fun _ z hz => ?_⟩
    · rw [hcode]
      rfl
    · cases hz
      exact sJ_at m 217 0 _
  · obtain ⟨hv, hC, hcf⟩ := hP
    obtain ⟨hth, hne⟩ := Ans_r hv
    rcases (show (tCmd g = 0 ∧ tCmd g = 0) ∨ (tCmd g = 1 ∧ tCmd g = 1) ∨ (tCmd g = 2 ∧ tCmd g = 2) by have := tCmd_v g; omega) with ⟨e0, ec⟩ | ⟨e0, ec⟩ | ⟨e0, ec⟩
    · exact absurd e0 hne
    · have hx : xx = 1 := by omega
      subst hx
      refine ⟨11, 2, ⟨13, by decide, (tb_ix 392 (by decide +kernel) rfl), (List.mem_of_getElem? (i := 436) (by decide +kernel)), Or.inl ⟨0, 8, _, rfl, by decide, by decide⟩⟩, d_La_command_11, by decide, ?_⟩
      refine tb_iconst (1) (by decide) d_La_command_12 rfl ?_
      refine tb_ireturn d_La_command_13 rfl (by first | rfl | assumption) ?_
      refine ⟨?_, hC, fun q hq => hcf.2.2 q hq, fun z => ?_⟩
      · rw [ec]
        rfl
      · rw [ec] at z
        exact absurd z (by decide)
    · have hx : xx = 2 := by omega
      subst hx
      refine ⟨14, 2, ⟨15, by decide, (tb_ix 393 (by decide +kernel) rfl), (List.mem_of_getElem? (i := 503) (by decide +kernel)), Or.inr ⟨0, 8, 11, 13, "java/lang/IllegalArgumentException", 0, 8, _, rfl, ⟨by decide, by decide⟩, by decide, (tb_ix 392 (by decide +kernel) rfl), by decide, by decide, by decide⟩⟩, d_La_command_14, by decide, ?_⟩
      refine tb_iconst (2) (by decide) d_La_command_15 rfl ?_
      refine tb_ireturn d_La_command_16 rfl (by first | rfl | assumption) ?_
      refine ⟨?_, hC, fun q hq => hcf.2.2 q hq, fun z => ?_⟩
      · rw [ec]
        rfl
      · rw [ec] at z
        exact absurd z (by decide)
theorem ok_La_edit (hG : tb_G E) (h : CIs M g) {x : Int32} (d : Nat) : tb_Ok E m_La_edit (d + 8) 2 12 [.inr (.inl 1), .inl x] M (HpP M (oEdi g x) (cEdi g x) (none)) := by
  have hS := h.1
  refine tb_okOf hG (by decide) rfl (Nat.le_of_ble_eq_true rfl) rfl ?_
  refine tb_aload_0 d_La_edit_0 rfl ?_
  refine tb_iload_1 d_La_edit_1 rfl ?_
  refine tb_callVC c_La_17 d_La_edit_2 rfl rfl rfl (Nat.le_of_ble_eq_true rfl) (by exact hS.k rfl) (by omega) (by omega) (by omega) (ok_TB_edit hG h (x := x) d) (fun v m hP => ?_) (fun xx m hP => ?_)
  · obtain ⟨hv, hC, hcf⟩ := hP
    obtain ⟨hth, rfl⟩ := Ans_l hv
    have hSm := hC.1
    have hcode : cEdi g x = 0 := by have := tEdi_v g x; omega
    refine tb_goto 14 d_La_edit_5 (by decide) ?_
    refine tb_iconst (0) (by decide) d_La_edit_14 rfl ?_
    refine tb_ireturn d_La_edit_15 rfl (by first | rfl | assumption) ?_
    refine ⟨?_, hC, fun q hq => hcf.2.2 q hq, fun _ z hz => by cases hz⟩
    rw [hcode]
    rfl
  · obtain ⟨hv, hC, hcf⟩ := hP
    obtain ⟨hth, hne⟩ := Ans_r hv
    rcases tEdi_v g x with ⟨e0, ec⟩ | ⟨e0, ec⟩ | ⟨e0, ec⟩
    · exact absurd e0 hne
    · have hx : xx = 3 := by omega
      subst hx
      refine ⟨8, 2, ⟨21, by decide, (tb_ix 531 (by decide +kernel) rfl), (List.mem_of_getElem? (i := 542) (by decide +kernel)), Or.inl ⟨0, 5, _, rfl, by decide, by decide⟩⟩, d_La_edit_8, by decide, ?_⟩
      refine tb_iconst (1) (by decide) d_La_edit_9 rfl ?_
      refine tb_ireturn d_La_edit_10 rfl (by first | rfl | assumption) ?_
      refine ⟨?_, hC, fun q hq => hcf.2.2 q hq, fun z => ?_⟩
      · rw [ec]
        rfl
      · rw [ec] at z
        exact absurd z (by decide)
    · have hx : xx = 1 := by omega
      subst hx
      refine ⟨11, 2, ⟨13, by decide, (tb_ix 392 (by decide +kernel) rfl), (List.mem_of_getElem? (i := 436) (by decide +kernel)), Or.inr ⟨0, 5, 8, 21, "java/lang/IndexOutOfBoundsException", 0, 5, _, rfl, ⟨by decide, by decide⟩, by decide, (tb_ix 531 (by decide +kernel) rfl), by decide, by decide, by decide⟩⟩, d_La_edit_11, by decide, ?_⟩
      refine tb_iconst (2) (by decide) d_La_edit_12 rfl ?_
      refine tb_ireturn d_La_edit_13 rfl (by first | rfl | assumption) ?_
      refine ⟨?_, hC, fun q hq => hcf.2.2 q hq, fun z => ?_⟩
      · rw [ec]
        rfl
      · rw [ec] at z
        exact absurd z (by decide)
theorem ok_La_drop (hG : tb_G E) (h : CIs M g) {x : Int32} (d : Nat) : tb_Ok E m_La_drop (d + 8) 1 6 [.inr (.inl 1), .inl x] M (HpP M (oDro g x) (cDro g x) (none)) := by
  have hS := h.1
  refine tb_okOf hG (by decide) rfl (Nat.le_of_ble_eq_true rfl) rfl ?_
  refine tb_aload_0 d_La_drop_0 rfl ?_
  refine tb_iload_1 d_La_drop_1 rfl ?_
  refine tb_callVC c_La_23 d_La_drop_2 rfl rfl rfl (Nat.le_of_ble_eq_true rfl) (by exact hS.k rfl) (by omega) (by omega) (by omega) (ok_TB_drop hG h (x := x) d) (fun v m hP => ?_) (fun xx m hP => ?_)
  · obtain ⟨hv, hC, hcf⟩ := hP
    obtain ⟨hth, rfl⟩ := Ans_l hv
    have hSm := hC.1
    have hcode : cDro g x = 0 := by have := tDro_v g x; omega
    refine tb_goto 11 d_La_drop_5 (by decide) ?_
    refine tb_iconst (0) (by decide) d_La_drop_11 rfl ?_
    refine tb_ireturn d_La_drop_12 rfl (by first | rfl | assumption) ?_
    refine ⟨?_, hC, fun q hq => hcf.2.2 q hq, fun _ z hz => by cases hz⟩
    rw [hcode]
    rfl
  · obtain ⟨hv, hC, hcf⟩ := hP
    obtain ⟨hth, hne⟩ := Ans_r hv
    rcases tDro_v g x with ⟨e0, ec⟩ | ⟨e0, ec⟩
    · exact absurd e0 hne
    · have hx : xx = 3 := by omega
      subst hx
      refine ⟨8, 2, ⟨21, by decide, (tb_ix 531 (by decide +kernel) rfl), (List.mem_of_getElem? (i := 542) (by decide +kernel)), Or.inl ⟨0, 5, _, rfl, by decide, by decide⟩⟩, d_La_drop_8, by decide, ?_⟩
      refine tb_iconst (1) (by decide) d_La_drop_9 rfl ?_
      refine tb_ireturn d_La_drop_10 rfl (by first | rfl | assumption) ?_
      refine ⟨?_, hC, fun q hq => hcf.2.2 q hq, fun z => ?_⟩
      · rw [ec]
        rfl
      · rw [ec] at z
        exact absurd z (by decide)
theorem ok_La_run (hG : tb_G E) (h : CIs M g) {x : Int32} (d : Nat) : tb_Ok E m_La_run (d + 8) 1 6 [.inr (.inl 1), .inl x, .inr (.inl 217)] M (HpP M (oRun g x) (tRun g x) (some (aRun g x))) := by
  have hS := h.1
  refine tb_okOf hG (by decide) rfl (Nat.le_of_ble_eq_true rfl) rfl ?_
  refine tb_aload_2 d_La_run_0 rfl ?_
  refine tb_iconst (0) (by decide) d_La_run_1 rfl ?_
  refine tb_aload_0 d_La_run_2 rfl ?_
  refine tb_iload_1 d_La_run_3 rfl ?_
  refine tb_callVC c_La_26 d_La_run_4 rfl rfl rfl (Nat.le_of_ble_eq_true rfl) (by exact hS.k rfl) (by omega) (by omega) (by omega) (ok_TB_run hG h (x := x) d) (fun v m hP => ?_) (fun xx m hP => ?_)
  · obtain ⟨hv, hC, hcf⟩ := hP
    obtain ⟨hth, rfl⟩ := Ans_l hv
    have hSm := hC.1
    have hcode := hth
    refine tb_i2l d_La_run_7 rfl ?_
    refine tb_lastore d_La_run_8 rfl (by exact hSm.k rfl) (by rw [hSm.l rfl]; show vp_in (nI 0) 1; exact vp_in_nI (by omega) (by omega)) ?_
    refine tb_goto 18 d_La_run_9 (by decide) ?_
    refine tb_iconst (0) (by decide) d_La_run_18 rfl ?_
    refine tb_ireturn d_La_run_19 rfl (by first | rfl | assumption) ?_
    refine ⟨?_, hC, fun q hq => hcf.2.2 q hq, fun _ z hz => ?_⟩
    · rw [hcode]
      rfl
    · cases hz
      exact sJ_at m 217 0 _
  · obtain ⟨hv, hC, hcf⟩ := hP
    obtain ⟨hth, hne⟩ := Ans_r hv
    rcases (show (tRun g x = 0 ∧ tRun g x = 0) ∨ (tRun g x = 1 ∧ tRun g x = 1) ∨ (tRun g x = 2 ∧ tRun g x = 2) by have := tRun_v g x; omega) with ⟨e0, ec⟩ | ⟨e0, ec⟩ | ⟨e0, ec⟩
    · exact absurd e0 hne
    · have hx : xx = 1 := by omega
      subst hx
      refine ⟨12, 3, ⟨13, by decide, (tb_ix 392 (by decide +kernel) rfl), (List.mem_of_getElem? (i := 436) (by decide +kernel)), Or.inl ⟨0, 9, _, rfl, by decide, by decide⟩⟩, d_La_run_12, by decide, ?_⟩
      refine tb_iconst (1) (by decide) d_La_run_13 rfl ?_
      refine tb_ireturn d_La_run_14 rfl (by first | rfl | assumption) ?_
      refine ⟨?_, hC, fun q hq => hcf.2.2 q hq, fun z => ?_⟩
      · rw [ec]
        rfl
      · rw [ec] at z
        exact absurd z (by decide)
    · have hx : xx = 2 := by omega
      subst hx
      refine ⟨15, 3, ⟨15, by decide, (tb_ix 393 (by decide +kernel) rfl), (List.mem_of_getElem? (i := 503) (by decide +kernel)), Or.inr ⟨0, 9, 12, 13, "java/lang/IllegalArgumentException", 0, 9, _, rfl, ⟨by decide, by decide⟩, by decide, (tb_ix 392 (by decide +kernel) rfl), by decide, by decide, by decide⟩⟩, d_La_run_15, by decide, ?_⟩
      refine tb_iconst (2) (by decide) d_La_run_16 rfl ?_
      refine tb_ireturn d_La_run_17 rfl (by first | rfl | assumption) ?_
      refine ⟨?_, hC, fun q hq => hcf.2.2 q hq, fun z => ?_⟩
      · rw [ec]
        rfl
      · rw [ec] at z
        exact absurd z (by decide)
theorem ok_La_trace (hG : tb_G E) (h : CIs M g) {x y : Int32} (d : Nat) : tb_Ok E m_La_trace (d + 8) 1 6 [.inr (.inl 1), .inl x, .inl y, .inr (.inl 217)] M (HpP M g (if tTra g x = 0 then 0 else 1) (some (aTra g x y))) := by
  have hS := h.1
  refine tb_okOf hG (by decide) rfl (Nat.le_of_ble_eq_true rfl) rfl ?_
  refine tb_aload_3 d_La_trace_0 rfl ?_
  refine tb_iconst (0) (by decide) d_La_trace_1 rfl ?_
  refine tb_aload_0 d_La_trace_2 rfl ?_
  refine tb_iload_1 d_La_trace_3 rfl ?_
  refine tb_iload_2 d_La_trace_4 rfl ?_
  refine tb_callVD c_La_30 d_La_trace_5 rfl rfl rfl (Nat.le_of_ble_eq_true rfl) (by exact hS.k rfl) (by omega) (by omega) (by omega) (ok_TB_trace hG h (x := x) (y := y) (d + 1)) (fun v m hP => ?_) (fun xx m hP => ?_)
  · obtain ⟨hv, hC, hcf⟩ := hP
    obtain ⟨hth, rfl⟩ := Ans_l hv
    have hSm := hC.1
    have hcode : (if tTra g x = 0 then 0 else 1) = 0 := if_pos hth
    refine tb_i2l d_La_trace_8 rfl ?_
    refine tb_lastore d_La_trace_9 rfl (by exact hSm.k rfl) (by rw [hSm.l rfl]; show vp_in (nI 0) 1; exact vp_in_nI (by omega) (by omega)) ?_
    refine tb_goto 17 d_La_trace_10 (by decide) ?_
    refine tb_iconst (0) (by decide) d_La_trace_17 rfl ?_
    refine tb_ireturn d_La_trace_18 rfl (by first | rfl | assumption) ?_
    refine ⟨?_, hC, fun q hq => hcf.2.2 q hq, fun _ z hz => ?_⟩
    · rw [hcode]
      rfl
    · cases hz
      exact sJ_at m 217 0 _
  · obtain ⟨hv, hC, hcf⟩ := hP
    obtain ⟨hth, hne⟩ := Ans_r hv
    rcases tTra_v g x with ⟨e0, ec⟩ | ⟨e0, ec⟩
    · exact absurd e0 hne
    · have hx : xx = 3 := by omega
      subst hx
      refine ⟨13, 4, ⟨21, by decide, (tb_ix 531 (by decide +kernel) rfl), (List.mem_of_getElem? (i := 542) (by decide +kernel)), Or.inl ⟨0, 10, _, rfl, by decide, by decide⟩⟩, d_La_trace_13, by decide, ?_⟩
      refine tb_iconst (1) (by decide) d_La_trace_15 rfl ?_
      refine tb_ireturn d_La_trace_16 rfl (by first | rfl | assumption) ?_
      refine ⟨?_, hC, fun q hq => hcf.2.2 q hq, fun z => ?_⟩
      · rw [ec]
        rfl
      · rw [ec] at z
        exact absurd z (by decide)
theorem ok_La_number (hG : tb_G E) (h : CIs M g) {x y : Int32} (d : Nat) : tb_Ok E m_La_number (d + 8) 1 6 [.inr (.inl 1), .inl x, .inl y, .inr (.inl 217)] M (HpP M g (if tNum g x y = 0 then 0 else 1) (some (aNum g x y))) := by
  have hS := h.1
  refine tb_okOf hG (by decide) rfl (Nat.le_of_ble_eq_true rfl) rfl ?_
  refine tb_aload_3 d_La_number_0 rfl ?_
  refine tb_iconst (0) (by decide) d_La_number_1 rfl ?_
  refine tb_aload_0 d_La_number_2 rfl ?_
  refine tb_iload_1 d_La_number_3 rfl ?_
  refine tb_iload_2 d_La_number_4 rfl ?_
  refine tb_callVD c_La_34 d_La_number_5 rfl rfl rfl (Nat.le_of_ble_eq_true rfl) (by exact hS.k rfl) (by omega) (by omega) (by omega) (ok_TB_number hG h (x := x) (y := y) (d + 1)) (fun v m hP => ?_) (fun xx m hP => ?_)
  · obtain ⟨hv, hC, hcf⟩ := hP
    obtain ⟨hth, rfl⟩ := Ans_l hv
    have hSm := hC.1
    have hcode : (if tNum g x y = 0 then 0 else 1) = 0 := if_pos hth
    refine tb_i2l d_La_number_8 rfl ?_
    refine tb_lastore d_La_number_9 rfl (by exact hSm.k rfl) (by rw [hSm.l rfl]; show vp_in (nI 0) 1; exact vp_in_nI (by omega) (by omega)) ?_
    refine tb_goto 17 d_La_number_10 (by decide) ?_
    refine tb_iconst (0) (by decide) d_La_number_17 rfl ?_
    refine tb_ireturn d_La_number_18 rfl (by first | rfl | assumption) ?_
    refine ⟨?_, hC, fun q hq => hcf.2.2 q hq, fun _ z hz => ?_⟩
    · rw [hcode]
      rfl
    · cases hz
      exact sJ_at m 217 0 _
  · obtain ⟨hv, hC, hcf⟩ := hP
    obtain ⟨hth, hne⟩ := Ans_r hv
    rcases tNum_v g x y with ⟨e0, ec⟩ | ⟨e0, ec⟩
    · exact absurd e0 hne
    · have hx : xx = 3 := by omega
      subst hx
      refine ⟨13, 4, ⟨21, by decide, (tb_ix 531 (by decide +kernel) rfl), (List.mem_of_getElem? (i := 542) (by decide +kernel)), Or.inl ⟨0, 10, _, rfl, by decide, by decide⟩⟩, d_La_number_13, by decide, ?_⟩
      refine tb_iconst (1) (by decide) d_La_number_15 rfl ?_
      refine tb_ireturn d_La_number_16 rfl (by first | rfl | assumption) ?_
      refine ⟨?_, hC, fun q hq => hcf.2.2 q hq, fun z => ?_⟩
      · rw [ec]
        rfl
      · rw [ec] at z
        exact absurd z (by decide)
end LawHelp2
