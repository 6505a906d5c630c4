/-! TracedBuild: the state, and its calls. -/
noncomputable def cif {α : Type} (p : Prop) (a b : α) : α := @ite _ p (Classical.propDecidable p) a b
theorem cif_t {α : Type} {p : Prop} {a b : α} (h : p) : cif p a b = a := by unfold cif; rw [if_pos h]
theorem cif_f {α : Type} {p : Prop} {a b : α} (h : ¬ p) : cif p a b = b := by unfold cif; rw [if_neg h]
/-- what is typed, the script, files + traces + deeds + hazard, has a run been made since, how often once more -/
abbrev Sg := List Int32 × (Nat × (Nat → List Int32)) × RS × Int32 × Int32
def HdIs (M : tb_M) (h : List Int32) : Prop := (∃ m, TxOk M 2 m) ∧ txt M 2 = h
def LgIs (M : tb_M) (n : Nat) (b : Int32) (R : RS) : Prop := tb_I M 1 6 = b ∧ (b = 0 ∨ b = 1) ∧ (b = 1 → (∀ k, k < n → DeIs M k (R.2.2.1 k)) ∧ HzIs M n R.2.2.1 R.2.2.2)
def CIs (M : tb_M) (g : Sg) : Prop := Sh M ∧ HdIs M g.1 ∧ ScIs M g.2.1.1 g.2.1.2 ∧ FsIs M 26 g.2.2.1.1 ∧ ShOk M 29 ∧ StIs M g.2.2.1.2.1 ∧ LgIs M g.2.1.1 g.2.2.2.1 g.2.2.1 ∧ tb_I M 1 7 = g.2.2.2.2
/-- the reference's cells stand -/
def Cf (M M1 : tb_M) : Prop := tb_n M1 = tb_n M ∧ tb_J M1 = tb_J M ∧ ∀ q, 190 ≤ q → tb_I M1 q = tb_I M q
def Ans (th : Nat) (a : Option Int32) : tb_O := if th = 0 then .inl (a.map Sum.inl) else .inr th
abbrev Post (M : tb_M) (g : Sg) (th : Nat) (a : Option Int32) : tb_O → tb_M → Prop := fun o m => o = Ans th a ∧ CIs m g ∧ Cf M m
section Top
variable {E : tb_E} {M M1 M2 : tb_M} {g : Sg}
theorem Cf.rf : Cf M M := ⟨rfl, rfl, fun _ _ => rfl⟩
theorem Cf.trans (h : Cf M M1) (h2 : Cf M1 M2) : Cf M M2 := ⟨h2.1.trans h.1, h2.2.1.trans h.2.1, fun q hq => (h2.2.2 q hq).trans (h.2.2 q hq)⟩
theorem On2.cf {A B : Nat → Prop} (h : On2 M M1 A B) (hA : ∀ q, A q → q < 190) : Cf M M1 := by
  have hi := fun q (hq : 190 ≤ q) => h.i (q := q) (fun z => by have := hA q z; omega)
  obtain ⟨I, R, rfl, -, -⟩ := h
  exact ⟨rfl, rfl, hi⟩
theorem On.cf {A : Nat → Prop} (h : On M M1 A) (hA : ∀ q, A q → q < 190) : Cf M M1 := (h.two (B := fun _ => False)).cf hA
theorem HdIs.of {h : List Int32} (hH : HdIs M h) (h2 : tb_I M1 2 = tb_I M 2) (h3 : tb_I M1 3 = tb_I M 3) : HdIs M1 h := by
  obtain ⟨⟨m, hm⟩, ht⟩ := hH
  exact ⟨⟨m, hm.of h2 h3⟩, by rw [txt_on h2 h3]; exact ht⟩
theorem HzIs.of {n : Nat} {D : Nat → DeV} {h : HzV} (hH : HzIs M n D h) (h1 : tb_I M1 178 = tb_I M 178) : HzIs M1 n D h := by
  unfold HzIs
  rw [h1]
  exact hH
theorem LgIs.of {n : Nat} {b : Int32} {R : RS} (h : LgIs M n b R) (h1 : tb_I M1 1 6 = tb_I M 1 6) (hI : ∀ q, 178 ≤ q → q < 190 → tb_I M1 q = tb_I M q) (hn : n ≤ 10) : LgIs M1 n b R := by
  refine ⟨by rw [h1]; exact h.1, h.2.1, fun z => ?_⟩
  obtain ⟨a1, a2⟩ := h.2.2 z
  exact ⟨fun k hk => (a1 k hk).of (hI _ (by omega) (by omega)), a2.of (hI _ (by omega) (by omega))⟩
theorem LgIs.no {n : Nat} {R : RS} (h1 : tb_I M1 1 6 = 0) : LgIs M1 n 0 R := ⟨h1, Or.inl rfl, fun z => absurd z (by decide)⟩
def isC (h : List Int32) : Prop := cmdP (la h) h.length
theorem isC_ta {h : List Int32} {m : Nat} (hm : TxOk M 2 m) (ht : txt M 2 = h) : cmdP (ta M 2 m) m ↔ isC h := by
  unfold isC
  rw [← ht, txt_len hm, show ta M 2 m = la (txt M 2) from funext fun i => ta_la hm i]

theorem HdIs.app {h : List Int32} (hH : HdIs M h) {m : Nat} (hm : TxOk M 2 m) (hl : m < 12) {c : Int32} (hc : narrow .char (.int c) = .int c) : HdIs (tb_sI (tb_sI M 3 m c) 2 1 (nI (m + 1))) (h ++ [c]) := by
  have e3 : tb_I (tb_sI (tb_sI M 3 m c) 2 1 (nI (m + 1))) 3 = va_up (tb_I M 3) m c := by rw [sI_of _ _ _ (by decide), sI_at]
  have e2 : tb_I (tb_sI (tb_sI M 3 m c) 2 1 (nI (m + 1))) 2 1 = nI (m + 1) := by rw [sI_at]; simp [va_up]
  have hT : TxOk (tb_sI (tb_sI M 3 m c) 2 1 (nI (m + 1))) 2 (m + 1) := ⟨rfl, e2, by omega, fun i hi => by
    show narrow .char (.int (tb_I (tb_sI (tb_sI M 3 m c) 2 1 (nI (m + 1))) 3 i)) = .int (tb_I (tb_sI (tb_sI M 3 m c) 2 1 (nI (m + 1))) 3 i)
    rw [e3]
    unfold va_up
    by_cases z : i = m
    · rw [if_pos z]; exact hc
    · rw [if_neg z]; exact hm.2.2.2 i hi⟩
  refine ⟨⟨m + 1, hT⟩, ?_⟩
  rw [txt_of hT, ← hH.2, txt_of hm, List.range_succ, List.map_append]
  show List.map (tb_I _ 3) _ ++ List.map (tb_I _ 3) _ = _
  rw [e3]
  congr 1
  · apply List.map_congr_left
    intro i hi
    have := List.mem_range.mp hi
    simp [va_up]
    omega
  · simp [va_up]
def oType (g : Sg) (c : Int32) : Sg := if g.1.length < 12 then (g.1 ++ [c], g.2) else g
def aType (g : Sg) : Int32 := if g.1.length < 12 then 1 else 0
theorem ok_TB_type (hG : tb_G E) (h : CIs M g) {c : Int32} (hc : narrow .char (.int c) = .int c) (d : Nat) : tb_Ok E m_TB_type (d + 1) 0 0 [.inr (.inl 1), .inl c] M (Post M (oType g c) 0 (some (aType g))) := by
  have hh := h
  obtain ⟨hS, hH, hC, hF, hB, hSt, hL, hA⟩ := h
  obtain ⟨k1, r0, r1, r2, r3, r4, r5⟩ := hS.tb
  obtain ⟨k2, k3, k4, k5, k6, k7⟩ := hS.tk
  have hn := hC.1.2.1
  obtain ⟨⟨m, hm⟩, ht⟩ := hH
  have hml : g.1.length = m := by rw [← ht, txt_len hm]
  unfold oType aType
  by_cases hl : m < 12
  · rw [if_pos (by omega), if_pos (by omega)]
    refine tb_okOf hG (by decide) rfl (Nat.le_of_ble_eq_true rfl) rfl ?_
    refine tb_aload_0 d_TB_type_0 rfl ?_
    refine g_TB_10 d_TB_type_1 rfl rfl (by first | exact k1 | exact k2 | exact k3 | exact k4 | exact k5 | exact k6 | exact k7) ?_
    refine tb_topR r0 ?_
    refine tb_iload_1 d_TB_type_4 rfl ?_
    refine tb_callVr c_TB_57 d_TB_type_5 rfl rfl rfl (Nat.le_of_ble_eq_true rfl) (by first | exact k1 | exact k2 | exact k3 | exact k4 | exact k5 | exact k6 | exact k7) (ok_Tx_append1 hG hS hm (c := c) hl d) ?_
    rw [nar_ch hc]
    refine tb_ireturn d_TB_type_8 rfl (by first | rfl | assumption) ?_
    have o : On M (tb_sI (tb_sI M 3 m c) 2 1 (nI (m + 1))) (fun q => q = 2 ∨ q = 3) := (On.sI (A := fun q => q = 2 ∨ q = 3) (Or.inr rfl)).trans (On.sI (A := fun q => q = 2 ∨ q = 3) (Or.inl rfl))
    have hX := HdIs.app ⟨⟨m, hm⟩, ht⟩ hm hl hc
    exact ⟨rfl, ⟨o.sh hS, hX, hC.of (by rw [o.r]) (fun q _ _ => o.i (by omega)), hF.of (o.i (by decide)) (o.i (by decide)), hB.of (o.i (by decide)) (o.i (by decide)), hSt.of (by rw [o.i (by decide)]) (by rw [o.r]) (fun q _ _ => o.i (by omega)), hL.of (by rw [o.i (by decide)]) (fun q _ _ => o.i (by omega)) hn, by rw [o.i (by decide)]; exact hA⟩, o.cf (fun q hq => by omega)⟩
  · rw [if_neg (by omega), if_neg (by omega)]
    refine tb_okOf hG (by decide) rfl (Nat.le_of_ble_eq_true rfl) rfl ?_
    refine tb_aload_0 d_TB_type_0 rfl ?_
    refine g_TB_10 d_TB_type_1 rfl rfl (by first | exact k1 | exact k2 | exact k3 | exact k4 | exact k5 | exact k6 | exact k7) ?_
    refine tb_topR r0 ?_
    refine tb_iload_1 d_TB_type_4 rfl ?_
    refine tb_callVr c_TB_57 d_TB_type_5 rfl rfl rfl (Nat.le_of_ble_eq_true rfl) (by first | exact k1 | exact k2 | exact k3 | exact k4 | exact k5 | exact k6 | exact k7) (ok_Tx_append0 hG hS hm (c := c) (by have := hm.2.2.1; omega) d) ?_
    refine tb_ireturn d_TB_type_8 rfl (by first | rfl | assumption) ?_
    exact ⟨rfl, hh, Cf.rf⟩
theorem ok_TB_commands (hG : tb_G E) (h : CIs M g) (d : Nat) : tb_Ok E m_TB_commands (d + 1) 0 0 [.inr (.inl 1)] M (Post M g 0 (some (nI g.2.1.1))) := by
  have hh := h
  obtain ⟨hS, hH, hC, hF, hB, hSt, hL, hA⟩ := h
  obtain ⟨k1, r0, r1, r2, r3, r4, r5⟩ := hS.tb
  obtain ⟨k2, k3, k4, k5, k6, k7⟩ := hS.tk
  have hn := hC.1.2.1
  refine tb_okOf hG (by decide) rfl (Nat.le_of_ble_eq_true rfl) rfl ?_
  refine tb_aload_0 d_TB_commands_0 rfl ?_
  refine g_TB_19 d_TB_commands_1 rfl rfl (by first | exact k1 | exact k2 | exact k3 | exact k4 | exact k5 | exact k6 | exact k7) ?_
  refine tb_topR r1 ?_
  refine tb_callVr c_TB_94 d_TB_commands_4 rfl rfl rfl (Nat.le_of_ble_eq_true rfl) (by first | exact k1 | exact k2 | exact k3 | exact k4 | exact k5 | exact k6 | exact k7) (ok_Sc_length hG hS hC.1 d) ?_
  refine tb_ireturn d_TB_commands_7 rfl (by first | rfl | assumption) ?_
  exact ⟨rfl, hh, Cf.rf⟩
theorem ok_TB_again (hG : tb_G E) (h : CIs M g) (d : Nat) : tb_Ok E m_TB_again d 0 0 [.inr (.inl 1)] M (Post M g 0 (some g.2.2.2.2)) := by
  have hh := h
  obtain ⟨hS, hH, hC, hF, hB, hSt, hL, hA⟩ := h
  obtain ⟨k1, r0, r1, r2, r3, r4, r5⟩ := hS.tb
  obtain ⟨k2, k3, k4, k5, k6, k7⟩ := hS.tk
  have hn := hC.1.2.1
  refine tb_okOf hG (by decide) rfl (Nat.le_of_ble_eq_true rfl) rfl ?_
  refine tb_aload_0 d_TB_again_0 rfl ?_
  refine g_TB_53 d_TB_again_1 rfl rfl (by first | exact k1 | exact k2 | exact k3 | exact k4 | exact k5 | exact k6 | exact k7) ?_
  refine tb_topI hA ?_
  refine tb_ireturn d_TB_again_4 rfl (by first | rfl | assumption) ?_
  exact ⟨rfl, hh, Cf.rf⟩
theorem ok_TB_traces (hG : tb_G E) (h : CIs M g) (d : Nat) : tb_Ok E m_TB_traces (d + 1) 0 0 [.inr (.inl 1)] M (Post M g 0 (some (nI g.2.2.1.2.1.1))) := by
  have hh := h
  obtain ⟨hS, hH, hC, hF, hB, hSt, hL, hA⟩ := h
  obtain ⟨k1, r0, r1, r2, r3, r4, r5⟩ := hS.tb
  obtain ⟨k2, k3, k4, k5, k6, k7⟩ := hS.tk
  have hn := hC.1.2.1
  refine tb_okOf hG (by decide) rfl (Nat.le_of_ble_eq_true rfl) rfl ?_
  refine tb_aload_0 d_TB_traces_0 rfl ?_
  refine g_TB_38 d_TB_traces_1 rfl rfl (by first | exact k1 | exact k2 | exact k3 | exact k4 | exact k5 | exact k6 | exact k7) ?_
  refine tb_topR r4 ?_
  refine tb_callVr c_TB_148 d_TB_traces_4 rfl rfl rfl (Nat.le_of_ble_eq_true rfl) (by first | exact k1 | exact k2 | exact k3 | exact k4 | exact k5 | exact k6 | exact k7) (ok_St_length hG hS hSt.1 d) ?_
  refine tb_ireturn d_TB_traces_7 rfl (by first | rfl | assumption) ?_
  exact ⟨rfl, hh, Cf.rf⟩
theorem ok_TB_isFile (hG : tb_G E) (x : Int32) (d : Nat) : tb_Ret E m_TB_isFile d [.inl x] M (some (.inl (bI (inI x 12)))) M := by
  refine tb_okOf hG (by decide) rfl (Nat.le_of_ble_eq_true rfl) rfl ?_
  refine tb_iload_0 d_TB_isFile_0 rfl ?_
  refine tb_if_lt 14 d_TB_isFile_1 (by decide) rfl (fun h1 => ?_) (fun h1 => ?_)
  · rw [bI_f (show ¬ inI x 12 from fun z => Int32.not_lt.mpr z.1 h1)]
    refine tb_iconst (0) (by decide) d_TB_isFile_14 rfl ?_
    refine tb_ireturn d_TB_isFile_15 rfl (by first | rfl | assumption) ?_
    exact ⟨rfl, rfl⟩
  · refine tb_iload_0 d_TB_isFile_4 rfl ?_
    refine tb_bipush (12) (by decide) d_TB_isFile_5 rfl ?_
    refine tb_icmp_ge 14 d_TB_isFile_7 (by decide) rfl (fun h7 => ?_) (fun h7 => ?_)
    · rw [bI_f (show ¬ inI x 12 from fun z => Int32.not_lt.mpr h7 z.2)]
      refine tb_iconst (0) (by decide) d_TB_isFile_14 rfl ?_
      refine tb_ireturn d_TB_isFile_15 rfl (by first | rfl | assumption) ?_
      exact ⟨rfl, rfl⟩
    · rw [bI_t (show inI x 12 from ⟨Int32.not_lt.mp h1, Int32.not_le.mp h7⟩)]
      refine tb_iconst (1) (by decide) d_TB_isFile_10 rfl ?_
      refine tb_goto 15 d_TB_isFile_11 (by decide) ?_
      refine tb_ireturn d_TB_isFile_15 rfl (by first | rfl | assumption) ?_
      exact ⟨rfl, rfl⟩
theorem inI_n {x : Int32} {c : Nat} (hc : c < 2 ^ 31) (h : inI x c) : ∃ j, j < c ∧ x = nI j := by
  obtain ⟨j, hj, rfl⟩ := nI_of (x := x) (fun z => Int32.not_lt.mpr h.1 z)
  exact ⟨j, (nI_ltI hj hc).mp h.2, rfl⟩
theorem inI_of {j c : Nat} (hc : c < 2 ^ 31) (h : j < c) : inI (nI j) c := ⟨nI_pos' (by omega), nI_lt h hc⟩
/-- a file of the state is set -/
def fsS (g : Sg) (f : Nat) (v : Option (List Int32)) : Sg := (g.1, g.2.1, (fun i => if i = f then v else g.2.2.1.1 i, g.2.2.1.2), g.2.2.2)
theorem CIs.file (h : CIs M g) {f : Nat} {v : Option (List Int32)} (hf : f < 12) (hP : PlSet M M1 26 f v) : CIs M1 (fsS g f v) ∧ Cf M M1 := by
  obtain ⟨hS, hH, hC, hF, hB, hSt, hL, hA⟩ := h
  have o := hP.1
  have hi : ∀ q, ¬ (q = 27 ∨ q = 28) → tb_I M1 q = tb_I M q := fun q hq => o.i (by intro z; rcases z with z | z <;> omega)
  refine ⟨⟨o.sh hS, hH.of (hi 2 (by decide)) (hi 3 (by decide)), hC.of (by rw [o.r]) (fun q _ _ => hi q (by omega)), ⟨hP.2.1, fun i hi' => ?_⟩, hB.of (hi _ (by decide)) (hi _ (by decide)), hSt.of (by rw [hi _ (by decide)]) (by rw [o.r]) (fun q _ _ => hi q (by omega)), hL.of (by rw [hi _ (by decide)]) (fun q _ _ => hi q (by omega)) hC.1.2.1, by rw [hi _ (by decide)]; exact hA⟩, o.cf (fun q hq => by rcases hq with z | z <;> omega)⟩
  show pl M1 26 i = if i = f then v else g.2.2.1.1 i
  by_cases e : i = f
  · rw [if_pos e, e]; exact hP.2.2.1
  · rw [if_neg e, hP.2.2.2 i e (by show i < gL 27; rw [show gL 27 = 12 from rfl]; exact hi')]
    exact hF.2 i hi'
noncomputable def oPut (g : Sg) (x y : Int32) : Sg := cif (inI x 12 ∧ ln (g.2.2.1.1 x.toNatClampNeg) < 6) (fsS g x.toNatClampNeg (some (cl (g.2.2.1.1 x.toNatClampNeg) ++ [y]))) g
noncomputable def aPut (g : Sg) (x : Int32) : Int32 := cif (inI x 12 ∧ ln (g.2.2.1.1 x.toNatClampNeg) < 6) (nI (ln (g.2.2.1.1 x.toNatClampNeg) + 1)) (-1)
theorem ok_TB_put (hG : tb_G E) (h : CIs M g) {x y : Int32} (hy : narrow .short (.int y) = .int y) (d : Nat) : tb_Ok E m_TB_put (d + 2) 0 0 [.inr (.inl 1), .inl x, .inl y] M (Post M (oPut g x y) 0 (some (aPut g x))) := by
  have hh := h
  obtain ⟨hS, hH, hC, hF, hB, hSt, hL, hA⟩ := h
  obtain ⟨k1, r0, r1, r2, r3, r4, r5⟩ := hS.tb
  obtain ⟨k2, k3, k4, k5, k6, k7⟩ := hS.tk
  have hn := hC.1.2.1
  unfold oPut aPut
  by_cases hx : inI x 12
  · obtain ⟨f, hf, rfl⟩ := inI_n (by decide) hx
    rw [nI_clamp (by omega)]
    have hlf : ln (pl M 26 f) = ln (g.2.2.1.1 f) := by rw [hF.2 f hf]
    refine tb_okOf hG (by decide) rfl (Nat.le_of_ble_eq_true rfl) rfl ?_
    refine tb_iload_1 d_TB_put_0 rfl ?_
    refine tb_callSr c_TB_98 d_TB_put_1 rfl rfl rfl (Nat.le_of_ble_eq_true rfl) (ok_TB_isFile hG _ (d + 1)) ?_
    refine tb_if_eq 19 d_TB_put_4 (by decide) rfl (fun h4 => ?_) (fun h4 => ?_)
    · exact absurd hx (bI_0.mp h4)
    · refine tb_aload_0 d_TB_put_7 rfl ?_
      refine g_TB_28 d_TB_put_8 rfl rfl (by first | exact k1 | exact k2 | exact k3 | exact k4 | exact k5 | exact k6 | exact k7) ?_
      refine tb_topR r2 ?_
      refine tb_iload_1 d_TB_put_11 rfl ?_
      refine tb_iload_2 d_TB_put_12 rfl ?_
      refine tb_callVq c_TB_102 d_TB_put_13 rfl rfl rfl (Nat.le_of_ble_eq_true rfl) (by first | exact k1 | exact k2 | exact k3 | exact k4 | exact k5 | exact k6 | exact k7) (ok_Sh_append hG hS hF.1 (p := f) (show f < gL 27 by rw [show gL 27 = 12 from rfl]; exact hf) hy d) (fun v1 M1 hP => ?_)
      obtain ⟨rfl, hP⟩ := hP
      unfold app6 at hP
      refine tb_if_ne 21 d_TB_put_16 (by decide) rfl (fun h16 => ?_) (fun h16 => ?_)
      · have hlt : ln (pl M 26 f) < 6 := Classical.not_not.mp (fun z => h16 (bI_f z))
        rw [if_pos hlt] at hP
        have hX := hh.file hf hP
        rw [hF.2 f hf] at hX
        obtain ⟨a1, a2, a3, a4, a5, a6⟩ := hX.1.1.tk
        obtain ⟨b1, b2, b3, b4, b5, b6, b7⟩ := hX.1.1.tb
        rw [cif_t ⟨hx, by rw [← hlf]; exact hlt⟩, cif_t ⟨hx, by rw [← hlf]; exact hlt⟩]
        refine tb_aload_0 d_TB_put_21 rfl ?_
        refine g_TB_28 d_TB_put_22 rfl rfl (by exact b1) ?_
        refine tb_topR b4 ?_
        refine tb_iload_1 d_TB_put_25 rfl ?_
        refine tb_callVr c_TB_105 d_TB_put_26 rfl rfl rfl (Nat.le_of_ble_eq_true rfl) (by exact a3) (ok_Sh_length hG hX.1.1 hX.1.2.2.2.1.1 (p := f) (show f < gL 27 by rw [show gL 27 = 12 from rfl]; exact hf) (d + 1)) ?_
        refine tb_topI (y := nI (ln (g.2.2.1.1 f) + 1)) (by
          rw [hP.2.2.1, ← hlf]
          show nI ((pl M 26 f).getD [] ++ [y]).length = _
          rw [List.length_append]
          rfl) ?_
        refine tb_ireturn d_TB_put_29 rfl (by first | rfl | assumption) ?_
        exact ⟨rfl, hX.1, hX.2⟩
      · have hlt : ¬ ln (pl M 26 f) < 6 := bI_0.mp h16
        rw [if_neg hlt] at hP
        have hX := hh.file hf hP
        rw [cif_f (fun z => hlt (by rw [hlf]; exact z.2)), cif_f (fun z => hlt (by rw [hlf]; exact z.2))]
        refine tb_iconst (-1) (by decide) d_TB_put_19 rfl ?_
        refine tb_ireturn d_TB_put_20 rfl (by first | rfl | assumption) ?_
        refine ⟨rfl, ?_, hX.2⟩
        have hY := hX.1
        rw [hF.2 f hf] at hY
        have : fsS g f (g.2.2.1.1 f) = g := by
          unfold fsS
          have : (fun i => if i = f then g.2.2.1.1 f else g.2.2.1.1 i) = g.2.2.1.1 := by
            funext i
            by_cases e : i = f
            · rw [if_pos e, e]
            · rw [if_neg e]
          rw [this]
        rw [this] at hY
        exact hY
  · rw [cif_f (fun z => hx z.1), cif_f (fun z => hx z.1)]
    refine tb_okOf hG (by decide) rfl (Nat.le_of_ble_eq_true rfl) rfl ?_
    refine tb_iload_1 d_TB_put_0 rfl ?_
    refine tb_callSr c_TB_98 d_TB_put_1 rfl rfl rfl (Nat.le_of_ble_eq_true rfl) (ok_TB_isFile hG _ (d + 1)) ?_
    refine tb_if_eq 19 d_TB_put_4 (by decide) rfl (fun h4 => ?_) (fun h4 => ?_)
    · refine tb_iconst (-1) (by decide) d_TB_put_19 rfl ?_
      refine tb_ireturn d_TB_put_20 rfl (by first | rfl | assumption) ?_
      exact ⟨rfl, hh, Cf.rf⟩
    · exact absurd (bI_f hx) h4
noncomputable def oRem (g : Sg) (x : Int32) : Sg := cif (inI x 12) (fsS g x.toNatClampNeg none) g
noncomputable def aRem (g : Sg) (x : Int32) : Int32 := bI (inI x 12 ∧ g.2.2.1.1 x.toNatClampNeg ≠ none)
theorem fsS_same (g : Sg) {f : Nat} {v : Option (List Int32)} (h : g.2.2.1.1 f = v) : fsS g f v = g := by
  unfold fsS
  have : (fun i => if i = f then v else g.2.2.1.1 i) = g.2.2.1.1 := by
    funext i
    by_cases e : i = f
    · rw [if_pos e, e, h]
    · rw [if_neg e]
  rw [this]
theorem ok_TB_remove (hG : tb_G E) (h : CIs M g) {x : Int32} (d : Nat) : tb_Ok E m_TB_remove (d + 2) 0 0 [.inr (.inl 1), .inl x] M (Post M (oRem g x) 0 (some (aRem g x))) := by
  have hh := h
  obtain ⟨hS, hH, hC, hF, hB, hSt, hL, hA⟩ := h
  obtain ⟨k1, r0, r1, r2, r3, r4, r5⟩ := hS.tb
  obtain ⟨k2, k3, k4, k5, k6, k7⟩ := hS.tk
  have hn := hC.1.2.1
  unfold oRem aRem
  by_cases hx : inI x 12
  · rw [cif_t hx]
    obtain ⟨f, hf, rfl⟩ := inI_n (by decide) hx
    rw [nI_clamp (by omega)]
    refine tb_okOf hG (by decide) rfl (Nat.le_of_ble_eq_true rfl) rfl ?_
    refine tb_iload_1 d_TB_remove_0 rfl ?_
    refine tb_callSr c_TB_98 d_TB_remove_1 rfl rfl rfl (Nat.le_of_ble_eq_true rfl) (ok_TB_isFile hG _ (d + 1)) ?_
    refine tb_if_eq 18 d_TB_remove_4 (by decide) rfl (fun h4 => ?_) (fun h4 => ?_)
    · exact absurd hx (bI_0.mp h4)
    · refine tb_aload_0 d_TB_remove_7 rfl ?_
      refine g_TB_28 d_TB_remove_8 rfl rfl (by first | exact k1 | exact k2 | exact k3 | exact k4 | exact k5 | exact k6 | exact k7) ?_
      refine tb_topR r2 ?_
      refine tb_iload_1 d_TB_remove_11 rfl ?_
      refine tb_callVr c_TB_108 d_TB_remove_12 rfl rfl rfl (Nat.le_of_ble_eq_true rfl) (by first | exact k1 | exact k2 | exact k3 | exact k4 | exact k5 | exact k6 | exact k7) (ok_Sh_isThere hG hS hF.1 (p := f) (show f < gL 27 by rw [show gL 27 = 12 from rfl]; exact hf) (d + 1)) ?_
      rw [hF.2 f hf]
      refine tb_if_ne 20 d_TB_remove_15 (by decide) rfl (fun h15 => ?_) (fun h15 => ?_)
      · have hth : g.2.2.1.1 f ≠ none := Classical.not_not.mp (fun z => h15 (bI_f z))
        refine tb_aload_0 d_TB_remove_20 rfl ?_
        refine g_TB_28 d_TB_remove_21 rfl rfl (by first | exact k1 | exact k2 | exact k3 | exact k4 | exact k5 | exact k6 | exact k7) ?_
        refine tb_topR r2 ?_
        refine tb_iload_1 d_TB_remove_24 rfl ?_
        refine tb_callVv c_TB_111 d_TB_remove_25 rfl rfl rfl (Nat.le_of_ble_eq_true rfl) (by first | exact k1 | exact k2 | exact k3 | exact k4 | exact k5 | exact k6 | exact k7) (ok_Sh_takeAway hG hS hF.1 (p := f) (show f < gL 27 by rw [show gL 27 = 12 from rfl]; exact hf) (d + 1)) ?_
        refine tb_iconst (1) (by decide) d_TB_remove_28 rfl ?_
        refine tb_ireturn d_TB_remove_29 rfl (by first | rfl | assumption) ?_
        have hX := hh.file hf (PlSet.away hF.1 (show f < gL 27 by rw [show gL 27 = 12 from rfl]; exact hf))
        rw [bI_t ⟨hx, hth⟩]
        exact ⟨rfl, hX⟩
      · have hth : g.2.2.1.1 f = none := Classical.not_not.mp (bI_0.mp h15)
        refine tb_iconst (0) (by decide) d_TB_remove_18 rfl ?_
        refine tb_ireturn d_TB_remove_19 rfl (by first | rfl | assumption) ?_
        rw [fsS_same g hth, bI_f (fun z => z.2 hth)]
        exact ⟨rfl, hh, Cf.rf⟩
  · rw [cif_f hx, bI_f (fun z => hx z.1)]
    refine tb_okOf hG (by decide) rfl (Nat.le_of_ble_eq_true rfl) rfl ?_
    refine tb_iload_1 d_TB_remove_0 rfl ?_
    refine tb_callSr c_TB_98 d_TB_remove_1 rfl rfl rfl (Nat.le_of_ble_eq_true rfl) (ok_TB_isFile hG _ (d + 1)) ?_
    refine tb_if_eq 18 d_TB_remove_4 (by decide) rfl (fun h4 => ?_) (fun h4 => ?_)
    · refine tb_iconst (0) (by decide) d_TB_remove_18 rfl ?_
      refine tb_ireturn d_TB_remove_19 rfl (by first | rfl | assumption) ?_
      exact ⟨rfl, hh, Cf.rf⟩
    · exact absurd (bI_f hx) h4
noncomputable def aSiz (g : Sg) (x : Int32) : Int32 := cif (inI x 12 ∧ g.2.2.1.1 x.toNatClampNeg ≠ none) (nI (ln (g.2.2.1.1 x.toNatClampNeg))) (-1)
theorem ok_TB_size (hG : tb_G E) (h : CIs M g) {x : Int32} (d : Nat) : tb_Ok E m_TB_size (d + 2) 0 0 [.inr (.inl 1), .inl x] M (Post M g 0 (some (aSiz g x))) := by
  have hh := h
  obtain ⟨hS, hH, hC, hF, hB, hSt, hL, hA⟩ := h
  obtain ⟨k1, r0, r1, r2, r3, r4, r5⟩ := hS.tb
  obtain ⟨k2, k3, k4, k5, k6, k7⟩ := hS.tk
  have hn := hC.1.2.1
  unfold aSiz
  by_cases hx : inI x 12
  · obtain ⟨f, hf, rfl⟩ := inI_n (by decide) hx
    rw [nI_clamp (by omega)]
    refine tb_okOf hG (by decide) rfl (Nat.le_of_ble_eq_true rfl) rfl ?_
    refine tb_iload_1 d_TB_size_0 rfl ?_
    refine tb_callSr c_TB_98 d_TB_size_1 rfl rfl rfl (Nat.le_of_ble_eq_true rfl) (ok_TB_isFile hG _ (d + 1)) ?_
    refine tb_if_eq 18 d_TB_size_4 (by decide) rfl (fun h4 => ?_) (fun h4 => ?_)
    · exact absurd hx (bI_0.mp h4)
    · refine tb_aload_0 d_TB_size_7 rfl ?_
      refine g_TB_28 d_TB_size_8 rfl rfl (by first | exact k1 | exact k2 | exact k3 | exact k4 | exact k5 | exact k6 | exact k7) ?_
      refine tb_topR r2 ?_
      refine tb_iload_1 d_TB_size_11 rfl ?_
      refine tb_callVr c_TB_108 d_TB_size_12 rfl rfl rfl (Nat.le_of_ble_eq_true rfl) (by first | exact k1 | exact k2 | exact k3 | exact k4 | exact k5 | exact k6 | exact k7) (ok_Sh_isThere hG hS hF.1 (p := f) (show f < gL 27 by rw [show gL 27 = 12 from rfl]; exact hf) (d + 1)) ?_
      rw [hF.2 f hf]
      refine tb_if_ne 20 d_TB_size_15 (by decide) rfl (fun h15 => ?_) (fun h15 => ?_)
      · have hth : g.2.2.1.1 f ≠ none := Classical.not_not.mp (fun z => h15 (bI_f z))
        rw [cif_t ⟨hx, hth⟩]
        refine tb_aload_0 d_TB_size_20 rfl ?_
        refine g_TB_28 d_TB_size_21 rfl rfl (by first | exact k1 | exact k2 | exact k3 | exact k4 | exact k5 | exact k6 | exact k7) ?_
        refine tb_topR r2 ?_
        refine tb_iload_1 d_TB_size_24 rfl ?_
        refine tb_callVr c_TB_105 d_TB_size_25 rfl rfl rfl (Nat.le_of_ble_eq_true rfl) (by first | exact k1 | exact k2 | exact k3 | exact k4 | exact k5 | exact k6 | exact k7) (ok_Sh_length hG hS hF.1 (p := f) (show f < gL 27 by rw [show gL 27 = 12 from rfl]; exact hf) (d + 1)) ?_
        rw [hF.2 f hf]
        refine tb_ireturn d_TB_size_28 rfl (by first | rfl | assumption) ?_
        exact ⟨rfl, hh, Cf.rf⟩
      · have hth : g.2.2.1.1 f = none := Classical.not_not.mp (bI_0.mp h15)
        rw [cif_f (fun z => z.2 hth)]
        refine tb_iconst (-1) (by decide) d_TB_size_18 rfl ?_
        refine tb_ireturn d_TB_size_19 rfl (by first | rfl | assumption) ?_
        exact ⟨rfl, hh, Cf.rf⟩
  · rw [cif_f (fun z => hx z.1)]
    refine tb_okOf hG (by decide) rfl (Nat.le_of_ble_eq_true rfl) rfl ?_
    refine tb_iload_1 d_TB_size_0 rfl ?_
    refine tb_callSr c_TB_98 d_TB_size_1 rfl rfl rfl (Nat.le_of_ble_eq_true rfl) (ok_TB_isFile hG _ (d + 1)) ?_
    refine tb_if_eq 18 d_TB_size_4 (by decide) rfl (fun h4 => ?_) (fun h4 => ?_)
    · refine tb_iconst (-1) (by decide) d_TB_size_18 rfl ?_
      refine tb_ireturn d_TB_size_19 rfl (by first | rfl | assumption) ?_
      exact ⟨rfl, hh, Cf.rf⟩
    · exact absurd (bI_f hx) h4
end Top
