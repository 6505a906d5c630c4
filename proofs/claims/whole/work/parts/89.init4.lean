/-! The state at first, on both sides. -/
def M0 : tb_M := (0, true, fun _ => 0, fun _ => 0, fun _ _ => 0, fun _ _ => 0, fun _ _ => 0)
def Mst : tb_M := (217, true, gK, gL, gI, gR, fun _ _ => 0)
def g0 : Sg := ([], (0, fun _ => []), (fun _ => none, (0, fun _ => ([], fun _ => none, 0, 0, -1, none)), fun _ => (0, 0, -1, 0, 0, 0, 0), (0, 0, 0, 0)), 0, 0)
section Init4
variable {E : tb_E} {M m m2 : tb_M} {g : Sg}
theorem gK_J : ∀ o, o < 218 → gK o = 104 → o = 217 := by decide +kernel
theorem ent_st {o : Nat} (ho : o < 218) (hc : cel m o = gC o) (hJ : o = 217 → tb_J m o = fun _ => 0) : tb_ent E m o = tb_ent E Mst o := by
  have h1 : tb_K m o = gK o := cel_k hc
  have h2 : tb_Ln m o = if gK o < 100 then 0 else gL o := cel_l hc
  have h3 : tb_I m o = gI o := cel_i hc
  have h4 : tb_R m o = gR o := cel_r hc
  have s1 : tb_K Mst o = gK o := rfl
  have s2 : tb_Ln Mst o = gL o := rfl
  have s3 : tb_I Mst o = gI o := rfl
  have s4 : tb_R Mst o = gR o := rfl
  have s5 : tb_J Mst o = fun _ => 0 := rfl
  unfold tb_ent tb_en
  rw [h1, h2, h3, h4, s1, s2, s3, s4, s5]
  by_cases c : gK o < 100
  · rw [if_pos c, if_pos c]
  · rw [if_neg c, if_neg c, if_neg c]
    by_cases c4 : gK o = 104
    · rw [hJ (gK_J o ho c4)]
    · rw [if_neg c4, if_neg c4]
theorem HR_st (hn : tb_n m = 217) (hu : tb_u m = true) (hc : ∀ o, 1 ≤ o → o ≤ 217 → cel m o = gC o) (hJ : tb_J m 217 = fun _ => 0) {H : Heap} (h : tb_HR E m H) : tb_HR E Mst H := by
  obtain ⟨h1, h2, -, -, h5, h6⟩ := h
  have e : tb_ws E m = tb_ws E Mst := by
    unfold tb_ws
    rw [hn]
    show List.map _ (List.range 217) = List.map _ (List.range 217)
    apply List.map_congr_left
    intro r hr
    have hr' : r < 217 := List.mem_range.mp hr
    rw [ent_st (by omega) (hc (r + 1) (by omega) (by omega)) (fun z => by rw [z]; exact hJ)]
  refine ⟨by rw [← e]; exact h1, h2, rfl, fun o ho => gK_big (by have : 217 < o := ho; omega), h5, fun _ => ?_⟩
  have := h6 hu
  rw [hn] at this
  exact this
theorem HR_0 : tb_HR E M0 E.2.1.heap := by
  refine ⟨fun k q hq => ?_, fun _ _ => rfl, rfl, fun _ _ => rfl, Nat.le_refl _, fun _ => rfl⟩
  have e : tb_ws E M0 = [] := rfl
  rw [e] at hq
  cases hq
theorem gI_tx {t : Nat} (h : gK t = 6) : gI t = zI ∧ gI (t + 1) = zI := by
  have h1 := gK_tx t (gK_lt (by omega)) h
  constructor
  · simp [gI, h]
  · simp [gI, h1.1]
theorem st_tx {t : Nat} (h : gK t = 6) : TxOk Mst t 0 := by
  obtain ⟨a, b⟩ := gI_tx h
  refine ⟨h, ?_, by omega, fun i _ => ?_⟩
  · show gI t 1 = nI 0
    rw [a]; rfl
  · show narrow .char (.int (gI (t + 1) i)) = .int (gI (t + 1) i)
    rw [b]; rfl
theorem gI_sh {t : Nat} (h : gK t = 4) (ht : t < 178) : gI (t + 1) = fl1 (gL (t + 1)) ∧ gI (t + 2) = zI := by
  obtain ⟨-, g2, g3⟩ := gC_sh h ht
  exact ⟨congrArg (fun z => z.2.2.1) g2, congrArg (fun z => z.2.2.1) g3⟩
theorem st_sh {t : Nat} (h : gK t = 4) (ht : t < 178) : ShOk Mst t := by
  obtain ⟨a, b⟩ := gI_sh h ht
  refine ⟨h, fun p hp => Or.inl ?_, fun i _ => ?_⟩
  · show gI (t + 1) p = -1
    rw [a]
    unfold fl1
    rw [if_pos hp]
  · show narrow .short (.int (gI (t + 2) i)) = .int (gI (t + 2) i)
    rw [b]; rfl
theorem st_fs {t : Nat} (h : gK t = 4) (ht : t < 178) (hL : gL (t + 1) = 12) : FsIs Mst t (fun _ => none) := by
  obtain ⟨a, b⟩ := gI_sh h ht
  refine ⟨st_sh h ht, fun f hf => pl_none ?_⟩
  show gI (t + 1) f = -1
  rw [a, hL]
  unfold fl1
  rw [if_pos hf]
theorem st_R5 {k : Nat} (hk : k < 10) : tb_R Mst 5 k = 6 + 2 * k := by
  show rwf 6 2 10 k = _
  unfold rwf
  rw [if_pos hk]
theorem st_R33 {k : Nat} (hk : k < 24) : tb_R Mst 33 k = 34 + 6 * k := by
  show rwf 34 6 24 k = _
  unfold rwf
  rw [if_pos hk]
theorem st_Sh : Sh Mst := by
  refine ⟨rfl, rfl, ⟨rfl, rfl, rfl, rfl, rfl, rfl, rfl, rfl, rfl⟩, fun t ht => ?_, fun t ht => ?_, fun t ht => ?_, fun k hk => ?_, fun j _ => rfl⟩
  · show gR t 0 = t + 1
    simp [gR, ht, va_up]
  · show gR t 0 = t + 1 ∧ gR t 1 = t + 2
    simp [gR, ht, va_up]
  · show gR t 0 = t + 1 ∧ gR t 1 = t + 3
    simp [gR, ht, va_up]
  · show rwf 180 1 10 k = 180 + k
    unfold rwf
    rw [if_pos hk]
    omega
theorem st_CIs : CIs Mst g0 := by
  refine ⟨st_Sh, ⟨⟨0, st_tx rfl⟩, rfl⟩, ⟨⟨rfl, by decide, fun k hk => ?_, fun i j hi hj e => ?_⟩, fun k hk => ⟨0, ?_⟩, fun k hk => absurd hk (Nat.not_lt_zero _)⟩, st_fs rfl (by decide) rfl, st_sh rfl (by decide), ⟨⟨rfl, by decide, fun k hk => ⟨0, ?_⟩, fun i j hi hj e => ?_⟩, fun k hk => absurd hk (Nat.not_lt_zero _)⟩, ⟨rfl, Or.inl rfl, fun z => absurd z (by decide)⟩, rfl⟩
  · rw [st_R5 hk]
    exact ⟨gK_Scr k hk, by omega, by omega⟩
  · rw [st_R5 hi, st_R5 hj] at e
    omega
  · rw [st_R5 hk]
    exact st_tx (gK_Scr k hk)
  · rw [st_R33 hk]
    have h7 := gK_Str k hk
    obtain ⟨hk1, hk3, hL4, -⟩ := gK_tr _ (gK_lt (by omega)) h7
    have h178 := gK_tr5 _ (gK_lt (by omega)) h7
    refine ⟨h7, st_tx hk1, st_sh hk3 (by omega), Or.inl ?_⟩
    show gI (34 + 6 * k) 4 = -1
    simp [gI, h7, va_up]
  · rw [st_R33 hi, st_R33 hj] at e
    omega
theorem st_MIs : MIs Mst g0 := by
  have h191 : ∀ f, f < 12 → tb_I Mst 191 f = -1 := fun f hf => by
    show fl1 12 f = -1
    unfold fl1
    rw [if_pos hf]
  refine ⟨st_Sh, ⟨rfl, by decide, fun i hi => absurd hi (Nat.not_lt_zero _)⟩, ⟨rfl, by decide, fun k hk => absurd hk (Nat.not_lt_zero _)⟩, ⟨fun f hf => Or.inl (h191 f hf), fun f hf => pl_none (h191 f hf)⟩, ⟨rfl, by decide, fun k hk => absurd hk (Nat.not_lt_zero _)⟩, ⟨rfl, Or.inl rfl, fun z => absurd z (by decide)⟩, rfl⟩
/-- the class's call leaves the reference -/
theorem MIs.cf (h : MIs M g) (hS : Sh m) (hI : ∀ q, 190 ≤ q → tb_I m q = tb_I M q) : MIs m g := by
  have e : ∀ j, tb_I m 190 j = tb_I M 190 j := fun j => by rw [hI 190 (by omega)]
  exact ⟨hS, h.2.1.of (e 5) (hI _ (by omega)), h.2.2.1.of (e 7) (hI _ (by omega)) (hI _ (by omega)), h.2.2.2.1.of (hI _ (by omega)) (hI _ (by omega)), h.2.2.2.2.1.of (e 10) (fun q _ _ => hI q (by omega)), h.2.2.2.2.2.1.of (e 26) (fun j _ _ => e j) (fun q _ _ => hI q (by omega)), by rw [e]; exact h.2.2.2.2.2.2⟩
/-- the reference's call leaves the class -/
theorem CIs.on (h : CIs M g) (o : On M m AM) : CIs m g := by
  obtain ⟨hS, hH, hC, hF, hB, hSt, hL, hA⟩ := h
  have hi : ∀ q, q < 190 → tb_I m q = tb_I M q := fun q hq => o.i (by omega)
  exact ⟨o.sh hS, hH.of (hi _ (by omega)) (hi _ (by omega)), hC.of (by rw [o.r]) (fun q _ _ => hi q (by omega)), hF.of (hi _ (by omega)) (hi _ (by omega)), hB.of (hi _ (by omega)) (hi _ (by omega)), hSt.of (by rw [hi _ (by omega)]) (by rw [o.r]) (fun q _ _ => hi q (by omega)), hL.of (by rw [hi _ (by omega)]) (fun q _ _ => hi q (by omega)) hC.1.2.1, by rw [hi _ (by omega)]; exact hA⟩
theorem On.j {A : Nat → Prop} (o : On M m A) : tb_J m = tb_J M := by
  obtain ⟨I, rfl, -⟩ := o
  rfl
end Init4
