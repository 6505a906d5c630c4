/-! Shelf: what its writes come to; Trace. -/
theorem tb_Ok_mono {E : tb_E} {k : tb_MD} {d mc ms : Nat} {A : List tb_V} {M : tb_M} {Q Q' : tb_O → tb_M → Prop} (h : tb_Ok E k d mc ms A M Q) (hq : ∀ o m, Q o m → Q' o m) : tb_Ok E k d mc ms A M Q' := by
  intro p e ha hc hk s m args below hf happ hP hK
  obtain ⟨n, o, h1, h2, h3, ⟨⟨o', M', q1, q2, q3⟩, q4⟩, q5⟩ := h p e ha hc hk s m args below hf happ hP hK
  exact ⟨n, o, h1, h2, h3, ⟨⟨o', M', hq _ _ q1, q2, q3⟩, q4⟩, q5⟩
def app6 (v : Option (List Int32)) (x : Int32) : Option (List Int32) := if ln v < 6 then some (v.getD [] ++ [x]) else v
theorem ln_le {M : tb_M} {s p : Nat} (hT : ShOk M s) (hp : p < gL (s + 1)) : ln (pl M s p) ≤ 6 := by
  rcases pl_cases hT hp with ⟨e1, e2⟩ | ⟨n, hn, e1, e2⟩
  · rw [e2]; exact Nat.zero_le _
  · rw [e2]; simpa [ln] using hn
theorem PlSet.away {M : tb_M} {s p : Nat} (hT : ShOk M s) (hp : p < gL (s + 1)) : PlSet M (tb_sI M (s + 1) p (-1)) s p none := by
  have e1 : tb_I (tb_sI M (s + 1) p (-1)) (s + 1) = va_up (tb_I M (s + 1)) p (-1) := sI_at _ _ _ _
  have e2 : tb_I (tb_sI M (s + 1) p (-1)) (s + 2) = tb_I M (s + 2) := sI_of _ _ _ (by omega)
  refine ⟨On.sI (Or.inl rfl), ⟨hT.1, fun q hq => ?_, by rw [e2]; exact hT.2.2⟩, pl_none (by rw [e1]; simp [va_up]), fun q hne hq => ?_⟩
  · rw [e1]
    by_cases e : q = p
    · left; simp [va_up, e]
    · rw [show va_up (tb_I M (s + 1)) p (-1) q = tb_I M (s + 1) q by simp [va_up, e]]; exact hT.2.1 q hq
  · have e3 : tb_I (tb_sI M (s + 1) p (-1)) (s + 1) q = tb_I M (s + 1) q := by rw [e1]; simp [va_up, hne]
    exact pl_eq e3 (fun i _ => by rw [e2]) (by rw [e3]; exact hT.2.1 q hq)
theorem PlSet.empty {M : tb_M} {s p : Nat} (hT : ShOk M s) (hp : p < gL (s + 1)) : PlSet M (tb_sI M (s + 1) p 0) s p (some []) := by
  have e1 : tb_I (tb_sI M (s + 1) p 0) (s + 1) = va_up (tb_I M (s + 1)) p 0 := sI_at _ _ _ _
  have e2 : tb_I (tb_sI M (s + 1) p 0) (s + 2) = tb_I M (s + 2) := sI_of _ _ _ (by omega)
  refine ⟨On.sI (Or.inl rfl), ⟨hT.1, fun q hq => ?_, by rw [e2]; exact hT.2.2⟩, ?_, fun q hne hq => ?_⟩
  · rw [e1]
    by_cases e : q = p
    · right; exact ⟨0, by omega, by simp [va_up, e]; rfl⟩
    · rw [show va_up (tb_I M (s + 1)) p 0 q = tb_I M (s + 1) q by simp [va_up, e]]; exact hT.2.1 q hq
  · rw [pl_some (n := 0) (by omega) (by rw [e1]; simp [va_up]; rfl)]; rfl
  · have e3 : tb_I (tb_sI M (s + 1) p 0) (s + 1) q = tb_I M (s + 1) q := by rw [e1]; simp [va_up, hne]
    exact pl_eq e3 (fun i _ => by rw [e2]) (by rw [e3]; exact hT.2.1 q hq)
theorem PlSet.app {M : tb_M} {s p : Nat} {x : Int32} (hT : ShOk M s) (hp : p < gL (s + 1)) (hl : ln (pl M s p) < 6) (hx : narrow .short (.int x) = .int x) : PlSet M (tb_sI (tb_sI M (s + 2) (6 * p + ln (pl M s p)) x) (s + 1) p (nI (ln (pl M s p) + 1))) s p (some ((pl M s p).getD [] ++ [x])) := by
  generalize hk : ln (pl M s p) = k at hl ⊢
  have e1 : tb_I (tb_sI (tb_sI M (s + 2) (6 * p + k) x) (s + 1) p (nI (k + 1))) (s + 1) = va_up (tb_I M (s + 1)) p (nI (k + 1)) := by rw [sI_at, sI_of _ _ _ (by omega)]
  have e2 : tb_I (tb_sI (tb_sI M (s + 2) (6 * p + k) x) (s + 1) p (nI (k + 1))) (s + 2) = va_up (tb_I M (s + 2)) (6 * p + k) x := by rw [sI_of _ _ _ (by omega), sI_at]
  refine ⟨(On.sI (Or.inr rfl)).trans (On.sI (Or.inl rfl)), ⟨hT.1, fun q hq => ?_, fun i hi => ?_⟩, ?_, fun q hne hq => ?_⟩
  · rw [e1]
    by_cases e : q = p
    · right; exact ⟨k + 1, by omega, by simp [va_up, e]⟩
    · rw [show va_up (tb_I M (s + 1)) p (nI (k + 1)) q = tb_I M (s + 1) q by simp [va_up, e]]; exact hT.2.1 q hq
  · rw [e2]
    by_cases e : i = 6 * p + k
    · rw [show va_up (tb_I M (s + 2)) (6 * p + k) x i = x by simp [va_up, e]]; exact hx
    · rw [show va_up (tb_I M (s + 2)) (6 * p + k) x i = tb_I M (s + 2) i by simp [va_up, e]]; exact hT.2.2 i hi
  · rw [pl_some (n := k + 1) (by omega) (by rw [e1]; simp [va_up])]
    congr 1
    rw [List.range_succ, List.map_append, e2]
    congr 1
    · rcases pl_cases hT hp with ⟨f1, f2⟩ | ⟨n, hn, f1, f2⟩
      · rw [f2] at hk ⊢
        have : k = 0 := by rw [← hk]; rfl
        subst this
        rfl
      · rw [f2] at hk ⊢
        have : k = n := by rw [← hk]; simp [ln]
        subst this
        show _ = List.map _ _
        apply List.map_congr_left
        intro i hi
        have := List.mem_range.mp hi
        simp [va_up]
        omega
    · simp [va_up]
  · have e3 : tb_I (tb_sI (tb_sI M (s + 2) (6 * p + k) x) (s + 1) p (nI (k + 1))) (s + 1) q = tb_I M (s + 1) q := by rw [e1]; simp [va_up, hne]
    refine pl_eq e3 (fun i hi => ?_) (by rw [e3]; exact hT.2.1 q hq)
    rw [e2]
    simp [va_up]
    omega
theorem PlSet.same {M : tb_M} {s p : Nat} {v : Option (List Int32)} (hT : ShOk M s) (h : pl M s p = v) : PlSet M M s p v := ⟨On.rf, hT, h, fun _ _ _ => rfl⟩
theorem ok_Sh_append {E : tb_E} {M : tb_M} {s p : Nat} (hG : tb_G E) (hS : Sh M) (hT : ShOk M s) (hp : p < gL (s + 1)) {x : Int32} (hx : narrow .short (.int x) = .int x) (d : Nat) : tb_Rel E m_Sh_append (d + 1) [.inr (.inl s), .inl (nI p), .inl x] M (fun v M1 => v = some (.inl (bI (ln (pl M s p) < 6))) ∧ PlSet M M1 s p (app6 (pl M s p) x)) := by
  by_cases h : ln (pl M s p) < 6
  · have hc := ok_Sh_append1 hG hS hT hp (x := x) h d
    rw [nar_sh hx] at hc
    refine tb_Ok_mono hc (fun o m hm => ?_)
    obtain ⟨rfl, rfl⟩ := hm
    exact ⟨_, rfl, by rw [bI_t h], by unfold app6; rw [if_pos h]; exact PlSet.app hT hp h hx⟩
  · have hc := ok_Sh_append0 hG hS hT hp (x := x) (by have := ln_le hT hp; omega) d
    refine tb_Ok_mono hc (fun o m hm => ?_)
    obtain ⟨rfl, rfl⟩ := hm
    exact ⟨_, rfl, by rw [bI_f h], by unfold app6; rw [if_neg h]; exact PlSet.same hT rfl⟩

/-- the cells of a trace -/
abbrev ATr (t : Nat) : Nat → Prop := fun q => t ≤ q ∧ q ≤ t + 5
/-- the trace at t: its text has n characters -/
def TrOk (M : tb_M) (t n : Nat) : Prop := gK t = 7 ∧ TxOk M (t + 1) n ∧ ShOk M (t + 3) ∧ (tb_I M t 4 = -1 ∨ ∃ f, f < 12 ∧ tb_I M t 4 = nI f)
theorem gK_tr34 : ∀ t, t < 218 → gK t = 7 → 34 ≤ t := by decide +kernel
theorem Sh.tr {M : tb_M} (h : Sh M) {t : Nat} (ht : gK t = 7) : tb_K M t = 7 ∧ tb_R M t 0 = t + 1 ∧ tb_R M t 1 = t + 3 ∧ tb_K M (t + 1) = 6 ∧ tb_K M (t + 3) = 4 ∧ gL (t + 4) = 13 := by
  have h1 := gK_tr t (gK_lt (by omega)) ht
  exact ⟨h.k ht, (h.2.2.2.2.2.1 t ht).1, (h.2.2.2.2.2.1 t ht).2, h.k h1.1, h.k h1.2.1, h1.2.2.1⟩
noncomputable def wm (w : Int32) : Int32 := if w = -1 then 0 else 1 <<< (w &&& 31)
def bt (x : Int32) (f : Nat) : Prop := ¬ x &&& (1 <<< (nI f &&& 31)) = 0
theorem TxOk.on {M M1 : tb_M} {A : Nat → Prop} (h : On M M1 A) {o n : Nat} (h1 : ¬ A o) (h2 : ¬ A (o + 1)) (hO : TxOk M o n) : TxOk M1 o n := by
  refine ⟨hO.1, ?_, hO.2.2.1, ?_⟩
  · rw [h.i h1]; exact hO.2.1
  · rw [h.i h2]; exact hO.2.2.2
theorem bec_on (M : tb_M) (t o n : Nat) : On M (bec M t o n n) (fun q => q = t ∨ q = t + 1) := by
  refine ⟨_, rfl, fun q hq => ?_⟩
  funext i
  rw [if_neg (fun z => hq (Or.inl z)), if_neg (fun z => hq (Or.inr z))]
theorem bec_ok {M : tb_M} {t o n : Nat} (ht : gK t = 6) (hT : ∀ i, i < 12 → narrow .char (.int (tb_I M (t + 1) i)) = .int (tb_I M (t + 1) i)) (hO : TxOk M o n) : TxOk (bec M t o n n) t n ∧ ∀ i, i < n → tb_I (bec M t o n n) (t + 1) i = tb_I M (o + 1) i := by
  have e1 : ∀ i, tb_I (bec M t o n n) (t + 1) i = if i < n then tb_I M (o + 1) i else tb_I M (t + 1) i := by
    intro i
    show (if t + 1 = t then _ else if t + 1 = t + 1 then _ else _) = _
    rw [if_neg (by omega), if_pos rfl]
  refine ⟨⟨ht, ?_, hO.2.2.1, fun i hi => ?_⟩, fun i hi => by rw [e1, if_pos hi]⟩
  · show (if t = t then (if 1 = 1 then nI n else _) else _) = _
    rw [if_pos rfl, if_pos rfl]
  · rw [e1]
    by_cases h : i < n
    · rw [if_pos h]; exact hO.2.2.2 i hi
    · rw [if_neg h]; exact hT i hi
section Trace
variable {E : tb_E} {M : tb_M} {t n s : Nat}
theorem ok_Tr_isOf (hG : tb_G E) (hS : Sh M) (hT : TrOk M t n) {o n' : Nat} (hO : TxOk M o n') (d : Nat) : tb_Ret E m_Tr_isOf (d + 1) [.inr (.inl t), .inr (.inl o)] M (some (.inl (bI (sameT M (t + 1) n o n')))) M := by
  obtain ⟨k1, r0, r1, k2, k3, g4⟩ := hS.tr hT.1
  have ht34 := gK_tr34 t (gK_lt (by rw [hT.1]; decide)) hT.1
  refine tb_okOf hG (by decide) rfl (Nat.le_of_ble_eq_true rfl) rfl ?_
  refine tb_aload_0 d_Tr_isOf_0 rfl ?_
  refine g_Tr_12 d_Tr_isOf_1 rfl rfl (by first | exact k1 | exact k2 | exact k3) ?_
  refine tb_topR r0 ?_
  refine tb_aload_1 d_Tr_isOf_4 rfl ?_
  refine tb_callVr c_Tr_45 d_Tr_isOf_5 rfl rfl rfl (Nat.le_of_ble_eq_true rfl) (by first | exact k1 | exact k2 | exact k3) (ok_Tx_isSame hG hS hT.2.1 hO d) ?_
  refine tb_ireturn d_Tr_isOf_8 rfl (by exact bI_nar _) ?_
  exact ⟨rfl, rfl⟩
theorem ok_Tr_written (hG : tb_G E) (hS : Sh M) (hT : gK t = 7) (d : Nat) : tb_Ret E m_Tr_written d [.inr (.inl t)] M (some (.inl (wm (tb_I M t 4)))) M := by
  obtain ⟨k1, r0, r1, k2, k3, g4⟩ := hS.tr hT
  refine tb_okOf hG (by decide) rfl (Nat.le_of_ble_eq_true rfl) rfl ?_
  refine tb_aload_0 d_Tr_written_0 rfl ?_
  refine g_Tr_34 d_Tr_written_1 rfl rfl (by first | exact k1 | exact k2 | exact k3) ?_
  refine tb_iconst (-1) (by decide) d_Tr_written_4 rfl ?_
  refine tb_icmp_ne 12 d_Tr_written_5 (by decide) rfl (fun h5 => ?_) (fun h5 => ?_)
  · have hw : wm (tb_I M t 4) = 1 <<< (tb_I M t 4 &&& 31) := by unfold wm; rw [if_neg h5]
    refine tb_iconst (1) (by decide) d_Tr_written_12 rfl ?_
    refine tb_aload_0 d_Tr_written_13 rfl ?_
    refine g_Tr_34 d_Tr_written_14 rfl rfl (by first | exact k1 | exact k2 | exact k3) ?_
    refine tb_ishl d_Tr_written_17 rfl ?_
    refine tb_ireturn d_Tr_written_18 rfl (by first | rfl | assumption) ?_
    exact ⟨by rw [hw], rfl⟩
  · have hw : wm (tb_I M t 4) = 0 := by unfold wm; rw [if_pos h5]
    refine tb_iconst (0) (by decide) d_Tr_written_8 rfl ?_
    refine tb_goto 18 d_Tr_written_9 (by decide) ?_
    refine tb_ireturn d_Tr_written_18 rfl (by first | rfl | assumption) ?_
    exact ⟨by rw [hw], rfl⟩
theorem ok_Tr_touched (hG : tb_G E) (hS : Sh M) (hT : gK t = 7) (d : Nat) : tb_Ret E m_Tr_touched (d + 1) [.inr (.inl t)] M (some (.inl ((tb_I M t 2 ||| tb_I M t 3) ||| wm (tb_I M t 4)))) M := by
  obtain ⟨k1, r0, r1, k2, k3, g4⟩ := hS.tr hT
  refine tb_okOf hG (by decide) rfl (Nat.le_of_ble_eq_true rfl) rfl ?_
  refine tb_aload_0 d_Tr_touched_0 rfl ?_
  refine g_Tr_27 d_Tr_touched_1 rfl rfl (by first | exact k1 | exact k2 | exact k3) ?_
  refine tb_aload_0 d_Tr_touched_4 rfl ?_
  refine g_Tr_31 d_Tr_touched_5 rfl rfl (by first | exact k1 | exact k2 | exact k3) ?_
  refine tb_ior d_Tr_touched_8 rfl ?_
  refine tb_aload_0 d_Tr_touched_9 rfl ?_
  refine tb_callVr c_Tr_66 d_Tr_touched_10 rfl rfl rfl (Nat.le_of_ble_eq_true rfl) (by first | exact k1 | exact k2 | exact k3) (ok_Tr_written hG hS hT d) ?_
  refine tb_ior d_Tr_touched_13 rfl ?_
  refine tb_ireturn d_Tr_touched_14 rfl (by first | rfl | assumption) ?_
  exact ⟨rfl, rfl⟩
/-- what a trace touches -/
noncomputable def tch (M : tb_M) (t : Nat) : Int32 := (tb_I M t 2 ||| tb_I M t 3) ||| wm (tb_I M t 4)
def inWay (M : tb_M) (t u : Nat) : Prop := ¬ wm (tb_I M t 4) &&& tch M u = 0 ∨ ¬ wm (tb_I M u 4) &&& tch M t = 0
theorem ok_Tr_inWay (hG : tb_G E) (hS : Sh M) (hT : gK t = 7) {u : Nat} (hU : gK u = 7) (d : Nat) : tb_Ret E m_Tr_isInTheWayOf (d + 2) [.inr (.inl t), .inr (.inl u)] M (some (.inl (bI (inWay M t u)))) M := by
  have k1 := hS.k hT
  have k2 := hS.k hU
  refine tb_okOf hG (by decide) rfl (Nat.le_of_ble_eq_true rfl) rfl ?_
  refine tb_aload_0 d_Tr_isInTheWayOf_0 rfl ?_
  refine tb_callVr c_Tr_66 d_Tr_isInTheWayOf_1 rfl rfl rfl (Nat.le_of_ble_eq_true rfl) (by first | exact k1 | exact k2) (ok_Tr_written hG hS hT (d + 1)) ?_
  refine tb_aload_1 d_Tr_isInTheWayOf_4 rfl ?_
  refine tb_callVr c_Tr_69 d_Tr_isInTheWayOf_5 rfl rfl rfl (Nat.le_of_ble_eq_true rfl) (by first | exact k1 | exact k2) (ok_Tr_touched hG hS hU d) ?_
  refine tb_iand d_Tr_isInTheWayOf_8 rfl ?_
  refine tb_if_ne 24 d_Tr_isInTheWayOf_9 (by decide) rfl (fun h9 => ?_) (fun h9 => ?_)
  · have hf : bI (inWay M t u) = 1 := bI_t (Or.inl h9)
    refine tb_iconst (1) (by decide) d_Tr_isInTheWayOf_24 rfl ?_
    refine tb_goto 29 d_Tr_isInTheWayOf_25 (by decide) ?_
    refine tb_ireturn d_Tr_isInTheWayOf_29 rfl (by first | rfl | assumption) ?_
    exact ⟨by rw [hf], rfl⟩
  · refine tb_aload_1 d_Tr_isInTheWayOf_12 rfl ?_
    refine tb_callVr c_Tr_66 d_Tr_isInTheWayOf_13 rfl rfl rfl (Nat.le_of_ble_eq_true rfl) (by first | exact k1 | exact k2) (ok_Tr_written hG hS hU (d + 1)) ?_
    refine tb_aload_0 d_Tr_isInTheWayOf_16 rfl ?_
    refine tb_callVr c_Tr_69 d_Tr_isInTheWayOf_17 rfl rfl rfl (Nat.le_of_ble_eq_true rfl) (by first | exact k1 | exact k2) (ok_Tr_touched hG hS hT d) ?_
    refine tb_iand d_Tr_isInTheWayOf_20 rfl ?_
    refine tb_if_eq 28 d_Tr_isInTheWayOf_21 (by decide) rfl (fun h21 => ?_) (fun h21 => ?_)
    · have hf : bI (inWay M t u) = 0 := bI_f (fun z => z.elim (fun z => z h9) (fun z => z h21))
      refine tb_iconst (0) (by decide) d_Tr_isInTheWayOf_28 rfl ?_
      refine tb_ireturn d_Tr_isInTheWayOf_29 rfl (by first | rfl | assumption) ?_
      exact ⟨by rw [hf], rfl⟩
    · have hf : bI (inWay M t u) = 1 := bI_t (Or.inr h21)
      refine tb_iconst (1) (by decide) d_Tr_isInTheWayOf_24 rfl ?_
      refine tb_goto 29 d_Tr_isInTheWayOf_25 (by decide) ?_
      refine tb_ireturn d_Tr_isInTheWayOf_29 rfl (by first | rfl | assumption) ?_
      exact ⟨by rw [hf], rfl⟩
noncomputable def askCh (M : tb_M) (t s : Nat) : Int32 := tb_I M t 3 &&& (msk (fun p => pl M (t + 3) p ≠ none) 12 ^^^ msk (fun p => pl M s p ≠ none) 12)
theorem ok_Tr_asked (hG : tb_G E) (hS : Sh M) (hT : TrOk M t n) (hF : ShOk M s) (d : Nat) : tb_Ret E m_Tr_askedAndChanged (d + 1) [.inr (.inl t), .inr (.inl s)] M (some (.inl (askCh M t s))) M := by
  obtain ⟨k1, r0, r1, k2, k3, g4⟩ := hS.tr hT.1
  have ht34 := gK_tr34 t (gK_lt (by rw [hT.1]; decide)) hT.1
  have kS := hS.k hF.1
  refine tb_okOf hG (by decide) rfl (Nat.le_of_ble_eq_true rfl) rfl ?_
  refine tb_aload_0 d_Tr_askedAndChanged_0 rfl ?_
  refine g_Tr_31 d_Tr_askedAndChanged_1 rfl rfl (by first | exact k1 | exact k2 | exact k3 | exact kS) ?_
  refine tb_aload_0 d_Tr_askedAndChanged_4 rfl ?_
  refine g_Tr_23 d_Tr_askedAndChanged_5 rfl rfl (by first | exact k1 | exact k2 | exact k3 | exact kS) ?_
  refine tb_topR r1 ?_
  refine tb_callVr c_Tr_52 d_Tr_askedAndChanged_8 rfl rfl rfl (Nat.le_of_ble_eq_true rfl) (by first | exact k1 | exact k2 | exact k3 | exact kS) (ok_Sh_those hG hS hT.2.2.1 d) ?_
  refine tb_aload_1 d_Tr_askedAndChanged_11 rfl ?_
  refine tb_callVr c_Tr_52 d_Tr_askedAndChanged_12 rfl rfl rfl (Nat.le_of_ble_eq_true rfl) (by first | exact k1 | exact k2 | exact k3 | exact kS) (ok_Sh_those hG hS hF d) ?_
  refine tb_ixor d_Tr_askedAndChanged_15 rfl ?_
  refine tb_iand d_Tr_askedAndChanged_16 rfl ?_
  refine tb_ireturn d_Tr_askedAndChanged_17 rfl (by first | rfl | assumption) ?_
  exact ⟨rfl, rfl⟩
def chg (M : tb_M) (t s f : Nat) : Prop := bt (tb_I M t 2) f ∧ pl M (t + 3) f ≠ pl M s f
theorem lp_Tr_read (hG : tb_G E) (hS : Sh M) (hT : TrOk M t n) (hF : ShOk M s) {d rc rs : Nat} {Q : tb_O → tb_M → Prop} (hQ : Q (.inl (some (.inl (msk (chg M t s) 12)))) M) : ∀ (m j : Nat), 12 - j = m → j ≤ 12 → tb_Wp E m_Tr_readAndChanged (d + 1) rc rs 4 [some (.inr t), some (.inr s), some (.inl (msk (chg M t s) j)), some (.inl (nI j))] [] M Q := by
  obtain ⟨k1, r0, r1, k2, k3, g4⟩ := hS.tr hT.1
  have ht34 := gK_tr34 t (gK_lt (by rw [hT.1]; decide)) hT.1
  have kS := hS.k hF.1
  obtain ⟨-, -, -, -, -, -, -, b3, b4⟩ := hS.sh hF.1
  intro m
  induction m using Nat.strongRecOn with
  | ind m ih =>
    intro j hm hj
    refine tb_iload_3 d_Tr_readAndChanged_4 rfl ?_
    refine tb_bipush (12) (by decide) d_Tr_readAndChanged_5 rfl ?_
    refine tb_icmp_ge 46 d_Tr_readAndChanged_7 (by decide) rfl (fun h7 => ?_) (fun h7 => ?_)
    · have hje : 12 ≤ j := (nI_leI (a := 12) (b := j) (by omega) (by omega)).mp h7
      have hj12 : j = 12 := by omega
      subst hj12
      refine tb_iload_2 d_Tr_readAndChanged_46 rfl ?_
      refine tb_ireturn d_Tr_readAndChanged_47 rfl (by first | rfl | assumption) ?_
      exact hQ
    · have hlt : j < 12 := Nat.lt_of_not_le (fun q => h7 ((nI_leI (a := 12) (b := j) (by omega) (by omega)).mpr q))
      refine tb_aload_0 d_Tr_readAndChanged_10 rfl ?_
      refine g_Tr_27 d_Tr_readAndChanged_11 rfl rfl (by first | exact k1 | exact k2 | exact k3 | exact kS) ?_
      refine tb_iconst (1) (by decide) d_Tr_readAndChanged_14 rfl ?_
      refine tb_iload_3 d_Tr_readAndChanged_15 rfl ?_
      refine tb_ishl d_Tr_readAndChanged_16 rfl ?_
      refine tb_iand d_Tr_readAndChanged_17 rfl ?_
      refine tb_if_eq 40 d_Tr_readAndChanged_18 (by decide) rfl (fun h18 => ?_) (fun h18 => ?_)
      · have hm2 := msk_f (b := chg M t s) (n := j) (fun q => q.1 h18)
        refine tb_iinc_3 (1) d_Tr_readAndChanged_40 rfl (by decide) (by decide) ?_
        refine tb_goto 4 d_Tr_readAndChanged_43 (by decide) ?_
        rw [nI_1, ← hm2]
        exact ih (12 - (j + 1)) (by omega) (j + 1) rfl (by omega)
      · refine tb_aload_0 d_Tr_readAndChanged_21 rfl ?_
        refine g_Tr_23 d_Tr_readAndChanged_22 rfl rfl (by first | exact k1 | exact k2 | exact k3 | exact kS) ?_
        refine tb_topR r1 ?_
        refine tb_iload_3 d_Tr_readAndChanged_25 rfl ?_
        refine tb_aload_1 d_Tr_readAndChanged_26 rfl ?_
        refine tb_iload_3 d_Tr_readAndChanged_27 rfl ?_
        refine tb_callVr c_Tr_49 d_Tr_readAndChanged_28 rfl rfl rfl (Nat.le_of_ble_eq_true rfl) (by first | exact k1 | exact k2 | exact k3 | exact kS) (ok_Sh_isSame hG hS hT.2.2.1 hF (show j < gL (t + 4) by omega) (show j < gL (s + 1) by omega) d) ?_
        refine tb_if_ne 40 d_Tr_readAndChanged_31 (by decide) rfl (fun h31 => ?_) (fun h31 => ?_)
        · have hm2 := msk_f (b := chg M t s) (n := j) (fun q => h31 (bI_f q.2))
          refine tb_iinc_3 (1) d_Tr_readAndChanged_40 rfl (by decide) (by decide) ?_
          refine tb_goto 4 d_Tr_readAndChanged_43 (by decide) ?_
          rw [nI_1, ← hm2]
          exact ih (12 - (j + 1)) (by omega) (j + 1) rfl (by omega)
        · have hm2 := msk_t (b := chg M t s) (n := j) ⟨h18, bI_0.mp h31⟩
          refine tb_iload_2 d_Tr_readAndChanged_34 rfl ?_
          refine tb_iconst (1) (by decide) d_Tr_readAndChanged_35 rfl ?_
          refine tb_iload_3 d_Tr_readAndChanged_36 rfl ?_
          refine tb_ishl d_Tr_readAndChanged_37 rfl ?_
          refine tb_ior d_Tr_readAndChanged_38 rfl ?_
          refine tb_istore_2 d_Tr_readAndChanged_39 rfl (by decide) ?_
          refine tb_iinc_3 (1) d_Tr_readAndChanged_40 rfl (by decide) (by decide) ?_
          refine tb_goto 4 d_Tr_readAndChanged_43 (by decide) ?_
          rw [nI_1, ← hm2]
          exact ih (12 - (j + 1)) (by omega) (j + 1) rfl (by omega)
theorem ok_Tr_read (hG : tb_G E) (hS : Sh M) (hT : TrOk M t n) (hF : ShOk M s) (d : Nat) : tb_Ret E m_Tr_readAndChanged (d + 1) [.inr (.inl t), .inr (.inl s)] M (some (.inl (msk (chg M t s) 12))) M := by
  refine tb_okOf hG (by decide) rfl (Nat.le_of_ble_eq_true rfl) rfl ?_
  refine tb_iconst (0) (by decide) d_Tr_readAndChanged_0 rfl ?_
  refine tb_istore_2 d_Tr_readAndChanged_1 rfl (by decide) ?_
  refine tb_iconst (0) (by decide) d_Tr_readAndChanged_2 rfl ?_
  refine tb_istore_3 d_Tr_readAndChanged_3 rfl (by decide) ?_
  exact lp_Tr_read hG hS hT hF ⟨rfl, rfl⟩ 12 0 rfl (by omega)
def fitsP (M : tb_M) (t s : Nat) : Prop := askCh M t s = 0 ∧ msk (chg M t s) 12 = 0
theorem ok_Tr_fits (hG : tb_G E) (hS : Sh M) (hT : TrOk M t n) (hF : ShOk M s) (d : Nat) : tb_Ret E m_Tr_fits (d + 2) [.inr (.inl t), .inr (.inl s)] M (some (.inl (bI (fitsP M t s)))) M := by
  have k1 := hS.k hT.1
  refine tb_okOf hG (by decide) rfl (Nat.le_of_ble_eq_true rfl) rfl ?_
  refine tb_aload_0 d_Tr_fits_0 rfl ?_
  refine tb_aload_1 d_Tr_fits_1 rfl ?_
  refine tb_callVr c_Tr_56 d_Tr_fits_2 rfl rfl rfl (Nat.le_of_ble_eq_true rfl) (by first | exact k1) (ok_Tr_asked hG hS hT hF d) ?_
  refine tb_if_ne 20 d_Tr_fits_5 (by decide) rfl (fun h5 => ?_) (fun h5 => ?_)
  · have hf : bI (fitsP M t s) = 0 := bI_f (fun z => h5 z.1)
    refine tb_iconst (0) (by decide) d_Tr_fits_20 rfl ?_
    refine tb_ireturn d_Tr_fits_21 rfl (by first | rfl | assumption) ?_
    exact ⟨by rw [hf], rfl⟩
  · refine tb_aload_0 d_Tr_fits_8 rfl ?_
    refine tb_aload_1 d_Tr_fits_9 rfl ?_
    refine tb_callVr c_Tr_60 d_Tr_fits_10 rfl rfl rfl (Nat.le_of_ble_eq_true rfl) (by first | exact k1) (ok_Tr_read hG hS hT hF d) ?_
    refine tb_if_ne 20 d_Tr_fits_13 (by decide) rfl (fun h13 => ?_) (fun h13 => ?_)
    · have hf : bI (fitsP M t s) = 0 := bI_f (fun z => h13 z.2)
      refine tb_iconst (0) (by decide) d_Tr_fits_20 rfl ?_
      refine tb_ireturn d_Tr_fits_21 rfl (by first | rfl | assumption) ?_
      exact ⟨by rw [hf], rfl⟩
    · have hf : bI (fitsP M t s) = 1 := bI_t ⟨h5, h13⟩
      refine tb_iconst (1) (by decide) d_Tr_fits_16 rfl ?_
      refine tb_goto 21 d_Tr_fits_17 (by decide) ?_
      refine tb_ireturn d_Tr_fits_21 rfl (by first | rfl | assumption) ?_
      exact ⟨by rw [hf], rfl⟩
end Trace
