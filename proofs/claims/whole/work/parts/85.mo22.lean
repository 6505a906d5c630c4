/-! The reference: a run. -/
section Mo22
variable {E : tb_E} {M M1 M2 : tb_M} {fs : Fs} {k n i sp : Nat} {tx : List Int32} {S : StV} {sc : Nat → List Int32} {R : RS} {ah : Int32}
theorem hzA_lt {D : Nat → DeV} {f : Nat} (hf : f < n) : ¬ (hzA D n f).1 = 0 → (hzA D n f).1 ≤ 3 ∧ (hzA D n f).2.1 < n ∧ (hzA D n f).2.2.1 < n := by
  unfold hzA
  cases e1 : fstN (cnA D f 1) n 0 with
  | some e =>
    intro h
    obtain ⟨-, h2, -, -⟩ := fstN_some _ _ e1
    exact ⟨kdA_le D e f, by show e < n; omega, hf⟩
  | none =>
    cases e0 : fstN (cnA D f 0) n 0 with
    | some e =>
      intro h
      obtain ⟨-, h2, -, -⟩ := fstN_some _ _ e0
      exact ⟨kdA_le D e f, by show e < n; omega, hf⟩
    | none => intro h; exact absurd rfl h
theorem perA_hz : (perA tx k n ah R).2.2.2 = hzA (perA tx k n ah R).2.2.1 n k := by
  unfold perA
  cases fitIx R.2.1 tx R.1 <;> rfl
theorem perA_do : ¬ dO ((perA tx k n ah R).2.2.1 k) = 0 := by
  cases h : fitIx R.2.1 tx R.1 with
  | none =>
    rw [perA_none h]
    show ¬ dO (if k = k then _ else _) = 0
    rw [if_pos rfl]
    exact (by decide : ¬ (1 : Int32) = 0)
  | some t =>
    rw [perA_some h]
    show ¬ dO (if k = k then _ else _) = 0
    rw [if_pos rfl]
    show ¬ (@ite Int32 (chgW (R.2.1.2 t) R.1) (Classical.propDecidable _) 3 2) = 0
    by_cases c : chgW (R.2.1.2 t) R.1
    · rw [if_pos c]; decide
    · rw [if_neg c]; decide
theorem hzS_on (h : HzV) : On M (hzS M h) (fun q => q = 190) := by
  unfold hzS
  exact ((On.sI (A := fun q => q = 190) rfl).trans (On.sI (A := fun q => q = 190) rfl)).trans ((On.sI (A := fun q => q = 190) rfl).trans (On.sI (A := fun q => q = 190) rfl))
theorem hzS_at (h : HzV) : tb_I (hzS M h) 190 = va_up (va_up (va_up (va_up (tb_I M 190) 35 (nI h.1)) 36 (nI h.2.1)) 37 (nI h.2.2.1)) 38 h.2.2.2 := by
  unfold hzS
  rw [sI_at, sI_at, sI_at, sI_at]
/-- one command done, and looked at for hazards -/
theorem RM_step (hR : RM M n sc R) (h0 : R.2.2.2.1 = 0) (hk : k < n) (hP : PrP M M1 n (perA (sc k) k n ah R)) (hH : HzN M1 M2 (hzA (perA (sc k) k n ah R).2.2.1 n k)) : RM M2 n sc (perA (sc k) k n ah R) ∧ RF M M2 := by
  obtain ⟨oP, jP, hF, hSt, hD⟩ := hP
  have hz := perA_hz (tx := sc k) (k := k) (n := n) (ah := ah) (R := R)
  have hC : MSc M1 n sc := hR.1.of (jP 7 (by omega) (by omega)) (oP.i (by omega)) (oP.i (by omega))
  rcases hH with ⟨h1, rfl⟩ | ⟨h1, rfl⟩
  · refine ⟨⟨hC, hF, hSt, hD, ?_⟩, oP, fun j a b _ => jP j a b⟩
    rw [hz]
    exact ⟨fun _ => by rw [jP 35 (by omega) (by omega)]; exact hR.2.2.2.2.1 h0, fun z => absurd h1 z⟩
  · have o2 := hzS_on (M := M1) (hzA (perA (sc k) k n ah R).2.2.1 n k)
    have e2 := hzS_at (M := M1) (hzA (perA (sc k) k n ah R).2.2.1 n k)
    have hlt := hzA_lt (D := (perA (sc k) k n ah R).2.2.1) hk h1
    have ej : ∀ j, ¬ (35 ≤ j ∧ j ≤ 38) → tb_I (hzS M1 (hzA (perA (sc k) k n ah R).2.2.1 n k)) 190 j = tb_I M1 190 j := by
      intro j hj
      rw [e2, vu_ne _ _ (by omega), vu_ne _ _ (by omega), vu_ne _ _ (by omega), vu_ne _ _ (by omega)]
    refine ⟨⟨hC.of (ej 7 (by omega)) (o2.i (by omega)) (o2.i (by omega)), hF.of (o2.i (by omega)) (o2.i (by omega)), hSt.of (ej 10 (by omega)) (fun q _ _ => o2.i (by omega)), fun j hj => (hD j hj).of (fun q _ _ => o2.i (by omega)), ?_⟩, oP.trans (o2.mono (fun q hq => by show 190 ≤ q ∧ q < 217 ∧ _; omega)), fun j a b c => by rw [ej j c, jP j a b]⟩
    rw [hz]
    refine ⟨fun z => absurd z h1, fun _ => ⟨hlt.1, hlt.2.1, hlt.2.2, ?_, ?_, ?_, ?_⟩⟩
    · rw [e2, vu_ne _ _ (by omega), vu_ne _ _ (by omega), vu_ne _ _ (by omega), vu_at]
    · rw [e2, vu_ne _ _ (by omega), vu_ne _ _ (by omega), vu_at]
    · rw [e2, vu_ne _ _ (by omega), vu_at]
    · rw [e2, vu_at]
theorem innA_hz (s : Nat) (h : ¬ R.2.2.2.1 = 0) : innA sc n i s R = R := by
  cases s with
  | zero => rfl
  | succ s => unfold innA; rw [if_pos h]
theorem innA_no (s : Nat) (h : aheA sc n R i = none) : innA sc n i s R = R := by
  cases s with
  | zero => rfl
  | succ s =>
    unfold innA
    simp only [h]
    split <;> rfl
theorem innA_go (s : Nat) {j : Nat} (h0 : R.2.2.2.1 = 0) (h : aheA sc n R i = some j) : innA sc n i (s + 1) R = innA sc n i s (perA (sc j) j n 1 R) := by
  rw [innA, if_neg (fun z => z h0), h]
theorem outA_hz (m : Nat) (h : ¬ R.2.2.2.1 = 0) : outA sc n sp m i R = R := by
  cases m with
  | zero => rfl
  | succ m => unfold outA; rw [if_pos h]
theorem outA_go (m : Nat) (h0 : R.2.2.2.1 = 0) : outA sc n sp (m + 1) i R = outA sc n sp m (i + 1) (innA sc n i sp (if dO (R.2.2.1 i) = 0 then perA (sc i) i n 0 R else R)) := by
  rw [outA, if_neg (fun z => z h0)]
/-- the command to be done ahead -/
theorem lp_Mo_find (hG : tb_G E) (hS : Sh M) (hR : RM M n sc R) (hi : i < n) {d rc rs : Nat} {l2 l3 : tb_L} {Q : tb_O → tb_M → Prop} (hN : aheA sc n R i = none → Q (.inl (some (.inl 1))) M) (hY : ∀ j, aheA sc n R i = some j → j < n → tb_Wp E m_Mo_tryAhead (d + 5) rc rs 48 [some (.inr 190), some (.inl (nI i)), l2, l3, some (.inl (nI j))] [] M Q) : ∀ (w j : Nat), n - j = w → i + 2 ≤ j → j ≤ 12 → (∀ g, i + 2 ≤ g → g < j → ¬ (dO (R.2.2.1 g) = 0 ∧ safA sc R i g)) → tb_Wp E m_Mo_tryAhead (d + 5) rc rs 12 [some (.inr 190), some (.inl (nI i)), l2, l3, some (.inl (nI j))] [] M Q := by
  have hC := hR.1
  have hn := hC.2.1
  intro w
  induction w using Nat.strongRecOn with
  | ind w ih =>
    intro j hw hj h12 hall
    refine tb_iload_4 d_Mo_tryAhead_12 rfl ?_
    refine tb_aload_0 d_Mo_tryAhead_14 rfl ?_
    refine g_Mo_125 d_Mo_tryAhead_15 rfl rfl (by first | exact hS.k rfl) ?_
    refine tb_topI hC.1 ?_
    refine tb_icmp_ge 37 d_Mo_tryAhead_18 (by decide) rfl (fun h18 => ?_) (fun h18 => ?_)
    · have hje : n ≤ j := (nI_leI (a := n) (b := j) (by omega) (by omega)).mp h18
      refine tb_iload_4 d_Mo_tryAhead_37 rfl ?_
      refine tb_aload_0 d_Mo_tryAhead_39 rfl ?_
      refine g_Mo_125 d_Mo_tryAhead_40 rfl rfl (by first | exact hS.k rfl) ?_
      refine tb_topI hC.1 ?_
      refine tb_icmp_lt 48 d_Mo_tryAhead_43 (by decide) rfl (fun h43 => ?_) (fun h43 => ?_)
      · exact absurd h43 (Int32.not_lt.mpr (nI_leI (a := n) (b := j) (by omega) (by omega) |>.mpr hje))
      · refine tb_iconst (1) (by decide) d_Mo_tryAhead_46 rfl ?_
        refine tb_ireturn d_Mo_tryAhead_47 rfl (by first | rfl | assumption) ?_
        exact hN (fstN_no _ _ (fun g q1 q2 => hall g q1 (by omega)))
    · have hlt : j < n := Nat.lt_of_not_le (fun q => h18 ((nI_leI (a := n) (b := j) (by omega) (by omega)).mpr q))
      refine tb_aload_0 d_Mo_tryAhead_21 rfl ?_
      refine tb_iload_1 d_Mo_tryAhead_22 rfl ?_
      refine tb_iload_4 d_Mo_tryAhead_23 rfl ?_
      refine tb_callVr c_Mo_244 d_Mo_tryAhead_25 rfl rfl rfl (Nat.le_of_ble_eq_true rfl) (by first | exact hS.k rfl) (ok_Mo_safe hG hS hR hi hlt (d + 2)) ?_
      refine tb_if_ne 37 d_Mo_tryAhead_28 (by decide) rfl (fun h28 => ?_) (fun h28 => ?_)
      · have hs := Classical.not_not.mp (fun z => h28 (bI_f z))
        refine tb_iload_4 d_Mo_tryAhead_37 rfl ?_
        refine tb_aload_0 d_Mo_tryAhead_39 rfl ?_
        refine g_Mo_125 d_Mo_tryAhead_40 rfl rfl (by first | exact hS.k rfl) ?_
        refine tb_topI hC.1 ?_
        refine tb_icmp_lt 48 d_Mo_tryAhead_43 (by decide) rfl (fun h43 => ?_) (fun h43 => ?_)
        · exact hY j (fstN_of _ _ hj (by omega) hs hall) hlt
        · exact absurd (nI_lt hlt (by omega)) h43
      · have hs := bI_0.mp h28
        refine tb_iinc_4 (1) d_Mo_tryAhead_31 rfl (by decide) (by decide) ?_
        refine tb_goto 12 d_Mo_tryAhead_34 (by decide) ?_
        rw [nI_1]
        refine ih (n - (j + 1)) (by omega) (j + 1) rfl (by omega) (by omega) (fun g q1 q2 => ?_)
        by_cases c : g = j
        · rw [c]; exact hs
        · exact hall g q1 (by omega)
/-- the commands that are done ahead after one -/
theorem lp_Mo_ahead (hG : tb_G E) (hS : Sh M) (hi : i < n) {RR : RS} (hsp : sp ≤ 4) {d rc rs : Nat} {Q : tb_O → tb_M → Prop} (hQ : ∀ M2, RM M2 n sc RR → RF M M2 → Q (.inl (some (.inl (bI (RR.2.2.2.1 = 0))))) M2) : ∀ (s m : Nat) (R : RS) (M1 : tb_M) (l4 : tb_L), m + s = sp → RM M1 n sc R → RF M M1 → R.2.2.2.1 = 0 → innA sc n i s R = RR → tb_Wp E m_Mo_tryAhead (d + 5) rc rs 2 [some (.inr 190), some (.inl (nI i)), some (.inl (nI sp)), some (.inl (nI m)), l4] [] M1 Q := by
  intro s
  induction s with
  | zero =>
    intro m R M1 l4 hm hR hF h0 he
    have he' : R = RR := he
    subst he'
    refine tb_iload_3 d_Mo_tryAhead_2 rfl ?_
    refine tb_iload_2 d_Mo_tryAhead_3 rfl ?_
    refine tb_icmp_ge 72 d_Mo_tryAhead_4 (by decide) rfl (fun h4 => ?_) (fun h4 => ?_)
    · refine tb_iconst (1) (by decide) d_Mo_tryAhead_72 rfl ?_
      refine tb_ireturn d_Mo_tryAhead_73 rfl (by first | rfl | assumption) ?_
      have := hQ M1 hR hF
      rw [bI_t h0] at this
      exact this
    · exact absurd (nI_leI (a := sp) (b := m) (by omega) (by omega) |>.mpr (by omega)) h4
  | succ s ih =>
    intro m R M1 l4 hm hR hF h0 he
    have hS1 := hF.1.sh hS
    have hC := hR.1
    have hn := hC.2.1
    refine tb_iload_3 d_Mo_tryAhead_2 rfl ?_
    refine tb_iload_2 d_Mo_tryAhead_3 rfl ?_
    refine tb_icmp_ge 72 d_Mo_tryAhead_4 (by decide) rfl (fun h4 => ?_) (fun h4 => ?_)
    · exact absurd (nI_leI (a := sp) (b := m) (by omega) (by omega) |>.mp h4) (by omega)
    · refine tb_iload_1 d_Mo_tryAhead_7 rfl ?_
      refine tb_iconst (2) (by decide) d_Mo_tryAhead_8 rfl ?_
      refine tb_iadd d_Mo_tryAhead_9 rfl ?_
      refine tb_topI (y := nI (i + 2)) (by show nI i + nI 2 = _; rw [nI_add]) ?_
      refine tb_istore_4 d_Mo_tryAhead_10 rfl (by decide) ?_
      refine lp_Mo_find hG hS1 hR hi (fun hno => ?_) (fun j hj hjn => ?_) _ (i + 2) rfl (by omega) (by omega) (fun g q1 q2 => absurd q2 (by omega))
      · rw [innA_no _ hno] at he
        subst he
        have := hQ M1 hR hF
        rw [bI_t h0] at this
        exact this
      · rw [innA_go s h0 hj] at he
        refine tb_aload_0 d_Mo_tryAhead_48 rfl ?_
        refine tb_iload_4 d_Mo_tryAhead_49 rfl ?_
        refine tb_iconst (1) (by decide) d_Mo_tryAhead_51 rfl ?_
        refine tb_callVq c_Mo_234 d_Mo_tryAhead_52 rfl rfl rfl (Nat.le_of_ble_eq_true rfl) (by first | exact hS1.k rfl) (ok_Mo_perform (ah := 1) hG hS1 hR hjn (Or.inr rfl) d) (fun v2 MP hP => ?_)
        obtain ⟨rfl, hP⟩ := hP
        have hSP := hP.1.sh hS1
        refine tb_aload_0 d_Mo_tryAhead_55 rfl ?_
        refine tb_iload_4 d_Mo_tryAhead_56 rfl ?_
        refine tb_callVq c_Mo_238 d_Mo_tryAhead_58 rfl rfl rfl (Nat.le_of_ble_eq_true rfl) (by exact hSP.k rfl) (ok_Mo_hazard2 hG hSP (show tb_I MP 190 7 = nI n by rw [hP.2.1 7 (by omega) (by omega)]; exact hC.1) hn hP.2.2.2.2 hjn perA_do (d + 1)) (fun v3 MH hH => ?_)
        obtain ⟨rfl, hH⟩ := hH
        obtain ⟨hRH, hFH⟩ := RM_step hR h0 hjn hP hH
        refine tb_if_eq 66 d_Mo_tryAhead_61 (by decide) rfl (fun h61 => ?_) (fun h61 => ?_)
        · have hz0 : (perA (sc j) j n 1 R).2.2.2.1 = 0 := by
            rw [perA_hz]
            exact Classical.not_not.mp (bI_0.mp h61)
          refine tb_iinc_3 (1) d_Mo_tryAhead_66 rfl (by decide) (by decide) ?_
          refine tb_goto 2 d_Mo_tryAhead_69 (by decide) ?_
          rw [nI_1]
          exact ih (m + 1) _ MH _ (by omega) hRH (hF.trans hFH) hz0 he
        · have hz1 : ¬ (perA (sc j) j n 1 R).2.2.2.1 = 0 := by
            rw [perA_hz]
            exact fun z => h61 (bI_f (fun q => q z))
          refine tb_iconst (0) (by decide) d_Mo_tryAhead_64 rfl ?_
          refine tb_ireturn d_Mo_tryAhead_65 rfl (by first | rfl | assumption) ?_
          rw [innA_hz _ hz1] at he
          subst he
          have := hQ MH hRH (hF.trans hFH)
          rw [bI_f hz1] at this
          exact this
theorem ok_Mo_tryAhead (hG : tb_G E) (hS : Sh M) (hR : RM M n sc R) (h0 : R.2.2.2.1 = 0) (hi : i < n) (hsp : sp ≤ 4) (d : Nat) : tb_Rel E m_Mo_tryAhead (d + 5) [.inr (.inl 190), .inl (nI i), .inl (nI sp)] M (fun v M1 => v = some (.inl (bI ((innA sc n i sp R).2.2.2.1 = 0))) ∧ RM M1 n sc (innA sc n i sp R) ∧ RF M M1) := by
  refine tb_okOf hG (by decide) rfl (Nat.le_of_ble_eq_true rfl) rfl ?_
  refine tb_iconst (0) (by decide) d_Mo_tryAhead_0 rfl ?_
  refine tb_istore_3 d_Mo_tryAhead_1 rfl (by decide) ?_
  exact lp_Mo_ahead hG hS hi hsp (fun M2 h1 h2 => ⟨_, rfl, rfl, h1, h2⟩) sp 0 R M _ (by omega) hR RF.rfl' h0 rfl
/-- all commands in their turn -/
theorem lp_Mo_att (hG : tb_G E) (hS : Sh M) {RR : RS} (hsp : sp ≤ 4) {d rc rs : Nat} {Q : tb_O → tb_M → Prop} (hQ : ∀ M2, RM M2 n sc RR → RF M M2 → Q (.inl (some (.inl (bI (RR.2.2.2.1 = 0))))) M2) : ∀ (m i : Nat) (R : RS) (M1 : tb_M), i + m = n → RM M1 n sc R → RF M M1 → R.2.2.2.1 = 0 → outA sc n sp m i R = RR → tb_Wp E m_Mo_attempt (d + 6) rc rs 42 [some (.inr 190), some (.inl (nI sp)), some (.inl (nI i))] [] M1 Q := by
  intro m
  induction m with
  | zero =>
    intro i R M1 hm hR hF h0 he
    have he' : R = RR := he
    subst he'
    have hS1 := hF.1.sh hS
    have hC := hR.1
    have hn := hC.2.1
    refine tb_iload_2 d_Mo_attempt_42 rfl ?_
    refine tb_aload_0 d_Mo_attempt_43 rfl ?_
    refine g_Mo_125 d_Mo_attempt_44 rfl rfl (by first | exact hS1.k rfl) ?_
    refine tb_topI hC.1 ?_
    refine tb_icmp_ge 92 d_Mo_attempt_47 (by decide) rfl (fun h47 => ?_) (fun h47 => ?_)
    · refine tb_iconst (1) (by decide) d_Mo_attempt_92 rfl ?_
      refine tb_ireturn d_Mo_attempt_93 rfl (by first | rfl | assumption) ?_
      have := hQ M1 hR hF
      rw [bI_t h0] at this
      exact this
    · exact absurd (nI_leI (a := n) (b := i) (by omega) (by omega) |>.mpr (by omega)) h47
  | succ m ih =>
    intro i R M1 hm hR hF h0 he
    have hS1 := hF.1.sh hS
    have hC := hR.1
    have hn := hC.2.1
    have hi : i < n := by omega
    rw [outA_go m h0] at he
    have hcont : ∀ (R' : RS) (M2 : tb_M), RM M2 n sc R' → RF M M2 → R'.2.2.2.1 = 0 → outA sc n sp m (i + 1) (innA sc n i sp R') = RR → tb_Wp E m_Mo_attempt (d + 6) rc rs 75 [some (.inr 190), some (.inl (nI sp)), some (.inl (nI i))] [] M2 Q := by
      intro R' M2 hR2 hF2 h02 he2
      have hS2 := hF2.1.sh hS
      refine tb_aload_0 d_Mo_attempt_75 rfl ?_
      refine tb_iload_2 d_Mo_attempt_76 rfl ?_
      refine tb_iload_1 d_Mo_attempt_77 rfl ?_
      refine tb_callVq c_Mo_241 d_Mo_attempt_78 rfl rfl rfl (Nat.le_of_ble_eq_true rfl) (by first | exact hS2.k rfl) (ok_Mo_tryAhead hG hS2 hR2 h02 hi hsp d) (fun v3 MT hT => ?_)
      obtain ⟨rfl, hRT, hFT⟩ := hT
      refine tb_if_ne 86 d_Mo_attempt_81 (by decide) rfl (fun h81 => ?_) (fun h81 => ?_)
      · have hz0 := Classical.not_not.mp (fun z => h81 (bI_f z))
        refine tb_iinc_2 (1) d_Mo_attempt_86 rfl (by decide) (by decide) ?_
        refine tb_goto 42 d_Mo_attempt_89 (by decide) ?_
        rw [nI_1]
        exact ih (i + 1) _ MT (by omega) hRT (hF2.trans hFT) hz0 he2
      · have hz1 := bI_0.mp h81
        refine tb_iconst (0) (by decide) d_Mo_attempt_84 rfl ?_
        refine tb_ireturn d_Mo_attempt_85 rfl (by first | rfl | assumption) ?_
        rw [outA_hz _ hz1] at he2
        subst he2
        have := hQ MT hRT (hF2.trans hFT)
        rw [bI_f hz1] at this
        exact this
    refine tb_iload_2 d_Mo_attempt_42 rfl ?_
    refine tb_aload_0 d_Mo_attempt_43 rfl ?_
    refine g_Mo_125 d_Mo_attempt_44 rfl rfl (by first | exact hS1.k rfl) ?_
    refine tb_topI hC.1 ?_
    refine tb_icmp_ge 92 d_Mo_attempt_47 (by decide) rfl (fun h47 => ?_) (fun h47 => ?_)
    · exact absurd (nI_leI (a := n) (b := i) (by omega) (by omega) |>.mp h47) (by omega)
    · refine tb_aload_0 d_Mo_attempt_50 rfl ?_
      refine g_Mo_64 d_Mo_attempt_51 rfl rfl (by first | exact hS1.k rfl) ?_
      refine tb_topR (y := 209) (hS1.mr 27 (by decide)) ?_
      refine tb_iload_2 d_Mo_attempt_54 rfl ?_
      refine tb_zaload d_Mo_attempt_55 rfl (by first | exact hS1.k rfl) (by first | exact mo_in hS1 (c := 12) rfl (by omega) (by decide) | exact mo_in hS1 (c := 10) rfl (by omega) (by decide) | exact mo_in hS1 (c := 25) rfl (by omega) (by decide) | exact mo_in hS1 (c := 6) rfl (by omega) (by decide) | exact mo_in hS1 (c := 72) rfl (by omega) (by decide) | exact mo_in hS1 (c := 120) rfl (by omega) (by decide) | exact mo_in hS1 (c := 300) rfl (by omega) (by decide) | exact mo_in hS1 (c := 150) rfl (by omega) (by decide) | exact mo_in hS1 (c := 1800) rfl (by omega) (by decide)) ?_
      refine tb_topI (y := bI (¬ dO (R.2.2.1 i) = 0)) (by rw [nI_clamp (show i < 2 ^ 31 by omega)]; exact (hR.2.2.2.1 i hi).2.1) ?_
      refine tb_if_ne 75 d_Mo_attempt_56 (by decide) rfl (fun h56 => ?_) (fun h56 => ?_)
      · have hd : ¬ dO (R.2.2.1 i) = 0 := fun z => h56 (bI_f (fun q => q z))
        rw [if_neg hd] at he
        exact hcont R M1 hR hF h0 he
      · have hd : dO (R.2.2.1 i) = 0 := Classical.not_not.mp (bI_0.mp h56)
        rw [if_pos hd] at he
        refine tb_aload_0 d_Mo_attempt_59 rfl ?_
        refine tb_iload_2 d_Mo_attempt_60 rfl ?_
        refine tb_iconst (0) (by decide) d_Mo_attempt_61 rfl ?_
        refine tb_callVq c_Mo_234 d_Mo_attempt_62 rfl rfl rfl (Nat.le_of_ble_eq_true rfl) (by first | exact hS1.k rfl) (ok_Mo_perform (ah := 0) hG hS1 hR hi (Or.inl rfl) (d + 1)) (fun v2 MP hP => ?_)
        obtain ⟨rfl, hP⟩ := hP
        have hSP := hP.1.sh hS1
        refine tb_aload_0 d_Mo_attempt_65 rfl ?_
        refine tb_iload_2 d_Mo_attempt_66 rfl ?_
        refine tb_callVq c_Mo_238 d_Mo_attempt_67 rfl rfl rfl (Nat.le_of_ble_eq_true rfl) (by exact hSP.k rfl) (ok_Mo_hazard2 hG hSP (show tb_I MP 190 7 = nI n by rw [hP.2.1 7 (by omega) (by omega)]; exact hC.1) hn hP.2.2.2.2 hi perA_do (d + 2)) (fun v3 MH hH => ?_)
        obtain ⟨rfl, hH⟩ := hH
        obtain ⟨hRH, hFH⟩ := RM_step hR h0 hi hP hH
        refine tb_if_eq 75 d_Mo_attempt_70 (by decide) rfl (fun h70 => ?_) (fun h70 => ?_)
        · have hz0 : (perA (sc i) i n 0 R).2.2.2.1 = 0 := by
            rw [perA_hz]
            exact Classical.not_not.mp (bI_0.mp h70)
          exact hcont _ MH hRH (hF.trans hFH) hz0 he
        · have hz1 : ¬ (perA (sc i) i n 0 R).2.2.2.1 = 0 := by
            rw [perA_hz]
            exact fun z => h70 (bI_f (fun q => q z))
          refine tb_iconst (0) (by decide) d_Mo_attempt_73 rfl ?_
          refine tb_ireturn d_Mo_attempt_74 rfl (by first | rfl | assumption) ?_
          rw [innA_hz _ hz1, outA_hz _ hz1] at he
          subst he
          have := hQ MH hRH (hF.trans hFH)
          rw [bI_f hz1] at this
          exact this
/-- deeds are cleared -/
theorem lp_Mo_rst (hS : Sh M) {d rc rs : Nat} {l1 : tb_L} {Q : tb_O → tb_M → Prop} (hQ : ∀ M1, On M M1 (fun q => 209 ≤ q ∧ q ≤ 211) → (∀ i, i < 10 → tb_I M1 209 i = 0 ∧ tb_I M1 210 i = 0 ∧ tb_I M1 211 i = 0) → tb_Wp E m_Mo_attempt d rc rs 40 [some (.inr 190), l1, some (.inl 10)] [] M1 Q) : ∀ (m k : Nat), 10 - k = m → k ≤ 10 → ∀ M1, On M M1 (fun q => 209 ≤ q ∧ q ≤ 211) → (∀ i, i < k → tb_I M1 209 i = 0 ∧ tb_I M1 210 i = 0 ∧ tb_I M1 211 i = 0) → tb_Wp E m_Mo_attempt d rc rs 7 [some (.inr 190), l1, some (.inl (nI k))] [] M1 Q := by
  intro m
  induction m with
  | zero =>
    intro k hm hk M1 o1 h1
    have hk10 : k = 10 := by omega
    subst hk10
    refine tb_iload_2 d_Mo_attempt_7 rfl ?_
    refine tb_bipush (10) (by decide) d_Mo_attempt_8 rfl ?_
    refine tb_icmp_ge 40 d_Mo_attempt_10 (by decide) rfl (fun h10 => ?_) (fun h10 => ?_)
    · exact hQ M1 o1 h1
    · exact absurd (nI_leI (a := 10) (b := 10) (by omega) (by omega) |>.mpr (by omega)) h10
  | succ m ih =>
    intro k hm hk M1 o1 h1
    have hS1 := o1.sh hS
    refine tb_iload_2 d_Mo_attempt_7 rfl ?_
    refine tb_bipush (10) (by decide) d_Mo_attempt_8 rfl ?_
    refine tb_icmp_ge 40 d_Mo_attempt_10 (by decide) rfl (fun h10 => ?_) (fun h10 => ?_)
    · exact absurd (nI_leI (a := 10) (b := k) (by omega) (by omega) |>.mp h10) (by omega)
    · refine tb_aload_0 d_Mo_attempt_13 rfl ?_
      refine g_Mo_64 d_Mo_attempt_14 rfl rfl (by first | exact hS1.k rfl) ?_
      refine tb_topR (y := 209) (hS1.mr 27 (by decide)) ?_
      refine tb_iload_2 d_Mo_attempt_17 rfl ?_
      refine tb_iconst (0) (by decide) d_Mo_attempt_18 rfl ?_
      refine tb_zastore d_Mo_attempt_19 rfl (by first | exact hS1.k rfl) (by first | exact mo_in hS1 (c := 12) rfl (by omega) (by decide) | exact mo_in hS1 (c := 10) rfl (by omega) (by decide) | exact mo_in hS1 (c := 25) rfl (by omega) (by decide) | exact mo_in hS1 (c := 6) rfl (by omega) (by decide) | exact mo_in hS1 (c := 72) rfl (by omega) (by decide) | exact mo_in hS1 (c := 120) rfl (by omega) (by decide) | exact mo_in hS1 (c := 300) rfl (by omega) (by decide) | exact mo_in hS1 (c := 150) rfl (by omega) (by decide) | exact mo_in hS1 (c := 1800) rfl (by omega) (by decide)) ?_
      rw [nI_clamp (show k < 2 ^ 31 by omega)]
      refine tb_aload_0 d_Mo_attempt_20 rfl ?_
      refine g_Mo_68 d_Mo_attempt_21 rfl rfl (by first | exact hS1.k rfl) ?_
      refine tb_topR (y := 210) (hS1.mr 28 (by decide)) ?_
      refine tb_iload_2 d_Mo_attempt_24 rfl ?_
      refine tb_iconst (0) (by decide) d_Mo_attempt_25 rfl ?_
      refine tb_zastore d_Mo_attempt_26 rfl (by first | exact hS1.k rfl) (by first | exact mo_in hS1 (c := 12) rfl (by omega) (by decide) | exact mo_in hS1 (c := 10) rfl (by omega) (by decide) | exact mo_in hS1 (c := 25) rfl (by omega) (by decide) | exact mo_in hS1 (c := 6) rfl (by omega) (by decide) | exact mo_in hS1 (c := 72) rfl (by omega) (by decide) | exact mo_in hS1 (c := 120) rfl (by omega) (by decide) | exact mo_in hS1 (c := 300) rfl (by omega) (by decide) | exact mo_in hS1 (c := 150) rfl (by omega) (by decide) | exact mo_in hS1 (c := 1800) rfl (by omega) (by decide)) ?_
      rw [nI_clamp (show k < 2 ^ 31 by omega)]
      refine tb_aload_0 d_Mo_attempt_27 rfl ?_
      refine g_Mo_71 d_Mo_attempt_28 rfl rfl (by first | exact hS1.k rfl) ?_
      refine tb_topR (y := 211) (hS1.mr 29 (by decide)) ?_
      refine tb_iload_2 d_Mo_attempt_31 rfl ?_
      refine tb_iconst (0) (by decide) d_Mo_attempt_32 rfl ?_
      refine tb_iastore d_Mo_attempt_33 rfl (by first | exact hS1.k rfl) (by first | exact mo_in hS1 (c := 12) rfl (by omega) (by decide) | exact mo_in hS1 (c := 10) rfl (by omega) (by decide) | exact mo_in hS1 (c := 25) rfl (by omega) (by decide) | exact mo_in hS1 (c := 6) rfl (by omega) (by decide) | exact mo_in hS1 (c := 72) rfl (by omega) (by decide) | exact mo_in hS1 (c := 120) rfl (by omega) (by decide) | exact mo_in hS1 (c := 300) rfl (by omega) (by decide) | exact mo_in hS1 (c := 150) rfl (by omega) (by decide) | exact mo_in hS1 (c := 1800) rfl (by omega) (by decide)) ?_
      rw [nI_clamp (show k < 2 ^ 31 by omega)]
      refine tb_iinc_2 (1) d_Mo_attempt_34 rfl (by decide) (by decide) ?_
      refine tb_goto 7 d_Mo_attempt_37 (by decide) ?_
      rw [nI_1]
      simp only [nb0]
      have o2 : On M1 (tb_sI (tb_sI (tb_sI M1 209 k 0) 210 k 0) 211 k 0) (fun q => 209 ≤ q ∧ q ≤ 211) := ((On.sI (by decide)).trans (On.sI (by decide))).trans (On.sI (by decide))
      refine ih (k + 1) (by omega) (by omega) _ (o1.trans o2) (fun i hi => ?_)
      have e09 : tb_I (tb_sI (tb_sI (tb_sI M1 209 k 0) 210 k 0) 211 k 0) 209 = va_up (tb_I M1 209) k 0 := by rw [sI_of _ _ _ (by decide), sI_of _ _ _ (by decide), sI_at]
      have e10 : tb_I (tb_sI (tb_sI (tb_sI M1 209 k 0) 210 k 0) 211 k 0) 210 = va_up (tb_I M1 210) k 0 := by rw [sI_of _ _ _ (by decide), sI_at, sI_of _ _ _ (by decide)]
      have e11 : tb_I (tb_sI (tb_sI (tb_sI M1 209 k 0) 210 k 0) 211 k 0) 211 = va_up (tb_I M1 211) k 0 := by rw [sI_at, sI_of _ _ _ (by decide), sI_of _ _ _ (by decide)]
      rw [e09, e10, e11]
      by_cases c : i = k
      · rw [c, vu_at, vu_at, vu_at]; exact ⟨rfl, rfl, rfl⟩
      · rw [vu_ne _ _ c, vu_ne _ _ c, vu_ne _ _ c]; exact h1 i (by omega)
theorem ok_Mo_attempt (hG : tb_G E) (hS : Sh M) (hC : MSc M n sc) (hF : MFs M fs) (hSt : MSt M S) (hsp : sp ≤ 4) (d : Nat) : tb_Rel E m_Mo_attempt (d + 6) [.inr (.inl 190), .inl (nI sp)] M (fun v M1 => v = some (.inl (bI ((goA sc n sp fs S).2.2.2.1 = 0))) ∧ RM M1 n sc (goA sc n sp fs S) ∧ RF M M1) := by
  have hn := hC.2.1
  have oA : On M (tb_sI M 190 35 0) (fun q => q = 190) := On.sI rfl
  have eA : tb_I (tb_sI M 190 35 0) 190 = va_up (tb_I M 190) 35 0 := sI_at _ _ _ _
  refine tb_okOf hG (by decide) rfl (Nat.le_of_ble_eq_true rfl) rfl ?_
  refine tb_aload_0 d_Mo_attempt_0 rfl ?_
  refine tb_iconst (0) (by decide) d_Mo_attempt_1 rfl ?_
  refine p_Mo_219 d_Mo_attempt_2 rfl rfl (by first | exact hS.k rfl) ?_
  refine tb_iconst (0) (by decide) d_Mo_attempt_5 rfl ?_
  refine tb_istore_2 d_Mo_attempt_6 rfl (by decide) ?_
  generalize tb_sI M 190 35 0 = MA at oA eA
  have hSA := oA.sh hS
  refine lp_Mo_rst hSA (fun MB oB hB => ?_) 10 0 rfl (by omega) MA On.rf (fun i hi => absurd hi (Nat.not_lt_zero _))
  refine tb_iconst (0) (by decide) d_Mo_attempt_40 rfl ?_
  refine tb_istore_2 d_Mo_attempt_41 rfl (by decide) ?_
  have e0 : ∀ j, j ≠ 35 → tb_I MB 190 j = tb_I M 190 j := fun j hj => by rw [oB.i (by omega), eA, vu_ne _ _ hj]
  have eo : ∀ q, ¬ (q = 190 ∨ (209 ≤ q ∧ q ≤ 211)) → tb_I MB q = tb_I M q := fun q hq => by rw [oB.i (by omega), oA.i (by omega)]
  have hFB : RF M MB := ⟨(oA.mono (fun q hq => by show 190 ≤ q ∧ q < 217 ∧ _; omega)).trans (oB.mono (fun q hq => by show 190 ≤ q ∧ q < 217 ∧ _; omega)), fun j _ _ c => e0 j (by omega)⟩
  have hRB : RM MB n sc (fs, S, fun _ => (0, 0, -1, 0, 0, 0, 0), (0, 0, 0, 0)) := by
    refine ⟨hC.of (e0 7 (by omega)) (eo _ (by omega)) (eo _ (by omega)), hF.of (eo _ (by omega)) (eo _ (by omega)), hSt.of (e0 10 (by omega)) (fun q _ _ => eo q (by omega)), fun k hk => ?_, fun _ => ?_, fun z => absurd rfl z⟩
    · obtain ⟨b1, b2, b3⟩ := hB k (by omega)
      exact ⟨⟨Or.inl rfl, Or.inl rfl, fun _ => rfl⟩, by rw [b1]; exact (bI_f (fun z => z rfl)).symm, b2, b3, fun z => absurd z (by show ¬ (0 : Int32) = 1; decide), fun _ => rfl, fun z => absurd rfl z⟩
    · rw [oB.i (by omega), eA, vu_at]
  exact lp_Mo_att hG hS hsp (fun M2 h1 h2 => ⟨_, rfl, rfl, h1, h2⟩) n 0 _ MB (by omega) hRB hFB rfl rfl
theorem RM.mis {hd : List Int32} {ag : Int32} (h : RM M n sc R) (hS : Sh M) (hH : MHd M hd) (h26 : tb_I M 190 26 = 1) (h39 : tb_I M 190 39 = ag) : MIs M (hd, (n, sc), R, 1, ag) :=
  ⟨hS, hH, h.1, h.2.1, h.2.2.1, ⟨h26, Or.inr rfl, fun _ => ⟨h.2.2.2.1, h.2.2.2.2⟩⟩, h39⟩
theorem c190c (M : tb_M) (j : Nat) (x : Int32) : On M (tb_sI M 190 j x) AM := (On.sI (A := fun q => q = 190) rfl).mono (fun q hq => ⟨by omega, by omega⟩)
theorem AR.am {q : Nat} (h : AR q) : AM q := ⟨h.1, h.2.1⟩
theorem ok_Mo_run {g : Sg} (hG : tb_G E) (h : MIs M g) {x : Int32} (d : Nat) : tb_Rel E m_Mo_run (d + 7) [.inr (.inl 190), .inl x] M (fun v m => (tRun g x = 0 → v = some (.inl (aRun g x))) ∧ (∃ a, v = some (.inl a)) ∧ MIs m (oRun g x) ∧ On M m AM ∧ tb_I m 190 0 = nI (tRun g x)) := by
  obtain ⟨hM0, o0⟩ := h.put (j := 0) (x := 0) (Or.inl rfl)
  have hS := h.1
  have hc0 := c190 M 0
  generalize hM1 : tb_sI M 190 0 0 = M1 at hM0 o0 hc0
  have hS1 := hM0.1
  obtain ⟨-, hH, hC, hF, hSt, hL, hA⟩ := hM0
  have hn := hC.2.1
  unfold tRun aRun oRun
  refine tb_okOf hG (by decide) rfl (Nat.le_of_ble_eq_true rfl) rfl ?_
  refine tb_aload_0 d_Mo_run_0 rfl ?_
  refine tb_iconst (0) (by decide) d_Mo_run_1 rfl ?_
  refine p_Mo_89 d_Mo_run_2 rfl rfl (by exact hS.k rfl) ?_
  refine tb_memeq hM1 ?_
  refine tb_iload_1 d_Mo_run_5 rfl ?_
  refine tb_if_lt 14 d_Mo_run_6 (by decide) rfl (fun h6 => ?_) (fun h6 => ?_)
  · have hx : ¬ inI x 5 := fun z => Int32.not_lt.mpr z.1 h6
    rw [cif_f hx, cif_f (fun z => hx z.1)]
    refine tb_aload_0 d_Mo_run_14 rfl ?_
    refine tb_iconst (1) (by decide) d_Mo_run_15 rfl ?_
    refine tb_callVr c_Mo_122 d_Mo_run_16 rfl rfl rfl (Nat.le_of_ble_eq_true rfl) (by first | exact hS1.k rfl) (ok_Mo_fail hG hS1 1 (d + 6)) ?_
    refine tb_ireturn d_Mo_run_19 rfl (by first | rfl | assumption) ?_
    exact ⟨_, rfl, fun z => absurd z (by decide), ⟨_, rfl⟩, (MIs.put (g := g) ⟨hS1, hH, hC, hF, hSt, hL, hA⟩ (Or.inl rfl)).1, o0.trans (c190c _ 0 1), c190 _ 1⟩
  · refine tb_iload_1 d_Mo_run_9 rfl ?_
    refine tb_iconst (4) (by decide) d_Mo_run_10 rfl ?_
    refine tb_icmp_le 20 d_Mo_run_11 (by decide) rfl (fun h11 => ?_) (fun h11 => ?_)
    · have hx : inI x 5 := ⟨Int32.not_lt.mp h6, by
        obtain ⟨j, hj, rfl⟩ := nI_of h6
        have : j ≤ 4 := (nI_leI (a := j) (b := 4) hj (by omega)).mp h11
        exact nI_lt (by omega) (by omega)⟩
      obtain ⟨sp, hsp, rfl⟩ := inI_n (by omega) hx
      rw [cif_t hx, nI_clamp (by omega)]
      refine tb_aload_0 d_Mo_run_20 rfl ?_
      refine g_Mo_125 d_Mo_run_21 rfl rfl (by first | exact hS1.k rfl) ?_
      refine tb_topI hC.1 ?_
      refine tb_if_ne 33 d_Mo_run_24 (by decide) rfl (fun h24 => ?_) (fun h24 => ?_)
      · have hn0 : ¬ g.2.1.1 = 0 := fun z => h24 (by rw [z]; rfl)
        rw [if_neg hn0, cif_t ⟨hx, hn0⟩]
        refine tb_aload_0 d_Mo_run_33 rfl ?_
        refine tb_iconst (1) (by decide) d_Mo_run_34 rfl ?_
        refine p_Mo_114 d_Mo_run_35 rfl rfl (by first | exact hS1.k rfl) (by first | exact Or.inl rfl | exact Or.inr rfl | assumption) ?_
        have oA : On M1 (tb_sI M1 190 26 1) (fun q => q = 190) := On.sI rfl
        have eA : tb_I (tb_sI M1 190 26 1) 190 = va_up (tb_I M1 190) 26 1 := sI_at _ _ _ _
        generalize tb_sI M1 190 26 1 = MA at oA eA
        have hSA := oA.sh hS1
        refine tb_aload_0 d_Mo_run_38 rfl ?_
        refine tb_iconst (0) (by decide) d_Mo_run_39 rfl ?_
        refine tb_callVq c_Mo_247 d_Mo_run_40 rfl rfl rfl (Nat.le_of_ble_eq_true rfl) (by exact hSA.k rfl) (ok_Mo_save0 hG hSA (d + 6)) (fun v2 MB hB => ?_)
        obtain ⟨rfl, oB, b93, b94⟩ := hB
        have hSB := oB.sh hSA
        have iB : ∀ q, ¬ (q = 190 ∨ q = 193 ∨ q = 194) → tb_I MB q = tb_I M1 q := fun q hq => by rw [oB.i (by omega), oA.i (by omega)]
        have eB : tb_I MB 190 = va_up (tb_I M1 190) 26 1 := by rw [oB.i (by omega), eA]
        have hCB := hC.of (M1 := MB) (by rw [eB, vu_ne _ _ (by omega)]) (iB _ (by omega)) (iB _ (by omega))
        have hFB := hF.of (M1 := MB) (iB _ (by omega)) (iB _ (by omega))
        have hStB := hSt.of (M1 := MB) (by rw [eB, vu_ne _ _ (by omega)]) (fun q _ _ => iB q (by omega))
        have o1B : On M MB AM := (o0.trans (oA.mono (fun q hq => ⟨by omega, by omega⟩))).trans (oB.mono (fun q hq => ⟨by omega, by omega⟩))
        refine tb_aload_0 d_Mo_run_43 rfl ?_
        refine tb_iload_1 d_Mo_run_44 rfl ?_
        refine tb_callVq c_Mo_251 d_Mo_run_45 rfl rfl rfl (Nat.le_of_ble_eq_true rfl) (by exact hSB.k rfl) (ok_Mo_attempt hG hSB hCB hFB hStB (sp := sp) (by omega) d) (fun v3 MC hP => ?_)
        obtain ⟨rfl, hRC, hFC⟩ := hP
        change RM MC g.2.1.1 g.2.1.2 (run1 g sp) at hRC
        change tb_Wp _ _ _ _ _ _ _ [.inl (bI ((run1 g sp).2.2.2.1 = 0))] _ _
        have hSC := hFC.1.sh hSB
        have eC : ∀ j, j ≠ 10 → ¬ (21 ≤ j ∧ j ≤ 24) → ¬ (35 ≤ j ∧ j ≤ 38) → tb_I MC 190 j = va_up (tb_I M1 190) 26 1 j := fun j a b c => by rw [hFC.2 j a b c, eB]
        have hHC : MHd MC g.1 := hH.of (by rw [eC 5 (by omega) (by omega) (by omega), vu_ne _ _ (by omega)]) (by rw [hFC.1.i (by omega), iB _ (by omega)])
        have o1C : On M MC AM := o1B.trans (hFC.1.mono (fun q hq => AR.am hq))
        have hMC : MIs MC (g.1, g.2.1, run1 g sp, 1, g.2.2.2.2) := hRC.mis hSC hHC (by rw [eC 26 (by omega) (by omega) (by omega), vu_at]) (by rw [eC 39 (by omega) (by omega) (by omega), vu_ne _ _ (by omega)]; exact hA)
        have h0C : tb_I MC 190 0 = nI 0 := by rw [eC 0 (by omega) (by omega) (by omega), vu_ne _ _ (by omega)]; exact hc0
        refine tb_if_eq 53 d_Mo_run_48 (by decide) rfl (fun h48 => ?_) (fun h48 => ?_)
        · have hz1 : ¬ (run1 g sp).2.2.2.1 = 0 := bI_0.mp h48
          obtain ⟨-, hez, hfz, z35, z36, z37, z38⟩ := hRC.2.2.2.2.2 hz1
          have hde := (hRC.2.2.2.1 _ hez).2.2.1
          have hdf := (hRC.2.2.2.1 _ hfz).2.2.1
          refine tb_aload_0 d_Mo_run_53 rfl ?_
          refine g_Mo_68 d_Mo_run_54 rfl rfl (by first | exact hSC.k rfl) ?_
          refine tb_topR (y := 210) (hSC.mr 28 (by decide)) ?_
          refine tb_aload_0 d_Mo_run_57 rfl ?_
          refine g_Mo_222 d_Mo_run_58 rfl rfl (by first | exact hSC.k rfl) ?_
          refine tb_topI (y := nI (run1 g sp).2.2.2.2.1) z36 ?_
          refine tb_zaload d_Mo_run_61 rfl (by exact hSC.k rfl) (by first | exact mo_in hSC (c := 12) rfl (by omega) (by decide) | exact mo_in hSC (c := 10) rfl (by omega) (by decide) | exact mo_in hSC (c := 25) rfl (by omega) (by decide) | exact mo_in hSC (c := 6) rfl (by omega) (by decide) | exact mo_in hSC (c := 72) rfl (by omega) (by decide) | exact mo_in hSC (c := 120) rfl (by omega) (by decide) | exact mo_in hSC (c := 300) rfl (by omega) (by decide) | exact mo_in hSC (c := 150) rfl (by omega) (by decide) | exact mo_in hSC (c := 1800) rfl (by omega) (by decide)) ?_
          refine tb_topI (y := dA ((run1 g sp).2.2.1 (run1 g sp).2.2.2.2.1)) (by rw [nI_clamp (show (run1 g sp).2.2.2.2.1 < 2 ^ 31 by omega)]; exact hde) ?_
          refine tb_if_ne 79 d_Mo_run_62 (by decide) rfl (fun h62 => ?_) (fun h62 => ?_)
          · have hsp1 : spc (run1 g sp) := ⟨hz1, Or.inl h62⟩
            rw [cif_t hsp1]
            refine tb_aload_0 d_Mo_run_79 rfl ?_
            refine tb_iconst (1) (by decide) d_Mo_run_80 rfl ?_
            refine tb_callVq c_Mo_247 d_Mo_run_81 rfl rfl rfl (Nat.le_of_ble_eq_true rfl) (by first | exact hSC.k rfl) (ok_Mo_save1 hG hSC (d + 6)) (fun v4 MD hP => ?_)
            obtain ⟨rfl, oD, d91, d92⟩ := hP
            have hSD := oD.sh hSC
            have hL6 : ∀ f, f < 12 → tb_I MD 191 f = tb_I M1 191 f := fun f hf => by rw [d91 f hf, hFC.1.i (by omega), b93 f hf, oA.i (by omega)]
            have hFD : MFs MD g.2.2.1.1 := by
              refine ⟨fun f hf => by rw [hL6 f hf]; exact hF.1 f hf, fun f hf => ?_⟩
              rw [← hF.2 f hf]
              refine pl_eq (s := 190) (s' := 190) (hL6 f hf) (fun i hi => ?_) (by rw [hL6 f hf]; exact hF.1 f hf)
              show tb_I MD 192 (6 * f + i) = tb_I M1 192 (6 * f + i)
              rw [d92 _ (by omega), hFC.1.i (by omega), b94 _ (by omega), oA.i (by omega)]
            refine tb_aload_0 d_Mo_run_84 rfl ?_
            refine tb_dup d_Mo_run_85 rfl ?_
            refine g_Mo_254 d_Mo_run_86 rfl rfl (by exact hSD.k rfl) ?_
            refine tb_topI (y := g.2.2.2.2) (by rw [oD.i (by omega)]; exact hMC.2.2.2.2.2.2) ?_
            refine tb_iconst (1) (by decide) d_Mo_run_89 rfl ?_
            refine tb_iadd d_Mo_run_90 rfl ?_
            refine p_Mo_254 d_Mo_run_91 rfl rfl (by exact hSD.k rfl) ?_
            have oE : On MD (tb_sI MD 190 39 (g.2.2.2.2 + 1)) (fun q => q = 190) := On.sI rfl
            have eE : tb_I (tb_sI MD 190 39 (g.2.2.2.2 + 1)) 190 = va_up (tb_I MC 190) 39 (g.2.2.2.2 + 1) := by rw [sI_at, oD.i (by omega)]
            generalize tb_sI MD 190 39 (g.2.2.2.2 + 1) = ME at oE eE
            have hSE := oE.sh hSD
            have iE : ∀ q, ¬ (190 ≤ q ∧ q ≤ 192) → tb_I ME q = tb_I MC q := fun q hq => by rw [oE.i (by omega), oD.i (by omega)]
            have hCE := hRC.1.of (M1 := ME) (by rw [eE, vu_ne _ _ (by omega)]) (iE _ (by omega)) (iE _ (by omega))
            have hFE := hFD.of (M1 := ME) (oE.i (by omega)) (oE.i (by omega))
            have hStE := hRC.2.2.1.of (M1 := ME) (by rw [eE, vu_ne _ _ (by omega)]) (fun q _ _ => iE q (by omega))
            refine tb_aload_0 d_Mo_run_94 rfl ?_
            refine tb_iconst (0) (by decide) d_Mo_run_95 rfl ?_
            refine tb_topI (y := nI 0) rfl ?_
            refine tb_callVq c_Mo_251 d_Mo_run_96 rfl rfl rfl (Nat.le_of_ble_eq_true rfl) (by exact hSE.k rfl) (ok_Mo_attempt hG hSE hCE hFE hStE (sp := 0) (by omega) d) (fun v5 MF hP => ?_)
            obtain ⟨rfl, hRF, hFF⟩ := hP
            change RM MF g.2.1.1 g.2.1.2 (run2 g sp) at hRF
            change tb_Wp _ _ _ _ _ _ _ [.inl (bI ((run2 g sp).2.2.2.1 = 0))] _ _
            have eF : ∀ j, j ≠ 10 → ¬ (21 ≤ j ∧ j ≤ 24) → ¬ (35 ≤ j ∧ j ≤ 38) → tb_I MF 190 j = va_up (tb_I MC 190) 39 (g.2.2.2.2 + 1) j := fun j a b c => by rw [hFF.2 j a b c, eE]
            have hHF : MHd MF g.1 := hHC.of (by rw [eF 5 (by omega) (by omega) (by omega), vu_ne _ _ (by omega)]) (by rw [hFF.1.i (by omega), iE _ (by omega)])
            have o1F : On M MF AM := ((o1C.trans (oD.mono (fun q hq => ⟨by omega, by omega⟩))).trans (oE.mono (fun q hq => ⟨by omega, by omega⟩))).trans (hFF.1.mono (fun q hq => AR.am hq))
            have hMF : MIs MF (g.1, g.2.1, run2 g sp, 1, g.2.2.2.2 + 1) := hRF.mis (hFF.1.sh hSE) hHF (by rw [eF 26 (by omega) (by omega) (by omega), vu_ne _ _ (by omega)]; exact hMC.2.2.2.2.2.1.1) (by rw [eF 39 (by omega) (by omega) (by omega), vu_at])
            have h0F : tb_I MF 190 0 = nI 0 := by rw [eF 0 (by omega) (by omega) (by omega), vu_ne _ _ (by omega)]; exact h0C
            refine tb_if_eq 106 d_Mo_run_99 (by decide) rfl (fun h99 => ?_) (fun h99 => ?_)
            · have hw : bI (¬ (run2 g sp).2.2.2.1 = 0) = 1 := bI_t (bI_0.mp h99)
              refine tb_iconst (1) (by decide) d_Mo_run_106 rfl ?_
              refine tb_ireturn d_Mo_run_107 rfl (by first | rfl | assumption) ?_
              exact ⟨_, rfl, fun _ => by rw [← hw], ⟨_, rfl⟩, hMF, o1F, h0F⟩
            · have hw : bI (¬ (run2 g sp).2.2.2.1 = 0) = 0 := bI_f (fun z => h99 (bI_f z))
              refine tb_iconst (0) (by decide) d_Mo_run_102 rfl ?_
              refine tb_goto 107 d_Mo_run_103 (by decide) ?_
              refine tb_ireturn d_Mo_run_107 rfl (by first | rfl | assumption) ?_
              exact ⟨_, rfl, fun _ => by rw [← hw], ⟨_, rfl⟩, hMF, o1F, h0F⟩
          · refine tb_aload_0 d_Mo_run_65 rfl ?_
            refine g_Mo_68 d_Mo_run_66 rfl rfl (by first | exact hSC.k rfl) ?_
            refine tb_topR (y := 210) (hSC.mr 28 (by decide)) ?_
            refine tb_aload_0 d_Mo_run_69 rfl ?_
            refine g_Mo_225 d_Mo_run_70 rfl rfl (by first | exact hSC.k rfl) ?_
            refine tb_topI (y := nI (run1 g sp).2.2.2.2.2.1) z37 ?_
            refine tb_zaload d_Mo_run_73 rfl (by exact hSC.k rfl) (by first | exact mo_in hSC (c := 12) rfl (by omega) (by decide) | exact mo_in hSC (c := 10) rfl (by omega) (by decide) | exact mo_in hSC (c := 25) rfl (by omega) (by decide) | exact mo_in hSC (c := 6) rfl (by omega) (by decide) | exact mo_in hSC (c := 72) rfl (by omega) (by decide) | exact mo_in hSC (c := 120) rfl (by omega) (by decide) | exact mo_in hSC (c := 300) rfl (by omega) (by decide) | exact mo_in hSC (c := 150) rfl (by omega) (by decide) | exact mo_in hSC (c := 1800) rfl (by omega) (by decide)) ?_
            refine tb_topI (y := dA ((run1 g sp).2.2.1 (run1 g sp).2.2.2.2.2.1)) (by rw [nI_clamp (show (run1 g sp).2.2.2.2.2.1 < 2 ^ 31 by omega)]; exact hdf) ?_
            refine tb_if_ne 79 d_Mo_run_74 (by decide) rfl (fun h74 => ?_) (fun h74 => ?_)
            · have hsp1 : spc (run1 g sp) := ⟨hz1, Or.inr h74⟩
              rw [cif_t hsp1]
              refine tb_aload_0 d_Mo_run_79 rfl ?_
              refine tb_iconst (1) (by decide) d_Mo_run_80 rfl ?_
              refine tb_callVq c_Mo_247 d_Mo_run_81 rfl rfl rfl (Nat.le_of_ble_eq_true rfl) (by first | exact hSC.k rfl) (ok_Mo_save1 hG hSC (d + 6)) (fun v4 MD hP => ?_)
              obtain ⟨rfl, oD, d91, d92⟩ := hP
              have hSD := oD.sh hSC
              have hL6 : ∀ f, f < 12 → tb_I MD 191 f = tb_I M1 191 f := fun f hf => by rw [d91 f hf, hFC.1.i (by omega), b93 f hf, oA.i (by omega)]
              have hFD : MFs MD g.2.2.1.1 := by
                refine ⟨fun f hf => by rw [hL6 f hf]; exact hF.1 f hf, fun f hf => ?_⟩
                rw [← hF.2 f hf]
                refine pl_eq (s := 190) (s' := 190) (hL6 f hf) (fun i hi => ?_) (by rw [hL6 f hf]; exact hF.1 f hf)
                show tb_I MD 192 (6 * f + i) = tb_I M1 192 (6 * f + i)
                rw [d92 _ (by omega), hFC.1.i (by omega), b94 _ (by omega), oA.i (by omega)]
              refine tb_aload_0 d_Mo_run_84 rfl ?_
              refine tb_dup d_Mo_run_85 rfl ?_
              refine g_Mo_254 d_Mo_run_86 rfl rfl (by exact hSD.k rfl) ?_
              refine tb_topI (y := g.2.2.2.2) (by rw [oD.i (by omega)]; exact hMC.2.2.2.2.2.2) ?_
              refine tb_iconst (1) (by decide) d_Mo_run_89 rfl ?_
              refine tb_iadd d_Mo_run_90 rfl ?_
              refine p_Mo_254 d_Mo_run_91 rfl rfl (by exact hSD.k rfl) ?_
              have oE : On MD (tb_sI MD 190 39 (g.2.2.2.2 + 1)) (fun q => q = 190) := On.sI rfl
              have eE : tb_I (tb_sI MD 190 39 (g.2.2.2.2 + 1)) 190 = va_up (tb_I MC 190) 39 (g.2.2.2.2 + 1) := by rw [sI_at, oD.i (by omega)]
              generalize tb_sI MD 190 39 (g.2.2.2.2 + 1) = ME at oE eE
              have hSE := oE.sh hSD
              have iE : ∀ q, ¬ (190 ≤ q ∧ q ≤ 192) → tb_I ME q = tb_I MC q := fun q hq => by rw [oE.i (by omega), oD.i (by omega)]
              have hCE := hRC.1.of (M1 := ME) (by rw [eE, vu_ne _ _ (by omega)]) (iE _ (by omega)) (iE _ (by omega))
              have hFE := hFD.of (M1 := ME) (oE.i (by omega)) (oE.i (by omega))
              have hStE := hRC.2.2.1.of (M1 := ME) (by rw [eE, vu_ne _ _ (by omega)]) (fun q _ _ => iE q (by omega))
              refine tb_aload_0 d_Mo_run_94 rfl ?_
              refine tb_iconst (0) (by decide) d_Mo_run_95 rfl ?_
              refine tb_topI (y := nI 0) rfl ?_
              refine tb_callVq c_Mo_251 d_Mo_run_96 rfl rfl rfl (Nat.le_of_ble_eq_true rfl) (by exact hSE.k rfl) (ok_Mo_attempt hG hSE hCE hFE hStE (sp := 0) (by omega) d) (fun v5 MF hP => ?_)
              obtain ⟨rfl, hRF, hFF⟩ := hP
              change RM MF g.2.1.1 g.2.1.2 (run2 g sp) at hRF
              change tb_Wp _ _ _ _ _ _ _ [.inl (bI ((run2 g sp).2.2.2.1 = 0))] _ _
              have eF : ∀ j, j ≠ 10 → ¬ (21 ≤ j ∧ j ≤ 24) → ¬ (35 ≤ j ∧ j ≤ 38) → tb_I MF 190 j = va_up (tb_I MC 190) 39 (g.2.2.2.2 + 1) j := fun j a b c => by rw [hFF.2 j a b c, eE]
              have hHF : MHd MF g.1 := hHC.of (by rw [eF 5 (by omega) (by omega) (by omega), vu_ne _ _ (by omega)]) (by rw [hFF.1.i (by omega), iE _ (by omega)])
              have o1F : On M MF AM := ((o1C.trans (oD.mono (fun q hq => ⟨by omega, by omega⟩))).trans (oE.mono (fun q hq => ⟨by omega, by omega⟩))).trans (hFF.1.mono (fun q hq => AR.am hq))
              have hMF : MIs MF (g.1, g.2.1, run2 g sp, 1, g.2.2.2.2 + 1) := hRF.mis (hFF.1.sh hSE) hHF (by rw [eF 26 (by omega) (by omega) (by omega), vu_ne _ _ (by omega)]; exact hMC.2.2.2.2.2.1.1) (by rw [eF 39 (by omega) (by omega) (by omega), vu_at])
              have h0F : tb_I MF 190 0 = nI 0 := by rw [eF 0 (by omega) (by omega) (by omega), vu_ne _ _ (by omega)]; exact h0C
              refine tb_if_eq 106 d_Mo_run_99 (by decide) rfl (fun h99 => ?_) (fun h99 => ?_)
              · have hw : bI (¬ (run2 g sp).2.2.2.1 = 0) = 1 := bI_t (bI_0.mp h99)
                refine tb_iconst (1) (by decide) d_Mo_run_106 rfl ?_
                refine tb_ireturn d_Mo_run_107 rfl (by first | rfl | assumption) ?_
                exact ⟨_, rfl, fun _ => by rw [← hw], ⟨_, rfl⟩, hMF, o1F, h0F⟩
              · have hw : bI (¬ (run2 g sp).2.2.2.1 = 0) = 0 := bI_f (fun z => h99 (bI_f z))
                refine tb_iconst (0) (by decide) d_Mo_run_102 rfl ?_
                refine tb_goto 107 d_Mo_run_103 (by decide) ?_
                refine tb_ireturn d_Mo_run_107 rfl (by first | rfl | assumption) ?_
                exact ⟨_, rfl, fun _ => by rw [← hw], ⟨_, rfl⟩, hMF, o1F, h0F⟩
            · have hns : ¬ spc (run1 g sp) := fun z => z.2.elim (fun q => q h62) (fun q => q h74)
              rw [cif_f hns]
              refine tb_iconst (1) (by decide) d_Mo_run_77 rfl ?_
              refine tb_ireturn d_Mo_run_78 rfl (by first | rfl | assumption) ?_
              exact ⟨_, rfl, fun _ => by rw [bI_t hz1], ⟨_, rfl⟩, hMC, o1C, h0C⟩
        · have hz0 : (run1 g sp).2.2.2.1 = 0 := Classical.not_not.mp (fun z => h48 (bI_f z))
          have hns : ¬ spc (run1 g sp) := fun z => z.1 hz0
          rw [cif_f hns]
          refine tb_iconst (0) (by decide) d_Mo_run_51 rfl ?_
          refine tb_ireturn d_Mo_run_52 rfl (by first | rfl | assumption) ?_
          exact ⟨_, rfl, fun _ => by rw [bI_f (fun z => z hz0)], ⟨_, rfl⟩, hMC, o1C, h0C⟩
      · have hn0 : g.2.1.1 = 0 := (nI_eq (by omega) (by decide)).mp (show nI g.2.1.1 = nI 0 from h24)
        rw [if_pos hn0, cif_f (fun z => z.2 hn0)]
        refine tb_aload_0 d_Mo_run_27 rfl ?_
        refine tb_iconst (2) (by decide) d_Mo_run_28 rfl ?_
        refine tb_callVr c_Mo_122 d_Mo_run_29 rfl rfl rfl (Nat.le_of_ble_eq_true rfl) (by first | exact hS1.k rfl) (ok_Mo_fail hG hS1 2 (d + 6)) ?_
        refine tb_ireturn d_Mo_run_32 rfl (by first | rfl | assumption) ?_
        exact ⟨_, rfl, fun z => absurd z (by decide), ⟨_, rfl⟩, (MIs.put (g := g) ⟨hS1, hH, hC, hF, hSt, hL, hA⟩ (Or.inl rfl)).1, o0.trans (c190c _ 0 2), c190 _ 2⟩
    · have hx : ¬ inI x 5 := fun z => h11 (by
        obtain ⟨j, hj, rfl⟩ := inI_n (by omega) z
        exact (nI_leI (a := j) (b := 4) (by omega) (by omega)).mpr (by omega))
      rw [cif_f hx, cif_f (fun z => hx z.1)]
      refine tb_aload_0 d_Mo_run_14 rfl ?_
      refine tb_iconst (1) (by decide) d_Mo_run_15 rfl ?_
      refine tb_callVr c_Mo_122 d_Mo_run_16 rfl rfl rfl (Nat.le_of_ble_eq_true rfl) (by first | exact hS1.k rfl) (ok_Mo_fail hG hS1 1 (d + 6)) ?_
      refine tb_ireturn d_Mo_run_19 rfl (by first | rfl | assumption) ?_
      exact ⟨_, rfl, fun z => absurd z (by decide), ⟨_, rfl⟩, (MIs.put (g := g) ⟨hS1, hH, hC, hF, hSt, hL, hA⟩ (Or.inl rfl)).1, o0.trans (c190c _ 0 1), c190 _ 1⟩
end Mo22
