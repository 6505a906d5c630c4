/-! How the class's memory shows the state. -/
def TrIs (M : tb_M) (t : Nat) (x : TrV) : Prop := txt M (t + 1) = tT x ∧ (∀ p, p < 12 → pl M (t + 3) p = tF x p) ∧ tb_I M t 2 = tRd x ∧ tb_I M t 3 = tAk x ∧ tb_I M t 4 = tWr x ∧ (tWr x ≠ -1 → pl M (t + 3) 12 = tRs x)
def StIs (M : tb_M) (S : StV) : Prop := StOk M S.1 ∧ ∀ k, k < S.1 → TrIs M (tb_R M 33 k) (S.2 k)
def FsIs (M : tb_M) (s : Nat) (fs : Fs) : Prop := ShOk M s ∧ ∀ f, f < 12 → pl M s f = fs f
def WfD (x : DeV) : Prop := (dO x = 0 ∨ dO x = 1 ∨ dO x = 2 ∨ dO x = 3) ∧ (dA x = 0 ∨ dA x = 1) ∧ (dO x = 0 → dA x = 0)
def DeIs (M : tb_M) (k : Nat) (x : DeV) : Prop := WfD x ∧ tb_I M (180 + k) 0 = (if dA x = 0 then dO x else dO x + 4) ∧ tb_I M (180 + k) 1 = dY x ∧ tb_I M (180 + k) 2 = dA x ∧ (¬ dO x = 0 → (dWr x = -1 ∨ ∃ f, f < 12 ∧ dWr x = nI f) ∧ tb_I M (180 + k) 3 = dRd x ∧ tb_I M (180 + k) 4 = dAk x ∧ tb_I M (180 + k) 5 = wm (dWr x) ∧ tb_I M (180 + k) 6 = (if dTu x = 0 then 0 else wm (dWr x)))
def HzIs (M : tb_M) (n : Nat) (D : Nat → DeV) (h : HzV) : Prop := (h.1 = 0 → tb_I M 178 2 = -1) ∧ (¬ h.1 = 0 → h.1 ≤ 3 ∧ h.2.1 < n ∧ h.2.2.1 < n ∧ tb_I M 178 2 = nI h.1 ∧ tb_I M 178 3 = nI h.2.1 ∧ tb_I M 178 4 = nI h.2.2.1 ∧ tb_I M 178 5 = h.2.2.2 ∧ tb_I M 178 6 = bI (¬ dA (D h.2.1) = 0 ∨ ¬ dA (D h.2.2.1) = 0))
def RIs (M : tb_M) (n : Nat) (R : RS) : Prop := FsIs M 26 R.1 ∧ StIs M R.2.1 ∧ tb_I M 178 1 = nI n ∧ (∀ k, k < n → DeIs M k (R.2.2.1 k)) ∧ HzIs M n R.2.2.1 R.2.2.2
section Views
variable {M : tb_M} {S : StV} {fs : Fs} {tx : List Int32}
theorem DeIs.done {k : Nat} {x : DeV} (h : DeIs M k x) : tb_I M (180 + k) 0 = 0 ↔ dO x = 0 := by
  rw [h.2.1]
  obtain ⟨h1, h2, h3⟩ := h.1
  rcases h2 with e | e
  · rw [if_pos e]
  · rw [e, if_neg (by decide)]
    constructor
    · intro z; rcases h1 with q | q | q | q <;> rw [q] at z <;> exact absurd z (by decide)
    · intro z; exact absurd ((h3 z).symm.trans e) (by decide)
theorem chg_iff {t : Nat} {x : TrV} (hT : TrIs M t x) (hF : FsIs M 26 fs) {f : Nat} (hf : f < 12) : chg M t 26 f ↔ chR x fs f := by
  unfold chg chR
  rw [hT.2.2.1, hT.2.1 f hf, hF.2 f hf]
theorem gb_xm {p q : Nat → Prop} {f : Nat} (hf : f < 12) : gb (msk p 12 ^^^ msk q 12) f = true ↔ ¬ (p f ↔ q f) := by
  rw [gb_xor]
  have h1 := gb_msk p 12 (Nat.le_refl _) f
  have h2 := gb_msk q 12 (Nat.le_refl _) f
  cases e1 : gb (msk p 12) f <;> cases e2 : gb (msk q 12) f <;> simp only [e1, e2] at h1 h2 ⊢ <;> simp [hf] at h1 h2 ⊢ <;> simp [h1, h2]
theorem ask_iff {t : Nat} {x : TrV} (hT : TrIs M t x) (hF : FsIs M 26 fs) {f : Nat} (hf : f < 12) : bt (askCh M t 26) f ↔ chA x fs f := by
  rw [bt_gb hf]
  unfold askCh chA
  rw [gb_and, Bool.and_eq_true, gb_xm hf, ← bt_gb hf, hT.2.2.2.1, hT.2.1 f hf, hF.2 f hf]
  constructor
  · rintro ⟨a, b⟩; exact ⟨a, fun z => b (not_congr z)⟩
  · rintro ⟨a, b⟩; exact ⟨a, fun z => b (Decidable.not_iff_not.mp z)⟩
theorem low_ask (M : tb_M) (t s : Nat) : low (askCh M t s) := low_andr (low_xor (low_msk _ (Nat.le_refl _)) (low_msk _ (Nat.le_refl _)))
theorem ask_0 {t : Nat} {x : TrV} (hT : TrIs M t x) (hF : FsIs M 26 fs) : askCh M t 26 = 0 ↔ ∀ f, f < 12 → ¬ chA x fs f := by
  constructor
  · intro h f hf z
    have := (bt_gb hf).mp ((ask_iff hT hF hf).mpr z)
    rw [h, gb_0] at this
    cases this
  · intro h
    refine Classical.byContradiction fun z => ?_
    obtain ⟨f, hf, hg⟩ := (low_ne (low_ask M t 26)).mp z
    exact h f hf ((ask_iff hT hF hf).mp ((bt_gb hf).mpr hg))
theorem chg_0 {t : Nat} {x : TrV} (hT : TrIs M t x) (hF : FsIs M 26 fs) : msk (chg M t 26) 12 = 0 ↔ ∀ f, f < 12 → ¬ chR x fs f := by
  constructor
  · intro h f hf z
    have := (gb_msk (chg M t 26) 12 (Nat.le_refl _) f).mpr ⟨hf, (chg_iff hT hF hf).mpr z⟩
    rw [h, gb_0] at this
    cases this
  · intro h
    refine Classical.byContradiction fun z => ?_
    obtain ⟨f, hf, hg⟩ := (low_ne (low_msk (chg M t 26) (Nat.le_refl 12))).mp z
    exact h f hf ((chg_iff hT hF hf).mp ((gb_msk (chg M t 26) 12 (Nat.le_refl _) f).mp hg).2)
theorem fit_iff {t : Nat} {x : TrV} (hT : TrIs M t x) (hF : FsIs M 26 fs) : fitsP M t 26 ↔ fitA x fs := by
  unfold fitsP fitA
  rw [ask_0 hT hF, chg_0 hT hF]
theorem isOf_iff (hS : StIs M S) {o : Nat} (ho : txt M o = tx) {k : Nat} (hk : k < S.1) : isOfK M o k ↔ tT (S.2 k) = tx := by
  unfold isOfK
  rw [(hS.2 k hk).1, ho]
theorem lat_of (hS : StIs M S) {o r : Nat} (ho : txt M o = tx) (h : LastP M (isOfK M o) S.1 r) : (r = 0 ∧ latA S tx = none) ∨ ∃ k, k < S.1 ∧ r = tb_R M 33 k ∧ latA S tx = some k := by
  have hc : latA S tx = lastI (isOfK M o) S.1 := lastI_congr fun k hk => (isOf_iff hS ho hk).symm
  rcases h with ⟨h1, h2⟩ | ⟨k, h1, h2⟩
  · exact Or.inl ⟨h1, hc.trans (lastI_no _ h2)⟩
  · exact Or.inr ⟨k, h2.1, h1, hc.trans (lastI_of _ h2)⟩
theorem fit_of (hS : StIs M S) (hF : FsIs M 26 fs) {o r : Nat} (ho : txt M o = tx) (h : LastP M (fun k => isOfK M o k ∧ fitsP M (tb_R M 33 k) 26) S.1 r) : (r = 0 ∧ fitIx S tx fs = none) ∨ ∃ k, k < S.1 ∧ r = tb_R M 33 k ∧ fitIx S tx fs = some k := by
  have hc : fitIx S tx fs = lastI (fun k => isOfK M o k ∧ fitsP M (tb_R M 33 k) 26) S.1 := lastI_congr fun k hk => by rw [isOf_iff hS ho hk, fit_iff (hS.2 k hk) hF]
  rcases h with ⟨h1, h2⟩ | ⟨k, h1, h2⟩
  · exact Or.inl ⟨h1, hc.trans (lastI_no _ h2)⟩
  · exact Or.inr ⟨k, h2.1, h1, hc.trans (lastI_of _ h2)⟩
theorem why_of (hS : StIs M S) (hF : FsIs M 26 fs) {o : Nat} {r : Int32} (ho : txt M o = tx) (h : WhyP M o 26 S.1 r) : r = whyA S tx fs := by
  have hc : latA S tx = lastI (isOfK M o) S.1 := lastI_congr fun k hk => (isOf_iff hS ho hk).symm
  unfold whyA
  rcases h with ⟨h1, h2⟩ | ⟨k, h1, h2⟩
  · rw [hc, lastI_no _ h2]; exact h1
  · rw [hc, lastI_of _ h1]
    have hT := hS.2 k h1.1
    show r = chgF (S.2 k) fs
    unfold chgF
    rcases h2 with ⟨q1, q2⟩ | ⟨q1, q2⟩
    · rw [if_pos (Classical.byContradiction fun z => q1 ((chg_0 hT hF).mpr fun f hf c => z ⟨f, hf, c⟩))]
      refine fst12_fstI (fun f hf => ?_) q2
      rw [bt_gb hf, gb_msk _ 12 (Nat.le_refl _) f, ← chg_iff hT hF hf]
      exact ⟨fun z => z.2, fun z => ⟨hf, z⟩⟩
    · rw [if_neg (fun z => by obtain ⟨f, hf, c⟩ := z; exact (chg_0 hT hF).mp q1 f hf c)]
      exact fst12_fstI (fun f hf => ask_iff hT hF hf) q2
theorem mee_iff {x w : Int32} (hw : w = -1 ∨ ∃ f, f < 12 ∧ w = nI f) : ¬ wm w &&& x = 0 ↔ mee x w := by
  rcases hw with rfl | ⟨f, hf, rfl⟩
  · rw [wm_1]
    constructor
    · intro h; exact absurd (by simp) h
    · rintro ⟨g, hg, h, -⟩; exact absurd h.symm (nI_nm1 (by omega))
  · rw [wm_f hf, gb_and_bit hf]
    constructor
    · intro h; exact ⟨f, hf, rfl, (bt_gb hf).mpr h⟩
    · rintro ⟨g, hg, h, hb⟩
      have := (nI_eq (by omega) (by omega)).mp h
      subst this
      exact (bt_gb hf).mp hb
theorem way_iff {t u : Nat} {x y : TrV} (hT : TrIs M t x) (hU : TrIs M u y) (hx : tWr x = -1 ∨ ∃ f, f < 12 ∧ tWr x = nI f) (hy : tWr y = -1 ∨ ∃ f, f < 12 ∧ tWr y = nI f) : inWay M t u ↔ wayA x y := by
  have e1 : tch M t = tou x := by unfold tch tou; rw [hT.2.2.1, hT.2.2.2.1, hT.2.2.2.2.1]
  have e2 : tch M u = tou y := by unfold tch tou; rw [hU.2.2.1, hU.2.2.2.1, hU.2.2.2.2.1]
  unfold inWay wayA
  rw [e1, e2, hT.2.2.2.2.1, hU.2.2.2.2.1, mee_iff hx, mee_iff hy]
end Views
