/-! What stays when other cells are written. -/
section Frames
variable {M M1 : tb_M} {t u n c : Nat} {x : TrV} {S : StV} {fs : Fs}
theorem gK_tr6 : ∀ t, t < 218 → gK t = 7 → (t - 34) % 6 = 0 ∧ 34 ≤ t ∧ t ≤ 172 := by decide +kernel
theorem tr6 (h : gK t = 7) : (t - 34) % 6 = 0 ∧ 34 ≤ t ∧ t ≤ 172 := gK_tr6 t (gK_lt (by rw [h]; decide)) h
theorem tr_sep (ht : gK t = 7) (hu : gK u = 7) (h : t ≠ u) {i : Nat} (hi : i ≤ 5) : ¬ ATr t (u + i) := fun z => by
  have a := tr6 ht
  have b := tr6 hu
  obtain ⟨z1, z2⟩ := z
  omega
theorem pl_of {s p : Nat} (h1 : tb_I M1 (s + 1) = tb_I M (s + 1)) (h2 : tb_I M1 (s + 2) = tb_I M (s + 2)) : pl M1 s p = pl M s p := by unfold pl; rw [h1, h2]
theorem ShOk.of {s : Nat} (h : ShOk M s) (h1 : tb_I M1 (s + 1) = tb_I M (s + 1)) (h2 : tb_I M1 (s + 2) = tb_I M (s + 2)) : ShOk M1 s := ⟨h.1, by rw [h1]; exact h.2.1, by rw [h2]; exact h.2.2⟩
theorem FsIs.of {s : Nat} (h : FsIs M s fs) (h1 : tb_I M1 (s + 1) = tb_I M (s + 1)) (h2 : tb_I M1 (s + 2) = tb_I M (s + 2)) : FsIs M1 s fs := ⟨h.1.of h1 h2, fun f hf => by rw [pl_of h1 h2]; exact h.2 f hf⟩
theorem TxOk.of (h : TxOk M t n) (h1 : tb_I M1 t = tb_I M t) (h2 : tb_I M1 (t + 1) = tb_I M (t + 1)) : TxOk M1 t n := ⟨h.1, by rw [h1]; exact h.2.1, h.2.2.1, by rw [h2]; exact h.2.2.2⟩
theorem TrOk.of (h : TrOk M t n) (hI : ∀ i, i ≤ 5 → tb_I M1 (t + i) = tb_I M (t + i)) : TrOk M1 t n := by
  have e0 : tb_I M1 t = tb_I M t := hI 0 (by omega)
  exact ⟨h.1, h.2.1.of (hI 1 (by omega)) (hI 2 (by omega)), h.2.2.1.of (hI 4 (by omega)) (hI 5 (by omega)), by rw [e0]; exact h.2.2.2⟩
theorem TrIs.of (h : TrIs M t x) (hI : ∀ i, i ≤ 5 → tb_I M1 (t + i) = tb_I M (t + i)) : TrIs M1 t x := by
  have e0 : tb_I M1 t = tb_I M t := hI 0 (by omega)
  have hp : ∀ p, pl M1 (t + 3) p = pl M (t + 3) p := fun p => pl_of (hI 4 (by omega)) (hI 5 (by omega))
  refine ⟨by rw [txt_on (hI 1 (by omega)) (hI 2 (by omega))]; exact h.1, fun p hp' => by rw [hp]; exact h.2.1 p hp', by rw [e0]; exact h.2.2.1, by rw [e0]; exact h.2.2.2.1, by rw [e0]; exact h.2.2.2.2.1, fun z => by rw [hp]; exact h.2.2.2.2.2 z⟩
theorem StOk.of (h : StOk M c) (h3 : tb_I M1 32 1 = tb_I M 32 1) (hR : tb_R M1 33 = tb_R M 33) (hI : ∀ q, 34 ≤ q → q < 178 → tb_I M1 q = tb_I M q) : StOk M1 c := by
  refine ⟨by rw [h3]; exact h.1, h.2.1, fun k hk => ?_, by rw [hR]; exact h.2.2.2⟩
  rw [hR]
  obtain ⟨n, hT⟩ := h.2.2.1 k hk
  have := tr6 hT.1
  exact ⟨n, hT.of fun i hi => hI _ (by omega) (by omega)⟩
theorem StIs.of (h : StIs M S) (h3 : tb_I M1 32 1 = tb_I M 32 1) (hR : tb_R M1 33 = tb_R M 33) (hI : ∀ q, 34 ≤ q → q < 178 → tb_I M1 q = tb_I M q) : StIs M1 S := by
  refine ⟨h.1.of h3 hR hI, fun k hk => ?_⟩
  rw [hR]
  obtain ⟨n, hT⟩ := h.1.2.2.1 k (by have := h.1.2.1; omega)
  have := tr6 hT.1
  exact (h.2 k hk).of fun i hi => hI _ (by omega) (by omega)
theorem DeIs.of {k : Nat} {y : DeV} (h : DeIs M k y) (h1 : tb_I M1 (180 + k) = tb_I M (180 + k)) : DeIs M1 k y := by
  unfold DeIs
  rw [h1]
  exact h
theorem msk_congr {b d : Nat → Prop} : ∀ n, (∀ p, p < n → (b p ↔ d p)) → msk b n = msk d n := by
  intro n
  induction n with
  | zero => intro _; rfl
  | succ n ih =>
    intro h
    have e := ih fun p hp => h p (by omega)
    by_cases c : b n
    · rw [msk_t c, msk_t ((h n (by omega)).mp c), e]
    · rw [msk_f c, msk_f (fun z => c ((h n (by omega)).mpr z)), e]
def WfT (x : TrV) : Prop := tWr x = -1 ∨ ∃ f, f < 12 ∧ tWr x = nI f
theorem came_eq (hx : WfT x) : msk (fun p => fs p ≠ none) 12 ^^^ msk (fun p => wrA fs x p ≠ none) 12 = if turA x fs = 0 then 0 else wm (tWr x) := by
  refine low_ext (low_xor (low_msk _ (Nat.le_refl _)) (low_msk _ (Nat.le_refl _))) (low_tu hx) fun f hf => ?_
  rw [Bool.eq_iff_iff, gb_xm hf]
  unfold turA
  by_cases c : ∃ f, f < 12 ∧ tWr x = nI f ∧ ¬ (fs f = none ↔ tRs x = none)
  · rw [bI_t c, if_neg (by decide)]
    obtain ⟨g, hg, h1, h2⟩ := c
    rw [h1, wm_f hg, gb_bitN hg, decide_eq_true_iff]
    unfold wrA
    rw [h1]
    by_cases e : g = f
    · subst e
      rw [if_pos rfl]
      exact ⟨fun _ => rfl, fun _ z => h2 (Decidable.not_iff_not.mp z)⟩
    · rw [if_neg (fun z => e ((nI_eq (by omega) (by omega)).mp z))]
      exact ⟨fun z => absurd Iff.rfl z, fun z => absurd z e⟩
  · rw [bI_f c, if_pos rfl, gb_0]
    constructor
    · intro z
      exfalso
      refine z ?_
      unfold wrA
      by_cases e : tWr x = nI f
      · rw [if_pos e]
        have : (fs f = none ↔ tRs x = none) := Classical.byContradiction fun q => c ⟨f, hf, e, q⟩
        exact not_congr this
      · rw [if_neg e]
    · intro z; cases z
theorem put_fs (hF : FsIs M 26 fs) (hT : TrIs M t x) (hx : WfT x) {v : Option tb_V} (h : PutP M M1 t 26 v) : FsIs M1 26 (wrA fs x) ∧ On M M1 (A2 26) ∧ v = some (.inl (bI (chgW x fs))) := by
  have hw := hT.2.2.2.2.1
  rcases h with ⟨hv, rfl, h⟩ | ⟨hv, f, hf, h1, h2, h3⟩
  · have hno : ¬ chgW x fs := by
      rintro ⟨f, hf, e, hne⟩
      rcases h with h | ⟨g, hg, e2, h⟩
      · rw [hw, e] at h; exact nI_nm1 (by omega) h
      · rw [hw, e] at e2
        have := (nI_eq (by omega) (by omega)).mp e2
        subst this
        rw [hF.2 f hf, hT.2.2.2.2.2 (by rw [e]; exact nI_nm1 (by omega))] at h
        exact hne h
    refine ⟨⟨hF.1, fun f hf => ?_⟩, On.rf, by rw [hv, bI_f hno]⟩
    unfold wrA
    by_cases e : tWr x = nI f
    · rw [if_pos e, hF.2 f hf]
      exact Classical.byContradiction fun z => hno ⟨f, hf, e, z⟩
    · rw [if_neg e]; exact hF.2 f hf
  · rw [hw] at h1
    have hr := hT.2.2.2.2.2 (by rw [h1]; exact nI_nm1 (by omega))
    have hc : chgW x fs := ⟨f, hf, h1, by rw [← hF.2 f hf, ← hr]; exact h2⟩
    refine ⟨⟨h3.2.1, fun g hg => ?_⟩, h3.1, by rw [hv, bI_t hc]⟩
    unfold wrA
    by_cases e : g = f
    · subst e
      rw [if_pos h1, h3.2.2.1, hr]
    · rw [if_neg (fun z => e ((nI_eq (by omega) (by omega)).mp (z.symm.trans h1))), h3.2.2.2 g e (by show g < gL 27; rw [show gL 27 = 12 from rfl]; exact hg)]
      exact hF.2 g hg
theorem txt_la {l : List Int32} (h : TxOk M t n) (hl : l.length = n) (ha : ∀ i, ta M t n i = la l i) : txt M t = l := by
  apply List.ext_getElem?
  intro i
  by_cases hi : i < n
  · have h1 := ha i
    rw [ta_la h] at h1
    unfold la at h1
    rw [List.getElem?_eq_getElem (by rw [txt_len h]; exact hi), List.getElem?_eq_getElem (by omega)]
    simp only [List.getD_eq_getElem?_getD, List.getElem?_eq_getElem (show i < (txt M t).length by rw [txt_len h]; exact hi), List.getElem?_eq_getElem (show i < l.length by omega), Option.getD_some] at h1
    rw [h1]
  · rw [List.getElem?_eq_none (by rw [txt_len h]; omega), List.getElem?_eq_none (by omega)]
theorem Wk.is {rd ak wr : Int32} {v : Option (List Int32)} {tx : List Int32} {F : Fs} (h : Wk M M1 t n (la tx) F rd ak wr v) (hl : tx.length = n) (hF : ∀ f, f < 12 → F f = fs f) {r : Option (List Int32)} (hv : wr ≠ -1 → v = r) : TrIs M1 t (tx, fs, rd, ak, wr, r) :=
  ⟨txt_la h.2.1.2.1 hl h.2.2.1, fun p hp => (h.2.2.2.1 p hp).trans (hF p hp), h.2.2.2.2.1, h.2.2.2.2.2.1, h.2.2.2.2.2.2.1, fun z => h.2.2.2.2.2.2.2.trans (hv z)⟩
/-- a row more: it is the last, the others stand as the state says -/
def AppP (M M1 : tb_M) (S : StV) (t : Nat) : Prop := On2 M M1 (fun q => q = 32) (fun q => q = 33) ∧ ∃ c, StOk M1 (c + 1) ∧ t = tb_R M1 33 c ∧ ∀ x, (appS S x).1 = c + 1 ∧ (appS S x).2 c = x ∧ ∀ k, k < c → TrIs M1 (tb_R M1 33 k) ((appS S x).2 k)
theorem ok_St_app {E : tb_E} (hG : tb_G E) (hS : Sh M) (hI : StIs M S) (d : Nat) : tb_Rel E m_St_append d [.inr (.inl 32)] M (fun v M1 => ∃ t, v = some (.inr (.inl t)) ∧ AppP M M1 S t) := by
  by_cases h : S.1 < 24
  · refine tb_Ok_mono (ok_St_append0 hG hS hI.1 h d) fun o m hm => ?_
    obtain ⟨rfl, rfl⟩ := hm
    have o2 : On M (tb_sI M 32 1 (nI (S.1 + 1))) (fun q => q = 32) := On.sI rfl
    have hR : tb_R (tb_sI M 32 1 (nI (S.1 + 1))) = tb_R M := o2.r
    refine ⟨_, rfl, _, rfl, o2.two, S.1, ⟨by rw [sI_at]; simp [va_up], by omega, fun k hk => ?_, by rw [hR]; exact hI.1.2.2.2⟩, by rw [hR], fun x => ⟨by unfold appS; rw [if_pos h], by unfold appS; rw [if_pos h]; simp, fun k hk => ?_⟩⟩
    · rw [hR]
      obtain ⟨n, hT⟩ := hI.1.2.2.1 k hk
      have := tr6 hT.1
      exact ⟨n, hT.of fun i hi => o2.i (by omega)⟩
    · rw [hR]
      unfold appS
      rw [if_pos h]
      show TrIs _ _ (if k = S.1 then x else S.2 k)
      rw [if_neg (by omega)]
      obtain ⟨n, hT⟩ := hI.1.2.2.1 k (by omega)
      have := tr6 hT.1
      exact (hI.2 k hk).of fun i hi => o2.i (by omega)
  · have h24 : S.1 = 24 := by have := hI.1.2.1; omega
    have hC := hI.1
    rw [h24] at hC
    refine tb_Ok_mono (ok_St_append1 hG hS hC d) fun o m hm => ?_
    obtain ⟨v, rfl, rfl, o2, hR⟩ := hm
    have hIe : tb_I m = tb_I M := funext fun q => o2.i (fun z => z)
    have hRk : ∀ k, tb_R m 33 k = if k = 23 then tb_R M 33 0 else if k < 23 then tb_R M 33 (k + 1) else tb_R M 33 k := fun k => by
      rw [hR]
      unfold va_up rot
      by_cases c : k = 23
      · rw [if_pos c, if_pos c]
      · rw [if_neg c, if_neg c]
        by_cases c2 : k < 23
        · rw [if_pos ⟨by omega, c2⟩, if_pos c2]
        · rw [if_neg (by omega), if_neg c2]
    have hix : ∀ k, k < 24 → ∃ j, j < 24 ∧ tb_R m 33 k = tb_R M 33 j ∧ j = (if k = 23 then 0 else k + 1) := fun k hk => by
      rw [hRk]
      by_cases c : k = 23
      · rw [if_pos c, if_pos c]; exact ⟨0, by omega, rfl, rfl⟩
      · rw [if_neg c, if_pos (by omega), if_neg c]; exact ⟨k + 1, by omega, rfl, rfl⟩
    refine ⟨_, rfl, _, rfl, o2.mono (fun q z => False.elim z) (fun q z => z), 23, ⟨by rw [hIe]; exact hC.1, by omega, fun k hk => ?_, fun i j hi hj e => ?_⟩, by rw [hRk]; rfl, fun x => ⟨by unfold appS; rw [if_neg h], by unfold appS; rw [if_neg h]; simp, fun k hk => ?_⟩⟩
    · obtain ⟨j, hj, e, -⟩ := hix k hk
      rw [e]
      obtain ⟨n, hT⟩ := hC.2.2.1 j hj
      exact ⟨n, hT.of fun i _ => by rw [hIe]⟩
    · obtain ⟨a, ha, e1, f1⟩ := hix i hi
      obtain ⟨b, hb, e2, f2⟩ := hix j hj
      have := hC.2.2.2 a b ha hb (by rw [← e1, ← e2, e])
      split at f1 <;> split at f2 <;> omega
    · rw [hRk, if_neg (by omega), if_pos hk]
      unfold appS
      rw [if_neg h]
      show TrIs _ _ (if k < 23 then S.2 (k + 1) else x)
      rw [if_pos hk]
      exact (hI.2 (k + 1) (by omega)).of fun i _ => by rw [hIe]
end Frames
