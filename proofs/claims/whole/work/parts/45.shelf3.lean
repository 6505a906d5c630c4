/-! Shelf: which are there; sorting. -/
/-- the set of the numbers below n with b -/
noncomputable def msk (b : Nat → Prop) : Nat → Int32
  | 0 => 0
  | n + 1 => @ite _ (b n) (Classical.propDecidable _) (msk b n ||| (1 <<< (nI n &&& 31))) (msk b n)
theorem msk_t {b : Nat → Prop} {n : Nat} (h : b n) : msk b (n + 1) = msk b n ||| (1 <<< (nI n &&& 31)) := by simp only [msk]; rw [if_pos h]
theorem msk_f {b : Nat → Prop} {n : Nat} (h : ¬ b n) : msk b (n + 1) = msk b n := by simp only [msk]; rw [if_neg h]
/-- x put into a list that stands reversed: behind all that are not greater -/
def insR (x : Int32) : List Int32 → List Int32
  | [] => [x]
  | y :: r => if x < y then y :: insR x r else x :: y :: r
def srtR (l : List Int32) : List Int32 := l.foldl (fun acc x => insR x acc) []
def srt (l : List Int32) : List Int32 := (srtR l).reverse
def rp (a : Nat → Int32) : Nat → List Int32
  | 0 => []
  | k + 1 => a k :: rp a k
theorem rp_congr {a b : Nat → Int32} : ∀ k, (∀ i, i < k → a i = b i) → rp a k = rp b k := by
  intro k
  induction k with
  | zero => intro _; rfl
  | succ k ih => intro h; simp only [rp]; rw [h k (by omega), ih (fun i hi => h i (by omega))]
theorem rp_rev (b : Nat → Int32) : ∀ n, (rp b n).reverse = (List.range n).map b := by
  intro n
  induction n with
  | zero => rfl
  | succ n ih => simp only [rp, List.reverse_cons, ih, List.range_succ, List.map_append, List.map_cons, List.map_nil]
theorem ins_rp {a a' : Nat → Int32} {x : Int32} {g : Nat} : ∀ k, g ≤ k → (∀ i, i < g → a' i = a i) → a' g = x → (∀ i, g < i → i ≤ k → a' i = a (i - 1)) → (∀ j, g ≤ j → j < k → x < a j) → (g = 0 ∨ ¬ x < a (g - 1)) → insR x (rp a k) = rp a' (k + 1) := by
  intro k
  induction k with
  | zero =>
    intro hg _ hx _ _ _
    have : g = 0 := by omega
    subst this
    simp [rp, insR, hx]
  | succ k ih =>
    intro hg h1 hx h2 h3 h4
    by_cases e : g = k + 1
    · subst e
      have hn : ¬ x < a k := by
        rcases h4 with h4 | h4
        · omega
        · exact h4
      show (if x < a k then _ else _) = _
      rw [if_neg hn]
      show x :: rp a (k + 1) = a' (k + 1) :: rp a' (k + 1)
      rw [hx, rp_congr (k + 1) (fun i hi => (h1 i hi).symm)]
    · show (if x < a k then _ else _) = _
      rw [if_pos (h3 k (by omega) (by omega))]
      show a k :: insR x (rp a k) = a' (k + 1) :: rp a' (k + 1)
      rw [h2 (k + 1) (by omega) (by omega), ih (by omega) h1 hx (fun i hi hk => h2 i hi (by omega)) (fun j hj hk => h3 j hj (by omega)) h4]
      rfl
theorem nI_dec (g : Nat) : nI (g + 1) + (-1) = nI g := by
  rw [← nI_pred g, Int32.sub_eq_add_neg]
theorem srtR_succ (a : Nat → Int32) (k : Nat) : srtR ((List.range (k + 1)).map a) = insR (a k) (srtR ((List.range k).map a)) := by
  unfold srtR
  rw [List.range_succ, List.map_append, List.foldl_append]
  rfl
def NumIs (M M1 : tb_M) (s p : Nat) (b : Nat → Int32) : Prop := On M M1 (A2 s) ∧ tb_I M1 (s + 1) = tb_I M (s + 1) ∧ (∀ i, i < 6 → tb_I M1 (s + 2) (6 * p + i) = b i) ∧ (∀ k, (k < 6 * p ∨ 6 * p + 6 ≤ k) → tb_I M1 (s + 2) k = tb_I M (s + 2) k) ∧ ∀ i, i < 6 → narrow .short (.int (b i)) = .int (b i)
theorem NumIs.put {M M1 : tb_M} {s p i : Nat} {b : Nat → Int32} {x : Int32} (h : NumIs M M1 s p b) (hi : i < 6) (hx : narrow .short (.int x) = .int x) : NumIs M (tb_sI M1 (s + 2) (6 * p + i) x) s p (va_up b i x) := by
  obtain ⟨h1, h2, h3, h4, h5⟩ := h
  refine ⟨h1.trans (On.sI (Or.inr rfl)), by rw [sI_of _ _ _ (by omega)]; exact h2, fun j hj => ?_, fun k hk => ?_, fun j hj => ?_⟩
  · rw [sI_at]
    unfold va_up
    by_cases e : j = i
    · subst e; rw [if_pos rfl, if_pos rfl]
    · rw [if_neg (by omega), if_neg e]; exact h3 j hj
  · rw [sI_at]
    unfold va_up
    rw [if_neg (by omega)]
    exact h4 k hk
  · unfold va_up
    by_cases e : j = i
    · rw [if_pos e]; exact hx
    · rw [if_neg e]; exact h5 j hj
section Shelf3
variable {E : tb_E} {M : tb_M} {s p : Nat}
theorem lp_Sh_those (hS : Sh M) (hT : ShOk M s) {d rc rs : Nat} {Q : tb_O → tb_M → Prop} (hQ : Q (.inl (some (.inl (msk (fun p => pl M s p ≠ none) 12)))) M) : ∀ (m j : Nat), 12 - j = m → j ≤ 12 → tb_Wp E m_Sh_thoseThere d rc rs 4 [some (.inr s), some (.inl (msk (fun p => pl M s p ≠ none) j)), some (.inl (nI j))] [] M Q := by
  obtain ⟨k1, r0, r1, k2, k3, l2, l3, b1, b2⟩ := hS.sh hT.1
  intro m
  induction m using Nat.strongRecOn with
  | ind m ih =>
    intro j hm hj
    refine tb_iload_2 d_Sh_thoseThere_4 rfl ?_
    refine tb_bipush (12) (by decide) d_Sh_thoseThere_5 rfl ?_
    refine tb_icmp_ge 32 d_Sh_thoseThere_7 (by decide) rfl (fun h7 => ?_) (fun h7 => ?_)
    · have hje : 12 ≤ j := (nI_leI (a := 12) (b := j) (by omega) (by omega)).mp h7
      have hj12 : j = 12 := by omega
      subst hj12
      refine tb_iload_1 d_Sh_thoseThere_32 rfl ?_
      refine tb_ireturn d_Sh_thoseThere_33 rfl (by first | rfl | assumption) ?_
      exact hQ
    · have hlt : j < 12 := Nat.lt_of_not_le (fun q => h7 ((nI_leI (a := 12) (b := j) (by omega) (by omega)).mpr q))
      refine tb_aload_0 d_Sh_thoseThere_10 rfl ?_
      refine g_Sh_9 d_Sh_thoseThere_11 rfl rfl (by first | exact k1 | exact k2 | exact k3) ?_
      refine tb_topR r0 ?_
      refine tb_iload_2 d_Sh_thoseThere_14 rfl ?_
      refine tb_iaload d_Sh_thoseThere_15 rfl (by first | exact k1 | exact k2 | exact k3) (by first | (rw [l2]; exact vp_in_nI (by omega) (by omega)) | (rw [l3]; exact vp_in_nI (by omega) (by omega))) ?_
      refine tb_topI (y := tb_I M (s + 1) j) (by rw [nI_clamp (show j < 2 ^ 31 by omega)]) ?_
      refine tb_iconst (-1) (by decide) d_Sh_thoseThere_16 rfl ?_
      refine tb_icmp_eq 26 d_Sh_thoseThere_17 (by decide) rfl (fun h17 => ?_) (fun h17 => ?_)
      · have hm2 := msk_f (b := fun p => pl M s p ≠ none) (n := j) (fun q => q (pl_none h17))
        refine tb_iinc_2 (1) d_Sh_thoseThere_26 rfl (by decide) (by decide) ?_
        refine tb_goto 4 d_Sh_thoseThere_29 (by decide) ?_
        rw [nI_1, ← hm2]
        exact ih (12 - (j + 1)) (by omega) (j + 1) rfl (by omega)
      · have hm2 := msk_t (b := fun p => pl M s p ≠ none) (n := j) (pl_ne h17)
        refine tb_iload_1 d_Sh_thoseThere_20 rfl ?_
        refine tb_iconst (1) (by decide) d_Sh_thoseThere_21 rfl ?_
        refine tb_iload_2 d_Sh_thoseThere_22 rfl ?_
        refine tb_ishl d_Sh_thoseThere_23 rfl ?_
        refine tb_ior d_Sh_thoseThere_24 rfl ?_
        refine tb_istore_1 d_Sh_thoseThere_25 rfl (by decide) ?_
        refine tb_iinc_2 (1) d_Sh_thoseThere_26 rfl (by decide) (by decide) ?_
        refine tb_goto 4 d_Sh_thoseThere_29 (by decide) ?_
        rw [nI_1, ← hm2]
        exact ih (12 - (j + 1)) (by omega) (j + 1) rfl (by omega)
theorem ok_Sh_those (hG : tb_G E) (hS : Sh M) (hT : ShOk M s) (d : Nat) : tb_Ret E m_Sh_thoseThere d [.inr (.inl s)] M (some (.inl (msk (fun p => pl M s p ≠ none) 12))) M := by
  refine tb_okOf hG (by decide) rfl (Nat.le_of_ble_eq_true rfl) rfl ?_
  refine tb_iconst (0) (by decide) d_Sh_thoseThere_0 rfl ?_
  refine tb_istore_1 d_Sh_thoseThere_1 rfl (by decide) ?_
  refine tb_iconst (0) (by decide) d_Sh_thoseThere_2 rfl ?_
  refine tb_istore_2 d_Sh_thoseThere_3 rfl (by decide) ?_
  exact lp_Sh_those hS hT ⟨rfl, rfl⟩ 12 0 rfl (by omega)
theorem lp_Sh_sort_in (hS : Sh M) (hT : ShOk M s) (hp : p < gL (s + 1)) {k : Nat} (hk : k < 6) {a : Nat → Int32} {x : Int32} (hx : narrow .short (.int x) = .int x) {d rc rs : Nat} {Q : tb_O → tb_M → Prop}
    (kk : ∀ (M2 : tb_M) (b : Nat → Int32) (a5 : tb_L) (g : Nat), NumIs M M2 s p b → g ≤ k → (∀ i, i < g → b i = a i) → b g = x → (∀ i, g < i → i ≤ k → b i = a (i - 1)) → (∀ i, k < i → i < 6 → b i = a i) → (∀ j, g ≤ j → j < k → x < a j) → (g = 0 ∨ ¬ x < a (g - 1)) → tb_Wp E m_Sh_sort d rc rs 7 [some (.inr s), some (.inl (nI p)), some (.inl (nI (6 * p))), some (.inl (nI (k + 1))), some (.inl x), a5] [] M2 Q) :
    ∀ (g : Nat), g ≤ k → ∀ (M1 : tb_M) (b : Nat → Int32), NumIs M M1 s p b → (∀ i, i < g → b i = a i) → (∀ i, g < i → i ≤ k → b i = a (i - 1)) → (∀ i, k < i → i < 6 → b i = a i) → (∀ j, g ≤ j → j < k → x < a j) → tb_Wp E m_Sh_sort d rc rs 29 [some (.inr s), some (.inl (nI p)), some (.inl (nI (6 * p))), some (.inl (nI k)), some (.inl x), some (.inl (nI g))] [] M1 Q := by
  intro g
  induction g with
  | zero =>
    intro hg M1 b hB h1 h2 h3 h4
    have hS1 := hB.1.sh hS
    obtain ⟨k1, r0, r1, k2, k3, l2, l3, b1, b2⟩ := hS1.sh hT.1
    refine tb_iload_5 d_Sh_sort_29 rfl ?_
    refine tb_if_le 76 d_Sh_sort_31 (by decide) rfl (fun h31 => ?_) (fun h31 => ?_)
    · refine tb_aload_0 d_Sh_sort_76 rfl ?_
      refine g_Sh_15 d_Sh_sort_77 rfl rfl (by first | exact k1 | exact k2 | exact k3) ?_
      refine tb_topR r1 ?_
      refine tb_iload_2 d_Sh_sort_80 rfl ?_
      refine tb_iload_5 d_Sh_sort_81 rfl ?_
      refine tb_iadd d_Sh_sort_83 rfl ?_
      rw [nI_add]
      refine tb_iload_4 d_Sh_sort_84 rfl ?_
      refine tb_sastore d_Sh_sort_86 rfl (by first | exact k1 | exact k2 | exact k3) (by first | (rw [l2]; exact vp_in_nI (by omega) (by omega)) | (rw [l3]; exact vp_in_nI (by omega) (by omega))) ?_
      rw [nI_clamp (show 6 * p + 0 < 2 ^ 31 by omega)]
      rw [nar_sh hx]
      refine tb_iinc_3 (1) d_Sh_sort_87 rfl (by decide) (by decide) ?_
      refine tb_goto 7 d_Sh_sort_90 (by decide) ?_
      rw [nI_1]
      refine kk _ (va_up b 0 x) _ 0 (hB.put (by omega) hx) (by omega) (fun i hi => ?_) (by simp [va_up]) (fun i hi hi2 => ?_) (fun i hi hi2 => ?_) h4 (Or.inl rfl)
      · rw [show va_up b 0 x i = b i by simp [va_up]; omega]; exact h1 i hi
      · rw [show va_up b 0 x i = b i by simp [va_up]; omega]; exact h2 i hi hi2
      · rw [show va_up b 0 x i = b i by simp [va_up]; omega]; exact h3 i hi hi2
    · exact absurd (by decide) h31
  | succ g ih =>
    intro hg M1 b hB h1 h2 h3 h4
    have hS1 := hB.1.sh hS
    obtain ⟨k1, r0, r1, k2, k3, l2, l3, b1, b2⟩ := hS1.sh hT.1
    refine tb_iload_5 d_Sh_sort_29 rfl ?_
    refine tb_if_le 76 d_Sh_sort_31 (by decide) rfl (fun h31 => ?_) (fun h31 => ?_)
    · exact absurd h31 (nI_nle (by omega) (by omega))
    · refine tb_aload_0 d_Sh_sort_34 rfl ?_
      refine g_Sh_15 d_Sh_sort_35 rfl rfl (by first | exact k1 | exact k2 | exact k3) ?_
      refine tb_topR r1 ?_
      refine tb_iload_2 d_Sh_sort_38 rfl ?_
      refine tb_iload_5 d_Sh_sort_39 rfl ?_
      refine tb_iadd d_Sh_sort_41 rfl ?_
      rw [nI_add]
      refine tb_iconst (1) (by decide) d_Sh_sort_42 rfl ?_
      refine tb_isub d_Sh_sort_43 rfl ?_
      rw [show nI (6 * p + (g + 1)) - 1 = nI (6 * p + g) from nI_pred (6 * p + g)]
      refine tb_saload d_Sh_sort_44 rfl (by first | exact k1 | exact k2 | exact k3) (by first | (rw [l2]; exact vp_in_nI (by omega) (by omega)) | (rw [l3]; exact vp_in_nI (by omega) (by omega))) ?_
      refine tb_topI (y := a g) (by rw [nI_clamp (show 6 * p + g < 2 ^ 31 by omega)]; rw [hB.2.2.1 g (by omega)]; exact h1 g (by omega)) ?_
      refine tb_iload_4 d_Sh_sort_45 rfl ?_
      refine tb_icmp_le 76 d_Sh_sort_47 (by decide) rfl (fun h47 => ?_) (fun h47 => ?_)
      · have hst : ¬ x < a g := fun q => Int32.not_le.mpr q h47
        refine tb_aload_0 d_Sh_sort_76 rfl ?_
        refine g_Sh_15 d_Sh_sort_77 rfl rfl (by first | exact k1 | exact k2 | exact k3) ?_
        refine tb_topR r1 ?_
        refine tb_iload_2 d_Sh_sort_80 rfl ?_
        refine tb_iload_5 d_Sh_sort_81 rfl ?_
        refine tb_iadd d_Sh_sort_83 rfl ?_
        rw [nI_add]
        refine tb_iload_4 d_Sh_sort_84 rfl ?_
        refine tb_sastore d_Sh_sort_86 rfl (by first | exact k1 | exact k2 | exact k3) (by first | (rw [l2]; exact vp_in_nI (by omega) (by omega)) | (rw [l3]; exact vp_in_nI (by omega) (by omega))) ?_
        rw [nI_clamp (show 6 * p + (g + 1) < 2 ^ 31 by omega)]
        rw [nar_sh hx]
        refine tb_iinc_3 (1) d_Sh_sort_87 rfl (by decide) (by decide) ?_
        refine tb_goto 7 d_Sh_sort_90 (by decide) ?_
        rw [nI_1]
        refine kk _ (va_up b (g + 1) x) _ (g + 1) (hB.put (by omega) hx) (by omega) (fun i hi => ?_) (by simp [va_up]) (fun i hi hi2 => ?_) (fun i hi hi2 => ?_) h4 (Or.inr hst)
        · rw [show va_up b (g + 1) x i = b i by simp [va_up]; omega]; exact h1 i hi
        · rw [show va_up b (g + 1) x i = b i by simp [va_up]; omega]; exact h2 i hi hi2
        · rw [show va_up b (g + 1) x i = b i by simp [va_up]; omega]; exact h3 i hi hi2
      · have hgo : x < a g := Int32.not_le.mp h47
        have hag : narrow .short (.int (a g)) = .int (a g) := by rw [← h1 g (by omega)]; exact hB.2.2.2.2 g (by omega)
        refine tb_aload_0 d_Sh_sort_50 rfl ?_
        refine g_Sh_15 d_Sh_sort_51 rfl rfl (by first | exact k1 | exact k2 | exact k3) ?_
        refine tb_topR r1 ?_
        refine tb_iload_2 d_Sh_sort_54 rfl ?_
        refine tb_iload_5 d_Sh_sort_55 rfl ?_
        refine tb_iadd d_Sh_sort_57 rfl ?_
        rw [nI_add]
        refine tb_aload_0 d_Sh_sort_58 rfl ?_
        refine g_Sh_15 d_Sh_sort_59 rfl rfl (by first | exact k1 | exact k2 | exact k3) ?_
        refine tb_topR r1 ?_
        refine tb_iload_2 d_Sh_sort_62 rfl ?_
        refine tb_iload_5 d_Sh_sort_63 rfl ?_
        refine tb_iadd d_Sh_sort_65 rfl ?_
        rw [nI_add]
        refine tb_iconst (1) (by decide) d_Sh_sort_66 rfl ?_
        refine tb_isub d_Sh_sort_67 rfl ?_
        rw [show nI (6 * p + (g + 1)) - 1 = nI (6 * p + g) from nI_pred (6 * p + g)]
        refine tb_saload d_Sh_sort_68 rfl (by first | exact k1 | exact k2 | exact k3) (by first | (rw [l2]; exact vp_in_nI (by omega) (by omega)) | (rw [l3]; exact vp_in_nI (by omega) (by omega))) ?_
        refine tb_topI (y := a g) (by rw [nI_clamp (show 6 * p + g < 2 ^ 31 by omega)]; rw [hB.2.2.1 g (by omega)]; exact h1 g (by omega)) ?_
        refine tb_sastore d_Sh_sort_69 rfl (by first | exact k1 | exact k2 | exact k3) (by first | (rw [l2]; exact vp_in_nI (by omega) (by omega)) | (rw [l3]; exact vp_in_nI (by omega) (by omega))) ?_
        rw [nI_clamp (show 6 * p + (g + 1) < 2 ^ 31 by omega)]
        rw [nar_sh hag]
        refine tb_iinc_5 (-1) d_Sh_sort_70 rfl (by decide) (by decide) ?_
        refine tb_goto 29 d_Sh_sort_73 (by decide) ?_
        rw [nI_dec g]
        refine ih (by omega) _ (va_up b (g + 1) (a g)) (hB.put (by omega) hag) (fun i hi => ?_) (fun i hi hi2 => ?_) (fun i hi hi2 => ?_) (fun j hj hj2 => ?_)
        · rw [show va_up b (g + 1) (a g) i = b i by simp [va_up]; omega]; exact h1 i (by omega)
        · by_cases e : i = g + 1
          · subst e; simp [va_up]
          · rw [show va_up b (g + 1) (a g) i = b i by simp [va_up, e]]; exact h2 i (by omega) hi2
        · rw [show va_up b (g + 1) (a g) i = b i by simp [va_up]; omega]; exact h3 i hi hi2
        · by_cases e : j = g
          · subst e; exact hgo
          · exact h4 j (by omega) hj2
theorem lp_Sh_sort (hG : tb_G E) (hS : Sh M) (hT : ShOk M s) (hp : p < gL (s + 1)) {n : Nat} (hn : n ≤ 6) (hln : ln (pl M s p) = n) {d rc rs : Nat} {Q : tb_O → tb_M → Prop} (hQ : ∀ M1 b, NumIs M M1 s p b → rp b n = srtR ((List.range n).map (fun i => tb_I M (s + 2) (6 * p + i))) → Q (.inl none) M1) :
    ∀ (m k : Nat), 6 - k = m → 1 ≤ k → k ≤ 6 → (k ≤ n ∨ n = 0) → ∀ (M1 : tb_M) (b : Nat → Int32) (a4 a5 : tb_L), NumIs M M1 s p b → (n ≠ 0 → rp b k = srtR ((List.range k).map (fun i => tb_I M (s + 2) (6 * p + i)))) → (∀ i, k ≤ i → i < 6 → b i = tb_I M (s + 2) (6 * p + i)) → tb_Wp E m_Sh_sort (d + 1) rc rs 7 [some (.inr s), some (.inl (nI p)), some (.inl (nI (6 * p))), some (.inl (nI k)), a4, a5] [] M1 Q := by
  intro m
  induction m using Nat.strongRecOn with
  | ind m ih =>
    intro k hm hk1 hk6 hkn M1 b a4 a5 hB hsr hrest
    have hS1 := hB.1.sh hS
    have hg := gK_sh s (gK_lt (by rw [hT.1]; decide)) hT.1
    have hT1 : ShOk M1 s := by
      refine ⟨hT.1, by rw [hB.2.1]; exact hT.2.1, fun i hi => ?_⟩
      by_cases e : i < 6 * p ∨ 6 * p + 6 ≤ i
      · rw [hB.2.2.2.1 i e]; exact hT.2.2 i hi
      · obtain ⟨q, hq, rfl⟩ : ∃ q, q < 6 ∧ i = 6 * p + q := ⟨i - 6 * p, by omega, by omega⟩
        rw [hB.2.2.1 q hq]; exact hB.2.2.2.2 q hq
    have hln1 : ln (pl M1 s p) = n := by
      rcases pl_cases hT hp with ⟨e1, e2⟩ | ⟨n', hn', e1, e2⟩
      · rw [pl_none (by rw [hB.2.1]; exact e1), ← hln, e2]
      · rw [pl_some hn' (by rw [hB.2.1]; exact e1), ← hln, e2]
        simp [ln]
    obtain ⟨k1, r0, r1, k2, k3, l2, l3, b1, b2⟩ := hS1.sh hT.1
    refine tb_iload_3 d_Sh_sort_7 rfl ?_
    refine tb_aload_0 d_Sh_sort_8 rfl ?_
    refine tb_iload_1 d_Sh_sort_9 rfl ?_
    refine tb_callVr c_Sh_19 d_Sh_sort_10 rfl rfl rfl (Nat.le_of_ble_eq_true rfl) (by first | exact k1 | exact k2 | exact k3) (ok_Sh_length hG hS1 hT1 hp d) ?_
    rw [hln1]
    refine tb_icmp_ge 93 d_Sh_sort_13 (by decide) rfl (fun h13 => ?_) (fun h13 => ?_)
    · have hje : n ≤ k := (nI_leI (a := n) (b := k) (by omega) (by omega)).mp h13
      refine tb_vreturn d_Sh_sort_93 rfl ?_
      by_cases hn0 : n = 0
      · subst hn0; exact hQ M1 b hB rfl
      · have hkk : k = n := by omega
        subst hkk
        exact hQ M1 b hB (hsr hn0)
    · have hlt : k < n := Nat.lt_of_not_le (fun q => h13 ((nI_leI (a := n) (b := k) (by omega) (by omega)).mpr q))
      refine tb_aload_0 d_Sh_sort_16 rfl ?_
      refine g_Sh_15 d_Sh_sort_17 rfl rfl (by first | exact k1 | exact k2 | exact k3) ?_
      refine tb_topR r1 ?_
      refine tb_iload_2 d_Sh_sort_20 rfl ?_
      refine tb_iload_3 d_Sh_sort_21 rfl ?_
      refine tb_iadd d_Sh_sort_22 rfl ?_
      rw [nI_add]
      refine tb_saload d_Sh_sort_23 rfl (by first | exact k1 | exact k2 | exact k3) (by first | (rw [l2]; exact vp_in_nI (by omega) (by omega)) | (rw [l3]; exact vp_in_nI (by omega) (by omega))) ?_
      refine tb_topI (y := b k) (by rw [nI_clamp (show 6 * p + k < 2 ^ 31 by omega)]; exact hB.2.2.1 k (by omega)) ?_
      refine tb_istore_4 d_Sh_sort_24 rfl (by decide) ?_
      refine tb_iload_3 d_Sh_sort_26 rfl ?_
      refine tb_istore_5 d_Sh_sort_27 rfl (by decide) ?_
      refine lp_Sh_sort_in hS hT hp (show k < 6 by omega) (a := b) (x := b k) (hB.2.2.2.2 k (by omega)) (fun M2 b2 a5 g hB2 hgk g1 g2 g3 g4 g5 g6 => ?_) k (Nat.le_refl _) M1 b hB (fun i _ => rfl) (fun i hi hi2 => absurd hi2 (by omega)) (fun i _ _ => rfl) (fun j hj hj2 => absurd hj2 (by omega))
      refine ih (6 - (k + 1)) (by omega) (k + 1) rfl (by omega) (by omega) (Or.inl (by omega)) M2 b2 _ _ hB2 (fun hn0 => ?_) (fun i hi hi2 => ?_)
      · rw [srtR_succ, ← hsr hn0, ← hrest k (Nat.le_refl _) (by omega)]
        exact (ins_rp k hgk g1 g2 g3 g5 g6).symm
      · rw [g4 i (by omega) hi2]
        exact hrest i (by omega) hi2
def PlSet (M M1 : tb_M) (s p : Nat) (v : Option (List Int32)) : Prop := On M M1 (A2 s) ∧ ShOk M1 s ∧ pl M1 s p = v ∧ ∀ p', p' ≠ p → p' < gL (s + 1) → pl M1 s p' = pl M s p'
theorem ok_Sh_sort (hG : tb_G E) (hS : Sh M) (hT : ShOk M s) (hp : p < gL (s + 1)) {l : List Int32} (hl : pl M s p = some l) (d : Nat) : tb_Rel E m_Sh_sort (d + 1) [.inr (.inl s), .inl (nI p)] M (fun v M1 => v = none ∧ PlSet M M1 s p (some (srt l))) := by
  have hg := gK_sh s (gK_lt (by rw [hT.1]; decide)) hT.1
  rcases pl_cases hT hp with ⟨e1, e2⟩ | ⟨n, hn, e1, e2⟩
  · rw [e2] at hl; cases hl
  rw [e2] at hl
  have hl := Option.some.inj hl
  have hln : ln (pl M s p) = n := by rw [e2]; simp [ln]
  refine tb_okOf hG (by decide) rfl (Nat.le_of_ble_eq_true rfl) rfl ?_
  refine tb_iload_1 d_Sh_sort_0 rfl ?_
  refine tb_bipush (6) (by decide) d_Sh_sort_1 rfl ?_
  refine tb_imul d_Sh_sort_3 rfl ?_
  rw [nI_mul6]
  refine tb_istore_2 d_Sh_sort_4 rfl (by decide) ?_
  refine tb_iconst (1) (by decide) d_Sh_sort_5 rfl ?_
  refine tb_istore_3 d_Sh_sort_6 rfl (by decide) ?_
  refine lp_Sh_sort hG hS hT hp hn hln (fun M1 b hB hr => ⟨none, rfl, rfl, hB.1, ⟨hT.1, by rw [hB.2.1]; exact hT.2.1, fun i hi => ?_⟩, ?_, fun p' hne hp' => ?_⟩) 5 1 rfl (by omega) (by omega) (by omega) M (fun i => tb_I M (s + 2) (6 * p + i)) _ _ ⟨On.rf, rfl, fun _ _ => rfl, fun _ _ => rfl, fun i hi => hT.2.2 _ (by rw [hg.2.2.2.2]; omega)⟩ (fun _ => rfl) (fun _ _ _ => rfl)
  · by_cases e : i < 6 * p ∨ 6 * p + 6 ≤ i
    · rw [hB.2.2.2.1 i e]; exact hT.2.2 i hi
    · obtain ⟨q, hq, rfl⟩ : ∃ q, q < 6 ∧ i = 6 * p + q := ⟨i - 6 * p, by omega, by omega⟩
      rw [hB.2.2.1 q hq]; exact hB.2.2.2.2 q hq
  · rw [pl_some hn (by rw [hB.2.1]; exact e1), ← hl]
    congr 1
    unfold srt
    rw [← hr, rp_rev]
    apply List.map_congr_left
    intro i hi
    exact hB.2.2.1 i (by have := List.mem_range.mp hi; omega)
  · refine pl_eq (by rw [hB.2.1]) (fun i hi => hB.2.2.2.1 _ (by omega)) (by rw [hB.2.1]; exact hT.2.1 p' hp')
end Shelf3
