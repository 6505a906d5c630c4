/-! Bits: sets of files. -/
abbrev gb (x : Int32) (i : Nat) : Bool := x.toBitVec.getLsbD i
theorem i32_ext {x y : Int32} (h : ∀ i, i < 32 → gb x i = gb y i) : x = y := Int32.toBitVec_inj.mp (BitVec.eq_of_getLsbD_eq h)
theorem gb_and (x y : Int32) (i : Nat) : gb (x &&& y) i = (gb x i && gb y i) := by unfold gb; rw [Int32.toBitVec_and, BitVec.getLsbD_and]
theorem gb_or (x y : Int32) (i : Nat) : gb (x ||| y) i = (gb x i || gb y i) := by unfold gb; rw [Int32.toBitVec_or, BitVec.getLsbD_or]
theorem gb_xor (x y : Int32) (i : Nat) : gb (x ^^^ y) i = (gb x i ^^ gb y i) := by unfold gb; rw [Int32.toBitVec_xor, BitVec.getLsbD_xor]
theorem gb_0 (i : Nat) : gb 0 i = false := by unfold gb; simp
theorem gb_bit : ∀ f, f < 12 → ∀ i, i < 32 → gb (1 <<< (nI f &&& 31)) i = decide (f = i) := by decide +kernel
theorem gb_big (x : Int32) {i : Nat} (h : 32 ≤ i) : gb x i = false := BitVec.getLsbD_of_ge _ _ h
theorem gb_bitN {f : Nat} (hf : f < 12) (i : Nat) : gb (1 <<< (nI f &&& 31)) i = decide (f = i) := by
  by_cases h : i < 32
  · exact gb_bit f hf i h
  · rw [gb_big _ (by omega), decide_eq_false (by omega)]
theorem bt_gb {x : Int32} {f : Nat} (hf : f < 12) : bt x f ↔ gb x f = true := by
  unfold bt
  constructor
  · intro h
    cases hg : gb x f with
    | true => rfl
    | false =>
      refine absurd (i32_ext fun i hi => ?_) h
      rw [gb_and, gb_bit f hf i hi, gb_0]
      by_cases e : f = i
      · subst e; rw [hg]; rfl
      · rw [decide_eq_false e, Bool.and_false]
  · intro h z
    have := congrArg (fun y => gb y f) z
    simp only [gb_and, gb_bitN hf, h, gb_0] at this
    simp at this
def low (x : Int32) : Prop := ∀ i, 12 ≤ i → gb x i = false
theorem low_0 : low 0 := fun i _ => gb_0 i
theorem low_bit {f : Nat} (hf : f < 12) : low (1 <<< (nI f &&& 31)) := fun i hi => by rw [gb_bitN hf, decide_eq_false (by omega)]
theorem low_or {x y : Int32} (h : low x) (h2 : low y) : low (x ||| y) := fun i hi => by rw [gb_or, h i hi, h2 i hi]; rfl
theorem low_xor {x y : Int32} (h : low x) (h2 : low y) : low (x ^^^ y) := fun i hi => by rw [gb_xor, h i hi, h2 i hi]; rfl
theorem low_andl {x y : Int32} (h : low x) : low (x &&& y) := fun i hi => by rw [gb_and, h i hi]; rfl
theorem low_andr {x y : Int32} (h : low y) : low (x &&& y) := fun i hi => by rw [gb_and, h i hi, Bool.and_false]
theorem low_ext {x y : Int32} (h : low x) (h2 : low y) (hb : ∀ f, f < 12 → gb x f = gb y f) : x = y := i32_ext fun i _ => by
  by_cases e : i < 12
  · exact hb i e
  · rw [h i (by omega), h2 i (by omega)]
theorem low_ne {x : Int32} (h : low x) : ¬ x = 0 ↔ ∃ f, f < 12 ∧ gb x f = true := by
  constructor
  · intro hx
    refine Classical.byContradiction fun hn => hx (low_ext h low_0 fun f hf => ?_)
    rw [gb_0]
    cases hg : gb x f with
    | false => rfl
    | true => exact absurd ⟨f, hf, hg⟩ hn
  · rintro ⟨f, hf, hg⟩ rfl
    rw [gb_0] at hg
    cases hg
theorem gb_msk (b : Nat → Prop) : ∀ n, n ≤ 12 → ∀ i, gb (msk b n) i = true ↔ i < n ∧ b i := by
  intro n
  induction n with
  | zero => intro _ i; simp [msk, gb_0]
  | succ n ih =>
    intro hn i
    have h := ih (by omega) i
    by_cases hb : b n
    · rw [msk_t hb, gb_or, gb_bitN (by omega), Bool.or_eq_true, h, decide_eq_true_iff]
      constructor
      · rintro (z | z)
        · exact ⟨by omega, z.2⟩
        · subst z; exact ⟨by omega, hb⟩
      · rintro ⟨z1, z2⟩
        by_cases e : n = i
        · exact Or.inr e
        · exact Or.inl ⟨by omega, z2⟩
    · rw [msk_f hb, h]
      constructor
      · exact fun z => ⟨by omega, z.2⟩
      · rintro ⟨z1, z2⟩
        refine ⟨?_, z2⟩
        by_cases e : n = i
        · subst e; exact absurd z2 hb
        · omega
theorem low_msk (b : Nat → Prop) {n : Nat} (hn : n ≤ 12) : low (msk b n) := fun i hi => by
  cases h : gb (msk b n) i with
  | false => rfl
  | true => have := (gb_msk b n hn i).mp h; omega
theorem wm_1 : wm (-1) = 0 := by unfold wm; rw [if_pos rfl]
theorem wm_f {f : Nat} (hf : f < 12) : wm (nI f) = 1 <<< (nI f &&& 31) := by unfold wm; rw [if_neg (nI_nm1 (by omega))]
theorem gb_and_bit {x : Int32} {f : Nat} (hf : f < 12) : ¬ (1 <<< (nI f &&& 31)) &&& x = 0 ↔ gb x f = true := by
  rw [low_ne (low_andl (low_bit hf))]
  constructor
  · rintro ⟨g, hg, h⟩
    rw [gb_and, gb_bitN hf, Bool.and_eq_true, decide_eq_true_iff] at h
    rw [h.1]; exact h.2
  · intro h
    exact ⟨f, hf, by rw [gb_and, gb_bitN hf, h, decide_eq_true rfl]; rfl⟩
/-- shifted down: the reference's question -/
theorem gb_shr {x : Int32} {f : Nat} (hf : f < 12) : (x >>> (nI f &&& 31)) &&& 1 = 1 ↔ gb x f = true := by
  have h1 : ∀ i, gb 1 i = decide (i = 0) := fun i => by unfold gb; simp
  have hs : gb (x >>> (nI f &&& 31)) 0 = gb x f := by
    unfold gb
    rw [Int32.toBitVec_shiftRight]
    have hk : ∀ g, g < 12 → ((nI g &&& 31).toBitVec.smod 32).toNat = g := by decide +kernel
    rw [BitVec.sshiftRight_eq', BitVec.getLsbD_sshiftRight, hk f hf]
    simp
    omega
  constructor
  · intro h
    have := congrArg (fun y => gb y 0) h
    simp only [gb_and, hs, h1] at this
    simpa using this
  · intro h
    refine i32_ext fun i _ => ?_
    rw [gb_and, h1]
    by_cases e : i = 0
    · subst e; rw [hs, h]; rfl
    · rw [decide_eq_false e, Bool.and_false]
/-- the first of them -/
noncomputable def fstI (p : Nat → Prop) : Nat → Nat → Int32
  | 0, _ => -1
  | m + 1, j => @ite _ (p j) (Classical.propDecidable _) (nI j) (fstI p m (j + 1))
theorem fstI_spec {p : Nat → Prop} : ∀ m j, (∃ f, j ≤ f ∧ f < j + m ∧ fstI p m j = nI f ∧ p f ∧ ∀ g, j ≤ g → g < f → ¬ p g) ∨ (fstI p m j = -1 ∧ ∀ g, j ≤ g → g < j + m → ¬ p g) := by
  intro m
  induction m with
  | zero => intro j; exact Or.inr ⟨rfl, fun g h1 h2 => absurd h2 (by omega)⟩
  | succ m ih =>
    intro j
    unfold fstI
    by_cases h : p j
    · rw [if_pos h]
      exact Or.inl ⟨j, by omega, by omega, rfl, h, fun g h1 h2 => absurd h2 (by omega)⟩
    · rw [if_neg h]
      rcases ih (j + 1) with ⟨f, h1, h2, h3, h4, h5⟩ | ⟨h1, h2⟩
      · refine Or.inl ⟨f, by omega, by omega, h3, h4, fun g q1 q2 => ?_⟩
        by_cases e : g = j
        · rw [e]; exact h
        · exact h5 g (by omega) q2
      · refine Or.inr ⟨h1, fun g q1 q2 => ?_⟩
        by_cases e : g = j
        · rw [e]; exact h
        · exact h2 g (by omega) (by omega)
theorem fst12_fstI {x r : Int32} {p : Nat → Prop} (hp : ∀ f, f < 12 → (bt x f ↔ p f)) (h : fst12 x r) : r = fstI p 12 0 := by
  rcases h with ⟨f, hf, hr, h1, h2⟩ | ⟨hr, h1⟩
  · rcases fstI_spec (p := p) 12 0 with ⟨g, -, q2, q3, q4, q5⟩ | ⟨q1, q2⟩
    · have : f = g := by
        rcases Nat.lt_trichotomy f g with z | z | z
        · exact absurd ((hp f hf).mp h1) (q5 f (by omega) z)
        · exact z
        · exact absurd ((hp g (by omega)).mpr q4) (h2 g z)
      rw [hr, q3, this]
    · exact absurd ((hp f hf).mp h1) (q2 f (by omega) (by omega))
  · rcases fstI_spec (p := p) 12 0 with ⟨g, -, q2, q3, q4, q5⟩ | ⟨q1, q2⟩
    · exact absurd ((hp g (by omega)).mpr q4) (h1 g (by omega))
    · rw [hr, q1]
