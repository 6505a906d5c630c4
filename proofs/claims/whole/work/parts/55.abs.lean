/-! One state for both sides. -/
abbrev Fs := Nat → Option (List Int32)
/-- a trace: text, the files then, read, asked, wrote, what it wrote -/
abbrev TrV := List Int32 × Fs × Int32 × Int32 × Int32 × Option (List Int32)
abbrev tT (x : TrV) : List Int32 := x.1
abbrev tF (x : TrV) : Fs := x.2.1
abbrev tRd (x : TrV) : Int32 := x.2.2.1
abbrev tAk (x : TrV) : Int32 := x.2.2.2.1
abbrev tWr (x : TrV) : Int32 := x.2.2.2.2.1
abbrev tRs (x : TrV) : Option (List Int32) := x.2.2.2.2.2
/-- a deed: outcome, ahead, reason, read, asked, wrote, did its file come or go -/
abbrev DeV := Int32 × Int32 × Int32 × Int32 × Int32 × Int32 × Int32
abbrev dO (x : DeV) : Int32 := x.1
abbrev dA (x : DeV) : Int32 := x.2.1
abbrev dY (x : DeV) : Int32 := x.2.2.1
abbrev dRd (x : DeV) : Int32 := x.2.2.2.1
abbrev dAk (x : DeV) : Int32 := x.2.2.2.2.1
abbrev dWr (x : DeV) : Int32 := x.2.2.2.2.2.1
abbrev dTu (x : DeV) : Int32 := x.2.2.2.2.2.2
abbrev StV := Nat × (Nat → TrV)
/-- a hazard: kind (0: none), the two commands, the file -/
abbrev HzV := Nat × Nat × Nat × Int32
abbrev RS := Fs × StV × (Nat → DeV) × HzV
def la (l : List Int32) (i : Nat) : Int32 := l.getD i 0
theorem ta_la {M : tb_M} {t n : Nat} (h : TxOk M t n) (i : Nat) : ta M t n i = la (txt M t) i := by
  unfold ta la
  rw [txt_of h]
  by_cases c : i < n
  · rw [if_pos c]; simp [c]
  · rw [if_neg c]; simp [c]
noncomputable def lastI (p : Nat → Prop) : Nat → Option Nat
  | 0 => none
  | n + 1 => @ite _ (p n) (Classical.propDecidable _) (some n) (lastI p n)
theorem lastI_of {p : Nat → Prop} {k : Nat} : ∀ c, LastIx p c k → lastI p c = some k := by
  intro c
  induction c with
  | zero => intro h; exact absurd h.1 (Nat.not_lt_zero _)
  | succ c ih =>
    intro h
    unfold lastI
    by_cases e : k = c
    · subst e; rw [if_pos h.2.1]
    · rw [if_neg (h.2.2 c (by have := h.1; omega) (by omega))]
      exact ih ⟨by have := h.1; omega, h.2.1, fun k' h1 h2 => h.2.2 k' h1 (by omega)⟩
theorem lastI_no {p : Nat → Prop} : ∀ c, (∀ k, k < c → ¬ p k) → lastI p c = none := by
  intro c
  induction c with
  | zero => intro _; rfl
  | succ c ih =>
    intro h
    unfold lastI
    rw [if_neg (h c (by omega))]
    exact ih fun k hk => h k (by omega)
theorem lastI_some {p : Nat → Prop} {k : Nat} : ∀ c, lastI p c = some k → LastIx p c k := by
  intro c
  induction c with
  | zero => intro h; cases h
  | succ c ih =>
    intro h
    unfold lastI at h
    by_cases e : p c
    · rw [if_pos e] at h
      cases h
      exact ⟨by omega, e, fun k' h1 h2 => absurd h2 (by omega)⟩
    · rw [if_neg e] at h
      obtain ⟨h1, h2, h3⟩ := ih h
      refine ⟨by omega, h2, fun k' q1 q2 => ?_⟩
      by_cases z : k' = c
      · rw [z]; exact e
      · exact h3 k' q1 (by omega)
theorem lastI_none {p : Nat → Prop} : ∀ c, lastI p c = none → ∀ k, k < c → ¬ p k := by
  intro c
  induction c with
  | zero => intro _ k h; exact absurd h (Nat.not_lt_zero _)
  | succ c ih =>
    intro h k hk
    unfold lastI at h
    by_cases e : p c
    · rw [if_pos e] at h; cases h
    · rw [if_neg e] at h
      by_cases z : k = c
      · rw [z]; exact e
      · exact ih h k (by omega)
theorem lastI_congr {p q : Nat → Prop} {c : Nat} (h : ∀ k, k < c → (p k ↔ q k)) : lastI p c = lastI q c := by
  cases e : lastI p c with
  | none =>
    have := lastI_none c e
    exact (lastI_no c fun k hk z => this k hk ((h k hk).mpr z)).symm
  | some k =>
    obtain ⟨h1, h2, h3⟩ := lastI_some c e
    exact (lastI_of c ⟨h1, (h k h1).mp h2, fun k' a b z => h3 k' a b ((h k' b).mpr z)⟩).symm
noncomputable def fstN (p : Nat → Prop) : Nat → Nat → Option Nat
  | 0, _ => none
  | m + 1, j => @ite _ (p j) (Classical.propDecidable _) (some j) (fstN p m (j + 1))
theorem fstN_of {p : Nat → Prop} {e : Nat} : ∀ m j, j ≤ e → e < j + m → p e → (∀ g, j ≤ g → g < e → ¬ p g) → fstN p m j = some e := by
  intro m
  induction m with
  | zero => intro j h1 h2; exact absurd h2 (by omega)
  | succ m ih =>
    intro j h1 h2 h3 h4
    unfold fstN
    by_cases c : j = e
    · subst c; rw [if_pos h3]
    · rw [if_neg (h4 j (by omega) (by omega))]
      exact ih (j + 1) (by omega) (by omega) h3 fun g q1 q2 => h4 g (by omega) q2
theorem fstN_no {p : Nat → Prop} : ∀ m j, (∀ g, j ≤ g → g < j + m → ¬ p g) → fstN p m j = none := by
  intro m
  induction m with
  | zero => intro j _; rfl
  | succ m ih =>
    intro j h
    unfold fstN
    rw [if_neg (h j (by omega) (by omega))]
    exact ih (j + 1) fun g q1 q2 => h g (by omega) (by omega)
theorem fstN_some {p : Nat → Prop} {e : Nat} : ∀ m j, fstN p m j = some e → j ≤ e ∧ e < j + m ∧ p e ∧ ∀ g, j ≤ g → g < e → ¬ p g := by
  intro m
  induction m with
  | zero => intro j h; cases h
  | succ m ih =>
    intro j h
    unfold fstN at h
    by_cases c : p j
    · rw [if_pos c] at h
      cases h
      exact ⟨by omega, by omega, c, fun g q1 q2 => absurd q2 (by omega)⟩
    · rw [if_neg c] at h
      obtain ⟨h1, h2, h3, h4⟩ := ih (j + 1) h
      refine ⟨by omega, by omega, h3, fun g q1 q2 => ?_⟩
      by_cases z : g = j
      · rw [z]; exact c
      · exact h4 g (by omega) q2
theorem fstN_none {p : Nat → Prop} : ∀ m j, fstN p m j = none → ∀ g, j ≤ g → g < j + m → ¬ p g := by
  intro m
  induction m with
  | zero => intro j _ g h1 h2; exact absurd h2 (by omega)
  | succ m ih =>
    intro j h g q1 q2
    unfold fstN at h
    by_cases c : p j
    · rw [if_pos c] at h; cases h
    · rw [if_neg c] at h
      by_cases z : g = j
      · rw [z]; exact c
      · exact ih (j + 1) h g (by omega) (by omega)
theorem fstN_congr {p q : Nat → Prop} {m j : Nat} (h : ∀ g, j ≤ g → g < j + m → (p g ↔ q g)) : fstN p m j = fstN q m j := by
  cases e : fstN p m j with
  | none =>
    have := fstN_none m j e
    exact (fstN_no m j fun g a b z => this g a b ((h g a b).mpr z)).symm
  | some k =>
    obtain ⟨h1, h2, h3, h4⟩ := fstN_some m j e
    exact (fstN_of m j h1 h2 ((h k h1 h2).mp h3) fun g a b z => h4 g a b ((h g a (by omega)).mpr z)).symm
/-- the latest trace of a text -/
noncomputable def latA (S : StV) (tx : List Int32) : Option Nat := lastI (fun k => tT (S.2 k) = tx) S.1
def chR (x : TrV) (fs : Fs) (f : Nat) : Prop := bt (tRd x) f ∧ tF x f ≠ fs f
def chA (x : TrV) (fs : Fs) (f : Nat) : Prop := bt (tAk x) f ∧ ¬ (tF x f = none ↔ fs f = none)
def fitA (x : TrV) (fs : Fs) : Prop := (∀ f, f < 12 → ¬ chA x fs f) ∧ ∀ f, f < 12 → ¬ chR x fs f
noncomputable def fitIx (S : StV) (tx : List Int32) (fs : Fs) : Option Nat := lastI (fun k => tT (S.2 k) = tx ∧ fitA (S.2 k) fs) S.1
noncomputable def chgF (x : TrV) (fs : Fs) : Int32 := @ite _ (∃ f, f < 12 ∧ chR x fs f) (Classical.propDecidable _) (fstI (chR x fs) 12 0) (fstI (chA x fs) 12 0)
noncomputable def whyA (S : StV) (tx : List Int32) (fs : Fs) : Int32 := match latA S tx with
  | none => 12
  | some k => chgF (S.2 k) fs
def craftV (tx : List Int32) (fs : Fs) : TrV := (tx, fs, craftW (la tx) tx.length fs 8 0 0)
def appS (S : StV) (x : TrV) : StV := if S.1 < 24 then (S.1 + 1, fun i => if i = S.1 then x else S.2 i) else (24, fun i => if i < 23 then S.2 (i + 1) else x)
def wrA (fs : Fs) (x : TrV) : Fs := fun f => if tWr x = nI f then tRs x else fs f
def chgW (x : TrV) (fs : Fs) : Prop := ∃ f, f < 12 ∧ tWr x = nI f ∧ fs f ≠ tRs x
noncomputable def turA (x : TrV) (fs : Fs) : Int32 := bI (∃ f, f < 12 ∧ tWr x = nI f ∧ ¬ (fs f = none ↔ tRs x = none))
def mee (x w : Int32) : Prop := ∃ g, g < 12 ∧ w = nI g ∧ bt x g
def kd1 (x y : DeV) : Prop := ¬ dWr x = -1 ∧ dWr x = dWr y
def kd2 (x y : DeV) : Prop := mee (dRd x) (dWr y) ∨ (mee (dAk x) (dWr y) ∧ ¬ dTu y = 0)
noncomputable def kdA (D : Nat → DeV) (e f : Nat) : Nat := @ite _ (kd1 (D e) (D f)) (Classical.propDecidable _) 1 (@ite _ (kd2 (D e) (D f)) (Classical.propDecidable _) 2 (@ite _ (f < e ∧ kd2 (D f) (D e)) (Classical.propDecidable _) 3 0))
def cnA (D : Nat → DeV) (f : Nat) (b : Int32) (e : Nat) : Prop := e ≠ f ∧ ¬ dO (D e) = 0 ∧ bI (¬ dA (D e) = 0 ∨ ¬ dA (D f) = 0) = b ∧ ¬ kdA D e f = 0
noncomputable def hz1 (D : Nat → DeV) (e f : Nat) : HzV := (kdA D e f, e, f, if kdA D e f = 3 then dWr (D e) else dWr (D f))
noncomputable def hzA (D : Nat → DeV) (n f : Nat) : HzV := match fstN (cnA D f 1) n 0 with
  | some e => hz1 D e f
  | none => match fstN (cnA D f 0) n 0 with
    | some e => hz1 D e f
    | none => (0, 0, 0, 0)
noncomputable def finA (k n : Nat) (fs : Fs) (S : StV) (D : Nat → DeV) (x : TrV) (o ah y : Int32) : RS := (wrA fs x, S, fun i => if i = k then (o, ah, y, tRd x, tAk x, tWr x, turA x fs) else D i, hzA (fun i => if i = k then (o, ah, y, tRd x, tAk x, tWr x, turA x fs) else D i) n k)
noncomputable def perA (tx : List Int32) (k n : Nat) (ah : Int32) (R : RS) : RS := match fitIx R.2.1 tx R.1 with
  | some i => finA k n R.1 R.2.1 R.2.2.1 (R.2.1.2 i) (@ite _ (chgW (R.2.1.2 i) R.1) (Classical.propDecidable _) 3 2) ah (-1)
  | none => finA k n R.1 (appS R.2.1 (craftV tx R.1)) R.2.2.1 (craftV tx R.1) 1 ah (whyA R.2.1 tx R.1)
noncomputable def tou (x : TrV) : Int32 := (tRd x ||| tAk x) ||| wm (tWr x)
def wayA (x y : TrV) : Prop := mee (tou y) (tWr x) ∨ mee (tou x) (tWr y)
def safA (sc : Nat → List Int32) (R : RS) (i j : Nat) : Prop := ∃ u, latA R.2.1 (sc j) = some u ∧ ∀ m, i < m → m < j → dO (R.2.2.1 m) = 0 → ∃ t, latA R.2.1 (sc m) = some t ∧ ¬ wayA (R.2.1.2 t) (R.2.1.2 u)
noncomputable def aheA (sc : Nat → List Int32) (n : Nat) (R : RS) (i : Nat) : Option Nat := fstN (fun j => dO (R.2.2.1 j) = 0 ∧ safA sc R i j) (n - (i + 2)) (i + 2)
noncomputable def innA (sc : Nat → List Int32) (n i : Nat) : Nat → RS → RS
  | 0, R => R
  | s + 1, R => if R.2.2.2.1 ≠ 0 then R else match aheA sc n R i with
    | none => R
    | some j => innA sc n i s (perA (sc j) j n 1 R)
noncomputable def outA (sc : Nat → List Int32) (n sp : Nat) : Nat → Nat → RS → RS
  | 0, _, R => R
  | m + 1, i, R => if R.2.2.2.1 ≠ 0 then R else outA sc n sp m (i + 1) (innA sc n i sp (if dO (R.2.2.1 i) = 0 then perA (sc i) i n 0 R else R))
noncomputable def goA (sc : Nat → List Int32) (n sp : Nat) (fs : Fs) (S : StV) : RS := outA sc n sp n 0 (fs, S, fun _ => (0, 0, -1, 0, 0, 0, 0), (0, 0, 0, 0))
/-- craftW looks at the twelve files alone -/
theorem fl_congr {a : Nat → Int32} {F G : Fs} (h : ∀ f, f < 12 → F f = G f) (i : Nat) : F (fOf (a i)).toNatClampNeg = G (fOf (a i)).toNatClampNeg := by
  by_cases e : fOf (a i) = -1
  · rw [e]; exact h 0 (by omega)
  · obtain ⟨f, hf, ef⟩ := fOf_n e
    rw [ef, nI_clamp (by omega)]; exact h f hf
theorem thL_congr {F G : Fs} (h : ∀ f, f < 12 → F f = G f) : ∀ k, k ≤ 12 → thL F k = thL G k := by
  intro k
  induction k with
  | zero => intro _; rfl
  | succ k ih =>
    intro hk
    have e := h k (by omega)
    cases c : (F k).isSome with
    | true => rw [thL_t F c, thL_t G (by rw [← e]; exact c), ih (by omega)]
    | false => rw [thL_f F c, thL_f G (by rw [← e]; exact c), ih (by omega)]
theorem craftW_congr {a : Nat → Int32} {n : Nat} {F G : Fs} (h : ∀ f, f < 12 → F f = G f) : ∀ k s rd, craftW a n F k s rd = craftW a n G k s rd := by
  have hf : ∀ i, fl a F i = fl a G i := fun i => by unfold fl; rw [fl_congr h i]
  intro k
  induction k with
  | zero => intro s rd; rfl
  | succ k ih =>
    intro s rd
    simp only [craftW, hf, ih]
    have hp : plainW a n F s rd = plainW a n G s rd := by
      unfold plainW
      simp only [hf, thL_congr h 12 (Nat.le_refl _), fl_congr (a := a) h]
    rw [hp]
