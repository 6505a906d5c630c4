/-! The walk's own words: values, memory, the heap that holds a memory, contracts that may throw. -/
/-- a value: an int, a reference (0: null; r + 1: the r-th cell that was made), a long -/
abbrev tb_V : Type := Int32 ⊕ Nat ⊕ Int64
/-- a local: an int, a reference, or nothing that is known -/
abbrev tb_L : Type := Option (Int32 ⊕ Nat)
/-- an end: a value or none; or the number of an exception's class -/
abbrev tb_O : Type := Option tb_V ⊕ Nat
/-- launch, the law's start, its arguments, the classes' numbers and slots, the array classes -/
abbrev tb_E : Type := Launch × State × Array Value × va_G × (Nat → ClassId)
/-- a method: name, bytes, locals, answer's type, handlers -/
abbrev tb_MD : Type := MethodName × ByteArray × Nat × Option FieldType × List (Nat × Nat × Nat × Nat)
/-- a memory: how many cells, whether the heap has no more than these, kinds, lengths, ints, references, longs -/
abbrev tb_M : Type := Nat × Bool × (Nat → Nat) × (Nat → Nat) × (Nat → Nat → Int32) × (Nat → Nat → Nat) × (Nat → Nat → Int64)
def tb_n (M : tb_M) : Nat := M.1
def tb_u (M : tb_M) : Bool := M.2.1
def tb_K (M : tb_M) : Nat → Nat := M.2.2.1
def tb_Ln (M : tb_M) : Nat → Nat := M.2.2.2.1
def tb_I (M : tb_M) : Nat → Nat → Int32 := M.2.2.2.2.1
def tb_R (M : tb_M) : Nat → Nat → Nat := M.2.2.2.2.2.1
def tb_J (M : tb_M) : Nat → Nat → Int64 := M.2.2.2.2.2.2
def tb_sI (M : tb_M) (o k : Nat) (x : Int32) : tb_M := (tb_n M, tb_u M, tb_K M, tb_Ln M, va_up (tb_I M) o (va_up (tb_I M o) k x), tb_R M, tb_J M)
def tb_sR (M : tb_M) (o k : Nat) (r : Nat) : tb_M := (tb_n M, tb_u M, tb_K M, tb_Ln M, tb_I M, va_up (tb_R M) o (va_up (tb_R M o) k r), tb_J M)
def tb_sJ (M : tb_M) (o k : Nat) (x : Int64) : tb_M := (tb_n M, tb_u M, tb_K M, tb_Ln M, tb_I M, tb_R M, va_up (tb_J M) o (va_up (tb_J M o) k x))
/-- one more cell, all zero -/
def tb_new (M : tb_M) (kind len : Nat) : tb_M := (tb_n M + 1, tb_u M, va_up (tb_K M) (tb_n M + 1) kind, va_up (tb_Ln M) (tb_n M + 1) len, va_up (tb_I M) (tb_n M + 1) (fun _ => 0), va_up (tb_R M) (tb_n M + 1) (fun _ => 0), va_up (tb_J M) (tb_n M + 1) (fun _ => 0))
/-- behind a throw: cells that the memory does not name -/
def tb_un (M : tb_M) : tb_M := (tb_n M, false, tb_K M, tb_Ln M, tb_I M, tb_R M, tb_J M)
/-- where the r-th cell lies -/
def tb_ro (E : tb_E) (r : Nat) : Option Nat := match r with
  | 0 => none
  | r + 1 => some (E.2.1.heap.size + r)
def tv (E : tb_E) (v : tb_V) : Value := match v with
  | .inl x => .int x
  | .inr (.inl r) => va_rf (tb_ro E r)
  | .inr (.inr x) => .long x
def tb_lt (E : tb_E) (v : Int32 ⊕ Nat) : Value := match v with
  | .inl x => .int x
  | .inr r => va_rf (tb_ro E r)
def tb_lv (E : tb_E) : Nat → List tb_L → List (Nat × Value)
  | _, [] => []
  | i, none :: t => tb_lv E (i + 1) t
  | i, some v :: t => (i, tb_lt E v) :: tb_lv E (i + 1) t
theorem tb_lv_mem (E : tb_E) : ∀ (L : List tb_L) (j i : Nat) (w : Value), (i, w) ∈ tb_lv E j L ↔ ∃ n v, L[n]? = some (some v) ∧ i = j + n ∧ w = tb_lt E v := by
  intro L
  induction L with
  | nil => intro j i w; simp [tb_lv]
  | cons a t ih =>
    intro j i w
    cases a with
    | none =>
      simp only [tb_lv]
      rw [ih]
      constructor
      · rintro ⟨n, v, h1, h2, h3⟩
        exact ⟨n + 1, v, by simpa using h1, by omega, h3⟩
      · rintro ⟨n, v, h1, h2, h3⟩
        cases n with
        | zero => simp at h1
        | succ n => exact ⟨n, v, by simpa using h1, by omega, h3⟩
    | some x =>
      simp only [tb_lv, List.mem_cons]
      rw [ih]
      constructor
      · rintro (h | ⟨n, v, h1, h2, h3⟩)
        · cases h
          exact ⟨0, x, by simp, by omega, rfl⟩
        · exact ⟨n + 1, v, by simpa using h1, by omega, h3⟩
      · rintro ⟨n, v, h1, h2, h3⟩
        cases n with
        | zero =>
          simp at h1
          subst h1
          left
          rw [h2, h3]; rfl
        | succ n => exact Or.inr ⟨n, v, by simpa using h1, by omega, h3⟩
theorem tb_lt_cat (E : tb_E) (v : Int32 ⊕ Nat) : (tb_lt E v).category = 1 := by
  cases v with
  | inl x => rfl
  | inr r => cases r <;> rfl
theorem tb_at {E : tb_E} {ls : Array Slot} {nL : Nat} {L : List tb_L} (h : lv_has ls nL (tb_lv E 0 L)) {i : Nat} {v : Int32 ⊕ Nat} (hi : L[i]? = some (some v)) : ls[i]? = some (.val (tb_lt E v)) :=
  h.2.2 (i, tb_lt E v) ((tb_lv_mem E L 0 i _).mpr ⟨i, v, hi, by omega, rfl⟩)
/-- a store: the list with the new value -/
theorem tb_stored {E : tb_E} {ls : Array Slot} {nL : Nat} {L : List tb_L} {i : Nat} {v : Int32 ⊕ Nat} (h : lv_has ls nL ((i, tb_lt E v) :: (tb_lv E 0 L).filter (fun q => !(q.1 == i) && !(q.1 + 1 == i && q.2.category == 2)))) : lv_has ls nL (tb_lv E 0 (L.set i (some v))) := by
  refine ⟨h.1, h.2.1, fun q hq => ?_⟩
  obtain ⟨n, w, h1, h2, h3⟩ := (tb_lv_mem E _ 0 q.1 q.2).mp hq
  have hq' : q.1 = n := by omega
  apply h.2.2
  by_cases e : n = i
  · subst e
    rw [List.getElem?_set] at h1
    simp at h1
    obtain ⟨-, h1⟩ := h1
    subst h1
    exact List.mem_cons.mpr (Or.inl (Prod.ext hq' h3))
  · rw [List.getElem?_set, if_neg (fun z => e z.symm)] at h1
    refine List.mem_cons.mpr (Or.inr (List.mem_filter.mpr ⟨(tb_lv_mem E L 0 q.1 q.2).mpr ⟨n, w, h1, h2, h3⟩, ?_⟩))
    have hc : (q.2.category == 2) = false := by rw [h3, tb_lt_cat]; rfl
    simp [hq', e, hc]
/-- the field kinds of the classes: true is a reference -/
def tb_fs (E : tb_E) (I : Nat → Int32) (R : Nat → Nat) : Nat → List Bool → List Value
  | _, [] => []
  | j, true :: t => va_rf (tb_ro E (R j)) :: tb_fs E I R (j + 1) t
  | j, false :: t => .int (I j) :: tb_fs E I R (j + 1) t
theorem tb_fs_get (E : tb_E) (I : Nat → Int32) (R : Nat → Nat) : ∀ (l : List Bool) (j k : Nat), (tb_fs E I R j l)[k]? = l[k]?.map (fun q => if q = true then va_rf (tb_ro E (R (j + k))) else .int (I (j + k))) := by
  intro l
  induction l with
  | nil => intro j k; simp [tb_fs]
  | cons a t ih =>
    intro j k
    cases a <;> cases k with
    | zero => simp [tb_fs]
    | succ k => simp only [tb_fs, List.getElem?_cons_succ]; rw [ih]; simp only [Nat.add_assoc, Nat.add_comm 1 k]
theorem tb_fs_len (E : tb_E) (I : Nat → Int32) (R : Nat → Nat) : ∀ (l : List Bool) (j : Nat), (tb_fs E I R j l).length = l.length := by
  intro l
  induction l with
  | nil => intro j; rfl
  | cons a t ih => intro j; cases a <;> simp [tb_fs, ih]
theorem tb_fs_setI (E : tb_E) (I : Nat → Int32) (R : Nat → Nat) (l : List Bool) (k : Nat) (x : Int32) (h : l[k]? = some false) : (tb_fs E I R 0 l).set k (.int x) = tb_fs E (va_up I k x) R 0 l := by
  apply List.ext_getElem?
  intro i
  rw [List.getElem?_set, tb_fs_get, tb_fs_get, tb_fs_len]
  have hk : k < l.length := (List.getElem?_eq_some_iff.mp h).1
  by_cases e : k = i
  · subst e
    rw [if_pos rfl, if_pos hk, h]
    simp [va_up]
  · have e' : ¬ i = k := fun z => e z.symm
    simp [e, va_up, e']
theorem tb_fs_setR (E : tb_E) (I : Nat → Int32) (R : Nat → Nat) (l : List Bool) (k : Nat) (r : Nat) (h : l[k]? = some true) : (tb_fs E I R 0 l).set k (va_rf (tb_ro E r)) = tb_fs E I (va_up R k r) 0 l := by
  apply List.ext_getElem?
  intro i
  rw [List.getElem?_set, tb_fs_get, tb_fs_get, tb_fs_len]
  have hk : k < l.length := (List.getElem?_eq_some_iff.mp h).1
  by_cases e : k = i
  · subst e
    rw [if_pos rfl, if_pos hk, h]
    simp [va_up]
  · have e' : ¬ i = k := fun z => e z.symm
    simp [e, va_up, e']
/-- what a cell of this kind, length and contents is -/
def tb_en (E : tb_E) (ft : List (List Bool)) (kind len : Nat) (I : Nat → Int32) (R : Nat → Nat) (J : Nat → Int64) : va_E :=
  if kind < 100 then .inr (kind - 1, tb_fs E I R 0 ((ft[kind - 1]?).getD []))
  else if kind < 104 then .inl (E.2.2.2.2 (kind - 100), len, .inl I)
  else if kind = 104 then .inl (E.2.2.2.2 4, len, .inr (.inl J))
  else .inl (E.2.2.2.2 (kind - 100), len, .inr (.inr (.inr (.inr (fun j => tb_ro E (R j))))))
def tb_ent (E : tb_E) (M : tb_M) (o : Nat) : va_E := tb_en E tb_ft (tb_K M o) (tb_Ln M o) (tb_I M o) (tb_R M o) (tb_J M o)
/-- the world of a memory: the r-th cell stands at place r, at the address r behind the start -/
def tb_ws (E : tb_E) (M : tb_M) : va_W := (List.range (tb_n M)).map (fun r => (E.2.1.heap.size + r, tb_ent E M (r + 1)))
theorem tb_ws_get {E : tb_E} {M : tb_M} {r : Nat} (h : r < tb_n M) : (tb_ws E M)[r]? = some (E.2.1.heap.size + r, tb_ent E M (r + 1)) := by
  simp [tb_ws, h]
theorem tb_ws_inv {E : tb_E} {M : tb_M} {r : Nat} {q : Nat × va_E} (h : (tb_ws E M)[r]? = some q) : r < tb_n M ∧ q = (E.2.1.heap.size + r, tb_ent E M (r + 1)) := by
  have hr : r < tb_n M := by
    have := (List.getElem?_eq_some_iff.mp h).1
    simpa [tb_ws] using this
  rw [tb_ws_get hr] at h
  exact ⟨hr, (Option.some.inj h).symm⟩
theorem tb_ws_set {E : tb_E} {M M' : tb_M} {r : Nat} {x : va_E} (hn : tb_n M' = tb_n M) (hx : tb_ent E M' (r + 1) = x) (ho : ∀ o, o ≠ r + 1 → tb_ent E M' o = tb_ent E M o) (h : r < tb_n M) : (tb_ws E M).set r (E.2.1.heap.size + r, x) = tb_ws E M' := by
  apply List.ext_getElem?
  intro i
  by_cases hi : i < tb_n M
  · rw [List.getElem?_set, tb_ws_get (M := M') (by rw [hn]; exact hi)]
    by_cases e : r = i
    · subst e
      rw [if_pos rfl, if_pos (by simpa [tb_ws] using hi), hx]
    · rw [if_neg e, tb_ws_get hi, ho (i + 1) (by omega)]
  · have e1 : (tb_ws E M').length = tb_n M := by simp [tb_ws, hn]
    have e2 : ((tb_ws E M).set r (E.2.1.heap.size + r, x)).length = tb_n M := by simp [tb_ws]
    rw [List.getElem?_eq_none (by omega), List.getElem?_eq_none (by omega)]
/-- what may be written: what was made since the start -/
def tb_A (E : tb_E) : Nat → Prop := fun q => E.2.1.heap.size ≤ q
theorem tb_ws_D (E : tb_E) (M : tb_M) : va_D (tb_A E) (tb_ws E M) := by
  refine ⟨fun i j p q hp hq hpq => ?_, fun k q hq => ?_⟩
  · obtain ⟨-, e1⟩ := tb_ws_inv hp
    obtain ⟨-, e2⟩ := tb_ws_inv hq
    rw [e1, e2] at hpq
    simp at hpq
    exact hpq
  · obtain ⟨-, e1⟩ := tb_ws_inv hq
    rw [e1]
    show E.2.1.heap.size ≤ E.2.1.heap.size + k
    omega
/-- the heap holds the memory -/
def tb_HR (E : tb_E) (M : tb_M) (H : Heap) : Prop :=
  va_P E.2.2.2.1 tb_cl (tb_ws E M) H ∧ (∀ q : Nat, q < E.2.1.heap.size → H[q]? = E.2.1.heap[q]?) ∧ tb_K M 0 = 0 ∧ (∀ o, tb_n M < o → tb_K M o = 0) ∧ E.2.1.heap.size ≤ H.size ∧ (tb_u M = true → H.size = E.2.1.heap.size + tb_n M)
/-- the array classes: int, short, char, boolean, long, then those of references -/
def tb_tys (E : tb_E) : List (ClassId × FieldType) := tb_ty.zipIdx.map (fun q => (E.2.2.2.2 q.2, q.1))
theorem tb_cell {E : tb_E} {M : tb_M} {H : Heap} (h : tb_HR E M H) {o : Nat} (hk : tb_K M o ≠ 0) : ∃ r, o = r + 1 ∧ r < tb_n M ∧ (tb_ws E M)[r]? = some (E.2.1.heap.size + r, tb_ent E M o) := by
  cases o with
  | zero => exact absurd h.2.2.1 hk
  | succ r =>
    have hr : r < tb_n M := by
      apply Nat.lt_of_not_le
      intro z
      exact hk (h.2.2.2.1 (r + 1) (by omega))
    exact ⟨r, rfl, hr, tb_ws_get hr⟩
/-- what the exceptions are called -/
def tb_xn (x : Nat) : String := match x with
  | 1 => "java/lang/IllegalArgumentException"
  | 2 => "java/lang/IllegalStateException"
  | _ => "java/lang/IndexOutOfBoundsException"
def tb_exc (x a : Nat) (t : State) : Prop := ∃ cell : Cell, t.heap[a]? = some cell ∧ (∀ q, cell.vm ≠ .statics q) ∧ t.vm.findClass (tb_xn x) = some cell.cls
def tb_oc (E : tb_E) (o : tb_O) (oc : Outcome) (t : State) : Prop := match o with
  | .inl none => oc = .returned none
  | .inl (some v) => oc = .returned (some (tv E v))
  | .inr x => ∃ a, oc = .threw a ∧ tb_exc x a t
def tb_Qc (E : tb_E) (Q : tb_O → tb_M → Prop) : State → Outcome → State → Prop := fun st oc t => (∃ (o : tb_O) (M : tb_M), Q o M ∧ tb_oc E o oc t ∧ tb_HR E M t.heap) ∧ va_F (tb_A E) st t
/-- a method's end: what it wrote lies where it may -/
def tb_FE (st t : State) (L : List Loc) (k n : Nat) : Prop := st.WarmedH t.vm ∧ st.sameButNew ({ t with vm := st.vm } : State) L k n
def tb_MQ (below : List Frame) (Qc : State → Outcome → State → Prop) (s : State) (mc ms : Nat) (free : Addr → Prop) : State → Prop := fun t =>
  ∃ o, t.status = .running ∧ Ended t below o ∧ Qc s o t ∧ ∃ L, tb_FE s t L mc ms ∧ ∀ q ∈ L, free q.base
def tb_Ok0 (l : Launch) (y : MethodName) (ws : List Cond) (rm : Room) (Pc : Array Value → State → Prop) (Qc : State → Outcome → State → Prop) (mc ms : Nat) (free : Addr → Prop) : Prop :=
  MetFree l y (headSpec ws rm) Pc (fun _ _ _ _ _ => True) (fun _ st o t => Qc st o t ∧ ∃ L, tb_FE st t L mc ms ∧ ∀ q ∈ L, free q.base)
theorem tb_W_mono {p : Program} {l : Launch} {e : Env} {R : Room} {s : State} {m : MethodId} {args : Array Value} {below : List Frame} {meth : Method} {c : Code} {H : Heap} {locs : List Loc} {cells slots : Nat} {Q Q' : State → Prop} {g : JFrame}
    (h : ∀ t, Q t → Q' t) (k : W p l e R s m args below meth c H locs cells slots Q g) : W p l e R s m args below meth c H locs cells slots Q' g := by
  intro T hT X
  obtain ⟨t, a, b⟩ := k T hT X
  exact ⟨t, a, h t b⟩
theorem tb_MQ_of {below : List Frame} {Qc : State → Outcome → State → Prop} {a : Array Value} {s : State} {mc ms : Nat} {free : Addr → Prop} {t : State} (h : MQ below (fun _ => Qc) a s mc ms free t) : tb_MQ below Qc s mc ms free t := by
  obtain ⟨o, h1, h2, h3, L, h4, h5⟩ := h
  exact ⟨o, h1, h2, h3, L, ⟨h4.2.1, h4.2.2⟩, h5⟩
/-- a room that is enough: d frames, mc cells, ms slots -/
def tb_Rm (R : Room) (d mc ms : Nat) : Prop := d ≤ R.frames ∧ 40 * d ≤ R.locals ∧ mc ≤ R.cells ∧ ms ≤ R.slots
def tb_rm (d mc ms : Nat) : Room := { frames := d, cells := mc, slots := ms, locals := 40 * d }
/-- the head word of a method -/
def tb_hw (k : tb_MD) : Cond := match k.2.2.2.2 with
  | [] => .code k.1 k.2.1 k.2.2.1 k.2.2.2.1
  | hs => .codeWith k.1 k.2.1 k.2.2.1 k.2.2.2.1 hs
/-- the two statics of Throwable of which the statement says that they are references -/
def tb_stw : List Cond := [.isRef (.static "java/lang/Throwable" "UNASSIGNED_STACK" "[Ljava/lang/StackTraceElement;"), .isRef (.static "java/lang/Throwable" "SUPPRESSED_SENTINEL" "Ljava/util/List;")]
/-- which exceptions are not which -/
def tb_nc : List (String × String) := [("java/lang/IllegalStateException", "java/lang/IllegalArgumentException"), ("java/lang/IllegalArgumentException", "java/lang/IndexOutOfBoundsException")]
/-- a word of the tables that stays -/
def tb_I1 (w : Cond) : Prop := w ∈ lw_tbl ∧ goodWord w = true
/-- what holds at the law's start: the tables' words, the classes' numbers and slots, the nest's words -/
def tb_G (E : tb_E) : Prop := (∀ w ∈ lw_tbl, w.before E.2.2.1 E.2.1 = true) ∧ va_K E.2.2.2.1 tb_cl (tb_tys E) E.2.1 ∧ (∀ w ∈ tb_nest, va_Nw w E.2.1) ∧ E.1.stackTraces = false ∧ (∀ w ∈ tb_stw, w.before E.2.2.1 E.2.1 = true) ∧ ∀ q ∈ tb_nc, va_Nc q.1 q.2 E.2.1
def tb_Cx (E : tb_E) (k : tb_MD) (p : Program) (e : Env) (s : State) (m : MethodId) (meth : Method) (c : Code) : Prop :=
  p.tables.exec = Jvm.exec ∧ c.code = k.2.1 ∧ c.maxLocals = k.2.2.1 ∧ s.vm.findClass k.1.cls = some m.cls ∧ meth.sig.returnType = k.2.2.2.1 ∧ meth.locks = false ∧ meth.name = k.1.name ∧ E.2.1.WarmedH s.vm ∧
    c.exceptionTable.toList.map (fun h => (h.startPc, h.endPc, h.handlerPc, h.catchType)) = k.2.2.2.2 ∧ s.vm.method? m = some meth ∧ meth.code = some c ∧ E.1.admits e ∧ tb_G E
/-- THE WALK: method k, d frames free, rc cells of rs slots left to make, at pc with locals L, stack S, memory M: it ends, and Q says how -/
def tb_Wp (E : tb_E) (k : tb_MD) (d rc rs pc : Nat) (L : List tb_L) (S : List tb_V) (M : tb_M) (Q : tb_O → tb_M → Prop) : Prop :=
  ∀ (p : Program) (e : Env) (R : Room) (s : State) (m : MethodId) (args : Array Value) (below : List Frame) (meth : Method) (c : Code) (H : Heap) (locs : List Loc) (cells slots mc ms : Nat) (ls : Array Slot),
    tb_Cx E k p e s m meth c → lv_has ls k.2.2.1 (tb_lv E 0 L) → tb_HR E M H → va_S (tb_A E) s.heap H locs → cells + rc ≤ mc → slots + rs ≤ ms → tb_Rm R d mc ms →
    W p E.1 e R s m args below meth c H locs cells slots (tb_MQ below (tb_Qc E Q) s mc ms (tb_A E)) (F0 m pc ls (S.map (tv E)))
def tb_Pc (E : tb_E) (A : List tb_V) (M : tb_M) : Array Value → State → Prop := fun a U => a = (A.map (tv E)).toArray ∧ E.2.1.WarmedH U.vm ∧ tb_HR E M U.heap
/-- THE CONTRACT: method k, called with A at memory M -/
def tb_Ok (E : tb_E) (k : tb_MD) (d mc ms : Nat) (A : List tb_V) (M : tb_M) (Q : tb_O → tb_M → Prop) : Prop :=
  tb_Ok0 E.1 k.1 [tb_hw k] (tb_rm d mc ms) (tb_Pc E A M) (tb_Qc E Q) mc ms (tb_A E)
