/-! Answers, entries, calls. -/
section Ends
variable {E : tb_E} {k : tb_MD} {d rc rs pc pc' : Nat} {L : List tb_L} {S : List tb_V} {M : tb_M} {Q : tb_O → tb_M → Prop}
theorem tb_cR {p : Program} {e : Env} {s : State} {m : MethodId} {meth : Method} {c : Code} (C : tb_Cx E k p e s m meth c) : meth.sig.returnType = k.2.2.2.1 := C.2.2.2.2.1
theorem tb_cL {p : Program} {e : Env} {s : State} {m : MethodId} {meth : Method} {c : Code} (C : tb_Cx E k p e s m meth c) : meth.locks = false := C.2.2.2.2.2.1
theorem tb_cT {p : Program} {e : Env} {s : State} {m : MethodId} {meth : Method} {c : Code} (C : tb_Cx E k p e s m meth c) : c.exceptionTable.toList.map (fun h => (h.startPc, h.endPc, h.handlerPc, h.catchType)) = k.2.2.2.2 := C.2.2.2.2.2.2.2.2.1
theorem tb_ireturn {x : Int32} {ty : FieldType} (hd : decode k.2.1 pc = .ok (.ireturn, 1)) (hr : k.2.2.2.1 = some ty) (hn : narrow ty (.int x) = .int x) (hQ : Q (.inl (some (.inl x))) M) : tb_Wp E k d rc rs pc L [.inl x] M Q := by
  intro p e R s m args below meth c H locs cells slots mc ms ls C hl hH hS h1 h2 hR
  refine W.widen (k := mc) (n := ms) (by omega) (by omega) ?_
  exact tb_W_mono (fun t h => tb_MQ_of h) (W.zret (Qc := fun _ => tb_Qc E Q) (free := tb_A E) C.1 C.2.1 ((tb_cR C).trans hr) hn (fun t ht hW => ⟨⟨.inl (some (.inl x)), M, hQ, rfl, by rw [ht]; exact hH⟩, hS.F ht⟩) hS.2.2 hd (hlocks := tb_cL C))
theorem tb_vreturn (hd : decode k.2.1 pc = .ok (.return_, 1)) (hr : k.2.2.2.1 = none) (hQ : Q (.inl none) M) : tb_Wp E k d rc rs pc L [] M Q := by
  intro p e R s m args below meth c H locs cells slots mc ms ls C hl hH hS h1 h2 hR
  refine W.widen (k := mc) (n := ms) (by omega) (by omega) ?_
  exact tb_W_mono (fun t h => tb_MQ_of h) (W.vret (Qc := fun _ => tb_Qc E Q) (free := tb_A E) C.1 C.2.1 ((tb_cR C).trans hr) (fun t ht hW => ⟨⟨.inl none, M, hQ, rfl, by rw [ht]; exact hH⟩, hS.F ht⟩) hS.2.2 hd (hlocks := tb_cL C))
theorem tb_areturn {r : Nat} {n : String} (hd : decode k.2.1 pc = .ok (.areturn, 1)) (hr : k.2.2.2.1 = some (.object n)) (hQ : Q (.inl (some (.inr (.inl r)))) M) : tb_Wp E k d rc rs pc L [.inr (.inl r)] M Q := by
  intro p e R s m args below meth c H locs cells slots mc ms ls C hl hH hS h1 h2 hR
  refine W.widen (k := mc) (n := ms) (by omega) (by omega) ?_
  exact tb_W_mono (fun t h => tb_MQ_of h) (W.aret (v := va_rf (tb_ro E r)) (Qc := fun _ => tb_Qc E Q) (free := tb_A E) C.1 C.2.1 ((tb_cR C).trans hr) (Or.inl ⟨_, rfl⟩) (va_rf_or _) (fun t ht hW => ⟨⟨.inl (some (.inr (.inl r))), M, hQ, rfl, by rw [ht]; exact hH⟩, hS.F ht⟩) hS.2.2 hd (hlocks := tb_cL C))
theorem tb_hw_spec {args : Array Value} {s : State} {m : MethodId} (h : (tb_hw k).before args s = true) (hn : s.methodNamed? k.1 = some m) : ∃ meth c, s.vm.method? m = some meth ∧ meth.code = some c ∧ c.code = k.2.1 ∧ c.maxLocals = k.2.2.1 ∧ meth.sig.returnType = k.2.2.2.1 ∧ meth.locks = false ∧ c.exceptionTable.toList.map (fun h => (h.startPc, h.endPc, h.handlerPc, h.catchType)) = k.2.2.2.2 ∧ parseMethodDescriptor k.1.desc = some meth.sig := by
  obtain ⟨y, b, n, r, hs⟩ := k
  cases hs with
  | nil =>
    obtain ⟨meth, c, h1, h2, h3, h4, h5, h6, h7, h8⟩ := Cond.code_spec hn (show (Cond.code y b n r).before args s = true from h)
    exact ⟨meth, c, h1, h2, h3, h4, h5, h6, by simpa using h7, h8⟩
  | cons a t =>
    obtain ⟨m', meth, c, h0, h1, h2, h3, h4, h5, h6, h7, h8⟩ := Cond.codeWith_spec (show (Cond.codeWith y b n r (a :: t)).before args s = true from h)
    cases hn.symm.trans h0
    exact ⟨meth, c, h1, h2, h3, h4, h6, h7, h5, h8⟩
/-- arguments as locals -/
def tb_al : List tb_V → List tb_L
  | [] => []
  | .inl x :: t => some (.inl x) :: tb_al t
  | .inr (.inl r) :: t => some (.inr r) :: tb_al t
  | .inr (.inr _) :: t => none :: tb_al t
def tb_nol : List tb_V → Bool
  | [] => true
  | .inl _ :: t => tb_nol t
  | .inr (.inl _) :: t => tb_nol t
  | .inr (.inr _) :: _ => false
theorem tb_lv_args (E : tb_E) : ∀ (A : List tb_V) (j n : Nat), tb_nol A = true → lv_args j (A.map (tv E)) = tb_lv E j (tb_al A ++ List.replicate n none) := by
  intro A
  induction A with
  | nil =>
    intro j n _
    have h : ∀ (n j : Nat), tb_lv E j (List.replicate n none) = [] := by
      intro n
      induction n with
      | zero => intro j; rfl
      | succ n ih => intro j; exact ih (j + 1)
    exact (h n j).symm
  | cons a t ih =>
    intro j n h
    rcases a with x | r | z
    · show (j, Value.int x) :: lv_args (j + 1) (t.map (tv E)) = _
      rw [ih (j + 1) n h]
      rfl
    · cases r with
      | zero =>
        show (j, Value.null) :: lv_args (j + 1) (t.map (tv E)) = _
        rw [ih (j + 1) n h]
        rfl
      | succ r =>
        show (j, Value.ref (E.2.1.heap.size + r)) :: lv_args (j + 1) (t.map (tv E)) = _
        rw [ih (j + 1) n h]
        rfl
    · cases h
theorem tb_sl_len (E : tb_E) : ∀ (A : List tb_V), tb_nol A = true → (lg_sl (A.map (tv E))).length = A.length := by
  intro A
  induction A with
  | nil => intro _; rfl
  | cons a t ih =>
    intro h
    rcases a with x | r | z
    · show (lg_sl (t.map (tv E))).length + 1 = _
      rw [ih h]; rfl
    · cases r with
      | zero =>
        show (lg_sl (t.map (tv E))).length + 1 = _
        rw [ih h]; rfl
      | succ r =>
        show (lg_sl (t.map (tv E))).length + 1 = _
        rw [ih h]; rfl
    · cases h
/-- a contract out of a walk from the entry -/
theorem tb_okOf {mc ms : Nat} {A : List tb_V} {L0 : List tb_L} (hG : tb_G E) (hy : plainName k.1.cls = true) (hA : tb_nol A = true) (hm : A.length ≤ k.2.2.1) (hL : tb_al A ++ List.replicate (k.2.2.1 - A.length) none = L0) (body : tb_Wp E k d mc ms 0 L0 [] M Q) : tb_Ok E k d mc ms A M Q := by
  refine tb_Ok0.ofW (cc := k.2.1) (maxL := k.2.2.1) (ret := k.2.2.2.1) hy ?_ ?_
  · intro args s m h hn
    obtain ⟨meth, c, h1, h2, h3, h4, h5, h6, -⟩ := tb_hw_spec (atoms_spec (ws := [tb_hw k]) h _ (List.mem_singleton.mpr rfl)) hn
    exact ⟨meth, c, h1, h2, h3, h4, h5, h6⟩
  · intro p e s m args below meth c s₁ B hml hP
    obtain ⟨rfl, hW, hH⟩ := hP
    have hcode := (Stand.of_body B).code
    obtain ⟨meth', c', g1, g2, -, -, -, -, g7, -⟩ := tb_hw_spec (atoms_spec (ws := [tb_hw k]) B.pre _ (List.mem_singleton.mpr rfl)) B.named
    cases B.method.symm.trans g1
    cases hcode.symm.trans g2
    have hl := lv_entry (A.map (tv E)) (n := k.2.2.1) (by rw [tb_sl_len E A hA]; exact hm)
    rw [tb_lv_args E A 0 (k.2.2.1 - A.length) hA, hL] at hl
    rw [lg_entry_eq]
    exact body p e _ s m _ below meth c s.heap [] 0 0 mc ms _ ⟨B.exec, B.bytes, hml, findClass_of_methodNamed B.named, B.returns, B.notSynchronized, (name_of_methodNamed B.named B.method).1, hW, g7, B.method, hcode, B.admits, hG⟩ hl hH va_S.rf (by omega) (by omega) ⟨Nat.le_refl _, Nat.le_refl _, Nat.le_refl _, Nat.le_refl _⟩
/-- what a call of k' from the class 'own' rests on -/
def tb_SB (k' : tb_MD) (n : Nat) : Prop := tb_I1 (tb_hw k') ∧ tb_I1 (Cond.initialized k'.1.cls) ∧ (k'.1.cls ≠ "java/lang/invoke/MethodHandle" ∧ k'.1.cls ≠ "java/lang/invoke/VarHandle") ∧ (parseMethodDescriptor k'.1.desc).map (fun d => d.parameters.length) = some n ∧ k'.2.2.1 ≤ 21 ∧ (Cond.onTables (tb_hw k') && Cond.keeps (tb_hw k')) = true
def tb_SV (own : String) (index ci : Nat) (k' : tb_MD) (n : Nat) : Prop := tb_SB k' n ∧ k'.2.2.2.2 = [] ∧ tb_I1 (Cond.methodLink own index k'.1) ∧ tb_I1 (Cond.instanceMethod k'.1) ∧ tb_I1 (Cond.selects k'.1.cls k'.1 k'.1) ∧ ci < 99 ∧ (tb_cl[ci]?).map (fun q => q.1) = some k'.1.cls
def tb_SVN (own : String) (index ci : Nat) (k' : tb_MD) (n : Nat) (host : String) : Prop := tb_SB k' n ∧ k'.2.2.2.2 = [] ∧ Cond.methodLinkNest own index k'.1 host ∈ tb_nest ∧ tb_I1 (Cond.instanceMethod k'.1) ∧ tb_I1 (Cond.selects k'.1.cls k'.1 k'.1) ∧ ci < 99 ∧ (tb_cl[ci]?).map (fun q => q.1) = some k'.1.cls
def tb_SS (own : String) (index : Nat) (k' : tb_MD) (n : Nat) : Prop := tb_SB k' n ∧ tb_I1 (Cond.methodLink own index k'.1) ∧ tb_I1 (Cond.static k'.1)
def tb_SSN (own : String) (index : Nat) (k' : tb_MD) (n : Nat) (host : String) : Prop := tb_SB k' n ∧ Cond.methodLinkNest own index k'.1 host ∈ tb_nest ∧ tb_I1 (Cond.static k'.1)
def tb_SI (own : String) (index : Nat) (k' : tb_MD) (n : Nat) : Prop := tb_SB k' n ∧ k'.2.2.2.2 = [] ∧ k'.2.2.2.1 = none ∧ k'.1.name = "<init>" ∧ tb_I1 (Cond.methodLink own index k'.1) ∧ tb_I1 (Cond.instanceMethod k'.1)
theorem tb_map_rev (E : tb_E) (A : List tb_V) (S : List tb_V) : (A.reverse ++ S).map (tv E) = (A.map (tv E)).reverse ++ S.map (tv E) := by
  rw [List.map_append, List.map_reverse]
theorem tb_cats {E : tb_E} : ∀ {S : List tb_V}, S.length ≤ 4 → ((S.map (tv E)).map fun v => v.category).sum ≤ 8 := by
  have h : ∀ S : List tb_V, ((S.map (tv E)).map fun v => v.category).sum ≤ 2 * S.length := by
    intro S
    induction S with
    | nil => simp
    | cons a t ih =>
      have hc := lv_cat (tv E a)
      simp only [List.map_cons, List.sum_cons, List.length_cons]
      omega
  intro S hS
  have := h S
  omega
theorem tb_parn {y : MethodName} {n : Nat} (h : (parseMethodDescriptor y.desc).map (fun d => d.parameters.length) = some n) : ∀ sig, parseMethodDescriptor y.desc = some sig → n = sig.parameters.length := by
  intro sig hs
  rw [hs] at h
  exact (Option.some.inj h).symm
end Ends
