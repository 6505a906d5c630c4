/-! Calls, as a walk sees them. -/
section Inv
variable {p : Program} {l : Launch} {e : Env} {R : Room} {s : State} {m : MethodId} {args : Array Value} {below : List Frame} {meth : Method} {c : Code} {H : Heap} {locs : List Loc} {cells slots : Nat}
/-- the instruction at g invokes y with a -/
def tb_Inv (p : Program) (l : Launch) (e : Env) (R : Room) (s : State) (m : MethodId) (args : Array Value) (below : List Frame) (meth : Method) (c : Code) (H : Heap) (locs : List Loc) (cells slots : Nat) (g : JFrame) (rest : List Value) (y : MethodName) (maxL : Nat) (a : Array Value) : Prop :=
  ∀ T : State, T.heap = H → Stand p l e R s m args below meth c T locs cells slots → ∃ (vm₁ : Vm) (mk : MethodId) (methY : Method) (cY : Code), Stand p l e R s m args below meth c (T.setVm vm₁) locs cells slots ∧
    (T.setVm vm₁).methodNamed? y = some mk ∧ (T.setVm vm₁).vm.method? mk = some methY ∧ methY.code = some cY ∧ cY.maxLocals = maxL ∧
    ∀ target, (∀ acts, Steps p.tables e below (doInvoke e ((T.setVm vm₁).setTop { g with stack := rest }) acts mk a).1 target) → Steps p.tables e below (T.setTop g) target
theorem tb_InvV {own C : String} {index : Nat} {y : MethodName} {bytes : ByteArray} {maxL : Nat} {ret : Option FieldType} (hexec : p.tables.exec = Jvm.exec)
    (hown : s.vm.findClass own = some m.cls) (hlink : (Cond.methodLink own index y).before args s = true) (hinst : (Cond.instanceMethod y).before args s = true) (hsel : (Cond.selects C y y).before args s = true)
    (hcode : (Cond.code y bytes maxL ret).before args s = true) (hy : y.cls ≠ "java/lang/invoke/MethodHandle" ∧ y.cls ≠ "java/lang/invoke/VarHandle")
    {b : Addr} {cellB : Cell} (hcell : H[b]? = some cellB) (hobj : cellB.vm.isStatics = false) (hcls : s.vm.findClass C = some cellB.cls)
    {g : JFrame} (hg : g.method = m) {argsL rest : List Value} (hlen : ∀ sig, parseMethodDescriptor y.desc = some sig → argsL.length = sig.parameters.length)
    (hstack : g.stack = argsL.reverse ++ .ref b :: rest) (hdg : decode c.code g.pc = .ok (.invokevirtual index, 3)) :
    tb_Inv p l e R s m args below meth c H locs cells slots g rest y maxL (Value.ref b :: argsL).toArray := by
  intro T hT X
  obtain ⟨mk, methM, hnamed, hmethM, hstM, habM⟩ := Cond.instanceMethod_spec hinst
  obtain ⟨methM', cM, hmethM', hcM, -, hlM, -, -, -, hsigM⟩ := Cond.code_spec hnamed hcode
  cases hmethM.symm.trans hmethM'
  obtain ⟨c2, r2, m2, q1, q2, q3, q4, kP, hkP, hkPi⟩ := Cond.selects_spec hsel
  cases hcls.symm.trans q1
  cases (State.methodFound?_of_named hnamed hy).symm.trans q2
  cases hnamed.symm.trans q3
  have hselP : selectMethod e.platform s.vm cellB.cls mk = .method mk := by rw [Launch.admits_selectMethod X.admits]; exact q4
  obtain ⟨vm₁, X₁, hstep₁⟩ := X.invokevirtual hexec hown hlink hnamed hmethM hstM hkP hkPi hy (a := b) (cell := cellB) (by rw [hT]; exact hcell)
    (fun z h => by rw [h] at hobj; cases hobj) hselP hmethM habM hkP hkPi (g := g) hg (argsL := argsL) (rest := rest) (hlen _ hsigM) hstack hdg
  exact ⟨vm₁, mk, methM, cM, X₁, X₁.named hnamed, by rw [X₁.warmed.alike.method?]; exact hmethM, hcM, hlM, hstep₁⟩
theorem tb_InvVN {own C host : String} {index : Nat} {y : MethodName} {bytes : ByteArray} {maxL : Nat} {ret : Option FieldType} (hexec : p.tables.exec = Jvm.exec)
    (hown : s.vm.findClass own = some m.cls) (hlink : (Cond.methodLinkNest own index y host).before args s = true) (hinst : (Cond.instanceMethod y).before args s = true) (hsel : (Cond.selects C y y).before args s = true)
    (hcode : (Cond.code y bytes maxL ret).before args s = true) (hy : y.cls ≠ "java/lang/invoke/MethodHandle" ∧ y.cls ≠ "java/lang/invoke/VarHandle")
    {b : Addr} {cellB : Cell} (hcell : H[b]? = some cellB) (hobj : cellB.vm.isStatics = false) (hcls : s.vm.findClass C = some cellB.cls)
    {g : JFrame} (hg : g.method = m) {argsL rest : List Value} (hlen : ∀ sig, parseMethodDescriptor y.desc = some sig → argsL.length = sig.parameters.length)
    (hstack : g.stack = argsL.reverse ++ .ref b :: rest) (hdg : decode c.code g.pc = .ok (.invokevirtual index, 3)) :
    tb_Inv p l e R s m args below meth c H locs cells slots g rest y maxL (Value.ref b :: argsL).toArray := by
  intro T hT X
  obtain ⟨mk, methM, hnamed, hmethM, hstM, habM⟩ := Cond.instanceMethod_spec hinst
  obtain ⟨methM', cM, hmethM', hcM, -, hlM, -, -, -, hsigM⟩ := Cond.code_spec hnamed hcode
  cases hmethM.symm.trans hmethM'
  obtain ⟨c2, r2, m2, q1, q2, q3, q4, kP, hkP, hkPi⟩ := Cond.selects_spec hsel
  cases hcls.symm.trans q1
  cases (State.methodFound?_of_named hnamed hy).symm.trans q2
  cases hnamed.symm.trans q3
  have hselP : selectMethod e.platform s.vm cellB.cls mk = .method mk := by rw [Launch.admits_selectMethod X.admits]; exact q4
  obtain ⟨vm₁, X₁, hstep₁⟩ := X.invokevirtualNest hexec hown hlink hnamed hmethM hstM hkP hkPi hy (a := b) (cell := cellB) (by rw [hT]; exact hcell)
    (fun z h => by rw [h] at hobj; cases hobj) hselP hmethM habM hkP hkPi (g := g) hg (argsL := argsL) (rest := rest) (hlen _ hsigM) hstack hdg
  exact ⟨vm₁, mk, methM, cM, X₁, X₁.named hnamed, by rw [X₁.warmed.alike.method?]; exact hmethM, hcM, hlM, hstep₁⟩
theorem tb_InvS {own : String} {index : Nat} {y : MethodName} {maxL : Nat} (hexec : p.tables.exec = Jvm.exec)
    (hown : s.vm.findClass own = some m.cls) (hlink : (Cond.methodLink own index y).before args s = true) (hstat : (Cond.static y).before args s = true) (hinit : (Cond.initialized y.cls).before args s = true)
    (hcode : ∃ mk methM cM, s.methodNamed? y = some mk ∧ s.vm.method? mk = some methM ∧ methM.code = some cM ∧ cM.maxLocals = maxL ∧ parseMethodDescriptor y.desc = some methM.sig) (hy : y.cls ≠ "java/lang/invoke/MethodHandle" ∧ y.cls ≠ "java/lang/invoke/VarHandle")
    {g : JFrame} (hg : g.method = m) {argsL rest : List Value} (hlen : ∀ sig, parseMethodDescriptor y.desc = some sig → argsL.length = sig.parameters.length)
    (hstack : g.stack = argsL.reverse ++ rest) (hdg : decode c.code g.pc = .ok (.invokestatic index, 3)) :
    tb_Inv p l e R s m args below meth c H locs cells slots g rest y maxL argsL.toArray := by
  intro T hT X
  obtain ⟨mk, methM, cM, hnamed, hmethM, hcM, hlM, hsigM⟩ := hcode
  have hstatic : methM.isStatic = true := Cond.static_spec hnamed hmethM hstat
  obtain ⟨kP, hkP, -⟩ := className_of_methodNamed hnamed
  have hinitP : kP.init = .initialized := Cond.initialized_spec (findClass_of_methodNamed hnamed) hkP hinit
  obtain ⟨vm₁, X₁, hstep₁⟩ := X.invokestatic hexec hown hlink hnamed hmethM hstatic hkP hinitP hy (g := g) hg (argsL := argsL) (rest := rest) (hlen _ hsigM) hstack hdg
  exact ⟨vm₁, mk, methM, cM, X₁, X₁.named hnamed, by rw [X₁.warmed.alike.method?]; exact hmethM, hcM, hlM, hstep₁⟩
theorem tb_InvSN {own host : String} {index : Nat} {y : MethodName} {maxL : Nat} (hexec : p.tables.exec = Jvm.exec)
    (hown : s.vm.findClass own = some m.cls) (hlink : (Cond.methodLinkNest own index y host).before args s = true) (hstat : (Cond.static y).before args s = true) (hinit : (Cond.initialized y.cls).before args s = true)
    (hcode : ∃ mk methM cM, s.methodNamed? y = some mk ∧ s.vm.method? mk = some methM ∧ methM.code = some cM ∧ cM.maxLocals = maxL ∧ parseMethodDescriptor y.desc = some methM.sig) (hy : y.cls ≠ "java/lang/invoke/MethodHandle" ∧ y.cls ≠ "java/lang/invoke/VarHandle")
    {g : JFrame} (hg : g.method = m) {argsL rest : List Value} (hlen : ∀ sig, parseMethodDescriptor y.desc = some sig → argsL.length = sig.parameters.length)
    (hstack : g.stack = argsL.reverse ++ rest) (hdg : decode c.code g.pc = .ok (.invokestatic index, 3)) :
    tb_Inv p l e R s m args below meth c H locs cells slots g rest y maxL argsL.toArray := by
  intro T hT X
  obtain ⟨mk, methM, cM, hnamed, hmethM, hcM, hlM, hsigM⟩ := hcode
  have hstatic : methM.isStatic = true := Cond.static_spec hnamed hmethM hstat
  obtain ⟨kP, hkP, -⟩ := className_of_methodNamed hnamed
  have hinitP : kP.init = .initialized := Cond.initialized_spec (findClass_of_methodNamed hnamed) hkP hinit
  obtain ⟨vm₁, X₁, hstep₁⟩ := X.invokestaticNest hexec hown hlink hnamed hmethM hstatic hkP hinitP hy (g := g) hg (argsL := argsL) (rest := rest) (hlen _ hsigM) hstack hdg
  exact ⟨vm₁, mk, methM, cM, X₁, X₁.named hnamed, by rw [X₁.warmed.alike.method?]; exact hmethM, hcM, hlM, hstep₁⟩
theorem tb_InvI {own : String} {index : Nat} {y : MethodName} {bytes : ByteArray} {maxL : Nat} (hexec : p.tables.exec = Jvm.exec)
    (hown : s.vm.findClass own = some m.cls) (hy1 : y.name = "<init>") (hlink : (Cond.methodLink own index y).before args s = true) (hinst : (Cond.instanceMethod y).before args s = true)
    (hcode : (Cond.code y bytes maxL none).before args s = true) (hy : y.cls ≠ "java/lang/invoke/MethodHandle" ∧ y.cls ≠ "java/lang/invoke/VarHandle")
    {g : JFrame} (hg : g.method = m) {a : Addr} {argsL rest : List Value} (hlen : ∀ sig, parseMethodDescriptor y.desc = some sig → argsL.length = sig.parameters.length)
    (hstack : g.stack = argsL.reverse ++ .ref a :: rest) (hdg : decode c.code g.pc = .ok (.invokespecial index, 3)) :
    tb_Inv p l e R s m args below meth c H locs cells slots g rest y maxL (Value.ref a :: argsL).toArray := by
  intro T hT X
  subst hg
  have hpl : e.platform.magicAccessors = ({} : Platform).magicAccessors := by rw [X.admits.platform]
  obtain ⟨mk, methM, cM, kP, vm₁, hnamed, hmethM, hcodeM, -, hlocalsM, -, hkP, -, hW₁, hstep₁⟩ := Steps.initColdArgs (e := e) X.here hexec X.warmed hpl hown hy1 hy hlink hinst hcode (f := g) rfl hlen hstack hdg
  have X₁ := X.noted hW₁
  exact ⟨vm₁, mk, methM, cM, X₁, X₁.named hnamed, by rw [X₁.warmed.alike.method?]; exact hmethM, hcodeM, hlocalsM, hstep₁⟩
theorem tb_InvIN {own host : String} {index : Nat} {y : MethodName} {bytes : ByteArray} {maxL : Nat} (hexec : p.tables.exec = Jvm.exec)
    (hown : s.vm.findClass own = some m.cls) (hy1 : y.name = "<init>") (hlink : (Cond.methodLinkNest own index y host).before args s = true) (hinst : (Cond.instanceMethod y).before args s = true)
    (hcode : (Cond.code y bytes maxL none).before args s = true) (hy : y.cls ≠ "java/lang/invoke/MethodHandle" ∧ y.cls ≠ "java/lang/invoke/VarHandle")
    {g : JFrame} (hg : g.method = m) {a : Addr} {argsL rest : List Value} (hlen : ∀ sig, parseMethodDescriptor y.desc = some sig → argsL.length = sig.parameters.length)
    (hstack : g.stack = argsL.reverse ++ .ref a :: rest) (hdg : decode c.code g.pc = .ok (.invokespecial index, 3)) :
    tb_Inv p l e R s m args below meth c H locs cells slots g rest y maxL (Value.ref a :: argsL).toArray := by
  intro T hT X
  subst hg
  have hpl : e.platform.magicAccessors = ({} : Platform).magicAccessors := by rw [X.admits.platform]
  obtain ⟨mk, methM, cM, kP, vm₁, hnamed, hmethM, hcodeM, -, hlocalsM, -, hkP, -, hW₁, hstep₁⟩ := Steps.initColdArgsNest (e := e) X.here hexec X.warmed hpl hown hy1 hy hlink hinst hcode (f := g) rfl hlen hstack hdg
  have X₁ := X.noted hW₁
  exact ⟨vm₁, mk, methM, cM, X₁, X₁.named hnamed, by rw [X₁.warmed.alike.method?]; exact hmethM, hcodeM, hlocalsM, hstep₁⟩
/-- the machine at a throw -/
def tb_WT (p : Program) (l : Launch) (e : Env) (R : Room) (s : State) (m : MethodId) (args : Array Value) (below : List Frame) (meth : Method) (c : Code) (H : Heap) (locs : List Loc) (cells slots : Nat) (Q : State → Prop) (g : JFrame) (a : Addr) : Prop :=
  ∀ T : State, T.heap = H → s.WarmedH T.vm → Stand p l e R s m args below meth c T locs cells slots → ∃ t, Steps p.tables e below ((T.setTop g).pushFrame (.throwing a)) t ∧ Q t
set_option maxHeartbeats 1000000 in
/-- a call by its contract -/
theorem tb_callW {E : tb_E} {k' : tb_MD} {d d' mc' ms' mc ms pc : Nat} {A : List tb_V} {M : tb_M} {Q' : tb_O → tb_M → Prop} {Q : State → Prop} {ls : Array Slot} {st rest : List Value}
    (hI : tb_Inv p E.1 e R s m args below meth c H locs cells slots (F0 m pc ls st) rest k'.1 k'.2.2.1 (A.map (tv E)).toArray)
    (hM : tb_Ok E k' d' mc' ms' A M Q') (hW0 : E.2.1.WarmedH s.vm) (hww : (tb_hw k').before args s = true) (hgood : (Cond.onTables (tb_hw k') && Cond.keeps (tb_hw k')) = true) (hini : (Cond.initialized k'.1.cls).before args s = true)
    (hH : tb_HR E M H) (hS : va_S (tb_A E) s.heap H locs) (hsize : ls.size = c.maxLocals) (hst : (rest.map fun v => v.category).sum ≤ 8) {ig : Instr} (hdg : decode c.code pc = .ok (ig, 3))
    (hR : tb_Rm R d mc ms) (hd : d' + 1 ≤ d) (hL : k'.2.2.1 ≤ 21) (hc : cells + mc' ≤ mc) (hs : slots + ms' ≤ ms)
    (kret : ∀ (v : Option tb_V) (M' : tb_M), Q' (.inl v) M' → ∀ (H' : Heap) (locs' : List Loc), tb_HR E M' H' → va_S (tb_A E) s.heap H' locs' → W p E.1 e R s m args below meth c H' locs' (cells + mc') (slots + ms') Q (F0 m (pc + 3) ls ((v.map (tv E)).toList ++ rest)))
    (kthr : ∀ (x : Nat) (M' : tb_M), Q' (.inr x) M' → ∀ (H' : Heap) (locs' : List Loc) (a : Addr) (cell : Cell), tb_HR E M' H' → va_S (tb_A E) s.heap H' locs' → H'[a]? = some cell → (∀ q, cell.vm ≠ .statics q) → s.vm.findClass (tb_xn x) = some cell.cls → tb_WT p E.1 e R s m args below meth c H' locs' (cells + mc') (slots + ms') Q (F0 m pc ls rest) a) :
    W p E.1 e R s m args below meth c H locs cells slots Q (F0 m pc ls st) := by
  intro T hT X
  obtain ⟨vm₁, mk, methY, cY, X₁, hn, hmY, hcY, hlY, hstep⟩ := hI T hT X
  have hg2 : ({ F0 m pc ls st with stack := rest } : JFrame) = F0 m pc ls rest := rfl
  rw [hg2] at hstep
  have hHT : (T.setVm vm₁).heap = H := hT
  have hPc : tb_Pc E A M (A.map (tv E)).toArray ((T.setVm vm₁).calling (F0 m pc ls rest) mk (A.map (tv E)).toArray) := ⟨rfl, State.WarmedH.trans hW0 X₁.warmed, by show tb_HR E M (T.setVm vm₁).heap; rw [hHT]; exact hH⟩
  obtain ⟨o, t, U', L, e1, e2, X', hq, hL', hr, ht⟩ := tb_call2 X₁ hM rfl rfl (Nat.le_trans hd hR.1) (by show 8 + (k'.2.2.1 + 11) + 40 * d' ≤ R.locals; have := hR.2.1; omega) (a := (A.map (tv E)).toArray)
    (fun w hw => by rw [List.mem_singleton.mp hw]; exact word_at X₁.warmed (Or.inl hgood) hww) (word_at X₁.warmed (Or.inl (by first | rfl | simp [Cond.onTables, Cond.keeps, Cond.steady])) hini)
    (g := F0 m pc ls rest) rfl hsize hdg (by simpa [JFrame.monitorRoom] using hst) hn hmY hcY hlY (Nat.le_trans hc hR.2.2.1) (Nat.le_trans hs hR.2.2.2) hPc
  obtain ⟨⟨o', M', hQ, hoc, hHR⟩, hz, hk⟩ := hq
  have hz' : H.size ≤ U'.heap.size := by rw [e1, ← hHT]; exact hz
  have hS' : va_S (tb_A E) s.heap U'.heap (locs ++ L) := by
    refine ⟨Nat.le_trans hS.1 hz', fun q h1 h2 => ?_, fun q hq => ?_⟩
    · have h3 : q < H.size := Nat.lt_of_lt_of_le h1 hS.1
      have h4 := hk q (by show q < (T.setVm vm₁).heap.size; rw [hHT]; exact h3) h2
      have h5 : ((T.setVm vm₁).calling (F0 m pc ls rest) mk (A.map (tv E)).toArray).heap = H := hHT
      rw [e1, h4, h5]
      exact hS.2.1 q h1 h2
    · rcases List.mem_append.mp hq with h | h
      · exact hS.2.2 q h
      · exact hL' q h
  have hHR' : tb_HR E M' U'.heap := by rw [e1]; exact hHR
  cases o' with
  | inl v =>
    have hret : o = .returned (v.map (tv E)) := by
      cases v with
      | none => exact hoc
      | some v => exact hoc
    obtain ⟨t2, a1, b1⟩ := kret v M' hQ U'.heap (locs ++ L) hHR' hS' U' rfl X'
    refine ⟨t2, ?_, b1⟩
    refine hstep _ fun acts => ?_
    rw [doInvoke_state]
    exact (hr _ hret).trans a1
  | inr x =>
    obtain ⟨a, ha, cell, h1, h2, h3⟩ := hoc
    have h3' : s.vm.findClass (tb_xn x) = some cell.cls := by
      rw [← X'.warmed.alike.findClass, e2]; exact h3
    obtain ⟨t2, a1, b1⟩ := kthr x M' hQ U'.heap (locs ++ L) a cell hHR' hS' (by rw [e1]; exact h1) h2 h3' U' rfl X'.warmed X'
    refine ⟨t2, ?_, b1⟩
    refine hstep _ fun acts => ?_
    rw [doInvoke_state]
    exact (ht _ ha).trans a1
end Inv
