/-! A throw: the heap behind it is the heap before it, and one cell more. -/
section Throw
variable {p : Program} {l : Launch} {e : Env} {R : Room} {s : State} {m : MethodId} {args : Array Value} {below : List Frame} {meth : Method} {c : Code} {T : State} {locs : List Loc} {cells slots : Nat}
/-- the same invocation, as if it had begun with the heap of now -/
def tb_reb (s T : State) : State := { s with heap := T.heap, slotsUsed := T.slotsUsed }
theorem tb_rebase (X : Stand p l e R s m args below meth c T locs cells slots) {kc ks : Nat} (hc : cells + kc ≤ R.cells) (hs : slots + ks ≤ R.slots) : Stand p l e { R with cells := kc, slots := ks } (tb_reb s T) m args below meth c T [] 0 0 := by
  have hroom := X.room
  have hz := X.heapSize
  have hu := X.used
  have hb := X.book
  refine ⟨X.admits, X.cas, X.clock, X.frames, ?_, X.hears, X.method, X.code, X.here, X.tail, X.warmed, X.limits, X.bytes, ?_⟩
  · simp only [State.hasRoom, Bool.and_eq_true, decide_eq_true_eq] at hroom ⊢
    obtain ⟨⟨⟨⟨r1, r2⟩, r3⟩, r4⟩, r5⟩ := hroom
    refine ⟨⟨⟨⟨r1, r2⟩, ?_⟩, ?_⟩, hb⟩
    · show T.heap.size + kc ≤ _
      omega
    · show T.slotsUsed + ks ≤ _
      omega
  · refine ⟨X.same.1, Nat.le_refl _, Nat.le_add_right _ _, ?_, ?_, ?_⟩
    · show T.slotsUsed = T.slotsUsed + ((T.heap.toList.drop T.heap.size).map (·.slots.size)).sum
      rw [show T.heap.toList.drop T.heap.size = [] from by simp]
      rfl
    · show ((T.heap.toList.drop T.heap.size).map (·.slots.size)).sum ≤ 0
      rw [show T.heap.toList.drop T.heap.size = [] from by simp]
      exact Nat.le_refl _
    · intro a cell h
      exact ⟨cell, h, rfl, rfl, fun _ _ => rfl⟩
end Throw
theorem tb_static_moved {C n d : String} {s0 U : State} {A A' : Array Value} (hW : s0.WarmedH U.vm) (hq : ∀ q : Nat, q < s0.heap.size → U.heap[q]? = s0.heap[q]?) (h : (Cond.isRef (.static C n d)).before A s0 = true) : (Cond.isRef (.static C n d)).before A' U = true := by
  unfold Cond.before Cond.holds at h ⊢
  simp only [Cond.value] at h ⊢
  have he : ∀ v, (Term.static C n d).eval A s0 none [] s0 = some v → (Term.static C n d).eval A' U none [] U = some v := by
    intro v hv
    simp only [Term.eval, State.fieldNamed?, Option.bind_eq_bind, Option.bind_eq_some_iff, Prod.exists] at hv ⊢
    obtain ⟨c, k, sl, ⟨c2, k2, i2, f2, hf, hst⟩, a, ha, cell, hcell, hv⟩ := hv
    obtain ⟨k', hf', hk'⟩ := State.fieldFound?_setVm (s := s0) hW.alike hf
    have hfU : U.fieldFound? C n d = some (c2, k', i2, f2) := by simpa only [State.fieldFound?, State.vm_setVm] using hf'
    split at hst
    · rename_i hs
      cases hst
      refine ⟨_, k', _, ⟨_, k', i2, f2, hfU, by rw [if_pos hs]; rfl⟩, a, by rw [hk']; exact ha, cell, ?_, hv⟩
      rw [hq a (Array.getElem?_eq_some_iff.mp hcell).1]
      exact hcell
    · cases hst
  cases hv : (Term.static C n d).eval A s0 none [] s0 with
  | none => simp [hv] at h
  | some v =>
    rw [he v hv]
    rw [hv] at h
    exact h
/-- the words that a throw of cls by the entries of TracedBuild rests on -/
def tb_thw (ic : Nat) (cls : String) : List Cond := Bundle.ownAtoms0 "TracedBuild" ic cls ["java/lang/RuntimeException", "java/lang/Exception"]
def tb_cas : List String := ["java/lang/IllegalArgumentException", "java/lang/IllegalStateException", "java/lang/IndexOutOfBoundsException"]
def tb_dec : List String := ["java/lang/RuntimeException", "java/lang/Exception", "java/lang/Throwable"]
def tb_lst : List (String × String) := [("UNASSIGNED_STACK", "[Ljava/lang/StackTraceElement;"), ("SUPPRESSED_SENTINEL", "Ljava/util/List;")]
def tb_mov : List Cond := tb_cas.map (fun q => .castable q q) ++ (tb_dec.map (fun q => .declares ⟨q, "<init>", "()V"⟩) ++ tb_lst.map (fun q => .laysStatic "java/lang/Throwable" q.1 q.2))
theorem tb_mov_in : tb_mov.all (fun w => decide (w ∈ lw_tbl)) = true := by decide +kernel
theorem tb_lst_moved {n d : String} {s0 U : State} {A A' : Array Value} (hW : s0.WarmedH U.vm) (hq : ∀ q : Nat, q < s0.heap.size → U.heap[q]? = s0.heap[q]?) (h : (Cond.laysStatic "java/lang/Throwable" n d).before A s0 = true) : (Cond.laysStatic "java/lang/Throwable" n d).before A' U = true := by
  obtain ⟨c, k, i, fd, a, cell, hc, hf, hst, hsta, hcell, hiss, hcls, hlt, hty⟩ := Cond.laysStatic_spec h
  obtain ⟨k', hf', hk'⟩ := State.fieldFound?_setVm (s := s0) hW.alike hf
  have hfU : U.fieldFound? "java/lang/Throwable" n d = some (c, k', i, fd) := by simpa only [State.fieldFound?, State.vm_setVm] using hf'
  have hcU : U.vm.findClass "java/lang/Throwable" = some c := by rw [hW.alike.findClass]; exact hc
  have h1 : k'.statics = some a := by rw [hk']; exact hsta
  have h2 : k'.staticTypes = k.staticTypes := by rw [hk']
  have h3 : U.heap[a]? = some cell := by rw [hq a (Array.getElem?_eq_some_iff.mp hcell).1]; exact hcell
  unfold Cond.before Cond.holds
  simp [Cond.value, hcU, hfU, h1, h2, h3, hst, hiss, hcls, hlt, hty]
theorem tb_moved {w : Cond} (hw : w ∈ tb_mov) {s0 U : State} {A A' : Array Value} (hW : s0.WarmedH U.vm) (hq : ∀ q : Nat, q < s0.heap.size → U.heap[q]? = s0.heap[q]?) (h : w.before A s0 = true) : w.before A' U = true := by
  rcases List.mem_append.mp hw with hw | hw
  · obtain ⟨q, -, rfl⟩ := List.mem_map.mp hw
    exact va_Nw.use rfl (va_Nw.warmC hW (va_Nw.of rfl h))
  · rcases List.mem_append.mp hw with hw | hw
    · obtain ⟨q, -, rfl⟩ := List.mem_map.mp hw
      exact va_Nw.use rfl (va_Nw.warmD hW (va_Nw.of rfl h))
    · obtain ⟨q, -, rfl⟩ := List.mem_map.mp hw
      exact tb_lst_moved hW hq h
def tb_thok (ic : Nat) (cls : String) : Bool := (tb_thw ic cls).all (fun w => (decide (w ∈ lw_tbl) && goodWord w) || (decide (w ∈ tb_stw) || decide (w ∈ tb_mov)))
section Throw2
variable {E : tb_E} {k : tb_MD} {d rc rs pc : Nat} {L : List tb_L} {S : List tb_V} {M : tb_M} {Q : tb_O → tb_M → Prop}
theorem tb_thw_ok {ic : Nat} {cls : String} (h : tb_thok ic cls = true) (hG : tb_G E) {U : State} (hW : E.2.1.WarmedH U.vm) (hq : ∀ q : Nat, q < E.2.1.heap.size → U.heap[q]? = E.2.1.heap[q]?) (args : Array Value) : ∀ w ∈ tb_thw ic cls, w.before args U = true := by
  intro w hw
  have h1 := List.all_eq_true.mp h w hw
  rcases Bool.or_eq_true _ _ |>.mp h1 with h2 | h2
  · rw [Bool.and_eq_true] at h2
    exact tb_hts hG hW args w ⟨of_decide_eq_true h2.1, h2.2⟩
  · rcases Bool.or_eq_true _ _ |>.mp h2 with h2 | h2
    · have h3 : w ∈ tb_stw := of_decide_eq_true h2
      have h4 := hG.2.2.2.2.1 w h3
      rcases List.mem_cons.mp h3 with rfl | h5
      · exact tb_static_moved hW hq h4
      · rcases List.mem_cons.mp h5 with rfl | h6
        · exact tb_static_moved hW hq h4
        · cases h6
    · have h3 : w ∈ tb_mov := of_decide_eq_true h2
      exact tb_moved h3 hW hq (hG.1 w (of_decide_eq_true (List.all_eq_true.mp tb_mov_in w h3)))
set_option maxHeartbeats 1000000 in
/-- new X(); throw: four instructions -/
theorem tb_throw {inew ic x : Nat} (hd0 : decode k.2.1 pc = .ok (.new inew, 3)) (hd3 : decode k.2.1 (pc + 3) = .ok (.dup, 1)) (hd4 : decode k.2.1 (pc + 4) = .ok (.invokespecial ic, 3)) (hd7 : decode k.2.1 (pc + 7) = .ok (.athrow, 1))
    (hno : k.2.2.2.2 = []) (hcls : k.1.cls = "TracedBuild") (hok : tb_thok ic (tb_xn x) = true) (hfit : Bundle.fit (tb_xn x) = true) (w1 : tb_I1 (Cond.classLink "TracedBuild" inew (tb_xn x))) (w2 : tb_I1 (Cond.instantiable (tb_xn x) 6)) (w3 : tb_I1 (Cond.initialized (tb_xn x)))
    (hdd : 6 ≤ d) (hS4 : S.length ≤ 4) (hrc : 1 ≤ rc) (hrs : 6 ≤ rs) (hQ : Q (.inr x) (tb_un M)) : tb_Wp E k d rc rs pc L S M Q := by
  intro p e R s m args below meth c H locs cells slots mc ms ls C hl hH hS h1 h2 hR T hT X
  have hG := tb_cG C
  have hW := tb_cW C
  have X' := tb_rebase X (kc := 1) (ks := 6) (by have := hR.2.2.1; omega) (by have := hR.2.2.2; omega)
  have hW' : E.2.1.WarmedH (tb_reb s T).vm := hW
  have hown' : (tb_reb s T).vm.findClass "TracedBuild" = some m.cls := by rw [← hcls]; exact tb_cO C
  have hts' := fun (w : Cond) (hw : tb_I1 w) => tb_hts (s := tb_reb s T) hG hW' args w hw
  have hq' : ∀ q : Nat, q < E.2.1.heap.size → (tb_reb s T).heap[q]? = E.2.1.heap[q]? := fun q h => by
    show T.heap[q]? = _
    rw [hT]
    exact hH.2.1 q h
  have hatoms := tb_thw_ok hok hG hW' hq' args
  have htr : e.platform.stackTraces = false := by
    have ha : E.1.admits e := X.admits
    rw [ha.platform]
    exact hG.2.2.2.1
  obtain ⟨cX, kX, hcX, hkX, -⟩ := Cond.instantiable_spec (hts' _ w2)
  have hnil : c.exceptionTable.toList = [] := by
    have := tb_cT C
    rw [hno] at this
    exact List.map_eq_nil_iff.mp this
  have hcat := tb_cats (E := E) hS4
  have key : W p E.1 e { R with cells := 1, slots := 6 } (tb_reb s T) m args below meth c T.heap [] 0 0 (fun U => U.status = .running ∧ Ended U below (.threw T.heap.size) ∧ (tb_reb s T).WarmedH U.vm ∧ (tb_reb s T).sameButNew ({ U with vm := (tb_reb s T).vm } : State) [] 1 6 ∧ ∃ ce, U.heap[T.heap.size]? = some ce ∧ Bundle.OwnCell args (tb_reb s T) (tb_xn x) T.heap.size .null ce) (F0 m pc ls (S.map (tv E))) := by
    refine W.newcK C.1 C.2.1 hown' (hts' _ w1) (hts' _ w2) (hts' _ w3) rfl hd0 (Nat.le_refl 1) (Nat.le_refl 6) hcX rfl fun H1 kC hkC e1 z1 o1 => ?_
    refine lv_dup C.1 C.2.1 hd3 rfl ?_
    intro T2 hT2 X2
    obtain ⟨U, g1, g2, g3, g4, g5, g6⟩ := X2.ctorThrow0 C.1 htr (own := "TracedBuild") (cls := tb_xn x) (names := ["java/lang/RuntimeException", "java/lang/Exception"]) (ic := ic) hown' hfit (by decide +kernel) hatoms (fun y hy => by cases hy)
      (a := T.heap.size) (cX := cX) (kX := kC) hcX hkC (by rw [hT2]; exact e1) (Nat.le_refl _) (g := F0 m (pc + 3 + 1) ls (.ref T.heap.size :: .ref T.heap.size :: S.map (tv E))) rfl (hl.1.trans C.2.2.1.symm) rfl rfl (rest := S.map (tv E)) rfl
      (by rw [C.2.1]; exact hd4) (by rw [C.2.1]; exact hd7) (fun y hy => by rw [hnil] at hy; cases hy) (by show 2 + 3 < R.frames; have := hR.1; omega)
      (by show 2 * 0 + ((Value.ref _ :: S.map (tv E)).map fun v => v.category).sum + (13 * (2 + 1) + 41) ≤ R.locals
          rw [List.map_cons, List.sum_cons]
          show 2 * 0 + (1 + _) + _ ≤ _
          have := hR.2.1
          omega) (hlocks := tb_cL C)
    exact ⟨U, g1, g2, g3, g4, g5, g6⟩
  obtain ⟨U, st, g2, g3, g4, g5, ce, g6, g7⟩ := key T rfl X'
  have g4' : s.WarmedH U.vm := g4
  have hstep : (T.setVm s.vm).sameButNew ({ U with vm := s.vm } : State) [] 1 6 := by
    obtain ⟨q1, q2, q3, q4, q5, q6⟩ := g5
    refine ⟨q1.trans ?_, q2, q3, q4, q5, q6⟩
    have e1 := X.same.1
    have e2 : (T.setVm s.vm).setFrames ({ U with vm := s.vm } : State).frames = (({ s.setFrames (T.setVm s.vm).frames with heap := (T.setVm s.vm).heap, slotsUsed := (T.setVm s.vm).slotsUsed } : State)).setFrames ({ U with vm := s.vm } : State).frames := congrArg (fun z : State => z.setFrames ({ U with vm := s.vm } : State).frames) e1
    rw [e2]
    show ({ s.setFrames ({ U with vm := s.vm } : State).frames with heap := U.heap, slotsUsed := U.slotsUsed } : State) = { (s.setFrames (T.setVm s.vm).frames).setFrames ({ U with vm := s.vm } : State).frames with heap := U.heap, slotsUsed := U.slotsUsed }
    rw [State.setFrames_setFrames]
  have hsame : s.sameButNew ({ U with vm := s.vm } : State) locs (cells + 1) (slots + 6) := by
    have h9 := X.same.trans hstep
    simpa using h9
  have hold : ∀ q : Nat, q < T.heap.size → U.heap[q]? = T.heap[q]? := by
    intro q hq
    obtain ⟨c', r1, r2, r3, r4⟩ := g5.2.2.2.2.2 q T.heap[q] (by show T.heap[q]? = _; exact Array.getElem?_eq_getElem hq)
    have r1' : U.heap[q]? = some c' := r1
    rw [r1', Array.getElem?_eq_getElem hq, r2]
    have hs : c'.slots = T.heap[q].slots := by
      apply Array.ext_getElem?
      intro i
      exact r4 i (by simp)
    rw [hs]
  have hzU : T.heap.size ≤ U.heap.size := g5.2.1
  have hexc : tb_exc x T.heap.size U := by
    refine ⟨ce, g6, ?_, ?_⟩
    · intro q h
      rw [g7.vm] at h
      cases h
    · rw [g4'.alike.findClass]
      exact g7.cls
  refine ⟨U, st, .threw T.heap.size, g2, g3, ⟨⟨.inr x, tb_un M, hQ, ⟨T.heap.size, rfl, hexc⟩, ?_⟩, ?_⟩, locs, ⟨g4', hsame.mono (by omega) (by omega)⟩, hS.2.2⟩
  · obtain ⟨v1, v2, v3, v4, v5, v6⟩ := hH
    refine ⟨fun i q hq => ?_, fun q h => ?_, v3, v4, ?_, fun h => by cases h⟩
    · have hq2 : (tb_ws E M)[i]? = some q := hq
      have hlt := (v1 i q hq2).lt
      exact (v1 i q hq2).kept (by rw [hold _ (by rw [hT]; exact hlt), hT])
    · rw [hold q (by rw [hT]; omega), hT]
      exact v2 q h
    · rw [hT] at hzU
      omega
  · refine ⟨?_, fun q h3 h4 => ?_⟩
    · have := hS.1
      rw [hT] at hzU
      omega
    · have := hS.1
      rw [hold q (by rw [hT]; omega), hT]
      exact hS.2.1 q h3 h4
end Throw2
theorem tb_th1 : tb_thok 116 "java/lang/IllegalArgumentException" = true := by decide +kernel
theorem tb_th2 : tb_thok 70 "java/lang/IllegalStateException" = true := by decide +kernel
theorem tb_th3 : tb_thok 151 "java/lang/IndexOutOfBoundsException" = true := by decide +kernel
