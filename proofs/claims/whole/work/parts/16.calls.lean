/-! The rules of calls. -/
section CallRules
variable {E : tb_E} {k : tb_MD} {d rc rs pc pc' : Nat} {L : List tb_L} {S : List tb_V} {M : tb_M} {Q : tb_O → tb_M → Prop}
theorem tb_leave {p : Program} {e : Env} {R : Room} {s : State} {m : MethodId} {args : Array Value} {below : List Frame} {meth : Method} {c : Code} {H' : Heap} {locs' : List Loc} {cells slots mc ms pc : Nat} {ls : Array Slot} {rest : List Value} {a x : Nat} {cell : Cell} {M' : tb_M}
    (C : tb_Cx E k p e s m meth c) (hno : k.2.2.2.2 = []) (hq : Q (.inr x) M') (hH : tb_HR E M' H') (hS : va_S (tb_A E) s.heap H' locs') (c1 : H'[a]? = some cell) (c2 : ∀ q, cell.vm ≠ .statics q) (c3 : s.vm.findClass (tb_xn x) = some cell.cls) (h1 : cells ≤ mc) (h2 : slots ≤ ms) :
    tb_WT p E.1 e R s m args below meth c H' locs' cells slots (tb_MQ below (tb_Qc E Q) s mc ms (tb_A E)) (F0 m pc ls rest) a := by
  intro T hT hWT X
  have hnil : c.exceptionTable.toList = [] := by
    have := tb_cT C
    rw [hno] at this
    exact List.map_eq_nil_iff.mp this
  obtain ⟨hwalk, hrun, hended, hWU, hsame⟩ := X.leaveThrown a (g := F0 m pc ls rest) rfl rfl rfl (fun x hx => by rw [hnil] at hx; cases hx) (hlocks := tb_cL C)
  refine ⟨T.setFrames (.throwing a :: below), hwalk, .threw a, hrun, hended, ⟨⟨.inr x, M', hq, ⟨a, rfl, cell, by show T.heap[a]? = _; rw [hT]; exact c1, c2, by show T.vm.findClass _ = _; rw [hWT.alike.findClass]; exact c3⟩, by show tb_HR E M' T.heap; rw [hT]; exact hH⟩, hS.F (by exact hT)⟩, locs', ⟨hWU, hsame.mono h1 h2⟩, hS.2.2⟩
theorem tb_hcode {p : Program} {e : Env} {s : State} {m : MethodId} {meth : Method} {c : Code} (C : tb_Cx E k p e s m meth c) {k' : tb_MD} (h : tb_I1 (tb_hw k')) (args : Array Value) : ∃ mk methM cM, s.methodNamed? k'.1 = some mk ∧ s.vm.method? mk = some methM ∧ methM.code = some cM ∧ cM.maxLocals = k'.2.2.1 ∧ parseMethodDescriptor k'.1.desc = some methM.sig := by
  have hw := tb_cw C args _ h
  have hn : ∃ mk, s.methodNamed? k'.1 = some mk := by
    obtain ⟨y, b, n, r, hs⟩ := k'
    cases hs with
    | nil => exact Cond.code_named (show (Cond.code y b n r).before args s = true from hw)
    | cons a t =>
      obtain ⟨m', -, -, h0, -⟩ := Cond.codeWith_spec (show (Cond.codeWith y b n r (a :: t)).before args s = true from hw)
      exact ⟨m', h0⟩
  obtain ⟨mk, hn⟩ := hn
  obtain ⟨meth', c', g1, g2, -, g4, -, -, -, g8⟩ := tb_hw_spec hw hn
  exact ⟨mk, meth', c', hn, g1, g2, g4, g8⟩
theorem tb_hcode0 {k' : tb_MD} (hh : k'.2.2.2.2 = []) : tb_hw k' = .code k'.1 k'.2.1 k'.2.2.1 k'.2.2.2.1 := by
  unfold tb_hw
  rw [hh]
theorem tb_callV {index ci n d' mc' ms' o : Nat} {k' : tb_MD} {A St : List tb_V} {Q' : tb_O → tb_M → Prop} (hs : tb_SV k.1.cls index ci k' n) (hd : decode k.2.1 pc = .ok (.invokevirtual index, 3)) (hp : pc + 3 = pc') (hSt : A.reverse ++ .inr (.inl o) :: S = St) (hn : A.length = n) (hS4 : S.length ≤ 4) (hKo : tb_K M o = ci + 1) (hdd : d' + 1 ≤ d) (hrc : mc' ≤ rc) (hrs : ms' ≤ rs) (hok : tb_Ok E k' d' mc' ms' (.inr (.inl o) :: A) M Q') (kr : ∀ v M', Q' (.inl v) M' → tb_Wp E k d (rc - mc') (rs - ms') pc' L (v.toList ++ S) M' Q) (kx : ∀ x M', Q' (.inr x) M' → k.2.2.2.2 = [] ∧ Q (.inr x) M') : tb_Wp E k d rc rs pc L St M Q := by
  subst hp; subst hSt
  intro p e R s m args below meth c H locs cells slots mc ms ls C hl hH hS h1 h2 hR
  obtain ⟨⟨b1, b2, b3, b4, b5, b6⟩, hh, w1, w2, w3, hci, hcl⟩ := hs
  have hts := tb_cw C args
  obtain ⟨r, rfl, hr, he⟩ := tb_cell hH (by rw [hKo]; omega)
  rw [tb_obj hKo hci] at he
  obtain ⟨q, hq, hqc⟩ := Option.map_eq_some_iff.mp hcl
  obtain ⟨cell, c1, c2, c3⟩ := va_recv (tb_cK C) hH.1 hq he
  rw [hqc] at c3
  have hcode := hts _ b1
  rw [tb_hcode0 hh] at hcode
  have hI := tb_InvV (l := E.1) (e := e) (R := R) (below := below) (meth := meth) (locs := locs) (cells := cells) (slots := slots) (g := F0 m pc ls ((A.reverse ++ .inr (.inl (r + 1)) :: S).map (tv E))) (argsL := A.map (tv E)) (rest := S.map (tv E)) C.1 (tb_cO C) (hts _ w1) (hts _ w2) (hts _ w3) hcode b3 c1 c2 c3 rfl (fun sig h => by rw [List.length_map, hn]; exact tb_parn b4 sig h) (tb_map_rev E A _) (by rw [C.2.1]; exact hd)
  refine tb_callW (k' := k') (A := .inr (.inl (r + 1)) :: A) (rest := S.map (tv E)) hI hok (tb_cW C) (hts _ b1) b6 (hts _ b2) hH hS (hl.1.trans C.2.2.1.symm) (tb_cats hS4) (by rw [C.2.1]; exact hd) hR hdd b5 (by omega) (by omega) ?_ ?_
  · intro v M' hQ H' locs' hH' hS'
    have hk := kr v M' hQ p e R s m args below meth c H' locs' (cells + mc') (slots + ms') mc ms ls C hl hH' hS' (by omega) (by omega) hR
    cases v <;> exact hk
  · intro x M' hQ H' locs' a cell hH' hS' c1 c2 c3
    obtain ⟨g1, g2⟩ := kx x M' hQ
    exact tb_leave C g1 g2 hH' hS' c1 c2 c3 (by omega) (by omega)
theorem tb_callVN {index ci n d' mc' ms' o : Nat} {host : String} {k' : tb_MD} {A St : List tb_V} {Q' : tb_O → tb_M → Prop} (hs : tb_SVN k.1.cls index ci k' n host) (hd : decode k.2.1 pc = .ok (.invokevirtual index, 3)) (hp : pc + 3 = pc') (hSt : A.reverse ++ .inr (.inl o) :: S = St) (hn : A.length = n) (hS4 : S.length ≤ 4) (hKo : tb_K M o = ci + 1) (hdd : d' + 1 ≤ d) (hrc : mc' ≤ rc) (hrs : ms' ≤ rs) (hok : tb_Ok E k' d' mc' ms' (.inr (.inl o) :: A) M Q') (kr : ∀ v M', Q' (.inl v) M' → tb_Wp E k d (rc - mc') (rs - ms') pc' L (v.toList ++ S) M' Q) (kx : ∀ x M', Q' (.inr x) M' → k.2.2.2.2 = [] ∧ Q (.inr x) M') : tb_Wp E k d rc rs pc L St M Q := by
  subst hp; subst hSt
  intro p e R s m args below meth c H locs cells slots mc ms ls C hl hH hS h1 h2 hR
  obtain ⟨⟨b1, b2, b3, b4, b5, b6⟩, hh, w1, w2, w3, hci, hcl⟩ := hs
  have hts := tb_cw C args
  obtain ⟨r, rfl, hr, he⟩ := tb_cell hH (by rw [hKo]; omega)
  rw [tb_obj hKo hci] at he
  obtain ⟨q, hq, hqc⟩ := Option.map_eq_some_iff.mp hcl
  obtain ⟨cell, c1, c2, c3⟩ := va_recv (tb_cK C) hH.1 hq he
  rw [hqc] at c3
  have hcode := hts _ b1
  rw [tb_hcode0 hh] at hcode
  have hI := tb_InvVN (l := E.1) (e := e) (R := R) (below := below) (meth := meth) (locs := locs) (cells := cells) (slots := slots) (g := F0 m pc ls ((A.reverse ++ .inr (.inl (r + 1)) :: S).map (tv E))) (argsL := A.map (tv E)) (rest := S.map (tv E)) C.1 (tb_cO C) (va_Nw.use rfl (tb_cNw C w1)) (hts _ w2) (hts _ w3) hcode b3 c1 c2 c3 rfl (fun sig h => by rw [List.length_map, hn]; exact tb_parn b4 sig h) (tb_map_rev E A _) (by rw [C.2.1]; exact hd)
  refine tb_callW (k' := k') (A := .inr (.inl (r + 1)) :: A) (rest := S.map (tv E)) hI hok (tb_cW C) (hts _ b1) b6 (hts _ b2) hH hS (hl.1.trans C.2.2.1.symm) (tb_cats hS4) (by rw [C.2.1]; exact hd) hR hdd b5 (by omega) (by omega) ?_ ?_
  · intro v M' hQ H' locs' hH' hS'
    have hk := kr v M' hQ p e R s m args below meth c H' locs' (cells + mc') (slots + ms') mc ms ls C hl hH' hS' (by omega) (by omega) hR
    cases v <;> exact hk
  · intro x M' hQ H' locs' a cell hH' hS' c1 c2 c3
    obtain ⟨g1, g2⟩ := kx x M' hQ
    exact tb_leave C g1 g2 hH' hS' c1 c2 c3 (by omega) (by omega)
theorem tb_callS {index n d' mc' ms' : Nat} {k' : tb_MD} {A St : List tb_V} {Q' : tb_O → tb_M → Prop} (hs : tb_SS k.1.cls index k' n) (hd : decode k.2.1 pc = .ok (.invokestatic index, 3)) (hp : pc + 3 = pc') (hSt : A.reverse ++ S = St) (hn : A.length = n) (hS4 : S.length ≤ 4) (hdd : d' + 1 ≤ d) (hrc : mc' ≤ rc) (hrs : ms' ≤ rs) (hok : tb_Ok E k' d' mc' ms' (A) M Q') (kr : ∀ v M', Q' (.inl v) M' → tb_Wp E k d (rc - mc') (rs - ms') pc' L (v.toList ++ S) M' Q) (kx : ∀ x M', Q' (.inr x) M' → k.2.2.2.2 = [] ∧ Q (.inr x) M') : tb_Wp E k d rc rs pc L St M Q := by
  subst hp; subst hSt
  intro p e R s m args below meth c H locs cells slots mc ms ls C hl hH hS h1 h2 hR
  obtain ⟨⟨b1, b2, b3, b4, b5, b6⟩, w1, w2⟩ := hs
  have hts := tb_cw C args
  have hI := tb_InvS (l := E.1) (e := e) (R := R) (below := below) (meth := meth) (H := H) (locs := locs) (cells := cells) (slots := slots) (g := F0 m pc ls ((A.reverse ++ S).map (tv E))) (argsL := A.map (tv E)) (rest := S.map (tv E)) C.1 (tb_cO C) (hts _ w1) (hts _ w2) (hts _ b2) (tb_hcode C b1 args) b3 rfl (fun sig h => by rw [List.length_map, hn]; exact tb_parn b4 sig h) (tb_map_rev E A _) (by rw [C.2.1]; exact hd)
  refine tb_callW (k' := k') (A := A) (rest := S.map (tv E)) hI hok (tb_cW C) (hts _ b1) b6 (hts _ b2) hH hS (hl.1.trans C.2.2.1.symm) (tb_cats hS4) (by rw [C.2.1]; exact hd) hR hdd b5 (by omega) (by omega) ?_ ?_
  · intro v M' hQ H' locs' hH' hS'
    have hk := kr v M' hQ p e R s m args below meth c H' locs' (cells + mc') (slots + ms') mc ms ls C hl hH' hS' (by omega) (by omega) hR
    cases v <;> exact hk
  · intro x M' hQ H' locs' a cell hH' hS' c1 c2 c3
    obtain ⟨g1, g2⟩ := kx x M' hQ
    exact tb_leave C g1 g2 hH' hS' c1 c2 c3 (by omega) (by omega)
theorem tb_callSN {index n d' mc' ms' : Nat} {host : String} {k' : tb_MD} {A St : List tb_V} {Q' : tb_O → tb_M → Prop} (hs : tb_SSN k.1.cls index k' n host) (hd : decode k.2.1 pc = .ok (.invokestatic index, 3)) (hp : pc + 3 = pc') (hSt : A.reverse ++ S = St) (hn : A.length = n) (hS4 : S.length ≤ 4) (hdd : d' + 1 ≤ d) (hrc : mc' ≤ rc) (hrs : ms' ≤ rs) (hok : tb_Ok E k' d' mc' ms' (A) M Q') (kr : ∀ v M', Q' (.inl v) M' → tb_Wp E k d (rc - mc') (rs - ms') pc' L (v.toList ++ S) M' Q) (kx : ∀ x M', Q' (.inr x) M' → k.2.2.2.2 = [] ∧ Q (.inr x) M') : tb_Wp E k d rc rs pc L St M Q := by
  subst hp; subst hSt
  intro p e R s m args below meth c H locs cells slots mc ms ls C hl hH hS h1 h2 hR
  obtain ⟨⟨b1, b2, b3, b4, b5, b6⟩, w1, w2⟩ := hs
  have hts := tb_cw C args
  have hI := tb_InvSN (l := E.1) (e := e) (R := R) (below := below) (meth := meth) (H := H) (locs := locs) (cells := cells) (slots := slots) (g := F0 m pc ls ((A.reverse ++ S).map (tv E))) (argsL := A.map (tv E)) (rest := S.map (tv E)) C.1 (tb_cO C) (va_Nw.use rfl (tb_cNw C w1)) (hts _ w2) (hts _ b2) (tb_hcode C b1 args) b3 rfl (fun sig h => by rw [List.length_map, hn]; exact tb_parn b4 sig h) (tb_map_rev E A _) (by rw [C.2.1]; exact hd)
  refine tb_callW (k' := k') (A := A) (rest := S.map (tv E)) hI hok (tb_cW C) (hts _ b1) b6 (hts _ b2) hH hS (hl.1.trans C.2.2.1.symm) (tb_cats hS4) (by rw [C.2.1]; exact hd) hR hdd b5 (by omega) (by omega) ?_ ?_
  · intro v M' hQ H' locs' hH' hS'
    have hk := kr v M' hQ p e R s m args below meth c H' locs' (cells + mc') (slots + ms') mc ms ls C hl hH' hS' (by omega) (by omega) hR
    cases v <;> exact hk
  · intro x M' hQ H' locs' a cell hH' hS' c1 c2 c3
    obtain ⟨g1, g2⟩ := kx x M' hQ
    exact tb_leave C g1 g2 hH' hS' c1 c2 c3 (by omega) (by omega)
theorem tb_callI {index n d' mc' ms' o : Nat} {k' : tb_MD} {A St : List tb_V} {Q' : tb_O → tb_M → Prop} (hs : tb_SI k.1.cls index k' n) (hd : decode k.2.1 pc = .ok (.invokespecial index, 3)) (hp : pc + 3 = pc') (hSt : A.reverse ++ .inr (.inl o) :: S = St) (hn : A.length = n) (hS4 : S.length ≤ 4) (hKo : tb_K M o ≠ 0) (hdd : d' + 1 ≤ d) (hrc : mc' ≤ rc) (hrs : ms' ≤ rs) (hok : tb_Ok E k' d' mc' ms' (.inr (.inl o) :: A) M Q') (kr : ∀ v M', Q' (.inl v) M' → tb_Wp E k d (rc - mc') (rs - ms') pc' L (v.toList ++ S) M' Q) (kx : ∀ x M', Q' (.inr x) M' → k.2.2.2.2 = [] ∧ Q (.inr x) M') : tb_Wp E k d rc rs pc L St M Q := by
  subst hp; subst hSt
  intro p e R s m args below meth c H locs cells slots mc ms ls C hl hH hS h1 h2 hR
  obtain ⟨⟨b1, b2, b3, b4, b5, b6⟩, hh, hret, hnm, w1, w2⟩ := hs
  have hts := tb_cw C args
  obtain ⟨r, rfl, hr, he⟩ := tb_cell hH hKo
  have hcode := hts _ b1
  rw [tb_hcode0 hh, hret] at hcode
  have hI := tb_InvI (l := E.1) (e := e) (R := R) (below := below) (meth := meth) (H := H) (locs := locs) (cells := cells) (slots := slots) (a := E.2.1.heap.size + r) (g := F0 m pc ls ((A.reverse ++ .inr (.inl (r + 1)) :: S).map (tv E))) (argsL := A.map (tv E)) (rest := S.map (tv E)) C.1 (tb_cO C) hnm (hts _ w1) (hts _ w2) hcode b3 rfl (fun sig h => by rw [List.length_map, hn]; exact tb_parn b4 sig h) (tb_map_rev E A _) (by rw [C.2.1]; exact hd)
  refine tb_callW (k' := k') (A := .inr (.inl (r + 1)) :: A) (rest := S.map (tv E)) hI hok (tb_cW C) (hts _ b1) b6 (hts _ b2) hH hS (hl.1.trans C.2.2.1.symm) (tb_cats hS4) (by rw [C.2.1]; exact hd) hR hdd b5 (by omega) (by omega) ?_ ?_
  · intro v M' hQ H' locs' hH' hS'
    have hk := kr v M' hQ p e R s m args below meth c H' locs' (cells + mc') (slots + ms') mc ms ls C hl hH' hS' (by omega) (by omega) hR
    cases v <;> exact hk
  · intro x M' hQ H' locs' a cell hH' hS' c1 c2 c3
    obtain ⟨g1, g2⟩ := kx x M' hQ
    exact tb_leave C g1 g2 hH' hS' c1 c2 c3 (by omega) (by omega)
end CallRules
