/-! The handlers of the law's helpers. -/
section Handlers
variable {E : tb_E} {k : tb_MD} {p : Program} {e : Env} {R : Room} {s : State} {m : MethodId} {args : Array Value} {below : List Frame} {meth : Method} {c : Code} {H' : Heap} {locs' : List Loc} {cells slots pc : Nat} {Q : State → Prop} {ls : Array Slot} {rest' : List Value} {a x : Nat} {cell : Cell}
theorem tb_selfcast (C : tb_Cx E k p e s m meth c) (hcm : Cond.castable (tb_xn x) (tb_xn x) ∈ lw_tbl) (c3 : s.vm.findClass (tb_xn x) = some cell.cls) : s.vm.assignable cell.cls cell.cls = true := by
  have h := va_Nw.use (A := #[]) rfl (va_Nw.warmC (tb_cW C) (va_Nw.of rfl ((tb_cG C).1 _ hcm)))
  obtain ⟨c1, t1, h1, h2, h3⟩ := Cond.castable_spec h
  cases Option.some.inj (h1.symm.trans c3)
  cases Option.some.inj (h2.symm.trans c3)
  exact h3
set_option maxHeartbeats 1000000 in
theorem tb_wt1 (C : tb_Cx E k p e s m meth c) {st en hp ct : Nat} {rest : List (Nat × Nat × Nat × Nat)} (hk : k.2.2.2.2 = (st, en, hp, ct) :: rest) (hcov : st ≤ pc ∧ pc < en) (h0 : ct ≠ 0) (w : tb_I1 (Cond.classLink k.1.cls ct (tb_xn x))) (hcm : Cond.castable (tb_xn x) (tb_xn x) ∈ lw_tbl)
    (c1 : H'[a]? = some cell) (c2 : ∀ q, cell.vm ≠ .statics q) (c3 : s.vm.findClass (tb_xn x) = some cell.cls) (kk : W p E.1 e R s m args below meth c H' locs' cells slots Q (F0 m hp ls [.ref a])) : tb_WT p E.1 e R s m args below meth c H' locs' cells slots Q (F0 m pc ls rest') a := by
  intro T hT hWT X
  have hpl : e.platform.magicAccessors = ({} : Platform).magicAccessors := by rw [X.admits.platform]
  obtain ⟨cc, hfc, hcl⟩ := Cond.classLink_spec (tb_cO C) (tb_cw C args _ w) e.platform hpl
  cases Option.some.inj (hfc.symm.trans c3)
  obtain ⟨hg₁, hwarm₁, hready₁⟩ := State.classEntry (e := e) X.warmed hcl
  have X' := X.noted hwarm₁
  obtain ⟨t, a1, b1⟩ := kk (T.setVm (T.vm.noted m.cls ct (.cls cell.cls))) hT X'
  refine ⟨t, tb_caught (s := T) (g := F0 m pc ls rest') X.here ?_ a1, b1⟩
  intro Q1 E1 d1 acts1
  have hmeth : ((T.setTop (F0 m pc ls rest')).pushFrame (.throwing a)).vm.method? (F0 m pc ls rest').method = some meth := by
    rw [Stand.throwing_vm]; exact X.method'
  rw [W.findHandler_eq hmeth X.code]
  have htab := tb_cT C
  rw [hk] at htab
  obtain ⟨y, t', hl, hy, ht'⟩ := List.map_eq_cons_iff.mp htab
  simp only [Prod.mk.injEq] at hy
  obtain ⟨y1, y2, y3, y4⟩ := hy
  subst y1; subst y2; subst y3; subst y4
  rw [hl]
  have hfcU : (T.vm.noted m.cls y.catchType (.cls cell.cls)).findClass (tb_xn x) = some cell.cls := by rw [hwarm₁.alike.findClass]; exact c3
  rw [tb_go (x := y) (vm' := T.vm.noted m.cls y.catchType (.cls cell.cls)) (c := cell.cls) (cell := cell) (by simp [covers, hcov.1, hcov.2]) h0 (by rw [Stand.throwing_vm]; exact hg₁) hready₁ (by rw [Stand.throwing_vm]; exact Nat.le_of_eq (hwarm₁.alike.2.1.trans X.warmed.alike.2.1.symm)) (by rw [Stand.throwing_heap, hT]; exact c1) c2 (Vm.classAt_of_findClass hfcU) (Vm.classAt_of_findClass hfcU)]
  rw [if_pos (by rw [hwarm₁.alike.assignable]; exact tb_selfcast C hcm c3)]
set_option maxHeartbeats 1000000 in
theorem tb_wt2 (C : tb_Cx E k p e s m meth c) {st en hp ct st1 en1 hp1 ct1 : Nat} {C1 : String} {rest : List (Nat × Nat × Nat × Nat)} (hk : k.2.2.2.2 = (st1, en1, hp1, ct1) :: (st, en, hp, ct) :: rest) (hcov1 : st1 ≤ pc ∧ pc < en1) (h01 : ct1 ≠ 0) (w1 : tb_I1 (Cond.classLink k.1.cls ct1 C1)) (hnc : (tb_xn x, C1) ∈ tb_nc) (hcov : st ≤ pc ∧ pc < en) (h0 : ct ≠ 0) (w : tb_I1 (Cond.classLink k.1.cls ct (tb_xn x))) (hcm : Cond.castable (tb_xn x) (tb_xn x) ∈ lw_tbl)
    (c1 : H'[a]? = some cell) (c2 : ∀ q, cell.vm ≠ .statics q) (c3 : s.vm.findClass (tb_xn x) = some cell.cls) (kk : W p E.1 e R s m args below meth c H' locs' cells slots Q (F0 m hp ls [.ref a])) : tb_WT p E.1 e R s m args below meth c H' locs' cells slots Q (F0 m pc ls rest') a := by
  intro T hT hWT X
  have hpl : e.platform.magicAccessors = ({} : Platform).magicAccessors := by rw [X.admits.platform]
  obtain ⟨cc1, hfc1, hcl1⟩ := Cond.classLink_spec (tb_cO C) (tb_cw C args _ w1) e.platform hpl
  obtain ⟨cc, hfc, hcl⟩ := Cond.classLink_spec (tb_cO C) (tb_cw C args _ w) e.platform hpl
  cases Option.some.inj (hfc.symm.trans c3)
  obtain ⟨hg₁, hwarm₁, hready₁⟩ := State.classEntry (e := e) X.warmed hcl1
  obtain ⟨hg₂, hwarm₂, hready₂⟩ := State.classEntry (e := e) hwarm₁ hcl
  have X' := X.noted hwarm₂
  have hno : s.vm.assignable cell.cls cc1 = false := by
    obtain ⟨z1, z2, q1, q2, q3⟩ := va_Nc.moved (tb_cW C).alike ((tb_cG C).2.2.2.2.2 _ hnc)
    cases Option.some.inj (q1.symm.trans c3)
    cases Option.some.inj (q2.symm.trans hfc1)
    exact q3
  obtain ⟨t, a1, b1⟩ := kk (T.setVm ((T.vm.noted m.cls ct1 (.cls cc1)).noted m.cls ct (.cls cell.cls))) hT X'
  refine ⟨t, tb_caught (s := T) (g := F0 m pc ls rest') X.here ?_ a1, b1⟩
  intro Q1 E1 d1 acts1
  have hmeth : ((T.setTop (F0 m pc ls rest')).pushFrame (.throwing a)).vm.method? (F0 m pc ls rest').method = some meth := by
    rw [Stand.throwing_vm]; exact X.method'
  rw [W.findHandler_eq hmeth X.code]
  have htab := tb_cT C
  rw [hk] at htab
  obtain ⟨y, t', hl, hy, ht'⟩ := List.map_eq_cons_iff.mp htab
  obtain ⟨z, t'', hl2, hz, -⟩ := List.map_eq_cons_iff.mp ht'
  simp only [Prod.mk.injEq] at hy hz
  obtain ⟨y1, y2, y3, y4⟩ := hy
  obtain ⟨z1, z2, z3, z4⟩ := hz
  subst y1; subst y2; subst y3; subst y4
  subst z1; subst z2; subst z3; subst z4
  rw [hl, hl2]
  have hf1 : (T.vm.noted m.cls y.catchType (.cls cc1)).findClass (tb_xn x) = some cell.cls := by rw [hwarm₁.alike.findClass]; exact c3
  have hf1' : (T.vm.noted m.cls y.catchType (.cls cc1)).findClass C1 = some cc1 := by rw [hwarm₁.alike.findClass]; exact hfc1
  have hf2 : ((T.vm.noted m.cls y.catchType (.cls cc1)).noted m.cls z.catchType (.cls cell.cls)).findClass (tb_xn x) = some cell.cls := by rw [hwarm₂.alike.findClass]; exact c3
  rw [tb_go (x := y) (vm' := T.vm.noted m.cls y.catchType (.cls cc1)) (c := cc1) (cell := cell) (by simp [covers, hcov1.1, hcov1.2]) h01 (by rw [Stand.throwing_vm]; exact hg₁) hready₁ (by rw [Stand.throwing_vm]; exact Nat.le_of_eq (hwarm₁.alike.2.1.trans X.warmed.alike.2.1.symm)) (by rw [Stand.throwing_heap, hT]; exact c1) c2 (Vm.classAt_of_findClass hf1) (Vm.classAt_of_findClass hf1')]
  rw [if_neg (by rw [hwarm₁.alike.assignable, hno]; decide)]
  rw [tb_go (x := z) (vm' := (T.vm.noted m.cls y.catchType (.cls cc1)).noted m.cls z.catchType (.cls cell.cls)) (c := cell.cls) (cell := cell) (by simp [covers, hcov.1, hcov.2]) h0 hg₂ hready₂ (Nat.le_of_eq (hwarm₂.alike.2.1.trans hwarm₁.alike.2.1.symm)) (by show ((T.setTop (F0 m pc ls rest')).pushFrame (.throwing a)).heap[a]? = _; rw [Stand.throwing_heap, hT]; exact c1) c2 (Vm.classAt_of_findClass hf2) (Vm.classAt_of_findClass hf2)]
  rw [if_pos (by rw [hwarm₂.alike.assignable]; exact tb_selfcast C hcm c3)]
  exact Iff.rfl
end Handlers
/-- the handler of exception x at pc, in k's table -/
def tb_Hd (k : tb_MD) (pc x hp : Nat) : Prop := ∃ ct, ct ≠ 0 ∧ tb_I1 (Cond.classLink k.1.cls ct (tb_xn x)) ∧ Cond.castable (tb_xn x) (tb_xn x) ∈ lw_tbl ∧
  ((∃ st en rest, k.2.2.2.2 = (st, en, hp, ct) :: rest ∧ st ≤ pc ∧ pc < en) ∨
   ∃ st1 en1 hp1 ct1 C1 st en rest, k.2.2.2.2 = (st1, en1, hp1, ct1) :: (st, en, hp, ct) :: rest ∧ (st1 ≤ pc ∧ pc < en1) ∧ ct1 ≠ 0 ∧ tb_I1 (Cond.classLink k.1.cls ct1 C1) ∧ (tb_xn x, C1) ∈ tb_nc ∧ st ≤ pc ∧ pc < en)
theorem tb_stored0 {E : tb_E} {ls : Array Slot} {nL : Nat} {L : List tb_L} {i : Nat} {v : Value} (h : lv_has ls nL ((i, v) :: (tb_lv E 0 L).filter (fun q => !(q.1 == i) && !(q.1 + 1 == i && q.2.category == 2)))) : lv_has ls nL (tb_lv E 0 (L.set i none)) := by
  refine ⟨h.1, h.2.1, fun q hq => ?_⟩
  obtain ⟨n, w, h1, h2, h3⟩ := (tb_lv_mem E _ 0 q.1 q.2).mp hq
  have hq' : q.1 = n := by omega
  apply h.2.2
  by_cases e : n = i
  · subst e
    rw [List.getElem?_set] at h1
    simp at h1
  · rw [List.getElem?_set, if_neg (fun z => e z.symm)] at h1
    refine List.mem_cons.mpr (Or.inr (List.mem_filter.mpr ⟨(tb_lv_mem E L 0 q.1 q.2).mpr ⟨n, w, h1, h2, h3⟩, ?_⟩))
    have hc : (q.2.category == 2) = false := by rw [h3, tb_lt_cat]; rfl
    simp [hq', e, hc]
section CallC
variable {E : tb_E} {k : tb_MD} {d rc rs pc pc' : Nat} {L : List tb_L} {S : List tb_V} {M : tb_M} {Q : tb_O → tb_M → Prop}
theorem tb_callVC {index ci n d' mc' ms' o : Nat} {k' : tb_MD} {A St : List tb_V} {Q' : tb_O → tb_M → Prop} (hs : tb_SV k.1.cls index ci k' n) (hd : decode k.2.1 pc = .ok (.invokevirtual index, 3)) (hp : pc + 3 = pc') (hSt : A.reverse ++ .inr (.inl o) :: S = St) (hn : A.length = n) (hS4 : S.length ≤ 4) (hKo : tb_K M o = ci + 1) (hdd : d' + 1 ≤ d) (hrc : mc' ≤ rc) (hrs : ms' ≤ rs) (hok : tb_Ok E k' d' mc' ms' (.inr (.inl o) :: A) M Q') (kr : ∀ v M', Q' (.inl v) M' → tb_Wp E k d (rc - mc') (rs - ms') pc' L (v.toList ++ S) M' Q) (kx : ∀ x M', Q' (.inr x) M' → ∃ (hp : Nat) (i : Fin 4), tb_Hd k pc x hp ∧ decode k.2.1 hp = .ok (.astore_n i, 1) ∧ (i : Nat) < k.2.2.1 ∧ tb_Wp E k d (rc - mc') (rs - ms') (hp + 1) (L.set (i : Nat) none) [] M' Q) : tb_Wp E k d rc rs pc L St M Q := by
  subst hp; subst hSt
  intro p e R s m args below meth c H locs cells slots mc ms ls C hl hH hS h1 h2 hR
  obtain ⟨⟨b1, b2, b3, b4, b5, b6⟩, hh, w1, w2, w3, hci, hcl⟩ := hs
  have hts := tb_cw C args
  obtain ⟨r, rfl, hr, he⟩ := tb_cell hH (by rw [hKo]; omega)
  rw [tb_obj hKo hci] at he
  obtain ⟨q, hq, hqc⟩ := Option.map_eq_some_iff.mp hcl
  obtain ⟨cell, c1, c2, c3⟩ := va_recv (tb_cK C) hH.1 hq he
  rw [hqc] at c3
  have hcode := hts _ b1
  rw [tb_hcode0 hh] at hcode
  have hI := tb_InvV (l := E.1) (e := e) (R := R) (below := below) (meth := meth) (locs := locs) (cells := cells) (slots := slots) (g := F0 m pc ls ((A.reverse ++ .inr (.inl (r + 1)) :: S).map (tv E))) (argsL := A.map (tv E)) (rest := S.map (tv E)) C.1 (tb_cO C) (hts _ w1) (hts _ w2) (hts _ w3) hcode b3 c1 c2 c3 rfl (fun sig h => by rw [List.length_map, hn]; exact tb_parn b4 sig h) (tb_map_rev E A _) (by rw [C.2.1]; exact hd)
  refine tb_callW (k' := k') (A := .inr (.inl (r + 1)) :: A) (rest := S.map (tv E)) hI hok (tb_cW C) (hts _ b1) b6 (hts _ b2) hH hS (hl.1.trans C.2.2.1.symm) (tb_cats hS4) (by rw [C.2.1]; exact hd) hR hdd b5 (by omega) (by omega) ?_ ?_
  · intro v M' hQ H' locs' hH' hS'
    have hk := kr v M' hQ p e R s m args below meth c H' locs' (cells + mc') (slots + ms') mc ms ls C hl hH' hS' (by omega) (by omega) hR
    cases v <;> exact hk
  · intro x M' hQ H' locs' a cell hH' hS' c1 c2 c3
    obtain ⟨hp, i, hHd, hdi, hi, hk⟩ := kx x M' hQ
    have hw : W p E.1 e R s m args below meth c H' locs' (cells + mc') (slots + ms') (tb_MQ below (tb_Qc E Q) s mc ms (tb_A E)) (F0 m hp ls [.ref a]) :=
      lv_astore_n C.1 C.2.1 hdi rfl hl hi rfl (fun ls' hl' => hk p e R s m args below meth c H' locs' (cells + mc') (slots + ms') mc ms ls' C (tb_stored0 hl') hH' hS' (by omega) (by omega) hR)
    obtain ⟨ct, h0, w9, hcm, ⟨st, en, rest, hk9, hc1, hc2⟩ | ⟨st1, en1, hp1, ct1, C1, st, en, rest, hk9, hcv1, h01, w91, hnc, hc1, hc2⟩⟩ := hHd
    · exact tb_wt1 C hk9 ⟨hc1, hc2⟩ h0 w9 hcm c1 c2 c3 hw
    · exact tb_wt2 C hk9 hcv1 h01 w91 hnc ⟨hc1, hc2⟩ h0 w9 hcm c1 c2 c3 hw
end CallC
