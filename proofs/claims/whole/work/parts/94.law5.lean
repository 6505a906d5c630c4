/-! The claim. -/
section Fin
theorem fin_nest : ∀ w ∈ tb_nest, w ∈ lw_tbl := by
  have h : tb_nest.all (fun w => decide (w ∈ lw_tbl)) = true := by decide +kernel
  intro w hw
  exact of_decide_eq_true (List.all_eq_true.mp h w hw)
theorem fin_nw {s : State} {A : Array Value} (hts : ∀ w ∈ lw_tbl, w.before A s = true) : ∀ w ∈ tb_nest, va_Nw w s := by
  intro w hw
  have hb := hts w (fin_nest w hw)
  unfold tb_nest at hw
  rcases List.mem_append.mp hw with h | h
  · rcases List.mem_append.mp h with h | h
    · obtain ⟨q, -, rfl⟩ := List.mem_map.mp h
      exact va_Nw.of rfl hb
    · obtain ⟨q, -, rfl⟩ := List.mem_map.mp h
      exact va_Nw.of rfl hb
  · obtain ⟨q, -, rfl⟩ := List.mem_map.mp h
    exact va_AO.of hb
theorem fin_cl {s : State} {A : Array Value} (hts : ∀ w ∈ lw_tbl, w.before A s = true) : ∀ c : Nat, ∃ (cC : ClassId) (iS : Nat → Nat), ∀ q : vw_C, tb_cl[c]? = some q → u_Kn s q.1 q.2.1 q.2.2 cC iS := by
  intro c
  by_cases hc : c < 9
  · rcases (show c = 0 ∨ c = 1 ∨ c = 2 ∨ c = 3 ∨ c = 4 ∨ c = 5 ∨ c = 6 ∨ c = 7 ∨ c = 8 by omega) with rfl | rfl | rfl | rfl | rfl | rfl | rfl | rfl | rfl
    · obtain ⟨cC, iS, h⟩ := u_known (C := n_De) (T := T_De) (N := 7) (n := 7) hts (fun w hw => (in_De w hw).1) (hts _ (tb_ix 184 (by decide +kernel) rfl).1)
      exact ⟨cC, iS, fun q hq => by cases hq; exact h⟩
    · obtain ⟨cC, iS, h⟩ := u_known (C := n_Lg) (T := T_Lg) (N := 7) (n := 7) hts (fun w hw => (in_Lg w hw).1) (hts _ (tb_ix 177 (by decide +kernel) rfl).1)
      exact ⟨cC, iS, fun q hq => by cases hq; exact h⟩
    · obtain ⟨cC, iS, h⟩ := u_known (C := n_Sc) (T := T_Sc) (N := 2) (n := 2) hts (fun w hw => (in_Sc w hw).1) (hts _ (tb_ix 98 (by decide +kernel) rfl).1)
      exact ⟨cC, iS, fun q hq => by cases hq; exact h⟩
    · obtain ⟨cC, iS, h⟩ := u_known (C := n_Sh) (T := T_Sh) (N := 2) (n := 2) hts (fun w hw => (in_Sh w hw).1) (hts _ (tb_ix 114 (by decide +kernel) rfl).1)
      exact ⟨cC, iS, fun q hq => by cases hq; exact h⟩
    · obtain ⟨cC, iS, h⟩ := u_known (C := n_St) (T := T_St) (N := 2) (n := 2) hts (fun w hw => (in_St w hw).1) (hts _ (tb_ix 129 (by decide +kernel) rfl).1)
      exact ⟨cC, iS, fun q hq => by cases hq; exact h⟩
    · obtain ⟨cC, iS, h⟩ := u_known (C := n_Tx) (T := T_Tx) (N := 2) (n := 2) hts (fun w hw => (in_Tx w hw).1) (hts _ (tb_ix 84 (by decide +kernel) rfl).1)
      exact ⟨cC, iS, fun q hq => by cases hq; exact h⟩
    · obtain ⟨cC, iS, h⟩ := u_known (C := n_Tr) (T := T_Tr) (N := 5) (n := 5) hts (fun w hw => (in_Tr w hw).1) (hts _ (tb_ix 136 (by decide +kernel) rfl).1)
      exact ⟨cC, iS, fun q hq => by cases hq; exact h⟩
    · obtain ⟨cC, iS, h⟩ := u_known (C := n_TB) (T := T_TB) (N := 8) (n := 8) hts (fun w hw => (in_TB w hw).1) (hts _ (tb_ix 76 (by decide +kernel) rfl).1)
      exact ⟨cC, iS, fun q hq => by cases hq; exact h⟩
    · obtain ⟨cC, iS, h⟩ := u_known (C := n_Mo) (T := T_Mo) (N := 40) (n := 40) hts (fun w hw => (in_Mo w hw).1) (hts _ (tb_ix 792 (by decide +kernel) rfl).1)
      exact ⟨cC, iS, fun q hq => by cases hq; exact h⟩
  · refine ⟨0, fun _ => 0, fun q hq => ?_⟩
    rw [List.getElem?_eq_none (by show 9 ≤ c; omega)] at hq
    cases hq
theorem fin_ty {s : State} {A : Array Value} (hts : ∀ w ∈ lw_tbl, w.before A s = true) : ∀ k : Nat, ∃ cA : ClassId, ∀ ty : FieldType, tb_ty[k]? = some ty → ArrOfT s cA ty ∧ va_RA s cA ty := by
  intro c
  by_cases hc : c < 8
  · rcases (show c = 0 ∨ c = 1 ∨ c = 2 ∨ c = 3 ∨ c = 4 ∨ c = 5 ∨ c = 6 ∨ c = 7 by omega) with rfl | rfl | rfl | rfl | rfl | rfl | rfl | rfl
    · obtain ⟨cA, kA, comp, h1, h2, h3⟩ := Cond.arrayClass_spec (type := .int) (hts _ (tb_ix 126 (by decide +kernel) rfl).1)
      exact ⟨cA, fun q hq => by cases hq; exact ⟨fun n z => ⟨fun k h => (by cases h), kA, h2, comp, h3⟩, h1⟩⟩
    · obtain ⟨cA, kA, comp, h1, h2, h3⟩ := Cond.arrayClass_spec (type := .short) (hts _ (tb_ix 127 (by decide +kernel) rfl).1)
      exact ⟨cA, fun q hq => by cases hq; exact ⟨fun n z => ⟨fun k h => (by cases h), kA, h2, comp, h3⟩, h1⟩⟩
    · obtain ⟨cA, kA, comp, h1, h2, h3⟩ := Cond.arrayClass_spec (type := .char) (hts _ (tb_ix 96 (by decide +kernel) rfl).1)
      exact ⟨cA, fun q hq => by cases hq; exact ⟨fun n z => ⟨fun k h => (by cases h), kA, h2, comp, h3⟩, h1⟩⟩
    · obtain ⟨cA, kA, comp, h1, h2, h3⟩ := Cond.arrayClass_spec (type := .boolean) (hts _ (tb_ix 918 (by decide +kernel) rfl).1)
      exact ⟨cA, fun q hq => by cases hq; exact ⟨fun n z => ⟨fun k h => (by cases h), kA, h2, comp, h3⟩, h1⟩⟩
    · obtain ⟨cA, kA, comp, h1, h2, h3⟩ := Cond.arrayClass_spec (type := .long) (hts _ (tb_ix 1154 (by decide +kernel) rfl).1)
      exact ⟨cA, fun q hq => by cases hq; exact ⟨fun n z => ⟨fun k h => (by cases h), kA, h2, comp, h3⟩, h1⟩⟩
    · obtain ⟨comp, cA, kA, h1, -, h2, h3, h4⟩ := Cond.arrayOver_spec (n := "TracedBuild$Text") (hts _ (fin_nest (.arrayOver (.object "TracedBuild$Text")) (by decide +kernel)))
      exact ⟨cA, fun q hq => by cases hq; exact ⟨fun n z => ⟨fun k h => (by cases h), kA, h2, comp, h3⟩, kA, comp, h2, h3, h1, h4⟩⟩
    · obtain ⟨comp, cA, kA, h1, -, h2, h3, h4⟩ := Cond.arrayOver_spec (n := "TracedBuild$Trace") (hts _ (fin_nest (.arrayOver (.object "TracedBuild$Trace")) (by decide +kernel)))
      exact ⟨cA, fun q hq => by cases hq; exact ⟨fun n z => ⟨fun k h => (by cases h), kA, h2, comp, h3⟩, kA, comp, h2, h3, h1, h4⟩⟩
    · obtain ⟨comp, cA, kA, h1, -, h2, h3, h4⟩ := Cond.arrayOver_spec (n := "TracedBuild$Deed") (hts _ (fin_nest (.arrayOver (.object "TracedBuild$Deed")) (by decide +kernel)))
      exact ⟨cA, fun q hq => by cases hq; exact ⟨fun n z => ⟨fun k h => (by cases h), kA, h2, comp, h3⟩, kA, comp, h2, h3, h1, h4⟩⟩
  · refine ⟨0, fun q hq => ?_⟩
    rw [List.getElem?_eq_none (by show 8 ≤ c; omega)] at hq
    cases hq
/-- what holds at the law's start -/
theorem fin_G {s : State} {b : Nat} (l : Launch) (hfl : l.flags = flags0) (hts : ∀ w ∈ lw_tbl, w.before #[Value.ref b] s = true) (hgv : (Jvm.Cond.and given_1 narrow_1).before #[Value.ref b] s = true) : ∃ (D : va_G) (fA : Nat → ClassId), tb_G (l, s, #[Value.ref b], D, fA) := by
  have hs := flat_of_before _ hgv
  have hcl := fin_cl hts
  have hty := fin_ty hts
  refine ⟨(fun c => Classical.choose (hcl c), fun c => Classical.choose (Classical.choose_spec (hcl c))), fun k => Classical.choose (hty k), hts, ⟨fun c q hq => Classical.choose_spec (Classical.choose_spec (hcl c)) q hq, fun k q hq => ?_⟩, fin_nw hts, ?_, fun w hw => ?_, fun q hq => ?_⟩
  · unfold tb_tys at hq
    rw [List.getElem?_map, List.getElem?_zipIdx] at hq
    cases e : tb_ty[k]? with
    | none => rw [e] at hq; cases hq
    | some ty =>
      rw [e] at hq
      cases hq
      have h0 : 0 + k = k := Nat.zero_add k
      have := Classical.choose_spec (hty k) ty e
      simp only [Nat.zero_add]
      exact this
  · show (!l.flags.contains noTraceFlag) = false
    rw [hfl]
    decide +kernel
  · simp only [tb_stw, List.mem_cons, List.not_mem_nil, or_false] at hw
    rcases hw with rfl | rfl
    · exact hs _ (by decide +kernel)
    · exact hs _ (by decide +kernel)
  · simp only [tb_nc, List.mem_cons, List.not_mem_nil, or_false] at hq
    rcases hq with rfl | rfl
    · exact va_Nc.of (args := #[Value.ref b]) (hs _ (by decide +kernel))
    · exact va_Nc.of (args := #[Value.ref b]) (hs _ (by decide +kernel))
end Fin
/-! THE CLAIM OUT OF ONE WALK OF THE LAW'S BODY. Your part is whole_start (and what it stands on); all else here is the same for every law, but numbers. -/
def R_law : String := "TracedBuildLaw"
def lw_P (b : Addr) (xs : List Int32) (args : Array Value) (s : State) : Prop := args = #[.ref b] ∧ s.IntsAt b xs ∧ xs.length ≤ 1536 ∧ (Jvm.Cond.and given_1 narrow_1).before args s = true
def lw_Q (_ : Array Value) (s : State) (o : Outcome) (t : State) : Prop := o = .returned (some (.int 1)) ∧ Framed s o t [] 601024 7293034
def lw_Z (below : List Frame) (a : Array Value) (s : State) : State → Prop := fun t => ∃ o, t.status = .running ∧ Ended t below o ∧ lw_Q a s o t
theorem whole_start {p : Program} {e : Env} {s : State} {m : MethodId} {below : List Frame} {meth : Method} {c : Code} (l : Launch) (hfl : l.flags = flags0) {b L : Nat} {xs : Nat → Int32} (hL : L ≤ 1536) (hts : ∀ w ∈ lw_tbl, w.before #[Value.ref b] s = true) (hgv : (Jvm.Cond.and given_1 narrow_1).before #[Value.ref b] s = true) (hX : va_X b L xs s s.heap) (hbl : b < s.heap.size) (hcx : p.tables.exec = Jvm.exec ∧ c.code = code ∧ c.maxLocals = maxLocals ∧ s.vm.findClass R_law = some m.cls ∧ meth.sig.returnType = ret ∧ meth.locks = false ∧ meth.name = m_La_law.1.name) (hex : c.exceptionTable.toList.map (fun h => (h.startPc, h.endPc, h.handlerPc, h.catchType)) = []) (hm : s.vm.method? m = some meth) (hmc : meth.code = some c) (had : l.admits e) : W p l e room_1 s m #[Value.ref b] below meth c s.heap [] 0 0 (lw_Z below #[Value.ref b] s) (entryFrame m ([Value.ref b] : List Value).toArray 7) := by
  obtain ⟨D, fA, hG⟩ := fin_G l hfl hts hgv
  obtain ⟨c1, c2, c3, c4, c5, c6, c7⟩ := hcx
  have hl := lv_entry ([Value.ref b] : List Value) (n := 7) (by show 1 ≤ 7; decide)
  rw [lg_entry_eq]
  have hw := law_start (X := (b, L, xs)) hG hL (Q := fun o _ => o = .inl (some (.inl 1))) (fun _ => rfl) p e room_1 s m #[Value.ref b] below meth c s.heap [] 0 0 601024 7293034 _ ⟨c1, c2, c3, c4, c5, c6, c7, State.WarmedH.refl s, hex, hm, hmc, had, hG⟩ ⟨hl, hX, hbl, hbl⟩ HR_0 va_S.rf (by omega) (by omega) ⟨by decide, by decide, by decide, by decide⟩
  refine tb_W_mono (fun t h => ?_) hw
  obtain ⟨o, h1, h2, ⟨⟨o', M', hq, hoc, -⟩, -⟩, Lc, hFE, hfree⟩ := h
  subst hq
  have ho : o = .returned (some (.int 1)) := hoc
  subst ho
  refine ⟨_, h1, h2, rfl, ⟨_, rfl⟩, hFE.1, ?_⟩
  exact State.sameButNew.drop_fresh (L := []) (J := Lc) hFE.2 (fun q hq => hfree q hq)
set_option maxHeartbeats 4000000 in
theorem lw_walk (l : Launch) (hfl : l.flags = flags0) (b : Addr) (xs : List Int32) : MetFree l x (headSpec (Jvm.Cond.code x code maxLocals ret :: tables_1) room_1) (lw_P b xs) (fun _ _ _ _ _ => True) lw_Q := by
  refine MetFree.of_bodyS (code := code) (maxLocals := maxLocals) (ret := ret) (by decide) ?_ ?_
  · intro args s m h hn
    obtain ⟨meth, c, h1, h2, h3, h4, h5, h6, -, -⟩ := Cond.code_spec hn (atoms_spec (ws := Jvm.Cond.code x code maxLocals ret :: tables_1) h _ List.mem_cons_self)
    exact ⟨meth, c, h1, h2, h3, h4, h5, h6⟩
  · intro p e s m args below meth c s₁ B hml0 hP _
    obtain ⟨rfl, hx, hbd, hgv⟩ := hP
    obtain ⟨scr, harrAt, hlist, hof, hsmall⟩ := hx
    obtain ⟨hcb, hkn, -, -⟩ := State.arrayAt?_spec harrAt
    have hown : s.vm.findClass R_law = some m.cls := findClass_of_methodNamed B.named
    have hts0 : ∀ c ∈ (Jvm.Cond.code x code maxLocals ret :: tables_1), c.before #[Value.ref b] s = true := atoms_spec (ws := Jvm.Cond.code x code maxLocals ret :: tables_1) B.pre
    have hts : ∀ w ∈ lw_tbl, w.before #[Value.ref b] s = true := k2_hts_sels lw_privs (fun w hw => hts0 w (List.mem_cons_of_mem _ hw)) lw_privs_ok
    have hml : c.maxLocals = 7 := B.maxLocals_eq (hts0 _ List.mem_cons_self)
    have X₀ : Stand p l e room_1 s m #[Value.ref b] below meth c s₁ [] 0 0 := Stand.of_body B
    have hh0 : s₁.heap = s.heap := by rw [B.state]; rfl
    have hsz : scr.slots.size = xs.length := by rw [← Array.length_toList, hlist, List.length_map]
    have hval : ∀ j : Nat, j < xs.length → scr.slots[j]? = some (.int (xs.getD j 0)) := fun j hj => by
      rw [← Array.getElem?_toList, hlist]
      simp [hj]
    have hbl : b < s.heap.size := (Array.getElem?_eq_some_iff.mp hcb).1
    have hX : va_X b xs.length (fun j => xs.getD j 0) s s.heap := ⟨scr, hcb, hof, hkn, hsz, hval⟩
    have K : W p l e room_1 s m #[Value.ref b] below meth c s₁.heap [] 0 0 (lw_Z below #[Value.ref b] s) (entryFrame m ([Value.ref b] : List Value).toArray 7) := by
      rw [hh0]
      obtain ⟨meth', c', g1, g2, -, -, -, -, g7, -⟩ := tb_hw_spec (k := m_La_law) (hts0 _ List.mem_cons_self) B.named
      have hcode := (Stand.of_body B).code
      cases B.method.symm.trans g1
      cases hcode.symm.trans g2
      exact whole_start l hfl hbd hts hgv hX hbl ⟨B.exec, B.bytes, hml, hown, B.returns, B.notSynchronized, (name_of_methodNamed B.named B.method).1⟩ g7 B.method hcode B.admits
    obtain ⟨t, a1, o, b1, b2, b3⟩ := K s₁ rfl X₀
    exact ⟨t, o, a1, b1, b2, b3⟩
theorem lw_pre_spec {args : Array Value} {s : State} (h : (Jvm.Cond.and given_1 narrow_1).before args s = true) (hr : rest_1_c.before args s = true) : ∃ (b : Addr) (xs : List Int32), lw_P b xs args s := by
  have hs := flat_of_before _ h
  have hq := flat_of_before _ hr
  have hc : (Cond.count 1).before args s = true := hs _ (by decide +kernel)
  have harr : (Cond.arrayOf (.arg 0) .int).before args s = true := hs _ (by decide +kernel)
  have hle : (Cond.le (.length (.arg 0)) (.int 1536)).before args s = true := hs _ (by decide +kernel)
  have hlen : (Cond.isInt (.length (.arg 0))).before args s = true := hq _ (by decide +kernel)
  have hall : (Cond.all (.arg 0) (.isInt (.elem (.arg 0) (.index 0)))).before args s = true := hq _ (by decide +kernel)
  obtain ⟨b, xs, hb, hx⟩ := State.ints_of_pre rfl harr hlen hall
  have hsm : xs.length < 2 ^ 31 := hx.choose_spec.2.2.2
  have hev : (Term.length (.arg 0)).eval args s none [] s = some (.int xs.length.toInt32) := hx.length_eval hb
  have hv := Cond.le_ints hev (show (Term.int 1536).eval args s none [] s = some (.int 1536) from rfl)
  have hd : xs.length.toInt32 ≤ 1536 := by
    simpa [Cond.before, Cond.holds, hv] using hle
  have hN : xs.length ≤ 1536 := (Int32.ofNat_le_ofNat hsm (by decide)).mp (show Int32.ofNat xs.length ≤ Int32.ofNat 1536 from hd)
  exact ⟨b, xs, Cond.one_arg hc (show args[0]? = some (.ref b) from hb), hx, hN, h⟩
theorem lw_comes (l : Launch) (hfl : l.flags = flags0) : Comes l x (Jvm.Cond.code x code maxLocals ret :: tables_1) room_1 (fun tb e args s => Calls_1 tb e args s ∧ rest_1 tb e args s ∧ Pre_1 tb e args s)
    (fun _ _ args s o t => lw_Q args s o t) := by
  intro p e ha hc hk s m args below hf hfit hheap happ hpre
  obtain ⟨b, xs, hP⟩ := lw_pre_spec hpre.2.2 hpre.2.1
  obtain ⟨k, o, h1, h2, h3, hQ⟩ := lw_walk l hfl b xs p e ha hc hk s m args below hf ((Spec.applies_iff_loose hf).mp happ).1 hP trivial
  exact ⟨k, o, h1, h2, h3, hQ⟩
theorem lw_frame {s t : State} {o : Outcome} {args : Array Value} (h : Framed s o t [] 601024 7293034) :
    Framed s o t (fieldLocs frame_1_writes args s ++ arrayLocs frame_1_arrays args s ++ staticLocs frame_1_statics s) 601024 7293034 := h
theorem lw_limb (L : Cond) (hL : ∀ (args : Array Value) (s t : State), L.after args s (.returned (some (.int 1))) t = true) :
    ArmFor flags0 classFile x code maxLocals ret World_1 tables_1 room_1 Calls_1 rest_1 Pre_1
      (fun tb e a s o t => postC L tb e a s o t ∧ Framed s o t (fieldLocs frame_1_writes a s ++ arrayLocs frame_1_arrays a s ++ staticLocs frame_1_statics s) 601024 7293034) := by
  intro l hfl _ _ p e ha hc hk s m args below hf hfit hheap happ hpre
  obtain ⟨k, o, h1, h2, h3, rfl, hF⟩ := lw_comes l hfl p e ha hc hk s m args below hf hfit hheap happ hpre
  exact ⟨k, _, h1, h2, h3, hL args s _, lw_frame hF⟩
theorem i_vc : Claimed_1_1 ∧ Claimed_1_2 := ⟨lw_limb limb_1_1 (fun args s t => by simp [limb_1_1, Cond.after, Cond.holds, Cond.value]), lw_limb limb_1_2 (fun args s t => Cond.after_iff.mpr (by
  first | (rw [show limb_1_2 = Cond.eq .result (.int 1) from rfl, Cond.eq_ints (x := 1) (y := 1) rfl rfl]; simp; done) | (simp [limb_1_2, Cond.value, Term.eval]; done)))⟩

