/-! Rules that read and write the memory, make cells, answer. -/
theorem tb_hts {E : tb_E} {s : State} (hG : tb_G E) (hW : E.2.1.WarmedH s.vm) (args : Array Value) : ∀ w, tb_I1 w → w.before args s = true := fun w hw => word_at hW (good_of_word hw.2) (hG.1 w hw.1)
theorem tb_hK {E : tb_E} {s : State} (hG : tb_G E) (hW : E.2.1.WarmedH s.vm) : va_K E.2.2.2.1 tb_cl (tb_tys E) s := va_K.moved hW.alike hG.2.1
section Mem
variable {E : tb_E} {k : tb_MD} {d rc rs pc pc' : Nat} {L : List tb_L} {S : List tb_V} {M : tb_M} {Q : tb_O → tb_M → Prop}
theorem tb_obj {M : tb_M} {o ci : Nat} (h : tb_K M o = ci + 1) (hc : ci < 99) : tb_ent E M o = .inr (ci, tb_fs E (tb_I M o) (tb_R M o) 0 ((tb_ft[ci]?).getD [])) := by
  unfold tb_ent tb_en
  rw [if_pos (by omega), h]
  rfl
/-- a write into an object or array: the world behind it -/
theorem tb_HR_set {M M' : tb_M} {H H1 : Heap} {r : Nat} {x : va_E} (hH : tb_HR E M H) (hr : r < tb_n M) (hz : H1.size = H.size) (hq : ∀ q : Nat, q < E.2.1.heap.size → H1[q]? = H[q]?) (hn : tb_n M' = tb_n M) (hu : tb_u M' = tb_u M) (hK : tb_K M' = tb_K M) (hx : tb_ent E M' (r + 1) = x) (ho : ∀ o, o ≠ r + 1 → tb_ent E M' o = tb_ent E M o)
    (hP : va_P E.2.2.2.1 tb_cl ((tb_ws E M).set r (E.2.1.heap.size + r, x)) H1) : tb_HR E M' H1 := by
  obtain ⟨-, h2, h3, h4, h5, h6⟩ := hH
  refine ⟨by rw [← tb_ws_set hn hx ho hr]; exact hP, fun q h => (hq q h).trans (h2 q h), by rw [hK]; exact h3, by rw [hK, hn]; exact h4, by rw [hz]; exact h5, by rw [hu, hn, hz]; exact h6⟩
theorem tb_ent_sI {M : tb_M} {o kf o' : Nat} {x : Int32} (h : o' ≠ o) : tb_ent E (tb_sI M o kf x) o' = tb_ent E M o' := by
  show tb_en E tb_ft (tb_K M o') (tb_Ln M o') (va_up (tb_I M) o _ o') (tb_R M o') (tb_J M o') = _
  unfold va_up
  rw [if_neg h]
  rfl
theorem tb_ent_sR {M : tb_M} {o kf o' : Nat} {x : Nat} (h : o' ≠ o) : tb_ent E (tb_sR M o kf x) o' = tb_ent E M o' := by
  show tb_en E tb_ft (tb_K M o') (tb_Ln M o') (tb_I M o') (va_up (tb_R M) o _ o') (tb_J M o') = _
  unfold va_up
  rw [if_neg h]
  rfl
theorem tb_ent_sJ {M : tb_M} {o kf o' : Nat} {x : Int64} (h : o' ≠ o) : tb_ent E (tb_sJ M o kf x) o' = tb_ent E M o' := by
  show tb_en E tb_ft (tb_K M o') (tb_Ln M o') (tb_I M o') (tb_R M o') (va_up (tb_J M) o _ o') = _
  unfold va_up
  rw [if_neg h]
  rfl
theorem tb_nest_moved {s0 U : State} {w : Cond} (hw : w ∈ tb_nest) (hW : s0.WarmedH U.vm) (h : va_Nw w s0) : va_Nw w U := by
  rcases List.mem_append.mp hw with hw | hw
  · rcases List.mem_append.mp hw with hw | hw
    · obtain ⟨q, -, rfl⟩ := List.mem_map.mp hw
      exact va_Nw.warmF hW h
    · obtain ⟨q, -, rfl⟩ := List.mem_map.mp hw
      exact va_Nw.warmM hW h
  · obtain ⟨q, -, rfl⟩ := List.mem_map.mp hw
    exact va_AO.moved (C := q) hW.alike h
theorem tb_cG {p : Program} {e : Env} {s : State} {m : MethodId} {meth : Method} {c : Code} (C : tb_Cx E k p e s m meth c) : tb_G E := C.2.2.2.2.2.2.2.2.2.2.2.2
theorem tb_cW {p : Program} {e : Env} {s : State} {m : MethodId} {meth : Method} {c : Code} (C : tb_Cx E k p e s m meth c) : E.2.1.WarmedH s.vm := C.2.2.2.2.2.2.2.1
theorem tb_cw {p : Program} {e : Env} {s : State} {m : MethodId} {meth : Method} {c : Code} (C : tb_Cx E k p e s m meth c) (args : Array Value) : ∀ w, tb_I1 w → w.before args s = true := tb_hts (tb_cG C) (tb_cW C) args
theorem tb_cK {p : Program} {e : Env} {s : State} {m : MethodId} {meth : Method} {c : Code} (C : tb_Cx E k p e s m meth c) : va_K E.2.2.2.1 tb_cl (tb_tys E) s := tb_hK (tb_cG C) (tb_cW C)
theorem tb_cO {p : Program} {e : Env} {s : State} {m : MethodId} {meth : Method} {c : Code} (C : tb_Cx E k p e s m meth c) : s.vm.findClass k.1.cls = some m.cls := C.2.2.2.1
theorem tb_cNw {p : Program} {e : Env} {s : State} {m : MethodId} {meth : Method} {c : Code} (C : tb_Cx E k p e s m meth c) {w : Cond} (hw : w ∈ tb_nest) : va_Nw w s := tb_nest_moved hw (tb_cW C) ((tb_cG C).2.2.1 w hw)
theorem tb_getI {C0 : String} {T : u_T} {N ci j index o : Nat} (hd : decode k.2.1 pc = .ok (.getfield index, 3)) (hp : pc + 3 = pc') (hc : tb_cl[ci]? = some (C0, T, N)) (hci : ci < 99) (hin : ∀ w ∈ u_ws C0 T N, tb_I1 w) (hj : j < N) (hf : ((tb_ft[ci]?).getD [])[j]? = some false) (hlink : tb_I1 (Cond.fieldLink k.1.cls index (T j).1 (T j).2.1 (T j).2.2.1)) (hKo : tb_K M o = ci + 1) (kk : tb_Wp E k d rc rs pc' L (.inl (tb_I M o j) :: S) M Q) : tb_Wp E k d rc rs pc L (.inr (.inl o) :: S) M Q := by
  subst hp
  intro p e R s m args below meth c H locs cells slots mc ms ls C hl hH hS h1 h2 hR
  obtain ⟨r, rfl, hr, he⟩ := tb_cell hH (by rw [hKo]; omega)
  rw [tb_obj hKo hci] at he
  exact va_get (D := E.2.2.2.1) (v := .int (tb_I M (r + 1) j)) C.1 C.2.1 (fun w h => tb_cw C args w (hin w h)) (fun _ h => h) (tb_cO C) (tb_cK C) hH.1 r he hc j hj (tb_cw C args _ hlink) (fun _ h9 => h9) (by rw [tb_fs_get]; simp [hf]) hd (kk p e R s m args below meth c H locs cells slots mc ms ls C hl hH hS h1 h2 hR)
theorem tb_getR {C0 : String} {T : u_T} {N ci j index o : Nat} (hd : decode k.2.1 pc = .ok (.getfield index, 3)) (hp : pc + 3 = pc') (hc : tb_cl[ci]? = some (C0, T, N)) (hci : ci < 99) (hin : ∀ w ∈ u_ws C0 T N, tb_I1 w) (hj : j < N) (hf : ((tb_ft[ci]?).getD [])[j]? = some true) (hlink : tb_I1 (Cond.fieldLink k.1.cls index (T j).1 (T j).2.1 (T j).2.2.1)) (hKo : tb_K M o = ci + 1) (kk : tb_Wp E k d rc rs pc' L (.inr (.inl (tb_R M o j)) :: S) M Q) : tb_Wp E k d rc rs pc L (.inr (.inl o) :: S) M Q := by
  subst hp
  intro p e R s m args below meth c H locs cells slots mc ms ls C hl hH hS h1 h2 hR
  obtain ⟨r, rfl, hr, he⟩ := tb_cell hH (by rw [hKo]; omega)
  rw [tb_obj hKo hci] at he
  exact va_get (D := E.2.2.2.1) (v := va_rf (tb_ro E (tb_R M (r + 1) j))) C.1 C.2.1 (fun w h => tb_cw C args w (hin w h)) (fun _ h => h) (tb_cO C) (tb_cK C) hH.1 r he hc j hj (tb_cw C args _ hlink) (fun _ h9 => h9) (by rw [tb_fs_get]; simp [hf]) hd (kk p e R s m args below meth c H locs cells slots mc ms ls C hl hH hS h1 h2 hR)
theorem tb_getIN {C0 : String} {T : u_T} {N ci j index o : Nat} {host : String} (hd : decode k.2.1 pc = .ok (.getfield index, 3)) (hp : pc + 3 = pc') (hc : tb_cl[ci]? = some (C0, T, N)) (hci : ci < 99) (hin : ∀ w ∈ u_ws C0 T N, tb_I1 w) (hj : j < N) (hf : ((tb_ft[ci]?).getD [])[j]? = some false) (hlink : Cond.fieldLinkNest k.1.cls index (T j).1 (T j).2.1 (T j).2.2.1 host ∈ tb_nest) (hKo : tb_K M o = ci + 1) (kk : tb_Wp E k d rc rs pc' L (.inl (tb_I M o j) :: S) M Q) : tb_Wp E k d rc rs pc L (.inr (.inl o) :: S) M Q := by
  subst hp
  intro p e R s m args below meth c H locs cells slots mc ms ls C hl hH hS h1 h2 hR
  obtain ⟨r, rfl, hr, he⟩ := tb_cell hH (by rw [hKo]; omega)
  rw [tb_obj hKo hci] at he
  exact va_getN (D := E.2.2.2.1) (v := .int (tb_I M (r + 1) j)) C.1 C.2.1 (fun w h => tb_cw C args w (hin w h)) (fun _ h => h) (tb_cO C) (tb_cK C) hH.1 r he hc j hj (va_Nw.use rfl (tb_cNw C hlink)) (fun _ h9 => h9) (by rw [tb_fs_get]; simp [hf]) hd (kk p e R s m args below meth c H locs cells slots mc ms ls C hl hH hS h1 h2 hR)
theorem tb_getRN {C0 : String} {T : u_T} {N ci j index o : Nat} {host : String} (hd : decode k.2.1 pc = .ok (.getfield index, 3)) (hp : pc + 3 = pc') (hc : tb_cl[ci]? = some (C0, T, N)) (hci : ci < 99) (hin : ∀ w ∈ u_ws C0 T N, tb_I1 w) (hj : j < N) (hf : ((tb_ft[ci]?).getD [])[j]? = some true) (hlink : Cond.fieldLinkNest k.1.cls index (T j).1 (T j).2.1 (T j).2.2.1 host ∈ tb_nest) (hKo : tb_K M o = ci + 1) (kk : tb_Wp E k d rc rs pc' L (.inr (.inl (tb_R M o j)) :: S) M Q) : tb_Wp E k d rc rs pc L (.inr (.inl o) :: S) M Q := by
  subst hp
  intro p e R s m args below meth c H locs cells slots mc ms ls C hl hH hS h1 h2 hR
  obtain ⟨r, rfl, hr, he⟩ := tb_cell hH (by rw [hKo]; omega)
  rw [tb_obj hKo hci] at he
  exact va_getN (D := E.2.2.2.1) (v := va_rf (tb_ro E (tb_R M (r + 1) j))) C.1 C.2.1 (fun w h => tb_cw C args w (hin w h)) (fun _ h => h) (tb_cO C) (tb_cK C) hH.1 r he hc j hj (va_Nw.use rfl (tb_cNw C hlink)) (fun _ h9 => h9) (by rw [tb_fs_get]; simp [hf]) hd (kk p e R s m args below meth c H locs cells slots mc ms ls C hl hH hS h1 h2 hR)
theorem tb_put_after {M M' : tb_M} {C0 : String} {T : u_T} {N ci j r : Nat} {v : Value} {fs' : List Value} {s : State} {H H1 : Heap} {locs : List Loc} {args : Array Value} {cell : Cell} {i0 : Nat} (hts : ∀ w ∈ u_ws C0 T N, w.before args s = true) (ty0 : Nat → FieldType) (hty : ∀ k, k < N → parseFieldDescriptor (T k).2.2.1 = some (ty0 k)) (hnm : ∀ a, a < N → ∀ b, b < N → a ≠ b → (T a).2.1 ≠ (T b).2.1) (hK : va_K E.2.2.2.1 tb_cl (tb_tys E) s) (hc : tb_cl[ci]? = some (C0, T, N)) (hH : tb_HR E M H) (hS : va_S (tb_A E) s.heap H locs)
    (hr : r < tb_n M) {fs : List Value} (he : (tb_ws E M)[r]? = some (E.2.1.heap.size + r, .inr (ci, fs))) (hj : j < N) (hl : j < fs.length) (q2 : cell.cls = E.2.2.2.1.1 ci) (q3 : cell.vm = .none) (q4 : ∀ k, k < N → cell.slots[E.2.2.2.1.2 ci k]? = some (vp_V fs k))
    (e1 : H1[E.2.1.heap.size + r]? = some (cell.setSlot (E.2.2.2.1.2 ci j) v)) (e2 : H1.size = H.size) (e3 : ∀ q, q ≠ E.2.1.heap.size + r → H1[q]? = H[q]?)
    (hfs : fs.set j v = fs') (hn : tb_n M' = tb_n M) (hu : tb_u M' = tb_u M) (hKK : tb_K M' = tb_K M) (hx : tb_ent E M' (r + 1) = .inr (ci, fs')) (ho : ∀ o, o ≠ r + 1 → tb_ent E M' o = tb_ent E M o) : tb_HR E M' H1 ∧ va_S (tb_A E) s.heap H1 (locs ++ [⟨E.2.1.heap.size + r, i0⟩]) := by
  have hap := va_apart (own := C0) hts (fun _ h => h) ty0 hty hnm hK hc
  subst hfs
  refine ⟨tb_HR_set hH hr e2 (fun q h => e3 q (by omega)) hn hu hKK hx ho ?_, hS.put e2 e3 (by show _ ≤ _; omega)⟩
  exact hH.1.set (tb_ws_D E M) he ⟨_, hc, t_OB.to (V := updV (vp_V fs) j v) ⟨_, e1, q2, q3, t_set q4 hap hj v⟩ (fun i _ => vp_updV_set hl v i)⟩ e3
theorem tb_putI {C0 : String} {T : u_T} {N ci j index o : Nat} {x : Int32} (hd : decode k.2.1 pc = .ok (.putfield index, 3)) (hp : pc + 3 = pc') (hc : tb_cl[ci]? = some (C0, T, N)) (hci : ci < 99) (hin : ∀ w ∈ u_ws C0 T N, tb_I1 w) (ty0 : Nat → FieldType) (hty : ∀ k, k < N → parseFieldDescriptor (T k).2.2.1 = some (ty0 k)) (hnm : ∀ a, a < N → ∀ b, b < N → a ≠ b → (T a).2.1 ≠ (T b).2.1) (hj : j < N) (hf : ((tb_ft[ci]?).getD [])[j]? = some false) (hlink : tb_I1 (Cond.fieldLink k.1.cls index (T j).1 (T j).2.1 (T j).2.2.1)) (hfin : (T j).2.2.2 = false) (hKo : tb_K M o = ci + 1) (hna : narrow (ty0 j) (.int x) = .int x) (hfi : fits (ty0 j) (.int x) = true) (kk : tb_Wp E k d rc rs pc' L S (tb_sI M o j x) Q) : tb_Wp E k d rc rs pc L (.inl x :: .inr (.inl o) :: S) M Q := by
  subst hp
  intro p e R s m args below meth c H locs cells slots mc ms ls C hl hH hS h1 h2 hR
  obtain ⟨r, rfl, hr, he⟩ := tb_cell hH (by rw [hKo]; omega)
  rw [tb_obj hKo hci] at he
  have hts : ∀ w ∈ u_ws C0 T N, w.before args s = true := fun w h => tb_cw C args w (hin w h)
  have hK := tb_cK C
  obtain ⟨r0, g1, cell, q1, q2, q3, q4⟩ := hH.1 r _ he
  have hr0 : r0 = (C0, T, N) := Option.some.inj (g1.symm.trans hc)
  subst hr0
  obtain ⟨hSl, hfc, kC, hkC, hkind⟩ := hK.1 ci _ hc
  obtain ⟨cf, kf, fi, f, hi, hsl⟩ := hSl j hj
  have hlay := hts _ (u_in_lay hj)
  unfold u_lay at hlay
  have hst := (u_facts hfc hkC (u_lays hts (fun _ h => h) hj) hi).1
  have hlen : j < (tb_fs E (tb_I M (r + 1)) (tb_R M (r + 1)) 0 ((tb_ft[ci]?).getD [])).length := by rw [tb_fs_len]; exact (List.getElem?_eq_some_iff.mp hf).1
  rw [if_neg (by rw [hfin]; decide)] at hlay
  have h6 := u_store hfc hkC hkind hlay hi (hty j hj) hna hfi
  refine W.putK C.1 C.2.1 (f := f) ⟨tb_cO C, tb_cw C args _ hlink, ⟨_, _, _, hi⟩, hst⟩ (by rw [q2]; exact h6) q1 q3 (by rw [hsl]; exact k2_hasslot (q4 j hj)) rfl rfl hd fun H1 e1 e2 e3 => ?_
  rw [hsl] at e1 ⊢
  obtain ⟨hH', hS'⟩ := tb_put_after (E := E) (M := M) (args := args) (M' := tb_sI M (r + 1) j x) (i0 := E.2.2.2.1.2 ci j) hts ty0 hty hnm hK hc hH hS hr he hj hlen q2 q3 q4 e1 e2 e3 (tb_fs_setI E _ _ _ j x hf) rfl rfl rfl (by rw [tb_obj (M := tb_sI M (r + 1) j x) hKo hci]; simp [tb_sI, tb_I, tb_R, va_up]) (fun o ho => tb_ent_sI ho)
  exact kk p e R s m args below meth c H1 _ cells slots mc ms ls C hl hH' hS' h1 h2 hR
theorem tb_putIN {C0 : String} {T : u_T} {N ci j index o : Nat} {x : Int32} {host : String} (hd : decode k.2.1 pc = .ok (.putfield index, 3)) (hp : pc + 3 = pc') (hc : tb_cl[ci]? = some (C0, T, N)) (hci : ci < 99) (hin : ∀ w ∈ u_ws C0 T N, tb_I1 w) (ty0 : Nat → FieldType) (hty : ∀ k, k < N → parseFieldDescriptor (T k).2.2.1 = some (ty0 k)) (hnm : ∀ a, a < N → ∀ b, b < N → a ≠ b → (T a).2.1 ≠ (T b).2.1) (hj : j < N) (hf : ((tb_ft[ci]?).getD [])[j]? = some false) (hlink : Cond.fieldLinkNest k.1.cls index (T j).1 (T j).2.1 (T j).2.2.1 host ∈ tb_nest) (hfin : (T j).2.2.2 = false) (hKo : tb_K M o = ci + 1) (hna : narrow (ty0 j) (.int x) = .int x) (hfi : fits (ty0 j) (.int x) = true) (kk : tb_Wp E k d rc rs pc' L S (tb_sI M o j x) Q) : tb_Wp E k d rc rs pc L (.inl x :: .inr (.inl o) :: S) M Q := by
  subst hp
  intro p e R s m args below meth c H locs cells slots mc ms ls C hl hH hS h1 h2 hR
  obtain ⟨r, rfl, hr, he⟩ := tb_cell hH (by rw [hKo]; omega)
  rw [tb_obj hKo hci] at he
  have hts : ∀ w ∈ u_ws C0 T N, w.before args s = true := fun w h => tb_cw C args w (hin w h)
  have hK := tb_cK C
  obtain ⟨r0, g1, cell, q1, q2, q3, q4⟩ := hH.1 r _ he
  have hr0 : r0 = (C0, T, N) := Option.some.inj (g1.symm.trans hc)
  subst hr0
  obtain ⟨hSl, hfc, kC, hkC, hkind⟩ := hK.1 ci _ hc
  obtain ⟨cf, kf, fi, f, hi, hsl⟩ := hSl j hj
  have hlay := hts _ (u_in_lay hj)
  unfold u_lay at hlay
  have hst := (u_facts hfc hkC (u_lays hts (fun _ h => h) hj) hi).1
  have hlen : j < (tb_fs E (tb_I M (r + 1)) (tb_R M (r + 1)) 0 ((tb_ft[ci]?).getD [])).length := by rw [tb_fs_len]; exact (List.getElem?_eq_some_iff.mp hf).1
  rw [if_neg (by rw [hfin]; decide)] at hlay
  have h6 := u_store hfc hkC hkind hlay hi (hty j hj) hna hfi
  refine va_WputK C.1 C.2.1 (f := f) (tb_cO C) (va_Nw.use rfl (tb_cNw C hlink)) hi hst (by rw [q2]; exact h6) q1 q3 (by rw [hsl]; exact k2_hasslot (q4 j hj)) rfl rfl hd fun H1 e1 e2 e3 => ?_
  rw [hsl] at e1 ⊢
  obtain ⟨hH', hS'⟩ := tb_put_after (E := E) (M := M) (args := args) (M' := tb_sI M (r + 1) j x) (i0 := E.2.2.2.1.2 ci j) hts ty0 hty hnm hK hc hH hS hr he hj hlen q2 q3 q4 e1 e2 e3 (tb_fs_setI E _ _ _ j x hf) rfl rfl rfl (by rw [tb_obj (M := tb_sI M (r + 1) j x) hKo hci]; simp [tb_sI, tb_I, tb_R, va_up]) (fun o ho => tb_ent_sI ho)
  exact kk p e R s m args below meth c H1 _ cells slots mc ms ls C hl hH' hS' h1 h2 hR
theorem tb_putF {C0 : String} {T : u_T} {N ci j index o : Nat} {x : Nat} (hd : decode k.2.1 pc = .ok (.putfield index, 3)) (hp : pc + 3 = pc') (hc : tb_cl[ci]? = some (C0, T, N)) (hci : ci < 99) (hin : ∀ w ∈ u_ws C0 T N, tb_I1 w) (ty0 : Nat → FieldType) (hty : ∀ k, k < N → parseFieldDescriptor (T k).2.2.1 = some (ty0 k)) (hnm : ∀ a, a < N → ∀ b, b < N → a ≠ b → (T a).2.1 ≠ (T b).2.1) (hj : j < N) (hf : ((tb_ft[ci]?).getD [])[j]? = some true) (hlink : tb_I1 (Cond.fieldLink k.1.cls index (T j).1 (T j).2.1 (T j).2.2.1)) (hfin : (T j).2.2.2 = true) (hdecl : (T j).1 = k.1.cls) (hinit : k.1.name = "<init>") (hKo : tb_K M o = ci + 1) (hna : narrow (ty0 j) (va_rf (tb_ro E x)) = va_rf (tb_ro E x)) (hfi : fits (ty0 j) (va_rf (tb_ro E x)) = true) (kk : tb_Wp E k d rc rs pc' L S (tb_sR M o j x) Q) : tb_Wp E k d rc rs pc L (.inr (.inl x) :: .inr (.inl o) :: S) M Q := by
  subst hp
  intro p e R s m args below meth c H locs cells slots mc ms ls C hl hH hS h1 h2 hR
  obtain ⟨r, rfl, hr, he⟩ := tb_cell hH (by rw [hKo]; omega)
  rw [tb_obj hKo hci] at he
  have hts : ∀ w ∈ u_ws C0 T N, w.before args s = true := fun w h => tb_cw C args w (hin w h)
  have hK := tb_cK C
  obtain ⟨r0, g1, cell, q1, q2, q3, q4⟩ := hH.1 r _ he
  have hr0 : r0 = (C0, T, N) := Option.some.inj (g1.symm.trans hc)
  subst hr0
  obtain ⟨hSl, hfc, kC, hkC, hkind⟩ := hK.1 ci _ hc
  obtain ⟨cf, kf, fi, f, hi, hsl⟩ := hSl j hj
  have hlay := hts _ (u_in_lay hj)
  unfold u_lay at hlay
  have hst := (u_facts hfc hkC (u_lays hts (fun _ h => h) hj) hi).1
  have hlen : j < (tb_fs E (tb_I M (r + 1)) (tb_R M (r + 1)) 0 ((tb_ft[ci]?).getD [])).length := by rw [tb_fs_len]; exact (List.getElem?_eq_some_iff.mp hf).1
  rw [if_pos hfin] at hlay
  have hcf : m.cls = cf := by
    obtain ⟨_, _, c', _, _, _, -, -, hf', -, -, -, hown2, -⟩ := Cond.laysFinal_spec hlay
    have e1 : c' = cf := by have := hi.symm.trans hf'; simp at this; exact this.1.symm
    rw [hdecl] at hown2
    rw [← e1]; exact Option.some.inj ((tb_cO C).symm.trans hown2)
  have h6 := u_fits hfc hkC hkind (Or.inr hlay) hi (hty j hj) hna hfi
  refine W.putFinK C.1 C.2.1 (tb_cO C) (tb_cw C args _ hlink) hi hst hcf (C.2.2.2.2.2.2.1.trans hinit) (by rw [q2]; exact h6) q1 q3 (by rw [hsl]; exact k2_hasslot (q4 j hj)) rfl rfl hd fun H1 e1 e2 e3 => ?_
  rw [hsl] at e1 ⊢
  obtain ⟨hH', hS'⟩ := tb_put_after (E := E) (M := M) (args := args) (M' := tb_sR M (r + 1) j x) (i0 := E.2.2.2.1.2 ci j) hts ty0 hty hnm hK hc hH hS hr he hj hlen q2 q3 q4 e1 e2 e3 (tb_fs_setR E _ _ _ j x hf) rfl rfl rfl (by rw [tb_obj (M := tb_sR M (r + 1) j x) hKo hci]; simp [tb_sR, tb_R, tb_I, va_up]) (fun o ho => tb_ent_sR ho)
  exact kk p e R s m args below meth c H1 _ cells slots mc ms ls C hl hH' hS' h1 h2 hR
theorem tb_arrI {M : tb_M} {o t : Nat} (h : tb_K M o = 100 + t) (ht : t < 4) : tb_ent E M o = .inl (E.2.2.2.2 t, tb_Ln M o, .inl (tb_I M o)) := by
  unfold tb_ent tb_en
  rw [if_neg (by omega), if_pos (by omega), h, show 100 + t - 100 = t by omega]
theorem tb_arrJ {M : tb_M} {o : Nat} (h : tb_K M o = 104) : tb_ent E M o = .inl (E.2.2.2.2 4, tb_Ln M o, .inr (.inl (tb_J M o))) := by
  unfold tb_ent tb_en
  rw [if_neg (by omega), if_neg (by omega), if_pos h]
theorem tb_arrR {M : tb_M} {o t : Nat} (h : tb_K M o = 100 + t) (ht : 4 < t) : tb_ent E M o = .inl (E.2.2.2.2 t, tb_Ln M o, .inr (.inr (.inr (.inr (fun j => tb_ro E (tb_R M o j)))))) := by
  unfold tb_ent tb_en
  rw [if_neg (by omega), if_neg (by omega), if_neg (by omega), h, show 100 + t - 100 = t by omega]
theorem tb_iaload {o : Nat} {i : Int32} (hd : decode k.2.1 pc = .ok (.iaload, 1)) (hp : pc + 1 = pc') (hKo : tb_K M o = 100 + 0) (hin : vp_in i (tb_Ln M o)) (kk : tb_Wp E k d rc rs pc' L (.inl (tb_I M o i.toNatClampNeg) :: S) M Q) : tb_Wp E k d rc rs pc L (.inl i :: .inr (.inl o) :: S) M Q := by
  subst hp
  intro p e R s m args below meth c H locs cells slots mc ms ls C hl hH hS h1 h2 hR
  obtain ⟨r, rfl, hr, he⟩ := tb_cell hH (by rw [hKo]; omega)
  rw [tb_arrI hKo (by decide)] at he
  exact va_iald C.1 C.2.1 (tb_cK C) hH.1 r 0 he rfl hin hd (kk p e R s m args below meth c H locs cells slots mc ms ls C hl hH hS h1 h2 hR)
theorem tb_saload {o : Nat} {i : Int32} (hd : decode k.2.1 pc = .ok (.saload, 1)) (hp : pc + 1 = pc') (hKo : tb_K M o = 100 + 1) (hin : vp_in i (tb_Ln M o)) (kk : tb_Wp E k d rc rs pc' L (.inl (tb_I M o i.toNatClampNeg) :: S) M Q) : tb_Wp E k d rc rs pc L (.inl i :: .inr (.inl o) :: S) M Q := by
  subst hp
  intro p e R s m args below meth c H locs cells slots mc ms ls C hl hH hS h1 h2 hR
  obtain ⟨r, rfl, hr, he⟩ := tb_cell hH (by rw [hKo]; omega)
  rw [tb_arrI hKo (by decide)] at he
  exact va_sald C.1 C.2.1 (tb_cK C) hH.1 r 1 he rfl hin hd (kk p e R s m args below meth c H locs cells slots mc ms ls C hl hH hS h1 h2 hR)
theorem tb_caload {o : Nat} {i : Int32} (hd : decode k.2.1 pc = .ok (.caload, 1)) (hp : pc + 1 = pc') (hKo : tb_K M o = 100 + 2) (hin : vp_in i (tb_Ln M o)) (kk : tb_Wp E k d rc rs pc' L (.inl (tb_I M o i.toNatClampNeg) :: S) M Q) : tb_Wp E k d rc rs pc L (.inl i :: .inr (.inl o) :: S) M Q := by
  subst hp
  intro p e R s m args below meth c H locs cells slots mc ms ls C hl hH hS h1 h2 hR
  obtain ⟨r, rfl, hr, he⟩ := tb_cell hH (by rw [hKo]; omega)
  rw [tb_arrI hKo (by decide)] at he
  exact va_cald C.1 C.2.1 (tb_cK C) hH.1 r 2 he rfl hin hd (kk p e R s m args below meth c H locs cells slots mc ms ls C hl hH hS h1 h2 hR)
theorem tb_zaload {o : Nat} {i : Int32} (hd : decode k.2.1 pc = .ok (.baload, 1)) (hp : pc + 1 = pc') (hKo : tb_K M o = 100 + 3) (hin : vp_in i (tb_Ln M o)) (kk : tb_Wp E k d rc rs pc' L (.inl (tb_I M o i.toNatClampNeg) :: S) M Q) : tb_Wp E k d rc rs pc L (.inl i :: .inr (.inl o) :: S) M Q := by
  subst hp
  intro p e R s m args below meth c H locs cells slots mc ms ls C hl hH hS h1 h2 hR
  obtain ⟨r, rfl, hr, he⟩ := tb_cell hH (by rw [hKo]; omega)
  rw [tb_arrI hKo (by decide)] at he
  exact va_zald C.1 C.2.1 (tb_cK C) hH.1 r 3 he rfl hin hd (kk p e R s m args below meth c H locs cells slots mc ms ls C hl hH hS h1 h2 hR)
theorem tb_laload {o : Nat} {i : Int32} (hd : decode k.2.1 pc = .ok (.laload, 1)) (hp : pc + 1 = pc') (hKo : tb_K M o = 104) (hin : vp_in i (tb_Ln M o)) (kk : tb_Wp E k d rc rs pc' L (.inr (.inr (tb_J M o i.toNatClampNeg)) :: S) M Q) : tb_Wp E k d rc rs pc L (.inl i :: .inr (.inl o) :: S) M Q := by
  subst hp
  intro p e R s m args below meth c H locs cells slots mc ms ls C hl hH hS h1 h2 hR
  obtain ⟨r, rfl, hr, he⟩ := tb_cell hH (by rw [hKo]; omega)
  rw [tb_arrJ hKo] at he
  exact va_lald C.1 C.2.1 (tb_cK C) hH.1 r 4 he rfl hin hd (kk p e R s m args below meth c H locs cells slots mc ms ls C hl hH hS h1 h2 hR)
theorem tb_aaload {C0 : String} {o t : Nat} {i : Int32} (hd : decode k.2.1 pc = .ok (.aaload, 1)) (hp : pc + 1 = pc') (ht : 4 < t) (hty : tb_ty[t]? = some (.object C0)) (hKo : tb_K M o = 100 + t) (hin : vp_in i (tb_Ln M o)) (kk : tb_Wp E k d rc rs pc' L (.inr (.inl (tb_R M o i.toNatClampNeg)) :: S) M Q) : tb_Wp E k d rc rs pc L (.inl i :: .inr (.inl o) :: S) M Q := by
  subst hp
  intro p e R s m args below meth c H locs cells slots mc ms ls C hl hH hS h1 h2 hR
  obtain ⟨r, rfl, hr, he⟩ := tb_cell hH (by rw [hKo]; omega)
  rw [tb_arrR hKo ht] at he
  exact va_aldq (C := C0) C.1 C.2.1 (tb_cK C) hH.1 r t he (by simp [tb_tys, hty]) hin hd (kk p e R s m args below meth c H locs cells slots mc ms ls C hl hH hS h1 h2 hR)
theorem tb_iastore {o : Nat} {i x : Int32} (hd : decode k.2.1 pc = .ok (.iastore, 1)) (hp : pc + 1 = pc') (hKo : tb_K M o = 100 + 0) (hin : vp_in i (tb_Ln M o)) (kk : tb_Wp E k d rc rs pc' L S (tb_sI M o i.toNatClampNeg x) Q) : tb_Wp E k d rc rs pc L (.inl x :: .inl i :: .inr (.inl o) :: S) M Q := by
  subst hp
  intro p e R s m args below meth c H locs cells slots mc ms ls C hl hH hS h1 h2 hR
  obtain ⟨r, rfl, hr, he⟩ := tb_cell hH (by rw [hKo]; omega)
  rw [tb_arrI hKo (by decide)] at he
  refine W.iast C.1 C.2.1 (hH.1 r _ he) (((tb_cK C).2 0 _ rfl).1 (tb_Ln M (r + 1)) (fun j => .int (tb_I M (r + 1) j))) (fun q => by cases q) (by show ¬ (i < 0 ∨ (arrV _ _ _).slots.size ≤ _); rw [arrV_size]; exact hin) rfl rfl hd fun H1 e z oq => ?_
  refine kk p _ R s m args below meth c H1 _ cells slots mc ms ls C hl (tb_HR_set (M' := tb_sI M (r + 1) i.toNatClampNeg x) hH hr z (fun q h => oq q (Nat.ne_of_lt (Nat.lt_of_lt_of_le h (Nat.le_add_right _ r)))) rfl rfl rfl (tb_arrI (M := tb_sI M (r + 1) i.toNatClampNeg x) hKo (by decide)) (fun o ho => tb_ent_sI ho) (hH.1.set (tb_ws_D E M) he ?_ oq)) (hS.put z oq (by show _ ≤ _; omega)) h1 h2 hR
  show H1[E.2.1.heap.size + r]? = some (vp_cell _ _)
  rw [e, vp_cell_i, vp_cell_i, arrV_store]
  congr 2
  funext q
  by_cases hq : q = i.toNatClampNeg
  · subst hq
    simp [updV, tb_sI, tb_I, va_up]
  · simp [updV, tb_sI, tb_I, va_up, hq]
theorem tb_sastore {o : Nat} {i x : Int32} (hd : decode k.2.1 pc = .ok (.sastore, 1)) (hp : pc + 1 = pc') (hKo : tb_K M o = 100 + 1) (hin : vp_in i (tb_Ln M o)) (kk : tb_Wp E k d rc rs pc' L S (tb_sI M o i.toNatClampNeg (vp_nar .short x)) Q) : tb_Wp E k d rc rs pc L (.inl x :: .inl i :: .inr (.inl o) :: S) M Q := by
  subst hp
  intro p e R s m args below meth c H locs cells slots mc ms ls C hl hH hS h1 h2 hR
  obtain ⟨r, rfl, hr, he⟩ := tb_cell hH (by rw [hKo]; omega)
  rw [tb_arrI hKo (by decide)] at he
  refine W.sast C.1 C.2.1 (hH.1 r _ he) (((tb_cK C).2 1 _ rfl).1 (tb_Ln M (r + 1)) (fun j => .int (tb_I M (r + 1) j))) (fun q => by cases q) (by show ¬ (i < 0 ∨ (arrV _ _ _).slots.size ≤ _); rw [arrV_size]; exact hin) rfl rfl hd fun H1 e z oq => ?_
  refine kk p _ R s m args below meth c H1 _ cells slots mc ms ls C hl (tb_HR_set (M' := tb_sI M (r + 1) i.toNatClampNeg (vp_nar .short x)) hH hr z (fun q h => oq q (Nat.ne_of_lt (Nat.lt_of_lt_of_le h (Nat.le_add_right _ r)))) rfl rfl rfl (tb_arrI (M := tb_sI M (r + 1) i.toNatClampNeg (vp_nar .short x)) hKo (by decide)) (fun o ho => tb_ent_sI ho) (hH.1.set (tb_ws_D E M) he ?_ oq)) (hS.put z oq (by show _ ≤ _; omega)) h1 h2 hR
  show H1[E.2.1.heap.size + r]? = some (vp_cell _ _)
  rw [e, vp_cell_i, vp_cell_i, arrV_store]
  congr 2
  funext q
  by_cases hq : q = i.toNatClampNeg
  · subst hq
    simp [updV, tb_sI, tb_I, va_up, vp_nar, narrow]
  · simp [updV, tb_sI, tb_I, va_up, hq]
theorem tb_castore {o : Nat} {i x : Int32} (hd : decode k.2.1 pc = .ok (.castore, 1)) (hp : pc + 1 = pc') (hKo : tb_K M o = 100 + 2) (hin : vp_in i (tb_Ln M o)) (kk : tb_Wp E k d rc rs pc' L S (tb_sI M o i.toNatClampNeg (vp_nar .char x)) Q) : tb_Wp E k d rc rs pc L (.inl x :: .inl i :: .inr (.inl o) :: S) M Q := by
  subst hp
  intro p e R s m args below meth c H locs cells slots mc ms ls C hl hH hS h1 h2 hR
  obtain ⟨r, rfl, hr, he⟩ := tb_cell hH (by rw [hKo]; omega)
  rw [tb_arrI hKo (by decide)] at he
  refine W.cast C.1 C.2.1 (hH.1 r _ he) (((tb_cK C).2 2 _ rfl).1 (tb_Ln M (r + 1)) (fun j => .int (tb_I M (r + 1) j))) (fun q => by cases q) (by show ¬ (i < 0 ∨ (arrV _ _ _).slots.size ≤ _); rw [arrV_size]; exact hin) rfl rfl hd fun H1 e z oq => ?_
  refine kk p _ R s m args below meth c H1 _ cells slots mc ms ls C hl (tb_HR_set (M' := tb_sI M (r + 1) i.toNatClampNeg (vp_nar .char x)) hH hr z (fun q h => oq q (Nat.ne_of_lt (Nat.lt_of_lt_of_le h (Nat.le_add_right _ r)))) rfl rfl rfl (tb_arrI (M := tb_sI M (r + 1) i.toNatClampNeg (vp_nar .char x)) hKo (by decide)) (fun o ho => tb_ent_sI ho) (hH.1.set (tb_ws_D E M) he ?_ oq)) (hS.put z oq (by show _ ≤ _; omega)) h1 h2 hR
  show H1[E.2.1.heap.size + r]? = some (vp_cell _ _)
  rw [e, vp_cell_i, vp_cell_i, arrV_store]
  congr 2
  funext q
  by_cases hq : q = i.toNatClampNeg
  · subst hq
    simp [updV, tb_sI, tb_I, va_up, vp_nar, narrow]
  · simp [updV, tb_sI, tb_I, va_up, hq]
theorem tb_zastore {o : Nat} {i x : Int32} (hd : decode k.2.1 pc = .ok (.bastore, 1)) (hp : pc + 1 = pc') (hKo : tb_K M o = 100 + 3) (hin : vp_in i (tb_Ln M o)) (kk : tb_Wp E k d rc rs pc' L S (tb_sI M o i.toNatClampNeg (vp_nar .boolean x)) Q) : tb_Wp E k d rc rs pc L (.inl x :: .inl i :: .inr (.inl o) :: S) M Q := by
  subst hp
  intro p e R s m args below meth c H locs cells slots mc ms ls C hl hH hS h1 h2 hR
  obtain ⟨r, rfl, hr, he⟩ := tb_cell hH (by rw [hKo]; omega)
  rw [tb_arrI hKo (by decide)] at he
  refine W.zast C.1 C.2.1 (hH.1 r _ he) (((tb_cK C).2 3 _ rfl).1 (tb_Ln M (r + 1)) (fun j => .int (tb_I M (r + 1) j))) (fun q => by cases q) (by show ¬ (i < 0 ∨ (arrV _ _ _).slots.size ≤ _); rw [arrV_size]; exact hin) rfl rfl hd fun H1 e z oq => ?_
  refine kk p _ R s m args below meth c H1 _ cells slots mc ms ls C hl (tb_HR_set (M' := tb_sI M (r + 1) i.toNatClampNeg (vp_nar .boolean x)) hH hr z (fun q h => oq q (Nat.ne_of_lt (Nat.lt_of_lt_of_le h (Nat.le_add_right _ r)))) rfl rfl rfl (tb_arrI (M := tb_sI M (r + 1) i.toNatClampNeg (vp_nar .boolean x)) hKo (by decide)) (fun o ho => tb_ent_sI ho) (hH.1.set (tb_ws_D E M) he ?_ oq)) (hS.put z oq (by show _ ≤ _; omega)) h1 h2 hR
  show H1[E.2.1.heap.size + r]? = some (vp_cell _ _)
  rw [e, vp_cell_i, vp_cell_i, arrV_store]
  congr 2
  funext q
  by_cases hq : q = i.toNatClampNeg
  · subst hq
    simp [updV, tb_sI, tb_I, va_up, vp_nar, narrow]
  · simp [updV, tb_sI, tb_I, va_up, hq]
theorem tb_lastore {o : Nat} {i : Int32} {x : Int64} (hd : decode k.2.1 pc = .ok (.lastore, 1)) (hp : pc + 1 = pc') (hKo : tb_K M o = 104) (hin : vp_in i (tb_Ln M o)) (kk : tb_Wp E k d rc rs pc' L S (tb_sJ M o i.toNatClampNeg x) Q) : tb_Wp E k d rc rs pc L (.inr (.inr x) :: .inl i :: .inr (.inl o) :: S) M Q := by
  subst hp
  intro p e R s m args below meth c H locs cells slots mc ms ls C hl hH hS h1 h2 hR
  obtain ⟨r, rfl, hr, he⟩ := tb_cell hH (by rw [hKo]; omega)
  rw [tb_arrJ hKo] at he
  refine W.last C.1 C.2.1 (hH.1 r _ he) (((tb_cK C).2 4 _ rfl).1 (tb_Ln M (r + 1)) (fun j => .long (tb_J M (r + 1) j))) (fun q => by cases q) (by show ¬ (i < 0 ∨ (arrV _ _ _).slots.size ≤ _); rw [arrV_size]; exact hin) rfl rfl hd fun H1 e z oq => ?_
  refine kk p _ R s m args below meth c H1 _ cells slots mc ms ls C hl (tb_HR_set (M' := tb_sJ M (r + 1) i.toNatClampNeg x) hH hr z (fun q h => oq q (Nat.ne_of_lt (Nat.lt_of_lt_of_le h (Nat.le_add_right _ r)))) rfl rfl rfl (tb_arrJ (M := tb_sJ M (r + 1) i.toNatClampNeg x) hKo) (fun o ho => tb_ent_sJ ho) (hH.1.set (tb_ws_D E M) he ?_ oq)) (hS.put z oq (by show _ ≤ _; omega)) h1 h2 hR
  show H1[E.2.1.heap.size + r]? = some (vp_cell _ _)
  rw [e, vp_cell_l, vp_cell_l, arrV_store]
  congr 2
  funext q
  by_cases hq : q = i.toNatClampNeg
  · subst hq
    simp [updV, tb_sJ, tb_J, va_up]
  · simp [updV, tb_sJ, tb_J, va_up, hq]
theorem tb_aastore {C0 : String} {T : u_T} {N ci o t v : Nat} {i : Int32} (hd : decode k.2.1 pc = .ok (.aastore, 1)) (hp : pc + 1 = pc') (ht : 4 < t) (hty : tb_ty[t]? = some (.object C0)) (hc : tb_cl[ci]? = some (C0, T, N)) (hci : ci < 99) (hKo : tb_K M o = 100 + t) (hKv : tb_K M v = ci + 1) (hin : vp_in i (tb_Ln M o)) (kk : tb_Wp E k d rc rs pc' L S (tb_sR M o i.toNatClampNeg v) Q) : tb_Wp E k d rc rs pc L (.inr (.inl v) :: .inl i :: .inr (.inl o) :: S) M Q := by
  subst hp
  intro p e R s m args below meth c H locs cells slots mc ms ls C hl hH hS h1 h2 hR
  obtain ⟨r, rfl, hr, he⟩ := tb_cell hH (by rw [hKo]; omega)
  obtain ⟨rv, rfl, hrv, hev⟩ := tb_cell hH (o := v) (by rw [hKv]; omega)
  rw [tb_arrR hKo ht] at he
  rw [tb_obj hKv hci] at hev
  have hlt : i.toNatClampNeg < tb_Ln M (r + 1) := Nat.not_le.mp fun q => hin (Or.inr q)
  have h0 : ¬ i < 0 := fun q => hin (Or.inl q)
  obtain ⟨r', hr', cellV, g1, g2, g3, -⟩ := hH.1 rv _ hev
  have hcls := ((tb_cK C).1 ci _ hc).2
  obtain ⟨kA, comp, k1, k2, k3, -⟩ := ((tb_cK C).2 t (E.2.2.2.2 t, .object C0) (by simp [tb_tys, hty])).2
  have hcomp : comp = E.2.2.2.1.1 ci := Option.some.inj (k3.symm.trans hcls.1)
  subst hcomp
  obtain ⟨kC, hkC, -⟩ := hcls.2
  refine W.aast C.1 C.2.1 (hH.1 r _ he) (fun q h => by cases h) (fun h => by cases h) k1 k2 rfl hkC ⟨h0, by show _ < (arrV _ _ _).slots.size; rw [arrV_size]; exact hlt⟩ g1 (fun q h => by rw [g3] at h; cases h) (by rw [g2]; exact hkC) (by rw [g2]; exact va_assign hcls) rfl rfl hd fun H1 e z oq => ?_
  refine kk p _ R s m args below meth c H1 _ cells slots mc ms ls C hl (tb_HR_set (M' := tb_sR M (r + 1) i.toNatClampNeg (rv + 1)) hH hr z (fun q h => oq q (Nat.ne_of_lt (Nat.lt_of_lt_of_le h (Nat.le_add_right _ r)))) rfl rfl rfl (tb_arrR (M := tb_sR M (r + 1) i.toNatClampNeg (rv + 1)) hKo ht) (fun o ho => tb_ent_sR ho) (hH.1.set (tb_ws_D E M) he ?_ oq)) (hS.put z oq (by show _ ≤ _; omega)) h1 h2 hR
  show H1[E.2.1.heap.size + r]? = some (vp_cell _ _)
  rw [e, vp_cell_q, vp_cell_q, arrV_store]
  congr 2
  funext q
  by_cases hq : q = i.toNatClampNeg
  · subst hq
    simp [updV, tb_sR, tb_R, va_up, va_rf, tb_ro]
  · simp [updV, tb_sR, tb_R, va_up, hq]
end Mem
