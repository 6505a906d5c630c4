/-! Making cells. -/
section New
variable {E : tb_E} {k : tb_MD} {d rc rs pc pc' : Nat} {L : List tb_L} {S : List tb_V} {M : tb_M} {Q : tb_O → tb_M → Prop}
theorem tb_ws_new {kind len : Nat} : tb_ws E (tb_new M kind len) = tb_ws E M ++ [(E.2.1.heap.size + tb_n M, tb_en E tb_ft kind len (fun _ => 0) (fun _ => 0) (fun _ => 0))] := by
  apply List.ext_getElem?
  intro i
  have e1 : (tb_ws E M).length = tb_n M := by simp [tb_ws]
  have e2 : (tb_ws E (tb_new M kind len)).length = tb_n M + 1 := by simp [tb_ws, tb_new, tb_n]
  rcases Nat.lt_trichotomy i (tb_n M) with h | h | h
  · rw [List.getElem?_append_left (by omega), tb_ws_get h, tb_ws_get (M := tb_new M kind len) (by show i < tb_n M + 1; omega)]
    have hne : ¬ i = tb_n M := by omega
    simp [tb_ent, tb_new, tb_K, tb_Ln, tb_I, tb_R, tb_J, va_up, hne]
  · subst h
    rw [List.getElem?_append_right (by omega), tb_ws_get (M := tb_new M kind len) (by show tb_n M < tb_n M + 1; omega), e1]
    simp [tb_ent, tb_new, tb_K, tb_Ln, tb_I, tb_R, tb_J, va_up]
  · rw [List.getElem?_eq_none (by omega), List.getElem?_eq_none (by simp; omega)]
/-- one more cell in the heap: the memory with one more -/
theorem tb_HR_new {kind len : Nat} {H H1 : Heap} (hk : kind ≠ 0) (hH : tb_HR E M H) (hu : tb_u M = true) (z1 : H1.size = H.size + 1) (o1 : ∀ q : Nat, q < H.size → H1[q]? = H[q]?) (hn : va_at E.2.2.2.1 tb_cl (H.size, tb_en E tb_ft kind len (fun _ => 0) (fun _ => 0) (fun _ => 0)) H1) : tb_HR E (tb_new M kind len) H1 := by
  obtain ⟨g1, g2, g3, g4, g5, g6⟩ := hH
  have hz := g6 hu
  refine ⟨?_, fun q h => (o1 q (by omega)).trans (g2 q h), ?_, ?_, by omega, fun _ => by show H1.size = _ + (tb_n M + 1); omega⟩
  · rw [tb_ws_new]
    refine (g1.kept (fun k x hx => o1 x.1 ((g1 k x hx).lt))).app (fun k x hx => ?_)
    have hz2 : k < 1 := (List.getElem?_eq_some_iff.mp hx).1
    rw [show k = 0 by omega] at hx
    cases hx
    rw [← hz]
    exact hn
  · have hne : ¬ 0 = tb_n M + 1 := by omega
    simp [tb_new, tb_K, va_up]
    exact g3
  · intro o ho
    have ho' : tb_n M + 1 < o := ho
    have hne : ¬ o = tb_n M + 1 := by omega
    show va_up (tb_K M) (tb_n M + 1) kind o = 0
    unfold va_up
    rw [if_neg hne]
    exact g4 o (by omega)
theorem tb_newO {C0 : String} {T : u_T} {N ci index : Nat} (hd : decode k.2.1 pc = .ok (.new index, 3)) (hp : pc + 3 = pc') (hc : tb_cl[ci]? = some (C0, T, N)) (hci : ci < 99) (hin : ∀ w ∈ u_ws C0 T N, tb_I1 w) (ty0 : Nat → FieldType) (hty : ∀ k, k < N → parseFieldDescriptor (T k).2.2.1 = some (ty0 k))
    (hfs : ∀ j, j < N → defaultValue (ty0 j) = vp_V (tb_fs E (fun _ => 0) (fun _ => 0) 0 ((tb_ft[ci]?).getD [])) j) (w1 : tb_I1 (Cond.classLink k.1.cls index C0)) (w2 : tb_I1 (Cond.instantiable C0 N)) (w3 : tb_I1 (Cond.initialized C0)) (hu : tb_u M = true) (hrc : 1 ≤ rc) (hrs : N ≤ rs)
    (kk : tb_Wp E k d (rc - 1) (rs - N) pc' L (.inr (.inl (tb_n M + 1)) :: S) (tb_new M (ci + 1) 0) Q) : tb_Wp E k d rc rs pc L S M Q := by
  subst hp
  intro p e R s m args below meth c H locs cells slots mc ms ls C hl hH hS h1 h2 hR
  have hts := tb_cw C args
  have hKn := (tb_cK C).1 ci _ hc
  have hz : H.size = E.2.1.heap.size + tb_n M := hH.2.2.2.2.2 hu
  refine W.newcK C.1 C.2.1 (tb_cO C) (hts _ w1) (hts _ w2) (hts _ w3) rfl hd (by have := hR.2.2.1; omega) (by have := hR.2.2.2; omega) hKn.2.1 hz fun H1 kC hkC e1 z1 o1 => ?_
  have hH1 : tb_HR E (tb_new M (ci + 1) 0) H1 := by
    refine tb_HR_new (by omega) hH hu (by omega) (fun q h => o1 q (by omega)) ?_
    unfold tb_en
    rw [if_pos (by omega), hz]
    exact ⟨_, hc, (u_born ty0 (fun w h => hts w (hin w h)) (fun _ h => h) hKn hkC e1 hty).to hfs⟩
  exact kk p e R s m args below meth c H1 locs (cells + 1) (slots + N) mc ms ls C hl hH1 ⟨Nat.le_trans hS.1 (by omega), fun x h3 h4 => (o1 x (by have := hS.1; omega)).trans (hS.2.1 x h3 h4), hS.2.2⟩ (by omega) (by omega) hR
theorem tb_newA {atype : ArrayType} {t N : Nat} {ty : FieldType} {n : Int32} (hd : decode k.2.1 pc = .ok (.newarray atype, 2)) (hp : pc + 2 = pc') (hty : newarray.typeOf atype = ty) (hnr : ∀ C, ty ≠ .object C) (ht : tb_ty[t]? = some ty) (hN : n.toNatClampNeg = N) (hn : ¬ n < 0) (hb : N * componentBytes ty ≤ 536870912) (w1 : tb_I1 (Cond.arrayClass ty)) (hen : ∀ cA : ClassId, E.2.2.2.2 t = cA → ∀ H1 : Heap, ∀ a : Nat, H1[a]? = some (arrV cA N (fun _ => defaultValue ty)) → va_at E.2.2.2.1 tb_cl (a, tb_en E tb_ft (100 + t) N (fun _ => 0) (fun _ => 0) (fun _ => 0)) H1) (hu : tb_u M = true) (hrc : 1 ≤ rc) (hrs : N ≤ rs)
    (kk : tb_Wp E k d (rc - 1) (rs - N) pc' L (.inr (.inl (tb_n M + 1)) :: S) (tb_new M (100 + t) N) Q) : tb_Wp E k d rc rs pc L (.inl n :: S) M Q := by
  subst hp; subst hty
  intro p e R s m args below meth c H locs cells slots mc ms ls C hl hH hS h1 h2 hR
  have hts := tb_cw C args
  have hz : H.size = E.2.1.heap.size + tb_n M := hH.2.2.2.2.2 hu
  refine va_newaK C.1 C.2.1 (hts _ w1) rfl hd rfl hn hN hb (by have := hR.2.2.1; omega) (by have := hR.2.2.2; omega) hz fun H1 cA e1 z1 o1 hAr hNm => ?_
  have hcA : E.2.2.2.2 t = cA := by
    have h := ((tb_cK C).2 t (E.2.2.2.2 t, newarray.typeOf atype) (by simp [tb_tys, ht])).2
    unfold va_RA at h
    cases hq : newarray.typeOf atype <;> rw [hq] at h hNm <;> first | exact absurd hq (hnr _) | exact Option.some.inj (h.symm.trans hNm)
  have hH1 : tb_HR E (tb_new M (100 + t) N) H1 := by
    refine tb_HR_new (by omega) hH hu (by omega) (fun q h => o1 q (by omega)) ?_
    rw [hz]
    exact hen cA hcA H1 _ e1
  exact kk p e R s m args below meth c H1 locs (cells + 1) (slots + N) mc ms ls C hl hH1 ⟨Nat.le_trans hS.1 (by omega), fun x h3 h4 => (o1 x (by have := hS.1; omega)).trans (hS.2.1 x h3 h4), hS.2.2⟩ (by omega) (by omega) hR
theorem tb_enI {t N : Nat} (ht : t < 4) (ty : FieldType) (hz : defaultValue ty = .int 0) : ∀ cA : ClassId, E.2.2.2.2 t = cA → ∀ H1 : Heap, ∀ a : Nat, H1[a]? = some (arrV cA N (fun _ => defaultValue ty)) → va_at E.2.2.2.1 tb_cl (a, tb_en E tb_ft (100 + t) N (fun _ => 0) (fun _ => 0) (fun _ => 0)) H1 := by
  intro cA hcA H1 a h
  unfold tb_en
  rw [if_neg (by omega), if_pos (by omega), show 100 + t - 100 = t by omega, hcA]
  show H1[a]? = some (vp_cell _ _)
  rw [vp_cell_i, h, hz]
theorem tb_enJ {N : Nat} : ∀ cA : ClassId, E.2.2.2.2 4 = cA → ∀ H1 : Heap, ∀ a : Nat, H1[a]? = some (arrV cA N (fun _ => defaultValue .long)) → va_at E.2.2.2.1 tb_cl (a, tb_en E tb_ft (100 + 4) N (fun _ => 0) (fun _ => 0) (fun _ => 0)) H1 := by
  intro cA hcA H1 a h
  unfold tb_en
  rw [if_neg (by omega), if_neg (by omega), if_pos rfl, hcA]
  show H1[a]? = some (vp_cell _ _)
  rw [vp_cell_l, h]
  rfl
theorem tb_newR {C0 : String} {t N index : Nat} {n : Int32} (hd : decode k.2.1 pc = .ok (.anewarray index, 3)) (hp : pc + 3 = pc') (ht4 : 4 < t) (ht : tb_ty[t]? = some (.object C0)) (hN : n.toNatClampNeg = N) (hn : ¬ n < 0) (hb : N * 4 ≤ 536870912) (w1 : tb_I1 (Cond.classLink k.1.cls index C0)) (w2 : Cond.arrayOver (.object C0) ∈ tb_nest) (hu : tb_u M = true) (hrc : 1 ≤ rc) (hrs : N ≤ rs)
    (kk : tb_Wp E k d (rc - 1) (rs - N) pc' L (.inr (.inl (tb_n M + 1)) :: S) (tb_new M (100 + t) N) Q) : tb_Wp E k d rc rs pc L (.inl n :: S) M Q := by
  subst hp; subst hN
  intro p e R s m args below meth c H locs cells slots mc ms ls C hl hH hS h1 h2 hR
  have hts := tb_cw C args
  have hz : H.size = E.2.1.heap.size + tb_n M := hH.2.2.2.2.2 hu
  refine W.anew C.1 C.2.1 (tb_cO C) (hts _ w1) (va_AO.use (A := args) (tb_cNw C w2)) rfl hd rfl hn hb (by have := hR.2.2.1; omega) (by have := hR.2.2.2; omega) fun cA kA comp f1 f2 f3 f4 => ?_
  generalize hH1 : H.push ({ cls := cA, slots := Array.replicate n.toNatClampNeg .null, vm := .none } : Cell) = H1
  have z1 : H1.size = H.size + 1 := by rw [← hH1, Array.size_push]
  have e1 : H1[H.size]? = some (arrV cA n.toNatClampNeg (fun _ => .null)) := by rw [← hH1, Array.getElem?_push_size, ← arrV_new]
  have o1 : ∀ q : Nat, q < H.size → H1[q]? = H[q]? := fun q hq => by rw [← hH1, Array.getElem?_push, if_neg (Nat.ne_of_lt hq)]
  have hcA : E.2.2.2.2 t = cA := by
    obtain ⟨kA', comp', -, -, -, h9⟩ := ((tb_cK C).2 t (E.2.2.2.2 t, .object C0) (by simp [tb_tys, ht])).2
    exact Option.some.inj (h9.symm.trans f1)
  have hHR : tb_HR E (tb_new M (100 + t) n.toNatClampNeg) H1 := by
    refine tb_HR_new (by omega) hH hu z1 o1 ?_
    unfold tb_en
    rw [if_neg (by omega), if_neg (by omega), if_neg (by omega), show 100 + t - 100 = t by omega, hcA]
    show H1[H.size]? = some (vp_cell _ _)
    rw [vp_cell_q, e1]
    rfl
  have hgoal := kk p e R s m args below meth c H1 locs (cells + 1) (slots + n.toNatClampNeg) mc ms ls C hl hHR ⟨Nat.le_trans hS.1 (by omega), fun x h3 h4 => (o1 x (by have := hS.1; omega)).trans (hS.2.1 x h3 h4), hS.2.2⟩ (by omega) (by omega) hR
  rw [hz]
  exact hgoal
theorem tb_objInit {index o : Nat} (hd : decode k.2.1 pc = .ok (.invokespecial index, 3)) (hp : pc + 3 = pc') (w1 : tb_I1 (Cond.methodLink k.1.cls index Lib.objectInit)) (w2 : tb_I1 (Cond.instanceMethod Lib.objectInit)) (w3 : tb_I1 (Cond.code Lib.objectInit ⟨#[0xb1]⟩ 1 none)) (hKo : tb_K M o ≠ 0) (hdd : 1 ≤ d) (hS4 : S.length ≤ 4)
    (kk : tb_Wp E k d rc rs pc' L S M Q) : tb_Wp E k d rc rs pc L (.inr (.inl o) :: S) M Q := by
  subst hp
  intro p e R s m args below meth c H locs cells slots mc ms ls C hl hH hS h1 h2 hR
  have hts := tb_cw C args
  obtain ⟨r, rfl, hr, he⟩ := tb_cell hH hKo
  have hcat := tb_cats (E := E) hS4
  exact W.objInit C.1 C.2.1 (tb_cO C) (hts _ w1) (hts _ w2) (hts _ w3) rfl (hl.1.trans C.2.2.1.symm) rfl hd (Nat.le_trans hdd hR.1) (by show 2 * 0 + _ + 12 ≤ R.locals; have := hR.2.1; omega) (kk p e R s m args below meth c H locs cells slots mc ms ls C hl hH hS h1 h2 hR)
end New
