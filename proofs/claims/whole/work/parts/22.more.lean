/-! Switches, long comparisons, Math.min, the constructor of a nest mate. -/
section More
variable {E : tb_E} {k : tb_MD} {d rc rs pc pc' : Nat} {L : List tb_L} {S : List tb_V} {M : tb_M} {Q : tb_O → tb_M → Prop}
theorem tb_lookup {dflt : Int} {ps : Array (Int × Int)} {len : Nat} {x : Int32} (off : Int) (tg : Nat) (hd : decode k.2.1 pc = .ok (.lookupswitch dflt ps, len)) (hp : (ps.toList.zip (ps.toList.drop 1)).all (fun (a, next) => a.1 < next.1) = true) (ho : Op.lookupswitch.offset ps.toList dflt x.toInt = off) (ht : (pc : Int) + off = (tg : Int)) (kk : tb_Wp E k d rc rs tg L S M Q) : tb_Wp E k d rc rs pc L (.inl x :: S) M Q := by
  intro p e R s m args below meth c H locs cells slots mc ms ls C hl hH hS h1 h2 hR
  exact lv_lookup C.1 C.2.1 hd hp ho ht (kk p e R s m args below meth c H locs cells slots mc ms ls C hl hH hS h1 h2 hR)
theorem tb_tableOut {dflt lo hi : Int} {offs : Array Int} {len : Nat} {x : Int32} (tg : Nat) (hd : decode k.2.1 pc = .ok (.tableswitch dflt lo hi offs, len)) (h : x.toInt < lo ∨ hi < x.toInt) (ht : (pc : Int) + dflt = (tg : Int)) (kk : tb_Wp E k d rc rs tg L S M Q) : tb_Wp E k d rc rs pc L (.inl x :: S) M Q := by
  intro p e R s m args below meth c H locs cells slots mc ms ls C hl hH hS h1 h2 hR
  exact lv_tableOut C.1 C.2.1 hd h ht (kk p e R s m args below meth c H locs cells slots mc ms ls C hl hH hS h1 h2 hR)
theorem tb_tableIn {dflt lo hi : Int} {offs : Array Int} {len : Nat} {x : Int32} (off : Int) (tg : Nat) (hd : decode k.2.1 pc = .ok (.tableswitch dflt lo hi offs, len)) (g1 : ¬ x.toInt < lo) (g2 : ¬ hi < x.toInt) (ho : offs[(x.toInt - lo).toNat]? = some off) (ht : (pc : Int) + off = (tg : Int)) (kk : tb_Wp E k d rc rs tg L S M Q) : tb_Wp E k d rc rs pc L (.inl x :: S) M Q := by
  intro p e R s m args below meth c H locs cells slots mc ms ls C hl hH hS h1 h2 hR
  exact lv_tableIn C.1 C.2.1 hd g1 g2 ho ht (kk p e R s m args below meth c H locs cells slots mc ms ls C hl hH hS h1 h2 hR)
theorem tb_lcmp {x y : Int64} (hd : decode k.2.1 pc = .ok (.lcmp, 1)) (hp : pc + 1 = pc') (kk : tb_Wp E k d rc rs pc' L (.inl (lg_cmp x y) :: S) M Q) : tb_Wp E k d rc rs pc L (.inr (.inr y) :: .inr (.inr x) :: S) M Q := by
  subst hp
  intro p e R s m args below meth c H locs cells slots mc ms ls C hl hH hS h1 h2 hR
  exact W.lcmp C.1 C.2.1 hd (kk p e R s m args below meth c H locs cells slots mc ms ls C hl hH hS h1 h2 hR)
theorem tb_mmin {index : Nat} {x y : Int32} (hd : decode k.2.1 pc = .ok (.invokestatic index, 3)) (hp : pc + 3 = pc') (w1 : tb_I1 (Cond.methodLink k.1.cls index Lib.Math.min.name)) (w2 : tb_I1 (Cond.static Lib.Math.min.name)) (w3 : tb_I1 (Cond.initialized "java/lang/Math")) (w4 : tb_I1 (Cond.code Lib.Math.min.name Lib.Math.min.code 2 (some .int))) (hdd : 1 ≤ d) (hS4 : S.length ≤ 4) (kk : tb_Wp E k d rc rs pc' L (.inl (if y < x then y else x) :: S) M Q) : tb_Wp E k d rc rs pc L (.inl y :: .inl x :: S) M Q := by
  subst hp
  intro p e R s m args below meth c H locs cells slots mc ms ls C hl hH hS h1 h2 hR
  have hcat := tb_cats (E := E) hS4
  exact va_mmin C.1 C.2.1 (C.2.2.1.trans hl.1.symm) (tb_cO C) (tb_cw C args _ w1) (tb_cw C args _ w2) (tb_cw C args _ w3) (tb_cw C args _ w4) (Nat.le_trans hdd hR.1) (by have := hR.2.1; omega) (by have := hR.2.2.1; omega) (by have := hR.2.2.2; omega) hd (kk p e R s m args below meth c H locs cells slots mc ms ls C hl hH hS h1 h2 hR)
def tb_SIN (own : String) (index : Nat) (k' : tb_MD) (n : Nat) (host : String) : Prop := tb_SB k' n ∧ k'.2.2.2.2 = [] ∧ k'.2.2.2.1 = none ∧ k'.1.name = "<init>" ∧ Cond.methodLinkNest own index k'.1 host ∈ tb_nest ∧ tb_I1 (Cond.instanceMethod k'.1)
theorem tb_callIN {host : String} {index n d' mc' ms' o : Nat} {k' : tb_MD} {A St : List tb_V} {Q' : tb_O → tb_M → Prop} (hs : tb_SIN k.1.cls index k' n host) (hd : decode k.2.1 pc = .ok (.invokespecial index, 3)) (hp : pc + 3 = pc') (hSt : A.reverse ++ .inr (.inl o) :: S = St) (hn : A.length = n) (hS4 : S.length ≤ 4) (hKo : tb_K M o ≠ 0) (hdd : d' + 1 ≤ d) (hrc : mc' ≤ rc) (hrs : ms' ≤ rs) (hok : tb_Ok E k' d' mc' ms' (.inr (.inl o) :: A) M Q') (kr : ∀ v M', Q' (.inl v) M' → tb_Wp E k d (rc - mc') (rs - ms') pc' L (v.toList ++ S) M' Q) (kx : ∀ x M', Q' (.inr x) M' → k.2.2.2.2 = [] ∧ Q (.inr x) M') : tb_Wp E k d rc rs pc L St M Q := by
  subst hp; subst hSt
  intro p e R s m args below meth c H locs cells slots mc ms ls C hl hH hS h1 h2 hR
  obtain ⟨⟨b1, b2, b3, b4, b5, b6⟩, hh, hret, hnm, w1, w2⟩ := hs
  have hts := tb_cw C args
  obtain ⟨r, rfl, hr, he⟩ := tb_cell hH hKo
  have hcode := hts _ b1
  rw [tb_hcode0 hh, hret] at hcode
  have hI := tb_InvIN (l := E.1) (e := e) (R := R) (below := below) (meth := meth) (H := H) (locs := locs) (cells := cells) (slots := slots) (a := E.2.1.heap.size + r) (g := F0 m pc ls ((A.reverse ++ .inr (.inl (r + 1)) :: S).map (tv E))) (argsL := A.map (tv E)) (rest := S.map (tv E)) C.1 (tb_cO C) hnm (va_Nw.use rfl (tb_cNw C w1)) (hts _ w2) hcode b3 rfl (fun sig h => by rw [List.length_map, hn]; exact tb_parn b4 sig h) (tb_map_rev E A _) (by rw [C.2.1]; exact hd)
  refine tb_callW (k' := k') (A := .inr (.inl (r + 1)) :: A) (rest := S.map (tv E)) hI hok (tb_cW C) (hts _ b1) b6 (hts _ b2) hH hS (hl.1.trans C.2.2.1.symm) (tb_cats hS4) (by rw [C.2.1]; exact hd) hR hdd b5 (by omega) (by omega) ?_ ?_
  · intro v M' hQ H' locs' hH' hS'
    have hk := kr v M' hQ p e R s m args below meth c H' locs' (cells + mc') (slots + ms') mc ms ls C hl hH' hS' (by omega) (by omega) hR
    cases v <;> exact hk
  · intro x M' hQ H' locs' a cell hH' hS' c1 c2 c3
    obtain ⟨g1, g2⟩ := kx x M' hQ
    exact tb_leave C g1 g2 hH' hS' c1 c2 c3 (by omega) (by omega)
end More
