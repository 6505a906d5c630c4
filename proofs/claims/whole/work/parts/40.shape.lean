/-! The shape: which cell is what, once the law has made its objects. -/
/-- kinds: 1 Deed, 2 Log, 3 Script, 4 Shelf, 5 Store, 6 Text, 7 Trace, 8 TracedBuild, 9 the reference; 100 + t: an array -/
def gK (o : Nat) : Nat :=
  if o = 0 then 0 else if o = 1 then 8 else if o = 2 then 6 else if o = 3 then 102 else if o = 4 then 3 else if o = 5 then 105
  else if o < 26 then (if o % 2 = 0 then 6 else 102)
  else if o = 26 then 4 else if o = 29 then 4 else if o = 27 then 100 else if o = 30 then 100 else if o = 28 then 101 else if o = 31 then 101
  else if o = 32 then 5 else if o = 33 then 106
  else if o < 178 then (if (o - 34) % 6 = 0 then 7 else if (o - 34) % 6 = 1 then 6 else if (o - 34) % 6 = 2 then 102 else if (o - 34) % 6 = 3 then 4 else if (o - 34) % 6 = 4 then 100 else 101)
  else if o = 178 then 2 else if o = 179 then 107 else if o < 190 then 1
  else if o = 190 then 9 else if o = 209 then 103 else if o = 210 then 103 else if o = 216 then 103 else if o < 217 then 100 else if o = 217 then 104 else 0
def gLm : List Nat := [12, 72, 12, 72, 12, 10, 120, 25, 300, 25, 25, 25, 300, 1800, 25, 25, 150, 6, 10, 10, 10, 10, 10, 10, 10, 10]
def gL (o : Nat) : Nat :=
  if o = 3 then 12 else if o = 5 then 10 else if o < 26 then 12 else if o = 27 then 12 else if o = 30 then 12 else if o = 28 then 72 else if o = 31 then 72 else if o = 33 then 24
  else if o < 178 then (if (o - 34) % 6 = 2 then 12 else if (o - 34) % 6 = 4 then 13 else if (o - 34) % 6 = 5 then 78 else 0)
  else if o = 179 then 10 else if o = 217 then 1 else if 191 ≤ o then gLm.getD (o - 191) 0 else 0
theorem gK_big {o : Nat} (h : 218 ≤ o) : gK o = 0 := by
  unfold gK
  rw [if_neg (by omega), if_neg (by omega), if_neg (by omega), if_neg (by omega), if_neg (by omega), if_neg (by omega), if_neg (by omega), if_neg (by omega), if_neg (by omega), if_neg (by omega), if_neg (by omega), if_neg (by omega), if_neg (by omega), if_neg (by omega), if_neg (by omega), if_neg (by omega), if_neg (by omega), if_neg (by omega), if_neg (by omega), if_neg (by omega), if_neg (by omega), if_neg (by omega), if_neg (by omega), if_neg (by omega), if_neg (by omega)]
theorem gK_lt {o : Nat} (h : gK o ≠ 0) : o < 218 := Nat.lt_of_not_le fun q => h (gK_big q)
/-- the arrays of the reference, by its fields -/
def gMo (j : Nat) : Nat := match j with
  | 1 => 191
  | 2 => 192
  | 3 => 193
  | 4 => 194
  | 6 => 195
  | 8 => 196
  | 9 => 197
  | 11 => 198
  | 12 => 199
  | 13 => 200
  | 14 => 201
  | 15 => 202
  | 16 => 203
  | 17 => 204
  | 18 => 205
  | 19 => 206
  | 20 => 207
  | 25 => 208
  | 27 => 209
  | 28 => 210
  | 29 => 211
  | 30 => 212
  | 31 => 213
  | 32 => 214
  | 33 => 215
  | 34 => 216
  | _ => 0
/-- the references that never change -/
def FR (R : Nat → Nat → Nat) : Prop := (R 1 0 = 2 ∧ R 1 1 = 4 ∧ R 1 2 = 26 ∧ R 1 3 = 29 ∧ R 1 4 = 32 ∧ R 1 5 = 178 ∧ R 4 0 = 5 ∧ R 32 0 = 33 ∧ R 178 0 = 179) ∧ (∀ t, gK t = 6 → R t 0 = t + 1) ∧ (∀ t, gK t = 4 → R t 0 = t + 1 ∧ R t 1 = t + 2) ∧ (∀ t, gK t = 7 → R t 0 = t + 1 ∧ R t 1 = t + 3) ∧ (∀ k, k < 10 → R 179 k = 180 + k) ∧ ∀ j, gMo j ≠ 0 → R 190 j = gMo j
def Sh (M : tb_M) : Prop := tb_K M = gK ∧ tb_Ln M = gL ∧ FR (tb_R M)
theorem gK_tx : ∀ t, t < 218 → gK t = 6 → gK (t + 1) = 102 ∧ gL (t + 1) = 12 := by decide +kernel
theorem gK_sh : ∀ t, t < 218 → gK t = 4 → gK (t + 1) = 100 ∧ gK (t + 2) = 101 ∧ 12 ≤ gL (t + 1) ∧ gL (t + 1) ≤ 13 ∧ gL (t + 2) = 6 * gL (t + 1) := by decide +kernel
theorem gK_tr : ∀ t, t < 218 → gK t = 7 → gK (t + 1) = 6 ∧ gK (t + 3) = 4 ∧ gL (t + 4) = 13 ∧ gL (t + 5) = 78 := by decide +kernel
theorem Sh.k {M : tb_M} (h : Sh M) {o c : Nat} (ho : gK o = c) : tb_K M o = c := (congrFun h.1 o).trans ho
theorem Sh.l {M : tb_M} (h : Sh M) {o c : Nat} (ho : gL o = c) : tb_Ln M o = c := (congrFun h.2.1 o).trans ho
theorem Sh.tx {M : tb_M} (h : Sh M) {t : Nat} (ht : gK t = 6) : tb_K M t = 6 ∧ tb_R M t 0 = t + 1 ∧ tb_K M (t + 1) = 102 ∧ tb_Ln M (t + 1) = 12 := by
  have h1 := gK_tx t (gK_lt (by omega)) ht
  exact ⟨h.k ht, h.2.2.2.1 t ht, h.k h1.1, h.l h1.2⟩
theorem tb_topI {E : tb_E} {k : tb_MD} {d rc rs pc : Nat} {L : List tb_L} {S : List tb_V} {M : tb_M} {Q : tb_O → tb_M → Prop} {x y : Int32} (h : x = y) (kk : tb_Wp E k d rc rs pc L (.inl y :: S) M Q) : tb_Wp E k d rc rs pc L (.inl x :: S) M Q := h ▸ kk
theorem tb_topR {E : tb_E} {k : tb_MD} {d rc rs pc : Nat} {L : List tb_L} {S : List tb_V} {M : tb_M} {Q : tb_O → tb_M → Prop} {x y : Nat} (h : x = y) (kk : tb_Wp E k d rc rs pc L (.inr (.inl y) :: S) M Q) : tb_Wp E k d rc rs pc L (.inr (.inl x) :: S) M Q := h ▸ kk
/-- a contract that answers v and leaves M' -/
abbrev tb_Ret (E : tb_E) (k : tb_MD) (d : Nat) (A : List tb_V) (M : tb_M) (v : Option tb_V) (M' : tb_M) : Prop := tb_Ok E k d 0 0 A M (fun o m => o = .inl v ∧ m = M')
/-- a contract that answers v with P v M' -/
abbrev tb_Rel (E : tb_E) (k : tb_MD) (d : Nat) (A : List tb_V) (M : tb_M) (P : Option tb_V → tb_M → Prop) : Prop := tb_Ok E k d 0 0 A M (fun o m => ∃ v, o = .inl v ∧ P v m)
section Rets
variable {E : tb_E} {k : tb_MD} {d rc rs pc pc' : Nat} {L : List tb_L} {S : List tb_V} {M M' : tb_M} {Q : tb_O → tb_M → Prop}
theorem tb_callVr {index ci n o : Nat} {k' : tb_MD} {A St : List tb_V} {v : tb_V} (hs : tb_SV k.1.cls index ci k' n) (hd : decode k.2.1 pc = .ok (.invokevirtual index, 3)) (hp : pc + 3 = pc') (hSt : A.reverse ++ .inr (.inl o) :: S = St) (hn : A.length = n) (hS4 : S.length ≤ 4) (hKo : tb_K M o = ci + 1) (hok : tb_Ret E k' d (.inr (.inl o) :: A) M (some v) M') (kk : tb_Wp E k (d + 1) rc rs pc' L (v :: S) M' Q) : tb_Wp E k (d + 1) rc rs pc L St M Q :=
  tb_callV hs hd hp hSt hn hS4 hKo (Nat.le_refl _) (Nat.zero_le _) (Nat.zero_le _) hok (fun v' m h => by obtain ⟨h1, rfl⟩ := h; cases h1; exact kk) (fun x m h => by cases h.1)
theorem tb_callVv {index ci n o : Nat} {k' : tb_MD} {A St : List tb_V} (hs : tb_SV k.1.cls index ci k' n) (hd : decode k.2.1 pc = .ok (.invokevirtual index, 3)) (hp : pc + 3 = pc') (hSt : A.reverse ++ .inr (.inl o) :: S = St) (hn : A.length = n) (hS4 : S.length ≤ 4) (hKo : tb_K M o = ci + 1) (hok : tb_Ret E k' d (.inr (.inl o) :: A) M none M') (kk : tb_Wp E k (d + 1) rc rs pc' L S M' Q) : tb_Wp E k (d + 1) rc rs pc L St M Q :=
  tb_callV hs hd hp hSt hn hS4 hKo (Nat.le_refl _) (Nat.zero_le _) (Nat.zero_le _) hok (fun v' m h => by obtain ⟨h1, rfl⟩ := h; cases h1; exact kk) (fun x m h => by cases h.1)
theorem tb_callVq {index ci n o : Nat} {k' : tb_MD} {A St : List tb_V} {P : Option tb_V → tb_M → Prop} (hs : tb_SV k.1.cls index ci k' n) (hd : decode k.2.1 pc = .ok (.invokevirtual index, 3)) (hp : pc + 3 = pc') (hSt : A.reverse ++ .inr (.inl o) :: S = St) (hn : A.length = n) (hS4 : S.length ≤ 4) (hKo : tb_K M o = ci + 1) (hok : tb_Rel E k' d (.inr (.inl o) :: A) M P) (kk : ∀ v m, P v m → tb_Wp E k (d + 1) rc rs pc' L (v.toList ++ S) m Q) : tb_Wp E k (d + 1) rc rs pc L St M Q :=
  tb_callV hs hd hp hSt hn hS4 hKo (Nat.le_refl _) (Nat.zero_le _) (Nat.zero_le _) hok (fun v' m h => by obtain ⟨v, h1, h2⟩ := h; cases h1; exact kk v' m h2) (fun x m h => by obtain ⟨v, h1, -⟩ := h; cases h1)
theorem tb_callSr {index n : Nat} {k' : tb_MD} {A St : List tb_V} {v : tb_V} (hs : tb_SS k.1.cls index k' n) (hd : decode k.2.1 pc = .ok (.invokestatic index, 3)) (hp : pc + 3 = pc') (hSt : A.reverse ++ S = St) (hn : A.length = n) (hS4 : S.length ≤ 4) (hok : tb_Ret E k' d (A) M (some v) M') (kk : tb_Wp E k (d + 1) rc rs pc' L (v :: S) M' Q) : tb_Wp E k (d + 1) rc rs pc L St M Q :=
  tb_callS hs hd hp hSt hn hS4 (Nat.le_refl _) (Nat.zero_le _) (Nat.zero_le _) hok (fun v' m h => by obtain ⟨h1, rfl⟩ := h; cases h1; exact kk) (fun x m h => by cases h.1)
theorem tb_callSv {index n : Nat} {k' : tb_MD} {A St : List tb_V} (hs : tb_SS k.1.cls index k' n) (hd : decode k.2.1 pc = .ok (.invokestatic index, 3)) (hp : pc + 3 = pc') (hSt : A.reverse ++ S = St) (hn : A.length = n) (hS4 : S.length ≤ 4) (hok : tb_Ret E k' d (A) M none M') (kk : tb_Wp E k (d + 1) rc rs pc' L S M' Q) : tb_Wp E k (d + 1) rc rs pc L St M Q :=
  tb_callS hs hd hp hSt hn hS4 (Nat.le_refl _) (Nat.zero_le _) (Nat.zero_le _) hok (fun v' m h => by obtain ⟨h1, rfl⟩ := h; cases h1; exact kk) (fun x m h => by cases h.1)
theorem tb_callSq {index n : Nat} {k' : tb_MD} {A St : List tb_V} {P : Option tb_V → tb_M → Prop} (hs : tb_SS k.1.cls index k' n) (hd : decode k.2.1 pc = .ok (.invokestatic index, 3)) (hp : pc + 3 = pc') (hSt : A.reverse ++ S = St) (hn : A.length = n) (hS4 : S.length ≤ 4) (hok : tb_Rel E k' d (A) M P) (kk : ∀ v m, P v m → tb_Wp E k (d + 1) rc rs pc' L (v.toList ++ S) m Q) : tb_Wp E k (d + 1) rc rs pc L St M Q :=
  tb_callS hs hd hp hSt hn hS4 (Nat.le_refl _) (Nat.zero_le _) (Nat.zero_le _) hok (fun v' m h => by obtain ⟨v, h1, h2⟩ := h; cases h1; exact kk v' m h2) (fun x m h => by obtain ⟨v, h1, -⟩ := h; cases h1)
theorem tb_callSNr {index n : Nat} {host : String} {k' : tb_MD} {A St : List tb_V} {v : tb_V} (hs : tb_SSN k.1.cls index k' n host) (hd : decode k.2.1 pc = .ok (.invokestatic index, 3)) (hp : pc + 3 = pc') (hSt : A.reverse ++ S = St) (hn : A.length = n) (hS4 : S.length ≤ 4) (hok : tb_Ret E k' d (A) M (some v) M') (kk : tb_Wp E k (d + 1) rc rs pc' L (v :: S) M' Q) : tb_Wp E k (d + 1) rc rs pc L St M Q :=
  tb_callSN hs hd hp hSt hn hS4 (Nat.le_refl _) (Nat.zero_le _) (Nat.zero_le _) hok (fun v' m h => by obtain ⟨h1, rfl⟩ := h; cases h1; exact kk) (fun x m h => by cases h.1)
theorem tb_callSNv {index n : Nat} {host : String} {k' : tb_MD} {A St : List tb_V} (hs : tb_SSN k.1.cls index k' n host) (hd : decode k.2.1 pc = .ok (.invokestatic index, 3)) (hp : pc + 3 = pc') (hSt : A.reverse ++ S = St) (hn : A.length = n) (hS4 : S.length ≤ 4) (hok : tb_Ret E k' d (A) M none M') (kk : tb_Wp E k (d + 1) rc rs pc' L S M' Q) : tb_Wp E k (d + 1) rc rs pc L St M Q :=
  tb_callSN hs hd hp hSt hn hS4 (Nat.le_refl _) (Nat.zero_le _) (Nat.zero_le _) hok (fun v' m h => by obtain ⟨h1, rfl⟩ := h; cases h1; exact kk) (fun x m h => by cases h.1)
theorem tb_callSNq {index n : Nat} {host : String} {k' : tb_MD} {A St : List tb_V} {P : Option tb_V → tb_M → Prop} (hs : tb_SSN k.1.cls index k' n host) (hd : decode k.2.1 pc = .ok (.invokestatic index, 3)) (hp : pc + 3 = pc') (hSt : A.reverse ++ S = St) (hn : A.length = n) (hS4 : S.length ≤ 4) (hok : tb_Rel E k' d (A) M P) (kk : ∀ v m, P v m → tb_Wp E k (d + 1) rc rs pc' L (v.toList ++ S) m Q) : tb_Wp E k (d + 1) rc rs pc L St M Q :=
  tb_callSN hs hd hp hSt hn hS4 (Nat.le_refl _) (Nat.zero_le _) (Nat.zero_le _) hok (fun v' m h => by obtain ⟨v, h1, h2⟩ := h; cases h1; exact kk v' m h2) (fun x m h => by obtain ⟨v, h1, -⟩ := h; cases h1)
end Rets
