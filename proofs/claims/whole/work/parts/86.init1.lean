/-! Constructors: what the cells hold at first. -/
abbrev zI : Nat → Int32 := fun _ => 0
abbrev zR : Nat → Nat := fun _ => 0
abbrev Cel : Type := Nat × Nat × (Nat → Int32) × (Nat → Nat)
def cel (M : tb_M) (o : Nat) : Cel := (tb_K M o, tb_Ln M o, tb_I M o, tb_R M o)
/-- k references, from b on in steps of s -/
def rwf (b s k : Nat) : Nat → Nat := fun j => if j < k then b + s * j else 0
/-- j times -1 -/
def fl1 (j : Nat) : Nat → Int32 := fun i => if i < j then -1 else 0
def gI (o : Nat) : Nat → Int32 := if gK o = 7 then va_up zI 4 (-1) else if gK o = 2 then va_up zI 2 (-1) else if gK o = 100 ∧ (o < 178 ∨ o = 191) then fl1 (gL o) else zI
def gR (o : Nat) : Nat → Nat := if gK o = 6 then va_up zR 0 (o + 1) else if gK o = 4 then va_up (va_up zR 0 (o + 1)) 1 (o + 2) else if gK o = 7 then va_up (va_up zR 0 (o + 1)) 1 (o + 3) else if gK o = 3 ∨ gK o = 5 ∨ gK o = 2 then va_up zR 0 (o + 1) else if gK o = 105 then rwf (o + 1) 2 10 else if gK o = 106 then rwf (o + 1) 6 24 else if gK o = 107 then rwf (o + 1) 1 10 else if gK o = 8 then va_up (va_up (va_up (va_up (va_up (va_up zR 0 2) 1 4) 2 26) 3 29) 4 32) 5 178 else if gK o = 9 then gMo else zR
def gC (o : Nat) : Cel := (gK o, if gK o < 100 then 0 else gL o, gI o, gR o)
/-- cells under t are as in M; from a to b they are as they shall be; n cells in all -/
def Opn (M m : tb_M) (t a b n : Nat) : Prop := tb_n m = n ∧ tb_u m = true ∧ (∀ o, o < t → cel m o = cel M o) ∧ ∀ o, a ≤ o → o < b → cel m o = gC o
section Init1
variable {E : tb_E} {M m m2 : tb_M} {t a b n o : Nat}
theorem va_z (j : Nat) : va_up zI j 0 = zI := by
  funext i
  unfold va_up
  by_cases h : i = j
  · rw [if_pos h]
  · rw [if_neg h]
theorem rwf_0 (b s : Nat) : rwf b s 0 = zR := rfl
theorem rwf_st (b s k : Nat) : va_up (rwf b s k) k (b + s * k) = rwf b s (k + 1) := by
  funext j
  unfold va_up rwf
  by_cases h : j = k
  · rw [if_pos h, if_pos (by omega), h]
  · rw [if_neg h]
    by_cases c : j < k
    · rw [if_pos c, if_pos (by omega)]
    · rw [if_neg c, if_neg (by omega)]
theorem fl1_0 : fl1 0 = zI := rfl
theorem fl1_st (k : Nat) : va_up (fl1 k) k (-1) = fl1 (k + 1) := by
  funext j
  unfold va_up fl1
  by_cases h : j = k
  · rw [if_pos h, if_pos (by omega)]
  · rw [if_neg h]
    by_cases c : j < k
    · rw [if_pos c, if_pos (by omega)]
    · rw [if_neg c, if_neg (by omega)]
theorem cel_k {x : Cel} (h : cel m o = x) : tb_K m o = x.1 := congrArg (fun z => z.1) h
theorem cel_l {x : Cel} (h : cel m o = x) : tb_Ln m o = x.2.1 := congrArg (fun z => z.2.1) h
theorem cel_i {x : Cel} (h : cel m o = x) : tb_I m o = x.2.2.1 := congrArg (fun z => z.2.2.1) h
theorem cel_r {x : Cel} (h : cel m o = x) : tb_R m o = x.2.2.2 := congrArg (fun z => z.2.2.2) h
theorem cel_sR {c1 c2 k r : Nat} {c3 : Nat → Int32} {c4 : Nat → Nat} (h : cel m o = (c1, c2, c3, c4)) : cel (tb_sR m o k r) o = (c1, c2, c3, va_up c4 k r) := by
  have h4 := cel_r h
  have : cel (tb_sR m o k r) o = (tb_K m o, tb_Ln m o, tb_I m o, va_up (tb_R m o) k r) := by
    unfold cel
    simp [tb_sR, tb_K, tb_Ln, tb_I, tb_R, va_up]
  rw [this, cel_k h, cel_l h, cel_i h, h4]
theorem cel_sI {c1 c2 k : Nat} {r : Int32} {c3 : Nat → Int32} {c4 : Nat → Nat} (h : cel m o = (c1, c2, c3, c4)) : cel (tb_sI m o k r) o = (c1, c2, va_up c3 k r, c4) := by
  have h3 := cel_i h
  have : cel (tb_sI m o k r) o = (tb_K m o, tb_Ln m o, va_up (tb_I m o) k r, tb_R m o) := by
    unfold cel
    simp [tb_sI, tb_K, tb_Ln, tb_I, tb_R, va_up]
  rw [this, cel_k h, cel_l h, h3, cel_r h]
theorem cel_sRn {q k r : Nat} (h : q ≠ o) : cel (tb_sR m o k r) q = cel m q := by
  unfold cel
  simp [tb_sR, tb_K, tb_Ln, tb_I, tb_R, va_up, h]
theorem cel_sIn {q k : Nat} {r : Int32} (h : q ≠ o) : cel (tb_sI m o k r) q = cel m q := by
  unfold cel
  simp [tb_sI, tb_K, tb_Ln, tb_I, tb_R, va_up, h]
theorem cel_new {kd l : Nat} (hn : tb_n m = n) : cel (tb_new m kd l) (n + 1) = (kd, l, zI, zR) := by
  subst hn
  unfold cel
  simp [tb_new, tb_K, tb_Ln, tb_I, tb_R, va_up]
theorem cel_newn {kd l q : Nat} (h : q ≠ tb_n m + 1) : cel (tb_new m kd l) q = cel m q := by
  unfold cel
  simp [tb_new, tb_K, tb_Ln, tb_I, tb_R, va_up, h]
theorem Opn.new (h : Opn M m t a b n) {kd l : Nat} (n1 : Nat) (hb : b ≤ n + 1 ∨ b ≤ a) (ht : t ≤ n + 1) (hn1 : n1 = n + 1) : Opn M (tb_new m kd l) t a b n1 ∧ cel (tb_new m kd l) n1 = (kd, l, zI, zR) ∧ ∀ o, o < n1 → cel (tb_new m kd l) o = cel m o := by
  subst hn1
  obtain ⟨h1, h2, h3, h4⟩ := h
  have hs : ∀ o, o < n + 1 → cel (tb_new m kd l) o = cel m o := fun o ho => cel_newn (by omega)
  exact ⟨⟨by show tb_n m + 1 = _; omega, h2, fun o ho => (hs o (by omega)).trans (h3 o ho), fun o p q => (hs o (by omega)).trans (h4 o p q)⟩, cel_new h1, hs⟩
theorem Opn.sR (h : Opn M m t a b n) {o k r : Nat} (ho : t ≤ o ∧ (o < a ∨ b ≤ o)) : Opn M (tb_sR m o k r) t a b n :=
  ⟨h.1, h.2.1, fun q hq => (cel_sRn (by omega)).trans (h.2.2.1 q hq), fun q p z => (cel_sRn (by omega)).trans (h.2.2.2 q p z)⟩
theorem Opn.sI (h : Opn M m t a b n) {o k : Nat} {r : Int32} (ho : t ≤ o ∧ (o < a ∨ b ≤ o)) : Opn M (tb_sI m o k r) t a b n :=
  ⟨h.1, h.2.1, fun q hq => (cel_sIn (by omega)).trans (h.2.2.1 q hq), fun q p z => (cel_sIn (by omega)).trans (h.2.2.2 q p z)⟩
theorem Opn.call (h : Opn M m t a b n) {c e : Nat} (h2 : Opn m m2 n n (e + 1) e) (hb : b = n) (ht : t ≤ n) (hc : e = c) : Opn M m2 t a (c + 1) c := by
  subst hc; subst hb
  refine ⟨h2.1, h2.2.1, fun o ho => (h2.2.2.1 o (by omega)).trans (h.2.2.1 o ho), fun o p q => ?_⟩
  by_cases z : o < b
  · exact (h2.2.2.1 o z).trans (h.2.2.2 o p z)
  · exact h2.2.2.2 o (by omega) q
theorem Opn.rf (hn : tb_n M = n) (hu : tb_u M = true) {t a : Nat} : Opn M M t a a n := ⟨hn, hu, fun _ _ => rfl, fun o p q => absurd q (by omega)⟩
theorem gC_tx (h : gK t = 6) : gC t = (6, 0, zI, va_up zR 0 (t + 1)) ∧ gC (t + 1) = (102, 12, zI, zR) := by
  have h1 := gK_tx t (gK_lt (by omega)) h
  constructor
  · simp [gC, gI, gR, h]
  · simp [gC, gI, gR, h1.1, h1.2]
theorem gC_sh (h : gK t = 4) (ht : t < 178) : gC t = (4, 0, zI, va_up (va_up zR 0 (t + 1)) 1 (t + 2)) ∧ gC (t + 1) = (100, gL (t + 1), fl1 (gL (t + 1)), zR) ∧ gC (t + 2) = (101, gL (t + 2), zI, zR) := by
  have h1 := gK_sh t (gK_lt (by omega)) h
  have h178 : t + 1 < 178 := by
    rcases Nat.lt_or_ge (t + 1) 178 with z | z
    · exact z
    · have : t = 177 := by omega
      subst this
      exact absurd h (by decide)
  refine ⟨by simp [gC, gI, gR, h], ?_, by simp [gC, gI, gR, h1.2.1]⟩
  simp [gC, gI, gR, h1.1, h178]
theorem gC_tr (h : gK t = 7) : gC t = (7, 0, va_up zI 4 (-1), va_up (va_up zR 0 (t + 1)) 1 (t + 3)) := by
  simp [gC, gI, gR, h]
/-- more room is enough -/
theorem tb_room {k : tb_MD} {d rc rs rc' rs' pc : Nat} {L : List tb_L} {S : List tb_V} {Q : tb_O → tb_M → Prop} (h1 : rc' ≤ rc) (h2 : rs' ≤ rs) (h : tb_Wp E k d rc' rs' pc L S M Q) : tb_Wp E k d rc rs pc L S M Q :=
  fun p e R s m args below meth c H locs cells slots mc ms ls C hl hH hS q1 q2 hR => h p e R s m args below meth c H locs cells slots mc ms ls C hl hH hS (by omega) (by omega) hR
end Init1
section New1
variable {E : tb_E} {k : tb_MD} {d rc rs pc pc' : Nat} {L : List tb_L} {S : List tb_V} {M : tb_M} {Q : tb_O → tb_M → Prop}
theorem df_De (E : tb_E) : ∀ j, j < 7 → defaultValue (y_De j) = vp_V (tb_fs E (fun _ => 0) (fun _ => 0) 0 ((tb_ft[0]?).getD [])) j := by
  intro j hj
  rcases (show j = 0 ∨ j = 1 ∨ j = 2 ∨ j = 3 ∨ j = 4 ∨ j = 5 ∨ j = 6 by omega) with rfl | rfl | rfl | rfl | rfl | rfl | rfl <;> rfl
theorem df_Lg (E : tb_E) : ∀ j, j < 7 → defaultValue (y_Lg j) = vp_V (tb_fs E (fun _ => 0) (fun _ => 0) 0 ((tb_ft[1]?).getD [])) j := by
  intro j hj
  rcases (show j = 0 ∨ j = 1 ∨ j = 2 ∨ j = 3 ∨ j = 4 ∨ j = 5 ∨ j = 6 by omega) with rfl | rfl | rfl | rfl | rfl | rfl | rfl <;> rfl
theorem df_Sc (E : tb_E) : ∀ j, j < 2 → defaultValue (y_Sc j) = vp_V (tb_fs E (fun _ => 0) (fun _ => 0) 0 ((tb_ft[2]?).getD [])) j := by
  intro j hj
  rcases (show j = 0 ∨ j = 1 by omega) with rfl | rfl <;> rfl
theorem df_Sh (E : tb_E) : ∀ j, j < 2 → defaultValue (y_Sh j) = vp_V (tb_fs E (fun _ => 0) (fun _ => 0) 0 ((tb_ft[3]?).getD [])) j := by
  intro j hj
  rcases (show j = 0 ∨ j = 1 by omega) with rfl | rfl <;> rfl
theorem df_St (E : tb_E) : ∀ j, j < 2 → defaultValue (y_St j) = vp_V (tb_fs E (fun _ => 0) (fun _ => 0) 0 ((tb_ft[4]?).getD [])) j := by
  intro j hj
  rcases (show j = 0 ∨ j = 1 by omega) with rfl | rfl <;> rfl
theorem df_Tx (E : tb_E) : ∀ j, j < 2 → defaultValue (y_Tx j) = vp_V (tb_fs E (fun _ => 0) (fun _ => 0) 0 ((tb_ft[5]?).getD [])) j := by
  intro j hj
  rcases (show j = 0 ∨ j = 1 by omega) with rfl | rfl <;> rfl
theorem df_Tr (E : tb_E) : ∀ j, j < 5 → defaultValue (y_Tr j) = vp_V (tb_fs E (fun _ => 0) (fun _ => 0) 0 ((tb_ft[6]?).getD [])) j := by
  intro j hj
  rcases (show j = 0 ∨ j = 1 ∨ j = 2 ∨ j = 3 ∨ j = 4 by omega) with rfl | rfl | rfl | rfl | rfl <;> rfl
theorem df_TB (E : tb_E) : ∀ j, j < 8 → defaultValue (y_TB j) = vp_V (tb_fs E (fun _ => 0) (fun _ => 0) 0 ((tb_ft[7]?).getD [])) j := by
  intro j hj
  rcases (show j = 0 ∨ j = 1 ∨ j = 2 ∨ j = 3 ∨ j = 4 ∨ j = 5 ∨ j = 6 ∨ j = 7 by omega) with rfl | rfl | rfl | rfl | rfl | rfl | rfl | rfl <;> rfl
theorem df_Mo (E : tb_E) : ∀ j, j < 40 → defaultValue (y_Mo j) = vp_V (tb_fs E (fun _ => 0) (fun _ => 0) 0 ((tb_ft[8]?).getD [])) j := by
  intro j hj
  rcases (show j = 0 ∨ j = 1 ∨ j = 2 ∨ j = 3 ∨ j = 4 ∨ j = 5 ∨ j = 6 ∨ j = 7 ∨ j = 8 ∨ j = 9 ∨ j = 10 ∨ j = 11 ∨ j = 12 ∨ j = 13 ∨ j = 14 ∨ j = 15 ∨ j = 16 ∨ j = 17 ∨ j = 18 ∨ j = 19 ∨ j = 20 ∨ j = 21 ∨ j = 22 ∨ j = 23 ∨ j = 24 ∨ j = 25 ∨ j = 26 ∨ j = 27 ∨ j = 28 ∨ j = 29 ∨ j = 30 ∨ j = 31 ∨ j = 32 ∨ j = 33 ∨ j = 34 ∨ j = 35 ∨ j = 36 ∨ j = 37 ∨ j = 38 ∨ j = 39 by omega) with rfl | rfl | rfl | rfl | rfl | rfl | rfl | rfl | rfl | rfl | rfl | rfl | rfl | rfl | rfl | rfl | rfl | rfl | rfl | rfl | rfl | rfl | rfl | rfl | rfl | rfl | rfl | rfl | rfl | rfl | rfl | rfl | rfl | rfl | rfl | rfl | rfl | rfl | rfl | rfl <;> rfl
theorem wn_TB_7 : tb_I1 (Cond.classLink "TracedBuild" 7 n_Tx) := tb_ix 83 (by decide +kernel) rfl
theorem nw_TB_7 (hd : decode k.2.1 pc = .ok (.new 7, 3)) (hp : pc + 3 = pc') (hk : k.1.cls = "TracedBuild") (hu : tb_u M = true) (hrc : 1 ≤ rc) (hrs : 2 ≤ rs) (kk : tb_Wp E k d (rc - 1) (rs - 2) pc' L (.inr (.inl (tb_n M + 1)) :: S) (tb_new M 6 0) Q) : tb_Wp E k d rc rs pc L S M Q := tb_newO (C0 := n_Tx) (T := T_Tx) (N := 2) (ci := 5) hd hp rfl (by decide) in_Tx y_Tx ty_Tx (df_Tx E) (by rw [hk]; exact wn_TB_7) (tb_ix 84 (by decide +kernel) rfl) (tb_ix 59 (by decide +kernel) rfl) hu hrc hrs kk
theorem wn_TB_16 : tb_I1 (Cond.classLink "TracedBuild" 16 n_Sc) := tb_ix 97 (by decide +kernel) rfl
theorem nw_TB_16 (hd : decode k.2.1 pc = .ok (.new 16, 3)) (hp : pc + 3 = pc') (hk : k.1.cls = "TracedBuild") (hu : tb_u M = true) (hrc : 1 ≤ rc) (hrs : 2 ≤ rs) (kk : tb_Wp E k d (rc - 1) (rs - 2) pc' L (.inr (.inl (tb_n M + 1)) :: S) (tb_new M 3 0) Q) : tb_Wp E k d rc rs pc L S M Q := tb_newO (C0 := n_Sc) (T := T_Sc) (N := 2) (ci := 2) hd hp rfl (by decide) in_Sc y_Sc ty_Sc (df_Sc E) (by rw [hk]; exact wn_TB_16) (tb_ix 98 (by decide +kernel) rfl) (tb_ix 60 (by decide +kernel) rfl) hu hrc hrs kk
theorem wn_TB_23 : tb_I1 (Cond.classLink "TracedBuild" 23 n_Sh) := tb_ix 113 (by decide +kernel) rfl
theorem nw_TB_23 (hd : decode k.2.1 pc = .ok (.new 23, 3)) (hp : pc + 3 = pc') (hk : k.1.cls = "TracedBuild") (hu : tb_u M = true) (hrc : 1 ≤ rc) (hrs : 2 ≤ rs) (kk : tb_Wp E k d (rc - 1) (rs - 2) pc' L (.inr (.inl (tb_n M + 1)) :: S) (tb_new M 4 0) Q) : tb_Wp E k d rc rs pc L S M Q := tb_newO (C0 := n_Sh) (T := T_Sh) (N := 2) (ci := 3) hd hp rfl (by decide) in_Sh y_Sh ty_Sh (df_Sh E) (by rw [hk]; exact wn_TB_23) (tb_ix 114 (by decide +kernel) rfl) (tb_ix 61 (by decide +kernel) rfl) hu hrc hrs kk
theorem wn_TB_35 : tb_I1 (Cond.classLink "TracedBuild" 35 n_St) := tb_ix 128 (by decide +kernel) rfl
theorem nw_TB_35 (hd : decode k.2.1 pc = .ok (.new 35, 3)) (hp : pc + 3 = pc') (hk : k.1.cls = "TracedBuild") (hu : tb_u M = true) (hrc : 1 ≤ rc) (hrs : 2 ≤ rs) (kk : tb_Wp E k d (rc - 1) (rs - 2) pc' L (.inr (.inl (tb_n M + 1)) :: S) (tb_new M 5 0) Q) : tb_Wp E k d rc rs pc L S M Q := tb_newO (C0 := n_St) (T := T_St) (N := 2) (ci := 4) hd hp rfl (by decide) in_St y_St ty_St (df_St E) (by rw [hk]; exact wn_TB_35) (tb_ix 129 (by decide +kernel) rfl) (tb_ix 62 (by decide +kernel) rfl) hu hrc hrs kk
theorem wn_TB_42 : tb_I1 (Cond.classLink "TracedBuild" 42 n_Lg) := tb_ix 176 (by decide +kernel) rfl
theorem nw_TB_42 (hd : decode k.2.1 pc = .ok (.new 42, 3)) (hp : pc + 3 = pc') (hk : k.1.cls = "TracedBuild") (hu : tb_u M = true) (hrc : 1 ≤ rc) (hrs : 7 ≤ rs) (kk : tb_Wp E k d (rc - 1) (rs - 7) pc' L (.inr (.inl (tb_n M + 1)) :: S) (tb_new M 2 0) Q) : tb_Wp E k d rc rs pc L S M Q := tb_newO (C0 := n_Lg) (T := T_Lg) (N := 7) (ci := 1) hd hp rfl (by decide) in_Lg y_Lg ty_Lg (df_Lg E) (by rw [hk]; exact wn_TB_42) (tb_ix 177 (by decide +kernel) rfl) (tb_ix 64 (by decide +kernel) rfl) hu hrc hrs kk
theorem wn_Lg_9 : tb_I1 (Cond.classLink "TracedBuild$Log" 9 n_De) := tb_ix 182 (by decide +kernel) rfl
theorem nw_Lg_9 (hd : decode k.2.1 pc = .ok (.new 9, 3)) (hp : pc + 3 = pc') (hk : k.1.cls = "TracedBuild$Log") (hu : tb_u M = true) (hrc : 1 ≤ rc) (hrs : 7 ≤ rs) (kk : tb_Wp E k d (rc - 1) (rs - 7) pc' L (.inr (.inl (tb_n M + 1)) :: S) (tb_new M 1 0) Q) : tb_Wp E k d rc rs pc L S M Q := tb_newO (C0 := n_De) (T := T_De) (N := 7) (ci := 0) hd hp rfl (by decide) in_De y_De ty_De (df_De E) (by rw [hk]; exact wn_Lg_9) (tb_ix 184 (by decide +kernel) rfl) (tb_ix 65 (by decide +kernel) rfl) hu hrc hrs kk
theorem wn_Sc_9 : tb_I1 (Cond.classLink "TracedBuild$Script" 9 n_Tx) := tb_ix 103 (by decide +kernel) rfl
theorem nw_Sc_9 (hd : decode k.2.1 pc = .ok (.new 9, 3)) (hp : pc + 3 = pc') (hk : k.1.cls = "TracedBuild$Script") (hu : tb_u M = true) (hrc : 1 ≤ rc) (hrs : 2 ≤ rs) (kk : tb_Wp E k d (rc - 1) (rs - 2) pc' L (.inr (.inl (tb_n M + 1)) :: S) (tb_new M 6 0) Q) : tb_Wp E k d rc rs pc L S M Q := tb_newO (C0 := n_Tx) (T := T_Tx) (N := 2) (ci := 5) hd hp rfl (by decide) in_Tx y_Tx ty_Tx (df_Tx E) (by rw [hk]; exact wn_Sc_9) (tb_ix 84 (by decide +kernel) rfl) (tb_ix 59 (by decide +kernel) rfl) hu hrc hrs kk
theorem wn_St_9 : tb_I1 (Cond.classLink "TracedBuild$Store" 9 n_Tr) := tb_ix 134 (by decide +kernel) rfl
theorem nw_St_9 (hd : decode k.2.1 pc = .ok (.new 9, 3)) (hp : pc + 3 = pc') (hk : k.1.cls = "TracedBuild$Store") (hu : tb_u M = true) (hrc : 1 ≤ rc) (hrs : 5 ≤ rs) (kk : tb_Wp E k d (rc - 1) (rs - 5) pc' L (.inr (.inl (tb_n M + 1)) :: S) (tb_new M 7 0) Q) : tb_Wp E k d rc rs pc L S M Q := tb_newO (C0 := n_Tr) (T := T_Tr) (N := 5) (ci := 6) hd hp rfl (by decide) in_Tr y_Tr ty_Tr (df_Tr E) (by rw [hk]; exact wn_St_9) (tb_ix 136 (by decide +kernel) rfl) (tb_ix 63 (by decide +kernel) rfl) hu hrc hrs kk
theorem wn_Tr_9 : tb_I1 (Cond.classLink "TracedBuild$Trace" 9 n_Tx) := tb_ix 141 (by decide +kernel) rfl
theorem nw_Tr_9 (hd : decode k.2.1 pc = .ok (.new 9, 3)) (hp : pc + 3 = pc') (hk : k.1.cls = "TracedBuild$Trace") (hu : tb_u M = true) (hrc : 1 ≤ rc) (hrs : 2 ≤ rs) (kk : tb_Wp E k d (rc - 1) (rs - 2) pc' L (.inr (.inl (tb_n M + 1)) :: S) (tb_new M 6 0) Q) : tb_Wp E k d rc rs pc L S M Q := tb_newO (C0 := n_Tx) (T := T_Tx) (N := 2) (ci := 5) hd hp rfl (by decide) in_Tx y_Tx ty_Tx (df_Tx E) (by rw [hk]; exact wn_Tr_9) (tb_ix 84 (by decide +kernel) rfl) (tb_ix 59 (by decide +kernel) rfl) hu hrc hrs kk
theorem wn_Tr_18 : tb_I1 (Cond.classLink "TracedBuild$Trace" 18 n_Sh) := tb_ix 143 (by decide +kernel) rfl
theorem nw_Tr_18 (hd : decode k.2.1 pc = .ok (.new 18, 3)) (hp : pc + 3 = pc') (hk : k.1.cls = "TracedBuild$Trace") (hu : tb_u M = true) (hrc : 1 ≤ rc) (hrs : 2 ≤ rs) (kk : tb_Wp E k d (rc - 1) (rs - 2) pc' L (.inr (.inl (tb_n M + 1)) :: S) (tb_new M 4 0) Q) : tb_Wp E k d rc rs pc L S M Q := tb_newO (C0 := n_Sh) (T := T_Sh) (N := 2) (ci := 3) hd hp rfl (by decide) in_Sh y_Sh ty_Sh (df_Sh E) (by rw [hk]; exact wn_Tr_18) (tb_ix 114 (by decide +kernel) rfl) (tb_ix 61 (by decide +kernel) rfl) hu hrc hrs kk
theorem wn_La_8 : tb_I1 (Cond.classLink "TracedBuildLaw" 8 n_TB) := tb_ix 75 (by decide +kernel) rfl
theorem wn_La_39 : tb_I1 (Cond.classLink "TracedBuildLaw" 39 n_Mo) := tb_ix 791 (by decide +kernel) rfl
theorem na_Lg_9 {N : Nat} {n : Int32} (hd : decode k.2.1 pc = .ok (.anewarray 9, 3)) (hp : pc + 3 = pc') (hk : k.1.cls = "TracedBuild$Log") (hN : n.toNatClampNeg = N) (hn : ¬ n < 0) (hb : N * 4 ≤ 536870912) (hu : tb_u M = true) (hrc : 1 ≤ rc) (hrs : N ≤ rs) (kk : tb_Wp E k d (rc - 1) (rs - N) pc' L (.inr (.inl (tb_n M + 1)) :: S) (tb_new M 107 N) Q) : tb_Wp E k d rc rs pc L (.inl n :: S) M Q := tb_newR (C0 := "TracedBuild$Deed") (t := 7) hd hp (by decide) rfl hN hn hb (by rw [hk]; exact tb_ix 182 (by decide +kernel) rfl) (by decide +kernel) hu hrc hrs kk
theorem na_Sc_9 {N : Nat} {n : Int32} (hd : decode k.2.1 pc = .ok (.anewarray 9, 3)) (hp : pc + 3 = pc') (hk : k.1.cls = "TracedBuild$Script") (hN : n.toNatClampNeg = N) (hn : ¬ n < 0) (hb : N * 4 ≤ 536870912) (hu : tb_u M = true) (hrc : 1 ≤ rc) (hrs : N ≤ rs) (kk : tb_Wp E k d (rc - 1) (rs - N) pc' L (.inr (.inl (tb_n M + 1)) :: S) (tb_new M 105 N) Q) : tb_Wp E k d rc rs pc L (.inl n :: S) M Q := tb_newR (C0 := "TracedBuild$Text") (t := 5) hd hp (by decide) rfl hN hn hb (by rw [hk]; exact tb_ix 103 (by decide +kernel) rfl) (by decide +kernel) hu hrc hrs kk
theorem na_St_9 {N : Nat} {n : Int32} (hd : decode k.2.1 pc = .ok (.anewarray 9, 3)) (hp : pc + 3 = pc') (hk : k.1.cls = "TracedBuild$Store") (hN : n.toNatClampNeg = N) (hn : ¬ n < 0) (hb : N * 4 ≤ 536870912) (hu : tb_u M = true) (hrc : 1 ≤ rc) (hrs : N ≤ rs) (kk : tb_Wp E k d (rc - 1) (rs - N) pc' L (.inr (.inl (tb_n M + 1)) :: S) (tb_new M 106 N) Q) : tb_Wp E k d rc rs pc L (.inl n :: S) M Q := tb_newR (C0 := "TracedBuild$Trace") (t := 6) hd hp (by decide) rfl hN hn hb (by rw [hk]; exact tb_ix 134 (by decide +kernel) rfl) (by decide +kernel) hu hrc hrs kk
theorem oi_TB {o : Nat} (hd : decode k.2.1 pc = .ok (.invokespecial 1, 3)) (hp : pc + 3 = pc') (hk : k.1.cls = "TracedBuild") (hKo : tb_K M o ≠ 0) (hdd : 1 ≤ d) (hS4 : S.length ≤ 4) (kk : tb_Wp E k d rc rs pc' L S M Q) : tb_Wp E k d rc rs pc L (.inr (.inl o) :: S) M Q := tb_objInit hd hp (by rw [hk]; exact tb_ix 80 (by decide +kernel) rfl) (tb_ix 81 (by decide +kernel) rfl) (tb_ix 82 (by decide +kernel) rfl) hKo hdd hS4 kk
theorem oi_De {o : Nat} (hd : decode k.2.1 pc = .ok (.invokespecial 3, 3)) (hp : pc + 3 = pc') (hk : k.1.cls = "TracedBuild$Deed") (hKo : tb_K M o ≠ 0) (hdd : 1 ≤ d) (hS4 : S.length ≤ 4) (kk : tb_Wp E k d rc rs pc' L S M Q) : tb_Wp E k d rc rs pc L (.inr (.inl o) :: S) M Q := tb_objInit hd hp (by rw [hk]; exact tb_ix 188 (by decide +kernel) rfl) (tb_ix 81 (by decide +kernel) rfl) (tb_ix 82 (by decide +kernel) rfl) hKo hdd hS4 kk
theorem oi_Lg {o : Nat} (hd : decode k.2.1 pc = .ok (.invokespecial 3, 3)) (hp : pc + 3 = pc') (hk : k.1.cls = "TracedBuild$Log") (hKo : tb_K M o ≠ 0) (hdd : 1 ≤ d) (hS4 : S.length ≤ 4) (kk : tb_Wp E k d rc rs pc' L S M Q) : tb_Wp E k d rc rs pc L (.inr (.inl o) :: S) M Q := tb_objInit hd hp (by rw [hk]; exact tb_ix 181 (by decide +kernel) rfl) (tb_ix 81 (by decide +kernel) rfl) (tb_ix 82 (by decide +kernel) rfl) hKo hdd hS4 kk
theorem oi_Sc {o : Nat} (hd : decode k.2.1 pc = .ok (.invokespecial 3, 3)) (hp : pc + 3 = pc') (hk : k.1.cls = "TracedBuild$Script") (hKo : tb_K M o ≠ 0) (hdd : 1 ≤ d) (hS4 : S.length ≤ 4) (kk : tb_Wp E k d rc rs pc' L S M Q) : tb_Wp E k d rc rs pc L (.inr (.inl o) :: S) M Q := tb_objInit hd hp (by rw [hk]; exact tb_ix 102 (by decide +kernel) rfl) (tb_ix 81 (by decide +kernel) rfl) (tb_ix 82 (by decide +kernel) rfl) hKo hdd hS4 kk
theorem oi_Sh {o : Nat} (hd : decode k.2.1 pc = .ok (.invokespecial 3, 3)) (hp : pc + 3 = pc') (hk : k.1.cls = "TracedBuild$Shelf") (hKo : tb_K M o ≠ 0) (hdd : 1 ≤ d) (hS4 : S.length ≤ 4) (kk : tb_Wp E k d rc rs pc' L S M Q) : tb_Wp E k d rc rs pc L (.inr (.inl o) :: S) M Q := tb_objInit hd hp (by rw [hk]; exact tb_ix 118 (by decide +kernel) rfl) (tb_ix 81 (by decide +kernel) rfl) (tb_ix 82 (by decide +kernel) rfl) hKo hdd hS4 kk
theorem oi_St {o : Nat} (hd : decode k.2.1 pc = .ok (.invokespecial 3, 3)) (hp : pc + 3 = pc') (hk : k.1.cls = "TracedBuild$Store") (hKo : tb_K M o ≠ 0) (hdd : 1 ≤ d) (hS4 : S.length ≤ 4) (kk : tb_Wp E k d rc rs pc' L S M Q) : tb_Wp E k d rc rs pc L (.inr (.inl o) :: S) M Q := tb_objInit hd hp (by rw [hk]; exact tb_ix 133 (by decide +kernel) rfl) (tb_ix 81 (by decide +kernel) rfl) (tb_ix 82 (by decide +kernel) rfl) hKo hdd hS4 kk
theorem oi_Tx {o : Nat} (hd : decode k.2.1 pc = .ok (.invokespecial 3, 3)) (hp : pc + 3 = pc') (hk : k.1.cls = "TracedBuild$Text") (hKo : tb_K M o ≠ 0) (hdd : 1 ≤ d) (hS4 : S.length ≤ 4) (kk : tb_Wp E k d rc rs pc' L S M Q) : tb_Wp E k d rc rs pc L (.inr (.inl o) :: S) M Q := tb_objInit hd hp (by rw [hk]; exact tb_ix 88 (by decide +kernel) rfl) (tb_ix 81 (by decide +kernel) rfl) (tb_ix 82 (by decide +kernel) rfl) hKo hdd hS4 kk
theorem oi_Tr {o : Nat} (hd : decode k.2.1 pc = .ok (.invokespecial 3, 3)) (hp : pc + 3 = pc') (hk : k.1.cls = "TracedBuild$Trace") (hKo : tb_K M o ≠ 0) (hdd : 1 ≤ d) (hS4 : S.length ≤ 4) (kk : tb_Wp E k d rc rs pc' L S M Q) : tb_Wp E k d rc rs pc L (.inr (.inl o) :: S) M Q := tb_objInit hd hp (by rw [hk]; exact tb_ix 140 (by decide +kernel) rfl) (tb_ix 81 (by decide +kernel) rfl) (tb_ix 82 (by decide +kernel) rfl) hKo hdd hS4 kk
theorem oi_Mo {o : Nat} (hd : decode k.2.1 pc = .ok (.invokespecial 1, 3)) (hp : pc + 3 = pc') (hk : k.1.cls = "TracedBuildModel") (hKo : tb_K M o ≠ 0) (hdd : 1 ≤ d) (hS4 : S.length ≤ 4) (kk : tb_Wp E k d rc rs pc' L S M Q) : tb_Wp E k d rc rs pc L (.inr (.inl o) :: S) M Q := tb_objInit hd hp (by rw [hk]; exact tb_ix 796 (by decide +kernel) rfl) (tb_ix 81 (by decide +kernel) rfl) (tb_ix 82 (by decide +kernel) rfl) hKo hdd hS4 kk
theorem ny_int {N : Nat} {n : Int32} (hd : decode k.2.1 pc = .ok (.newarray .int, 2)) (hp : pc + 2 = pc') (hN : n.toNatClampNeg = N) (hn : ¬ n < 0) (hb : N ≤ 2000) (hu : tb_u M = true) (hrc : 1 ≤ rc) (hrs : N ≤ rs) (kk : tb_Wp E k d (rc - 1) (rs - N) pc' L (.inr (.inl (tb_n M + 1)) :: S) (tb_new M 100 N) Q) : tb_Wp E k d rc rs pc L (.inl n :: S) M Q := tb_newA (ty := .int) (t := 0) hd hp rfl (fun C h => by cases h) rfl hN hn (Nat.le_trans (Nat.mul_le_mul hb (show componentBytes .int ≤ 4 by decide)) (by decide)) (tb_ix 126 (by decide +kernel) rfl) (tb_enI (by decide) .int rfl) hu hrc hrs kk
theorem ny_short {N : Nat} {n : Int32} (hd : decode k.2.1 pc = .ok (.newarray .short, 2)) (hp : pc + 2 = pc') (hN : n.toNatClampNeg = N) (hn : ¬ n < 0) (hb : N ≤ 2000) (hu : tb_u M = true) (hrc : 1 ≤ rc) (hrs : N ≤ rs) (kk : tb_Wp E k d (rc - 1) (rs - N) pc' L (.inr (.inl (tb_n M + 1)) :: S) (tb_new M 101 N) Q) : tb_Wp E k d rc rs pc L (.inl n :: S) M Q := tb_newA (ty := .short) (t := 1) hd hp rfl (fun C h => by cases h) rfl hN hn (Nat.le_trans (Nat.mul_le_mul hb (show componentBytes .short ≤ 4 by decide)) (by decide)) (tb_ix 127 (by decide +kernel) rfl) (tb_enI (by decide) .short rfl) hu hrc hrs kk
theorem ny_char {N : Nat} {n : Int32} (hd : decode k.2.1 pc = .ok (.newarray .char, 2)) (hp : pc + 2 = pc') (hN : n.toNatClampNeg = N) (hn : ¬ n < 0) (hb : N ≤ 2000) (hu : tb_u M = true) (hrc : 1 ≤ rc) (hrs : N ≤ rs) (kk : tb_Wp E k d (rc - 1) (rs - N) pc' L (.inr (.inl (tb_n M + 1)) :: S) (tb_new M 102 N) Q) : tb_Wp E k d rc rs pc L (.inl n :: S) M Q := tb_newA (ty := .char) (t := 2) hd hp rfl (fun C h => by cases h) rfl hN hn (Nat.le_trans (Nat.mul_le_mul hb (show componentBytes .char ≤ 4 by decide)) (by decide)) (tb_ix 96 (by decide +kernel) rfl) (tb_enI (by decide) .char rfl) hu hrc hrs kk
theorem ny_boolean {N : Nat} {n : Int32} (hd : decode k.2.1 pc = .ok (.newarray .boolean, 2)) (hp : pc + 2 = pc') (hN : n.toNatClampNeg = N) (hn : ¬ n < 0) (hb : N ≤ 2000) (hu : tb_u M = true) (hrc : 1 ≤ rc) (hrs : N ≤ rs) (kk : tb_Wp E k d (rc - 1) (rs - N) pc' L (.inr (.inl (tb_n M + 1)) :: S) (tb_new M 103 N) Q) : tb_Wp E k d rc rs pc L (.inl n :: S) M Q := tb_newA (ty := .boolean) (t := 3) hd hp rfl (fun C h => by cases h) rfl hN hn (Nat.le_trans (Nat.mul_le_mul hb (show componentBytes .boolean ≤ 4 by decide)) (by decide)) (tb_ix 918 (by decide +kernel) rfl) (tb_enI (by decide) .boolean rfl) hu hrc hrs kk
end New1
