/-! The hazard that the class finds is the state's. -/
section Hazard
variable {M M1 : tb_M} {D : Nat → DeV} {e f n : Nat}
theorem or_0 {x y : Int32} : ¬ x ||| y = 0 ↔ ¬ x = 0 ∨ ¬ y = 0 := by
  rw [Int32.or_eq_zero_iff]
  constructor
  · intro h
    by_cases c : x = 0
    · exact Or.inr fun z => h ⟨c, z⟩
    · exact Or.inl c
  · rintro (h | h) z
    · exact h z.1
    · exact h z.2
theorem mee_wm {w v : Int32} (hw : w = -1 ∨ ∃ f, f < 12 ∧ w = nI f) (hv : v = -1 ∨ ∃ f, f < 12 ∧ v = nI f) : ¬ wm w &&& wm v = 0 ↔ ¬ w = -1 ∧ w = v := by
  rw [mee_iff hw]
  constructor
  · rintro ⟨g, hg, rfl, hb⟩
    refine ⟨nI_nm1 (by omega), ?_⟩
    rcases hv with rfl | ⟨h, hh, rfl⟩
    · rw [wm_1, bt_gb hg, gb_0] at hb; cases hb
    · rw [wm_f hh, bt_gb hg, gb_bitN hh, decide_eq_true_iff] at hb
      rw [hb]
  · rintro ⟨h1, rfl⟩
    rcases hw with rfl | ⟨g, hg, rfl⟩
    · exact absurd rfl h1
    · exact ⟨g, hg, rfl, by rw [wm_f hg, bt_gb hg, gb_bitN hg, decide_eq_true_iff]⟩
theorem mee_tu {x w u : Int32} (hw : w = -1 ∨ ∃ f, f < 12 ∧ w = nI f) : ¬ (if u = 0 then 0 else wm w) &&& x = 0 ↔ mee x w ∧ ¬ u = 0 := by
  by_cases h : u = 0
  · rw [if_pos h]; simp [h]
  · rw [if_neg h, mee_iff hw]
    exact ⟨fun z => ⟨z, h⟩, fun z => z.1⟩
theorem low_wm {w : Int32} (hw : w = -1 ∨ ∃ f, f < 12 ∧ w = nI f) : low (wm w) := by
  rcases hw with rfl | ⟨f, hf, rfl⟩
  · rw [wm_1]; exact low_0
  · rw [wm_f hf]; exact low_bit hf
theorem low_tu {w u : Int32} (hw : w = -1 ∨ ∃ f, f < 12 ∧ w = nI f) : low (if u = 0 then 0 else wm w) := by
  by_cases h : u = 0
  · rw [if_pos h]; exact low_0
  · rw [if_neg h]; exact low_wm hw
theorem wm_bit {w : Int32} (hw : w = -1 ∨ ∃ f, f < 12 ∧ w = nI f) {h : Nat} (hb : gb (wm w) h = true) : w = nI h := by
  rcases hw with rfl | ⟨f, hf, rfl⟩
  · rw [wm_1, gb_0] at hb; cases hb
  · rw [wm_f hf, gb_bitN hf, decide_eq_true_iff] at hb
    rw [hb]
theorem tu_bit {w u : Int32} (hw : w = -1 ∨ ∃ f, f < 12 ∧ w = nI f) {h : Nat} (hb : gb (if u = 0 then 0 else wm w) h = true) : w = nI h := by
  by_cases c : u = 0
  · rw [if_pos c, gb_0] at hb; cases hb
  · rw [if_neg c] at hb; exact wm_bit hw hb
theorem inW_1 (he : DeIs M e (D e)) (hf : DeIs M f (D f)) (h1 : ¬ dO (D e) = 0) (h2 : ¬ dO (D f) = 0) : (¬ inW M 1 e f = 0 ↔ kd1 (D e) (D f)) ∧ low (inW M 1 e f) ∧ ∀ h, gb (inW M 1 e f) h = true → dWr (D f) = nI h := by
  obtain ⟨w1, a1, a2, a3, a4⟩ := he.2.2.2.2 h1
  obtain ⟨w2, b1, b2, b3, b4⟩ := hf.2.2.2.2 h2
  unfold inW
  rw [if_pos rfl, a3, b3]
  refine ⟨mee_wm w1 w2, low_andl (low_wm w1), fun h hb => ?_⟩
  rw [gb_and, Bool.and_eq_true] at hb
  exact wm_bit w2 hb.2
theorem inW_2 (he : DeIs M e (D e)) (hf : DeIs M f (D f)) (h1 : ¬ dO (D e) = 0) (h2 : ¬ dO (D f) = 0) : (¬ inW M 2 e f = 0 ↔ kd2 (D e) (D f)) ∧ low (inW M 2 e f) ∧ ∀ h, gb (inW M 2 e f) h = true → dWr (D f) = nI h := by
  obtain ⟨w1, a1, a2, a3, a4⟩ := he.2.2.2.2 h1
  obtain ⟨w2, b1, b2, b3, b4⟩ := hf.2.2.2.2 h2
  unfold inW
  rw [if_neg (by decide), if_pos rfl, a1, a2, b3, b4]
  refine ⟨?_, low_or (low_andr (low_wm w2)) (low_andr (low_tu w2)), fun h hb => ?_⟩
  · rw [or_0, Int32.and_comm, mee_iff w2, Int32.and_comm (dAk (D e)), mee_tu w2]
    rfl
  · rw [gb_or, gb_and, gb_and, Bool.or_eq_true, Bool.and_eq_true, Bool.and_eq_true] at hb
    rcases hb with hb | hb
    · exact wm_bit w2 hb.2
    · exact tu_bit w2 hb.2
theorem inW_3 (he : DeIs M e (D e)) (hf : DeIs M f (D f)) (h1 : ¬ dO (D e) = 0) (h2 : ¬ dO (D f) = 0) : (¬ inW M 3 e f = 0 ↔ f < e ∧ kd2 (D f) (D e)) ∧ low (inW M 3 e f) ∧ ∀ h, gb (inW M 3 e f) h = true → dWr (D e) = nI h := by
  obtain ⟨w1, a1, a2, a3, a4⟩ := he.2.2.2.2 h1
  obtain ⟨w2, b1, b2, b3, b4⟩ := hf.2.2.2.2 h2
  unfold inW
  rw [if_neg (by decide), if_neg (by decide), b1, b2, a3, a4]
  by_cases c : f < e
  · rw [if_pos c]
    refine ⟨?_, low_or (low_andl (low_wm w1)) (low_andl (low_tu w1)), fun h hb => ?_⟩
    · rw [or_0, mee_iff w1, mee_tu w1]
      exact ⟨fun z => ⟨c, z⟩, fun z => z.2⟩
    · rw [gb_or, gb_and, gb_and, Bool.or_eq_true, Bool.and_eq_true, Bool.and_eq_true] at hb
      rcases hb with hb | hb
      · exact wm_bit w1 hb.1
      · exact tu_bit w1 hb.1
  · rw [if_neg c]
    refine ⟨⟨fun z => absurd rfl z, fun z => absurd z.1 c⟩, low_0, fun h hb => ?_⟩
    rw [gb_0] at hb; cases hb
theorem hzB_kd (he : DeIs M e (D e)) (hf : DeIs M f (D f)) (h1 : ¬ dO (D e) = 0) (h2 : ¬ dO (D f) = 0) : hzB M e f = kdA D e f := by
  have a1 := (inW_1 he hf h1 h2).1
  have a2 := (inW_2 he hf h1 h2).1
  have a3 := (inW_3 he hf h1 h2).1
  unfold hzB kdA
  by_cases c1 : kd1 (D e) (D f)
  · rw [if_pos (a1.mpr c1), if_pos c1]
  · rw [if_neg (fun z => c1 (a1.mp z)), if_neg c1]
    by_cases c2 : kd2 (D e) (D f)
    · rw [if_pos (a2.mpr c2), if_pos c2]
    · rw [if_neg (fun z => c2 (a2.mp z)), if_neg c2]
      by_cases c3 : f < e ∧ kd2 (D f) (D e)
      · rw [if_pos (a3.mpr c3), if_pos c3]
      · rw [if_neg (fun z => c3 (a3.mp z)), if_neg c3]
theorem fst_file {x r w : Int32} (hl : low x) (hx : ¬ x = 0) (hw : ∀ h, gb x h = true → w = nI h) (h : fst12 x r) : r = w := by
  rcases h with ⟨f, hf, hr, h1, -⟩ | ⟨-, h1⟩
  · rw [hr, hw f ((bt_gb hf).mp h1)]
  · obtain ⟨f, hf, hg⟩ := (low_ne hl).mp hx
    exact absurd ((bt_gb hf).mpr hg) (h1 f hf)
theorem file_of (he : DeIs M e (D e)) (hf : DeIs M f (D f)) (h1 : ¬ dO (D e) = 0) (h2 : ¬ dO (D f) = 0) (hk : ¬ kdA D e f = 0) {r : Int32} (h : fst12 (inW M (hzB M e f) e f) r) : r = if kdA D e f = 3 then dWr (D e) else dWr (D f) := by
  have hB := hzB_kd he hf h1 h2
  rw [hB] at h
  have q1 := inW_1 he hf h1 h2
  have q2 := inW_2 he hf h1 h2
  have q3 := inW_3 he hf h1 h2
  unfold kdA at h hk ⊢
  by_cases c1 : kd1 (D e) (D f)
  · rw [if_pos c1] at h ⊢
    rw [if_neg (by decide)]
    exact fst_file q1.2.1 (q1.1.mpr c1) q1.2.2 h
  · rw [if_neg c1] at h hk ⊢
    by_cases c2 : kd2 (D e) (D f)
    · rw [if_pos c2] at h ⊢
      rw [if_neg (by decide)]
      exact fst_file q2.2.1 (q2.1.mpr c2) q2.2.2 h
    · rw [if_neg c2] at h hk ⊢
      by_cases c3 : f < e ∧ kd2 (D f) (D e)
      · rw [if_pos c3] at h ⊢
        rw [if_pos rfl]
        exact fst_file q3.2.1 (q3.1.mpr c3) q3.2.2 h
      · rw [if_neg c3] at hk; exact absurd rfl hk
theorem cnd_iff (hD : ∀ k, k < n → DeIs M k (D k)) (hf : f < n) (hd : ¬ dO (D f) = 0) {b : Int32} (he : e < n) : cnd M f b e ↔ cnA D f b e := by
  have a1 := hD e he
  have a2 := hD f hf
  have hg : gsd M e f ↔ (¬ dA (D e) = 0 ∨ ¬ dA (D f) = 0) := by unfold gsd; rw [a1.2.2.2.1, a2.2.2.2.1]
  unfold cnd cnA
  rw [bI_iff hg, not_congr a1.done]
  constructor
  · rintro ⟨h1, h2, h3, h4⟩; exact ⟨h1, h2, h3, by rw [← hzB_kd a1 a2 h2 hd]; exact h4⟩
  · rintro ⟨h1, h2, h3, h4⟩; exact ⟨h1, h2, h3, by rw [hzB_kd a1 a2 h2 hd]; exact h4⟩
theorem hz1_is (hD : ∀ k, k < n → DeIs M k (D k)) (hf : f < n) (hd : ¬ dO (D f) = 0) {b : Int32} (he : e < n) (hc : cnA D f b e) {r : Int32} (hr : fst12 (inW M (hzB M e f) e f) r) : On M (hzM M (hzB M e f) e f r b) (fun q => q = 178) ∧ tb_I (hzM M (hzB M e f) e f r b) 178 1 = tb_I M 178 1 ∧ HzIs (hzM M (hzB M e f) e f r b) n D (hz1 D e f) := by
  have a1 := hD e he
  have a2 := hD f hf
  have hB := hzB_kd a1 a2 hc.2.1 hd
  have hfi := file_of a1 a2 hc.2.1 hd hc.2.2.2 hr
  have h3 := hzB_le M e f
  have hI : ∀ i, tb_I (hzM M (hzB M e f) e f r b) 178 i = va_up (va_up (va_up (va_up (va_up (tb_I M 178) 2 (nI (hzB M e f))) 3 (nI e)) 4 (nI f)) 5 r) 6 b i := fun i => by unfold hzM; rw [sI_at, sI_at, sI_at, sI_at, sI_at]
  refine ⟨hzM_on _ _ _ _ _ _, by rw [hI]; simp [va_up], fun z => absurd z hc.2.2.2, fun _ => ⟨?_, he, hf, ?_, ?_, ?_, ?_, ?_⟩⟩
  · show kdA D e f ≤ 3
    rw [← hB]; exact h3
  · rw [hI, hB]; simp [va_up, hz1]
  · rw [hI]; simp [va_up, hz1]
  · rw [hI]; simp [va_up, hz1]
  · rw [hI]; simp only [va_up, hz1]; simpa using hfi
  · rw [hI]; simp only [va_up, hz1]; simpa using hc.2.2.1.symm
theorem hz_of (hD : ∀ k, k < n → DeIs M k (D k)) (hf : f < n) (hd : ¬ dO (D f) = 0) (h0 : tb_I M 178 2 = -1) (h : Hz M M1 f n) : On M M1 (fun q => q = 178) ∧ tb_I M1 178 1 = tb_I M 178 1 ∧ HzIs M1 n D (hzA D n f) := by
  unfold hzA
  rcases h with ⟨e, he, hc, hall, r, hr, rfl⟩ | ⟨hno, h⟩
  · have hc' := (cnd_iff hD hf hd he).mp hc
    rw [fstN_of (p := cnA D f 1) (e := e) n 0 (Nat.zero_le _) (by omega) hc' (fun g _ hg z => hall g hg ((cnd_iff hD hf hd (by omega)).mpr z))]
    exact hz1_is hD hf hd he hc' hr
  · rw [fstN_no (p := cnA D f 1) n 0 (fun g _ hg z => hno g (by omega) ((cnd_iff hD hf hd (by omega)).mpr z))]
    rcases h with ⟨rfl, h⟩ | ⟨e, he, hc, hall, r, hr, rfl⟩
    · rw [fstN_no (p := cnA D f 0) n 0 (fun g _ hg z => h g (by omega) ((cnd_iff hD hf hd (by omega)).mpr z))]
      exact ⟨On.rf, rfl, fun _ => h0, fun z => absurd rfl z⟩
    · have hc' := (cnd_iff hD hf hd he).mp hc
      rw [fstN_of (p := cnA D f 0) (e := e) n 0 (Nat.zero_le _) (by omega) hc' (fun g _ hg z => hall g hg ((cnd_iff hD hf hd (by omega)).mpr z))]
      exact hz1_is hD hf hd he hc' hr
end Hazard
