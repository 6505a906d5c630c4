/-! The reference: the whole work. -/
def MkV (M : tb_M) (v : Option (List Int32)) : Prop := match v with
  | none => tb_I M 190 24 = -1
  | some l => tb_I M 190 24 = nI l.length ∧ l.length ≤ 6 ∧ ∀ i (h : i < l.length), tb_I M 208 i = l[i]
def WkF (M M2 : tb_M) (r : Int32 × Int32 × Int32 × Option (List Int32)) : Prop := On M M2 (fun q => q = 190 ∨ q = 208) ∧ (∀ j, ¬ (21 ≤ j ∧ j ≤ 24) → tb_I M2 190 j = tb_I M 190 j) ∧ tb_I M2 190 21 = r.1 ∧ tb_I M2 190 22 = r.2.1 ∧ tb_I M2 190 23 = r.2.2.1 ∧ (¬ r.2.2.1 = -1 → MkV M2 r.2.2.2)
section Mo7
variable {E : tb_E} {M M1 : tb_M} {fs : Fs} {rd ak tg : Int32} {l tx : List Int32} {k s : Nat}
theorem MWk.fin (h : MWk M M1 rd ak tg l) : WkF M M1 (rd, ak, tg, some l) := ⟨h.1, h.2.1, h.2.2.1, h.2.2.2.1, h.2.2.2.2.1, fun _ => ⟨h.2.2.2.2.2.1, h.2.2.2.2.2.2.1, h.2.2.2.2.2.2.2⟩⟩
theorem MWk.stop (h : MWk M M1 rd ak (-1) l) {v : Option (List Int32)} : WkF M M1 (rd, ak, -1, v) := ⟨h.1, h.2.1, h.2.2.1, h.2.2.2.1, h.2.2.2.2.1, fun z => absurd rfl z⟩
theorem MWk.none (h : MWk M M1 rd ak tg l) : WkF M (tb_sI M1 190 24 (-1)) (rd, ak, tg, Option.none) := by
  have e : ∀ j, j ≠ 24 → tb_I (tb_sI M1 190 24 (-1)) 190 j = tb_I M1 190 j := fun j hj => by rw [sI_at]; simp [va_up, hj]
  exact ⟨h.1.trans (On.sI (Or.inl rfl)), fun j hj => by rw [e j (by omega)]; exact h.2.1 j hj, by rw [e 21 (by decide)]; exact h.2.2.1, by rw [e 22 (by decide)]; exact h.2.2.2.1, by rw [e 23 (by decide)]; exact h.2.2.2.2.1, fun _ => by show tb_I _ 190 24 = -1; rw [sI_at]; simp [va_up]⟩
theorem MWk.tt (h : MWk M M1 rd ak tg l) (hT : TxM M k tx) : TxM M1 k tx := hT.of (h.1.i (by decide)) (h.1.i (by decide))
theorem lp_Mo_plain (hG : tb_G E) (hS : Sh M) (hF : MFs M fs) (hT : TxM M k tx) (hp : plainP (la tx) tx.length s) (hs : s ≤ 12) {tg0 : Int32} (hW0 : MWk M M1 rd 0 tg0 []) {d rc rs : Nat} {l3 l4 : tb_L} {Q : tb_O → tb_M → Prop} (hQ : ∀ M2, WkF M M2 (plainW (la tx) tx.length fs s rd) → Q (.inl .none) M2) : tb_Wp E m_Mo_work (d + 3) rc rs 81 [some (.inr 190), some (.inl (nI k)), some (.inl (nI s)), l3, l4] [] M1 Q := by
  have hk := hT.1
  have h12 := hT.2.2.1
  obtain ⟨hl1, hl2⟩ := plain_last hp
  obtain ⟨w, hw, ew⟩ := fOf_n hl1
  have hS0 := hW0.1.sh hS
  have hT0 := hW0.tt hT
  have hW := hW0.sTg (x := nI w)
  have hS1 := hW.1.sh hS
  have hT1 := hW.tt hT
  refine tb_aload_0 d_Mo_work_81 rfl ?_
  refine tb_iload_1 d_Mo_work_82 rfl ?_
  refine tb_iload_2 d_Mo_work_83 rfl ?_
  refine tb_iconst (1) (by decide) d_Mo_work_84 rfl ?_
  refine tb_iadd d_Mo_work_85 rfl ?_
  rw [show nI s + 1 = nI (s + 1) from nI_add s 1]
  refine tb_callVr c_Mo_150 d_Mo_work_86 rfl rfl rfl (Nat.le_of_ble_eq_true rfl) (by exact hS0.k rfl) (ok_Mo_letter hG hS0 hT0 (i := s + 1) (by omega) (d + 2)) ?_
  refine tb_istore_3 d_Mo_work_89 rfl (by decide) ?_
  refine tb_aload_0 d_Mo_work_90 rfl ?_
  refine tb_iload_1 d_Mo_work_91 rfl ?_
  refine tb_aload_0 d_Mo_work_92 rfl ?_
  refine g_Mo_25 d_Mo_work_93 rfl rfl (by exact hS0.k rfl) ?_
  refine tb_topR (y := 196) (hS1.mr 8 (by decide)) ?_
  refine tb_iload_1 d_Mo_work_96 rfl ?_
  refine tb_iaload d_Mo_work_97 rfl (by exact hS0.k rfl) (by first | exact mo_in hS1 (c := 12) rfl (by omega) (by decide) | exact mo_in hS1 (c := 10) rfl (by omega) (by decide) | exact mo_in hS1 (c := 25) rfl (by omega) (by decide) | exact mo_in hS1 (c := 6) rfl (by omega) (by decide) | exact mo_in hS1 (c := 72) rfl (by omega) (by decide) | exact mo_in hS1 (c := 120) rfl (by omega) (by decide) | exact mo_in hS1 (c := 300) rfl (by omega) (by decide) | exact mo_in hS1 (c := 150) rfl (by omega) (by decide) | exact mo_in hS1 (c := 1800) rfl (by omega) (by decide)) ?_
  refine tb_topI (y := nI tx.length) (by rw [nI_clamp (show k < 2 ^ 31 by omega)]; exact hT0.2.1) ?_
  refine tb_iconst (1) (by decide) d_Mo_work_98 rfl ?_
  refine tb_isub d_Mo_work_99 rfl ?_
  rw [nI_sub1 (by omega)]
  refine tb_callVr c_Mo_150 d_Mo_work_100 rfl rfl rfl (Nat.le_of_ble_eq_true rfl) (by exact hS0.k rfl) (ok_Mo_letter hG hS0 hT0 (i := tx.length - 1) (by omega) (d + 2)) ?_
  refine tb_topI (f97 hw ew) ?_
  refine tb_istore_4 d_Mo_work_103 rfl (by decide) ?_
  refine tb_aload_0 d_Mo_work_105 rfl ?_
  refine tb_iload_4 d_Mo_work_106 rfl ?_
  refine p_Mo_147 d_Mo_work_108 rfl rfl (by exact hS0.k rfl) ?_
  refine tb_aload_0 d_Mo_work_111 rfl ?_
  refine g_Mo_28 d_Mo_work_112 rfl rfl (by first | exact hS1.k rfl) ?_
  refine tb_topR (y := 197) (hS1.mr 9 (by decide)) ?_
  refine tb_bipush (12) (by decide) d_Mo_work_115 rfl ?_
  refine tb_iload_1 d_Mo_work_117 rfl ?_
  refine tb_imul d_Mo_work_118 rfl ?_
  refine tb_topI (show (12 : Int32) * nI k = nI (12 * k) from nI_mul 12 k) ?_
  refine tb_iload_2 d_Mo_work_119 rfl ?_
  refine tb_iadd d_Mo_work_120 rfl ?_
  rw [nI_add]
  refine tb_iaload d_Mo_work_121 rfl (by first | exact hS1.k rfl) (by first | exact mo_in hS1 (c := 12) rfl (by omega) (by decide) | exact mo_in hS1 (c := 10) rfl (by omega) (by decide) | exact mo_in hS1 (c := 25) rfl (by omega) (by decide) | exact mo_in hS1 (c := 6) rfl (by omega) (by decide) | exact mo_in hS1 (c := 72) rfl (by omega) (by decide) | exact mo_in hS1 (c := 120) rfl (by omega) (by decide) | exact mo_in hS1 (c := 300) rfl (by omega) (by decide) | exact mo_in hS1 (c := 150) rfl (by omega) (by decide) | exact mo_in hS1 (c := 1800) rfl (by omega) (by decide)) ?_
  refine tb_topI (y := la tx s) (by rw [nI_clamp (show 12 * k + s < 2 ^ 31 by omega)]; exact hT1.2.2.2 s (by omega)) ?_
  by_cases e43 : la tx s = 43
  · refine tb_lookup (99) 221 d_Mo_work_122 (by decide) (by rw [e43]; decide +kernel) (by decide) ?_
    have hfp := plain_43 hp e43
    obtain ⟨f1, hf1, ef1⟩ := fOf_n (hfp.2 (s + 1) (by omega) (by have := hfp.1; omega))
    obtain ⟨uf1, bf1⟩ := fl_of (F := fs) hf1 ef1
    obtain ⟨f2, hf2, ef2⟩ := fOf_n (hfp.2 (s + 2) (by omega) (by have := hfp.1; omega))
    obtain ⟨uf2, bf2⟩ := fl_of (F := fs) hf2 ef2
    refine tb_aload_0 d_Mo_work_221 rfl ?_
    refine tb_iload_3 d_Mo_work_222 rfl ?_
    refine tb_topI (f97 hf1 ef1) ?_
    refine tb_aload_0 d_Mo_work_223 rfl ?_
    refine tb_iload_1 d_Mo_work_224 rfl ?_
    refine tb_iload_2 d_Mo_work_225 rfl ?_
    refine tb_iconst (2) (by decide) d_Mo_work_226 rfl ?_
    refine tb_iadd d_Mo_work_227 rfl ?_
    rw [show nI s + 2 = nI (s + 2) from nI_add s 2]
    refine tb_callVr c_Mo_150 d_Mo_work_228 rfl rfl rfl (Nat.le_of_ble_eq_true rfl) (by first | exact hS1.k rfl) (ok_Mo_letter hG hS1 hT1 (i := s + 2) (by have := hfp.1; omega) (d + 2)) ?_
    refine tb_topI (f97 hf2 ef2) ?_
    refine tb_callVq c_Mo_161 d_Mo_work_231 rfl rfl rfl (Nat.le_of_ble_eq_true rfl) (by first | exact hS1.k rfl) (ok_Mo_sums hG hS hF hW hf1 hf2 (d + 1)) (fun rM3 M3 hRM3 => ?_)
    obtain ⟨rfl, hW2⟩ := hRM3
    refine tb_goto 314 d_Mo_work_234 (by decide) ?_
    refine tb_vreturn d_Mo_work_314 rfl ?_
    have hPW : plainW (la tx) tx.length fs s rd = ((rd ||| ((1 : Int32) <<< (nI f1 &&& 31))) ||| ((1 : Int32) <<< (nI f2 &&& 31)), 0, nI w, some (aL [] (sumL (cl (fs f1)) (cl (fs f2))))) := by
      unfold plainW
      rw [ew]
      simp [e43, appL_aL, cl, uf1, bf1, uf2, bf2]
    rw [hPW] at hQ
    exact hQ _ hW2.fin
  by_cases e99 : la tx s = 99
  · refine tb_lookup (74) 196 d_Mo_work_122 (by decide) (by rw [e99]; decide +kernel) (by decide) ?_
    have hfp := plain_99 hp e99
    obtain ⟨f1, hf1, ef1⟩ := fOf_n (hfp.2 (s + 1) (by omega) (by have := hfp.1; omega))
    obtain ⟨uf1, bf1⟩ := fl_of (F := fs) hf1 ef1
    refine tb_aload_0 d_Mo_work_196 rfl ?_
    refine tb_iload_3 d_Mo_work_197 rfl ?_
    refine tb_topI (f97 hf1 ef1) ?_
    refine tb_iconst (1) (by decide) d_Mo_work_198 rfl ?_
    refine tb_callVq c_Mo_154 d_Mo_work_199 rfl rfl rfl (Nat.le_of_ble_eq_true rfl) (by first | exact hS1.k rfl) (ok_Mo_addAll1 hG hS hF hW hf1 (d + 1)) (fun rM3 M3 hRM3 => ?_)
    obtain ⟨rfl, hW2⟩ := hRM3
    refine tb_goto 314 d_Mo_work_202 (by decide) ?_
    refine tb_vreturn d_Mo_work_314 rfl ?_
    have hPW : plainW (la tx) tx.length fs s rd = (rd ||| ((1 : Int32) <<< (nI f1 &&& 31)), 0, nI w, some (aL [] (cl (fs f1)))) := by
      unfold plainW
      rw [ew]
      simp [e99, appL_aL, cl, uf1, bf1]
    rw [hPW] at hQ
    exact hQ _ hW2.fin
  by_cases e102 : la tx s = 102
  · refine tb_lookup (128) 250 d_Mo_work_122 (by decide) (by rw [e102]; decide +kernel) (by decide) ?_
    have hfq := plain_102 hp e102
    have hfp := hfq.2
    obtain ⟨q, hq, eq⟩ := dOf_n hfq.1
    obtain ⟨f1, hf1, ef1⟩ := fOf_n (hfp.2 (s + 2) (by omega) (by have := hfp.1; omega))
    obtain ⟨uf1, bf1⟩ := fl_of (F := fs) hf1 ef1
    refine tb_aload_0 d_Mo_work_250 rfl ?_
    refine tb_aload_0 d_Mo_work_251 rfl ?_
    refine tb_iload_1 d_Mo_work_252 rfl ?_
    refine tb_iload_2 d_Mo_work_253 rfl ?_
    refine tb_iconst (2) (by decide) d_Mo_work_254 rfl ?_
    refine tb_iadd d_Mo_work_255 rfl ?_
    rw [show nI s + 2 = nI (s + 2) from nI_add s 2]
    refine tb_callVr c_Mo_150 d_Mo_work_256 rfl rfl rfl (Nat.le_of_ble_eq_true rfl) (by first | exact hS1.k rfl) (ok_Mo_letter hG hS1 hT1 (i := s + 2) (by have := hfp.1; omega) (d + 2)) ?_
    refine tb_topI (f97 hf1 ef1) ?_
    refine tb_aload_0 d_Mo_work_259 rfl ?_
    refine g_Mo_28 d_Mo_work_260 rfl rfl (by first | exact hS1.k rfl) ?_
    refine tb_topR (y := 197) (hS1.mr 9 (by decide)) ?_
    refine tb_bipush (12) (by decide) d_Mo_work_263 rfl ?_
    refine tb_iload_1 d_Mo_work_265 rfl ?_
    refine tb_imul d_Mo_work_266 rfl ?_
    refine tb_topI (show (12 : Int32) * nI k = nI (12 * k) from nI_mul 12 k) ?_
    refine tb_iload_2 d_Mo_work_267 rfl ?_
    refine tb_iadd d_Mo_work_268 rfl ?_
    rw [nI_add]
    refine tb_iconst (1) (by decide) d_Mo_work_269 rfl ?_
    refine tb_iadd d_Mo_work_270 rfl ?_
    rw [nI_1]
    refine tb_iaload d_Mo_work_271 rfl (by first | exact hS1.k rfl) (by first | exact mo_in hS1 (c := 12) rfl (by omega) (by decide) | exact mo_in hS1 (c := 10) rfl (by omega) (by decide) | exact mo_in hS1 (c := 25) rfl (by omega) (by decide) | exact mo_in hS1 (c := 6) rfl (by omega) (by decide) | exact mo_in hS1 (c := 72) rfl (by omega) (by decide) | exact mo_in hS1 (c := 120) rfl (by omega) (by decide) | exact mo_in hS1 (c := 300) rfl (by omega) (by decide) | exact mo_in hS1 (c := 150) rfl (by omega) (by decide) | exact mo_in hS1 (c := 1800) rfl (by omega) (by decide)) ?_
    refine tb_topI (y := la tx (s + 1)) (by rw [nI_clamp (show 12 * k + s + 1 < 2 ^ 31 by omega), show 12 * k + s + 1 = 12 * k + (s + 1) by omega]; exact hT1.2.2.2 (s + 1) (by omega)) ?_
    refine tb_bipush (48) (by decide) d_Mo_work_272 rfl ?_
    refine tb_isub d_Mo_work_274 rfl ?_
    refine tb_topI ((d48 hfq.1).trans eq) ?_
    refine tb_callVq c_Mo_154 d_Mo_work_275 rfl rfl rfl (Nat.le_of_ble_eq_true rfl) (by first | exact hS1.k rfl) (ok_Mo_addAll hG hS hF hW hf1 hq (d + 1)) (fun rM3 M3 hRM3 => ?_)
    obtain ⟨rfl, hW2⟩ := hRM3
    refine tb_goto 314 d_Mo_work_278 (by decide) ?_
    refine tb_vreturn d_Mo_work_314 rfl ?_
    have hPW : plainW (la tx) tx.length fs s rd = (rd ||| ((1 : Int32) <<< (nI f1 &&& 31)), 0, nI w, some (aL [] (divL (nI q) (cl (fs f1))))) := by
      unfold plainW
      rw [ew]
      simp [e102, appL_aL, cl, uf1, bf1, eq]
    rw [hPW] at hQ
    exact hQ _ hW2.fin
  by_cases e106 : la tx s = 106
  · refine tb_lookup (83) 205 d_Mo_work_122 (by decide) (by rw [e106]; decide +kernel) (by decide) ?_
    have hfp := plain_106 hp e106
    obtain ⟨f1, hf1, ef1⟩ := fOf_n (hfp.2 (s + 1) (by omega) (by have := hfp.1; omega))
    obtain ⟨uf1, bf1⟩ := fl_of (F := fs) hf1 ef1
    obtain ⟨f2, hf2, ef2⟩ := fOf_n (hfp.2 (s + 2) (by omega) (by have := hfp.1; omega))
    obtain ⟨uf2, bf2⟩ := fl_of (F := fs) hf2 ef2
    refine tb_aload_0 d_Mo_work_205 rfl ?_
    refine tb_iload_3 d_Mo_work_206 rfl ?_
    refine tb_topI (f97 hf1 ef1) ?_
    refine tb_aload_0 d_Mo_work_207 rfl ?_
    refine tb_iload_1 d_Mo_work_208 rfl ?_
    refine tb_iload_2 d_Mo_work_209 rfl ?_
    refine tb_iconst (2) (by decide) d_Mo_work_210 rfl ?_
    refine tb_iadd d_Mo_work_211 rfl ?_
    rw [show nI s + 2 = nI (s + 2) from nI_add s 2]
    refine tb_callVr c_Mo_150 d_Mo_work_212 rfl rfl rfl (Nat.le_of_ble_eq_true rfl) (by first | exact hS1.k rfl) (ok_Mo_letter hG hS1 hT1 (i := s + 2) (by have := hfp.1; omega) (d + 2)) ?_
    refine tb_topI (f97 hf2 ef2) ?_
    refine tb_callVq c_Mo_158 d_Mo_work_215 rfl rfl rfl (Nat.le_of_ble_eq_true rfl) (by first | exact hS1.k rfl) (ok_Mo_join hG hS hF hW hf1 hf2 d) (fun rM3 M3 hRM3 => ?_)
    obtain ⟨rfl, hW2⟩ := hRM3
    refine tb_goto 314 d_Mo_work_218 (by decide) ?_
    refine tb_vreturn d_Mo_work_314 rfl ?_
    have hPW : plainW (la tx) tx.length fs s rd = ((rd ||| ((1 : Int32) <<< (nI f1 &&& 31))) ||| ((1 : Int32) <<< (nI f2 &&& 31)), 0, nI w, some (aL (aL [] (cl (fs f1))) (cl (fs f2)))) := by
      unfold plainW
      rw [ew]
      simp [e106, appL_aL, cl, uf1, bf1, uf2, bf2]
    rw [hPW] at hQ
    exact hQ _ hW2.fin
  by_cases e108 : la tx s = 108
  · refine tb_lookup (178) 300 d_Mo_work_122 (by decide) (by rw [e108]; decide +kernel) (by decide) ?_
    refine tb_aload_0 d_Mo_work_300 rfl ?_
    refine tb_iload_4 d_Mo_work_301 rfl ?_
    refine tb_callVq c_Mo_173 d_Mo_work_303 rfl rfl rfl (Nat.le_of_ble_eq_true rfl) (by first | exact hS1.k rfl) (ok_Mo_there hG hS hF hW (nI w) (d + 1)) (fun rM3 M3 hRM3 => ?_)
    obtain ⟨rfl, hW2⟩ := hRM3
    refine tb_goto 314 d_Mo_work_306 (by decide) ?_
    refine tb_vreturn d_Mo_work_314 rfl ?_
    have hPW : plainW (la tx) tx.length fs s rd = (rd, 4095, nI w, some (aL [] (thL fs 12))) := by
      unfold plainW
      rw [ew]
      simp [e108, appL_aL, cl]
    rw [hPW] at hQ
    exact hQ _ hW2.fin
  by_cases e110 : la tx s = 110
  · refine tb_lookup (159) 281 d_Mo_work_122 (by decide) (by rw [e110]; decide +kernel) (by decide) ?_
    have hfp := plain_110 hp e110
    refine tb_aload_0 d_Mo_work_281 rfl ?_
    refine tb_iload_1 d_Mo_work_282 rfl ?_
    refine tb_iload_2 d_Mo_work_283 rfl ?_
    refine tb_iconst (1) (by decide) d_Mo_work_284 rfl ?_
    refine tb_iadd d_Mo_work_285 rfl ?_
    rw [show nI s + 1 = nI (s + 1) from nI_add s 1]
    refine tb_callVq c_Mo_167 d_Mo_work_286 rfl rfl rfl (Nat.le_of_ble_eq_true rfl) (by first | exact hS1.k rfl) (ok_Mo_digits hG hS hT hW (s := s + 1) (by have := hfp.1; omega) hfp.2.2.1 (d + 1)) (fun rM3 M3 hRM3 => ?_)
    obtain ⟨rfl, hW2⟩ := hRM3
    refine tb_goto 314 d_Mo_work_289 (by decide) ?_
    refine tb_vreturn d_Mo_work_314 rfl ?_
    have hPW : plainW (la tx) tx.length fs s rd = (rd, 0, nI w, some (aL [] (digL (la tx) (s + 1) (tx.length - 1)))) := by
      unfold plainW
      rw [ew]
      simp [e110, appL_aL, cl]
    rw [hPW] at hQ
    exact hQ _ hW2.fin
  by_cases e112 : la tx s = 112
  · refine tb_lookup (170) 292 d_Mo_work_122 (by decide) (by rw [e112]; decide +kernel) (by decide) ?_
    have hfp := plain_112 hp e112
    obtain ⟨f1, hf1, ef1⟩ := fOf_n (hfp.2 (s + 1) (by omega) (by have := hfp.1; omega))
    obtain ⟨uf1, bf1⟩ := fl_of (F := fs) hf1 ef1
    refine tb_aload_0 d_Mo_work_292 rfl ?_
    refine tb_iload_3 d_Mo_work_293 rfl ?_
    refine tb_topI (f97 hf1 ef1) ?_
    refine tb_callVq c_Mo_170 d_Mo_work_294 rfl rfl rfl (Nat.le_of_ble_eq_true rfl) (by first | exact hS1.k rfl) (ok_Mo_ask hG hS hF hW hf1 (d + 1)) (fun rM3 M3 hRM3 => ?_)
    obtain ⟨rfl, hW2⟩ := hRM3
    refine tb_goto 314 d_Mo_work_297 (by decide) ?_
    refine tb_vreturn d_Mo_work_314 rfl ?_
    have hPW : plainW (la tx) tx.length fs s rd = (rd, ((1 : Int32) <<< (nI f1 &&& 31)), nI w, some (aL [] [thr (fs f1)])) := by
      unfold plainW
      rw [ew]
      simp [e112, appL_aL, cl, bf1, ef1, nI_clamp (show f1 < 2 ^ 31 by omega)]
    rw [hPW] at hQ
    exact hQ _ hW2.fin
  by_cases e115 : la tx s = 115
  · refine tb_lookup (115) 237 d_Mo_work_122 (by decide) (by rw [e115]; decide +kernel) (by decide) ?_
    have hfp := plain_115 hp e115
    obtain ⟨f1, hf1, ef1⟩ := fOf_n (hfp.2 (s + 1) (by omega) (by have := hfp.1; omega))
    obtain ⟨uf1, bf1⟩ := fl_of (F := fs) hf1 ef1
    refine tb_aload_0 d_Mo_work_237 rfl ?_
    refine tb_iload_3 d_Mo_work_238 rfl ?_
    refine tb_topI (f97 hf1 ef1) ?_
    refine tb_iconst (1) (by decide) d_Mo_work_239 rfl ?_
    refine tb_callVq c_Mo_154 d_Mo_work_240 rfl rfl rfl (Nat.le_of_ble_eq_true rfl) (by first | exact hS1.k rfl) (ok_Mo_addAll1 hG hS hF hW hf1 (d + 1)) (fun rM3 M3 hRM3 => ?_)
    obtain ⟨rfl, hW2⟩ := hRM3
    have hS3 := hW2.1.sh hS
    refine tb_aload_0 d_Mo_work_243 rfl ?_
    refine tb_callVq c_Mo_164 d_Mo_work_244 rfl rfl rfl (Nat.le_of_ble_eq_true rfl) (by exact hS3.k rfl) (ok_Mo_sort hG hS hW2 (d + 2)) (fun rM4 M4 hRM4 => ?_)
    obtain ⟨rfl, hW4⟩ := hRM4
    refine tb_goto 314 d_Mo_work_247 (by decide) ?_
    refine tb_vreturn d_Mo_work_314 rfl ?_
    have hPW : plainW (la tx) tx.length fs s rd = (rd ||| ((1 : Int32) <<< (nI f1 &&& 31)), 0, nI w, some (srt (aL [] (cl (fs f1))))) := by
      unfold plainW
      rw [ew]
      simp [e115, appL_aL, cl, uf1, bf1]
    rw [hPW] at hQ
    exact hQ _ hW4.fin
  refine tb_lookup (187) 309 d_Mo_work_122 (by decide) (by show Op.lookupswitch.offset [(43, 99), (99, 74), (102, 128), (106, 83), (108, 178), (110, 159), (112, 170), (115, 115)] (187) _ = _; rw [lv_osw e43 (by decide), lv_osw e99 (by decide), lv_osw e102 (by decide), lv_osw e106 (by decide), lv_osw e108 (by decide), lv_osw e110 (by decide), lv_osw e112 (by decide), lv_osw e115 (by decide)]; rfl) (by decide) ?_
  refine tb_aload_0 d_Mo_work_309 rfl ?_
  refine tb_iconst (-1) (by decide) d_Mo_work_310 rfl ?_
  refine p_Mo_132 d_Mo_work_311 rfl rfl (by first | exact hS1.k rfl) ?_
  refine tb_vreturn d_Mo_work_314 rfl ?_
  have hPW : plainW (la tx) tx.length fs s rd = (rd, 0, nI w, .none) := by
    unfold plainW
    rw [ew, if_neg e43, if_neg e99, if_neg e102, if_neg e106, if_neg e108, if_neg e110, if_neg e112, if_neg e115]
  rw [hPW] at hQ
  exact hQ _ hW.none
theorem lp_Mo_work (hG : tb_G E) (hS : Sh M) (hF : MFs M fs) (hT : TxM M k tx) {q : Nat} (hq1 : ∀ i, i < q → askP (la tx) tx.length (2 * i)) (hq2 : plainP (la tx) tx.length (2 * q)) {d rc rs : Nat} {Q : tb_O → tb_M → Prop} {r : Int32 × Int32 × Int32 × Option (List Int32)} (hQ : ∀ M2, WkF M M2 r → Q (.inl .none) M2) :
    ∀ (w j : Nat) (rd : Int32) (l3 l4 : tb_L) (M1 : tb_M), tx.length < 2 * j + 2 * w → j ≤ q → craftW (la tx) tx.length fs w (2 * j) rd = r → MWk M M1 rd 0 (-1) [] → tb_Wp E m_Mo_work (d + 3) rc rs 22 [some (.inr 190), some (.inl (nI k)), some (.inl (nI (2 * j))), l3, l4] [] M1 Q := by
  have hk := hT.1
  have h12 := hT.2.2.1
  have hql := plain_last hq2
  intro w
  induction w with
  | zero => intro j rd l3 l4 M1 hw hj; exact absurd hw (by omega)
  | succ w ih =>
    intro j rd l3 l4 M1 hw hj hr hW
    have hS1 := hW.1.sh hS
    have hT1 := hW.tt hT
    simp only [craftW] at hr
    refine tb_aload_0 d_Mo_work_22 rfl ?_
    refine g_Mo_28 d_Mo_work_23 rfl rfl (by first | exact hS1.k rfl) ?_
    refine tb_topR (y := 197) (hS1.mr 9 (by decide)) ?_
    refine tb_bipush (12) (by decide) d_Mo_work_26 rfl ?_
    refine tb_iload_1 d_Mo_work_28 rfl ?_
    refine tb_imul d_Mo_work_29 rfl ?_
    refine tb_topI (show (12 : Int32) * nI k = nI (12 * k) from nI_mul 12 k) ?_
    refine tb_iload_2 d_Mo_work_30 rfl ?_
    refine tb_iadd d_Mo_work_31 rfl ?_
    rw [nI_add]
    refine tb_iaload d_Mo_work_32 rfl (by first | exact hS1.k rfl) (by first | exact mo_in hS1 (c := 12) rfl (by omega) (by decide) | exact mo_in hS1 (c := 10) rfl (by omega) (by decide) | exact mo_in hS1 (c := 25) rfl (by omega) (by decide) | exact mo_in hS1 (c := 6) rfl (by omega) (by decide) | exact mo_in hS1 (c := 72) rfl (by omega) (by decide) | exact mo_in hS1 (c := 120) rfl (by omega) (by decide) | exact mo_in hS1 (c := 300) rfl (by omega) (by decide) | exact mo_in hS1 (c := 150) rfl (by omega) (by decide) | exact mo_in hS1 (c := 1800) rfl (by omega) (by decide)) ?_
    refine tb_topI (y := la tx (2 * j)) (by rw [nI_clamp (show 12 * k + 2 * j < 2 ^ 31 by omega)]; exact hT1.2.2.2 (2 * j) (by omega)) ?_
    refine tb_bipush (63) (by decide) d_Mo_work_33 rfl ?_
    refine tb_icmp_ne 81 d_Mo_work_35 (by decide) rfl (fun h35 => ?_) (fun h35 => ?_)
    · have hjq : j = q := by
        rcases Nat.lt_or_ge j q with z | z
        · exact absurd (hq1 j z).2.1 h35
        · omega
      subst hjq
      rw [if_neg (fun z => h35 z.2)] at hr
      rw [← hr] at hQ
      exact lp_Mo_plain hG hS hF hT hq2 (by omega) hW hQ
    · have hjq : j < q := by
        rcases Nat.lt_or_ge j q with z | z
        · exact z
        · rw [show q = j by omega] at hq2; exact absurd h35 (plain_63 hq2)
      have hask := hq1 j hjq
      obtain ⟨f1, hf1, ef1⟩ := fOf_n hask.2.2
      obtain ⟨uf1, bf1⟩ := fl_of (F := fs) hf1 ef1
      rw [if_pos ⟨hask.1, hask.2.1⟩, uf1, bf1] at hr
      have hle := hF.le hf1
      refine tb_aload_0 d_Mo_work_38 rfl ?_
      refine tb_iload_1 d_Mo_work_39 rfl ?_
      refine tb_iload_2 d_Mo_work_40 rfl ?_
      refine tb_iconst (1) (by decide) d_Mo_work_41 rfl ?_
      refine tb_iadd d_Mo_work_42 rfl ?_
      rw [nI_1]
      refine tb_callVr c_Mo_150 d_Mo_work_43 rfl rfl rfl (Nat.le_of_ble_eq_true rfl) (by first | exact hS1.k rfl) (ok_Mo_letter hG hS1 hT1 (i := 2 * j + 1) (by omega) (d + 2)) ?_
      refine tb_topI (f97 hf1 ef1) ?_
      refine tb_istore_3 d_Mo_work_46 rfl (by decide) ?_
      refine tb_aload_0 d_Mo_work_47 rfl ?_
      refine tb_iload_3 d_Mo_work_48 rfl ?_
      refine tb_callVq c_Mo_138 d_Mo_work_49 rfl rfl rfl (Nat.le_of_ble_eq_true rfl) (by first | exact hS1.k rfl) (ok_Mo_readFile hG hS hW (nI f1) (d + 2)) (fun v2 M2 hP => ?_)
      obtain ⟨rfl, hP⟩ := hP
      have hS2 := hP.1.sh hS
      have hF2 := hP.fF hF
      refine tb_aload_0 d_Mo_work_52 rfl ?_
      refine g_Mo_7 d_Mo_work_53 rfl rfl (by exact hS2.k rfl) ?_
      refine tb_topR (y := 191) (hS2.mr 1 (by decide)) ?_
      refine tb_iload_3 d_Mo_work_56 rfl ?_
      refine tb_iaload d_Mo_work_57 rfl (by exact hS2.k rfl) (by first | exact mo_in hS2 (c := 12) rfl (by omega) (by decide) | exact mo_in hS2 (c := 10) rfl (by omega) (by decide) | exact mo_in hS2 (c := 25) rfl (by omega) (by decide) | exact mo_in hS2 (c := 6) rfl (by omega) (by decide) | exact mo_in hS2 (c := 72) rfl (by omega) (by decide) | exact mo_in hS2 (c := 120) rfl (by omega) (by decide) | exact mo_in hS2 (c := 300) rfl (by omega) (by decide) | exact mo_in hS2 (c := 150) rfl (by omega) (by decide) | exact mo_in hS2 (c := 1800) rfl (by omega) (by decide)) ?_
      refine tb_topI (y := szV (fs f1)) (by rw [nI_clamp (show f1 < 2 ^ 31 by omega)]; exact hF2.sz hf1) ?_
      refine tb_iconst (1) (by decide) d_Mo_work_58 rfl ?_
      refine tb_icmp_lt 74 d_Mo_work_59 (by decide) rfl (fun h59 => ?_) (fun h59 => ?_)
      · have hl0 : (cl (fs f1)).length = 0 := by
          refine Nat.eq_zero_of_not_pos (fun z => ?_)
          cases hv : fs f1 with
          | none => rw [hv] at z; exact absurd z (by decide)
          | some q' =>
            rw [hv] at h59 z hle
            have hz : 0 < q'.length := z
            have hz6 : q'.length ≤ 6 := hle
            exact Int32.not_lt.mpr (nI_le (a := 1) (b := q'.length) hz (by omega)) h59
        have hhd := headD_0 hl0
        refine tb_vreturn d_Mo_work_74 rfl ?_
        rw [if_pos hhd] at hr
        subst hr
        exact hQ _ hP.stop
      · have hl0 : 0 < (cl (fs f1)).length := Nat.pos_of_ne_zero (fun z => h59 (by
          cases hv : fs f1 with
          | none => decide
          | some q' =>
            rw [hv] at z
            have hz : q'.length = 0 := z
            show nI q'.length < 1
            rw [hz]; decide))
        refine tb_aload_0 d_Mo_work_62 rfl ?_
        refine g_Mo_13 d_Mo_work_63 rfl rfl (by exact hS2.k rfl) ?_
        refine tb_topR (y := 192) (hS2.mr 2 (by decide)) ?_
        refine tb_bipush (6) (by decide) d_Mo_work_66 rfl ?_
        refine tb_iload_3 d_Mo_work_68 rfl ?_
        refine tb_imul d_Mo_work_69 rfl ?_
        refine tb_topI (show (6 : Int32) * nI f1 = nI (6 * f1) from nI_mul 6 f1) ?_
        refine tb_iaload d_Mo_work_70 rfl (by exact hS2.k rfl) (by first | exact mo_in hS2 (c := 12) rfl (by omega) (by decide) | exact mo_in hS2 (c := 10) rfl (by omega) (by decide) | exact mo_in hS2 (c := 25) rfl (by omega) (by decide) | exact mo_in hS2 (c := 6) rfl (by omega) (by decide) | exact mo_in hS2 (c := 72) rfl (by omega) (by decide) | exact mo_in hS2 (c := 120) rfl (by omega) (by decide) | exact mo_in hS2 (c := 300) rfl (by omega) (by decide) | exact mo_in hS2 (c := 150) rfl (by omega) (by decide) | exact mo_in hS2 (c := 1800) rfl (by omega) (by decide)) ?_
        refine tb_topI (y := (cl (fs f1))[0]) (by rw [nI_clamp (show 6 * f1 < 2 ^ 31 by omega)]; exact hF2.at hf1 hl0) ?_
        refine tb_if_ne 75 d_Mo_work_71 (by decide) rfl (fun h71 => ?_) (fun h71 => ?_)
        · have hhd : ¬ (cl (fs f1)).headD 0 = 0 := by rw [headD_get hl0]; exact h71
          refine tb_iinc_2 (2) d_Mo_work_75 rfl (by decide) (by decide) ?_
          refine tb_goto 22 d_Mo_work_78 (by decide) ?_
          rw [show nI (2 * j) + 2 = nI (2 * (j + 1)) from nI_add (2 * j) 2]
          rw [if_neg hhd] at hr
          exact ih (j + 1) _ _ _ _ (by omega) (by omega) hr hP
        · have hhd : (cl (fs f1)).headD 0 = 0 := by rw [headD_get hl0]; exact h71
          refine tb_vreturn d_Mo_work_74 rfl ?_
          rw [if_pos hhd] at hr
          subst hr
          exact hQ _ hP.stop
theorem ok_Mo_work (hG : tb_G E) (hS : Sh M) (hF : MFs M fs) (hT : TxM M k tx) (hc : isC tx) (d : Nat) : tb_Rel E m_Mo_work (d + 3) [.inr (.inl 190), .inl (nI k)] M (fun v M2 => v = .none ∧ WkF M M2 (craftW (la tx) tx.length fs 8 0 0)) := by
  have h12 := hT.2.2.1
  obtain ⟨q, hq1, -, hq2⟩ := hc
  have hW : MWk M (tb_sI (tb_sI (tb_sI (tb_sI M 190 21 0) 190 22 0) 190 23 (-1)) 190 24 0) 0 0 (-1) [] := by
    have e : tb_I (tb_sI (tb_sI (tb_sI (tb_sI M 190 21 0) 190 22 0) 190 23 (-1)) 190 24 0) 190 = va_up (va_up (va_up (va_up (tb_I M 190) 21 0) 22 0) 23 (-1)) 24 0 := by rw [sI_at, sI_at, sI_at, sI_at]
    have oo : ∀ (N : tb_M) (j : Nat) (x : Int32), On N (tb_sI N 190 j x) (fun q => q = 190 ∨ q = 208) := fun N j x => On.sI (Or.inl rfl)
    refine ⟨(((oo _ _ _).trans (oo _ _ _)).trans (oo _ _ _)).trans (oo _ _ _), fun j hj => ?_, by rw [e]; simp [va_up], by rw [e]; simp [va_up], by rw [e]; simp [va_up], by rw [e]; simp [va_up]; rfl, by decide, fun i hi => absurd hi (Nat.not_lt_zero _)⟩
    rw [e]
    unfold va_up
    rw [if_neg (by omega), if_neg (by omega), if_neg (by omega), if_neg (by omega)]
  refine tb_okOf hG (by decide) rfl (Nat.le_of_ble_eq_true rfl) rfl ?_
  refine tb_aload_0 d_Mo_work_0 rfl ?_
  refine tb_iconst (0) (by decide) d_Mo_work_1 rfl ?_
  refine p_Mo_135 d_Mo_work_2 rfl rfl (by first | exact hS.k rfl) ?_
  refine tb_aload_0 d_Mo_work_5 rfl ?_
  refine tb_iconst (0) (by decide) d_Mo_work_6 rfl ?_
  refine p_Mo_144 d_Mo_work_7 rfl rfl (by first | exact hS.k rfl) ?_
  refine tb_aload_0 d_Mo_work_10 rfl ?_
  refine tb_iconst (-1) (by decide) d_Mo_work_11 rfl ?_
  refine p_Mo_147 d_Mo_work_12 rfl rfl (by first | exact hS.k rfl) ?_
  refine tb_aload_0 d_Mo_work_15 rfl ?_
  refine tb_iconst (0) (by decide) d_Mo_work_16 rfl ?_
  refine p_Mo_132 d_Mo_work_17 rfl rfl (by first | exact hS.k rfl) ?_
  refine tb_iconst (0) (by decide) d_Mo_work_20 rfl ?_
  refine tb_istore_2 d_Mo_work_21 rfl (by decide) ?_
  exact lp_Mo_work hG hS hF hT hq1 hq2 (fun M2 h => ⟨.none, rfl, rfl, h⟩) 8 0 0 _ _ _ (by omega) (Nat.zero_le _) rfl hW
end Mo7
