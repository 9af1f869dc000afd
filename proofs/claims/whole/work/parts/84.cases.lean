/-! the law's cases -/
theorem ak_sc {j L : Nat} {xs : Nat → Int32} {k : Int32 → Option am_R} (hj : j < L) (hL : L < 2 ^ 31) : am_ak (some (.inl (10, L, .inl xs))) 0 10 (nI j) k = k (xs j) := am_ak_s _ _ (Or.inr rfl) hj hL
section LW
variable {d : Nat} {h : am_H} {L i : Nat} {xs : Nat → Int32}
theorem lw_c0 (hJ : JI h) (hS : am_at h 1000000 = some (.inl (10, L, .inl xs))) (hi : i + 6 ≤ L) (hL : L ≤ 3072) : ∃ h', am_ev (d + 8) 223 184 [some (.ref 1000000), some (.ref 0), some (.ref 87), some (.int (nI i))] [] h = am_ev (d + 8) 223 1176 [some (.ref 1000000), some (.ref 0), some (.ref 87), some (.int (nI i))] [] h' ∧ JI h' ∧ FA h h' := by
  obtain ⟨v, h1, h2, e1, is1, K1, e2, J2, F2⟩ := j_write (d := d) hJ (xs (i + 1))
  have hS1 : am_at h1 1000000 = some (.inl (10, L, .inl xs)) := by rw [K1 _ (by decide)]; exact hS
  refine ⟨h2, ?_, J2, F2⟩
  simp only [e_223_184, e_223_185, e_223_186, e_223_187, e_223_188, e_223_189, e_223_190, e_223_193, e_223_194, e_223_195, e_223_196, e_223_197, e_223_198, e_223_199, e_223_202, lg_n, lg_i, lg_r, wd_nil, am_wd_i, am_wd_r, am_wd_l, am_gk_s, am_fld_s, List.getElem?_cons_zero, List.getElem?_cons_succ, am_bk_v, am_bk_n, bo_0, bo_1, am_pk_s, List.length_cons, List.length_nil, Nat.zero_add, List.set_cons_zero, List.set_cons_succ, Nat.reduceAdd, Nat.reduceLeDiff, Nat.reduceLT, hS, hS1, hJ.is, is1, e1, e2, eq_self, if_true, ak_sc (show i + 1 < L by omega) (show L < 2 ^ 31 by omega), nI_1]
theorem lw_c1 (hJ : JI h) (hS : am_at h 1000000 = some (.inl (10, L, .inl xs))) (hi : i + 6 ≤ L) (hL : L ≤ 3072) : ∃ h', am_ev (d + 8) 223 207 [some (.ref 1000000), some (.ref 0), some (.ref 87), some (.int (nI i))] [] h = am_ev (d + 8) 223 1176 [some (.ref 1000000), some (.ref 0), some (.ref 87), some (.int (nI i))] [] h' ∧ JI h' ∧ FA h h' := by
  obtain ⟨v, h1, h2, e1, is1, K1, e2, J2, F2⟩ := j_erase (d := d) hJ 
  have hS1 : am_at h1 1000000 = some (.inl (10, L, .inl xs)) := by rw [K1 _ (by decide)]; exact hS
  refine ⟨h2, ?_, J2, F2⟩
  simp only [e_223_207, e_223_208, e_223_211, e_223_212, e_223_215, lg_n, lg_i, lg_r, wd_nil, am_wd_i, am_wd_r, am_wd_l, am_gk_s, am_fld_s, List.getElem?_cons_zero, List.getElem?_cons_succ, am_bk_v, am_bk_n, bo_0, bo_1, am_pk_s, List.length_cons, List.length_nil, Nat.zero_add, List.set_cons_zero, List.set_cons_succ, Nat.reduceAdd, Nat.reduceLeDiff, Nat.reduceLT, hS, hS1, hJ.is, is1, e1, e2, eq_self, if_true]
theorem lw_c2 (hJ : JI h) (hS : am_at h 1000000 = some (.inl (10, L, .inl xs))) (hi : i + 6 ≤ L) (hL : L ≤ 3072) : ∃ h', am_ev (d + 8) 223 220 [some (.ref 1000000), some (.ref 0), some (.ref 87), some (.int (nI i))] [] h = am_ev (d + 8) 223 1176 [some (.ref 1000000), some (.ref 0), some (.ref 87), some (.int (nI i))] [] h' ∧ JI h' ∧ FA h h' := by
  obtain ⟨v, h1, h2, e1, is1, K1, e2, J2, F2⟩ := j_fault (d := d) hJ 
  have hS1 : am_at h1 1000000 = some (.inl (10, L, .inl xs)) := by rw [K1 _ (by decide)]; exact hS
  refine ⟨h2, ?_, J2, F2⟩
  simp only [e_223_220, e_223_221, e_223_224, e_223_225, e_223_228, lg_n, lg_i, lg_r, wd_nil, am_wd_i, am_wd_r, am_wd_l, am_gk_s, am_fld_s, List.getElem?_cons_zero, List.getElem?_cons_succ, am_bk_v, am_bk_n, bo_0, bo_1, am_pk_s, List.length_cons, List.length_nil, Nat.zero_add, List.set_cons_zero, List.set_cons_succ, Nat.reduceAdd, Nat.reduceLeDiff, Nat.reduceLT, hS, hS1, hJ.is, is1, e1, e2, eq_self, if_true]
theorem lw_c3 (hJ : JI h) (hS : am_at h 1000000 = some (.inl (10, L, .inl xs))) (hi : i + 6 ≤ L) (hL : L ≤ 3072) : ∃ h', am_ev (d + 8) 223 233 [some (.ref 1000000), some (.ref 0), some (.ref 87), some (.int (nI i))] [] h = am_ev (d + 8) 223 1176 [some (.ref 1000000), some (.ref 0), some (.ref 87), some (.int (nI i))] [] h' ∧ JI h' ∧ FA h h' := by
  obtain ⟨v, h1, h2, e1, is1, K1, e2, J2, F2⟩ := j_hall (d := d) hJ 
  have hS1 : am_at h1 1000000 = some (.inl (10, L, .inl xs)) := by rw [K1 _ (by decide)]; exact hS
  refine ⟨h2, ?_, J2, F2⟩
  simp only [e_223_233, e_223_234, e_223_237, e_223_238, e_223_241, lg_n, lg_i, lg_r, wd_nil, am_wd_i, am_wd_r, am_wd_l, am_gk_s, am_fld_s, List.getElem?_cons_zero, List.getElem?_cons_succ, am_bk_v, am_bk_n, bo_0, bo_1, am_pk_s, List.length_cons, List.length_nil, Nat.zero_add, List.set_cons_zero, List.set_cons_succ, Nat.reduceAdd, Nat.reduceLeDiff, Nat.reduceLT, hS, hS1, hJ.is, is1, e1, e2, eq_self, if_true]
theorem lw_c4 (hJ : JI h) (hS : am_at h 1000000 = some (.inl (10, L, .inl xs))) (hi : i + 6 ≤ L) (hL : L ≤ 3072) : ∃ h', am_ev (d + 8) 223 246 [some (.ref 1000000), some (.ref 0), some (.ref 87), some (.int (nI i))] [] h = am_ev (d + 8) 223 1176 [some (.ref 1000000), some (.ref 0), some (.ref 87), some (.int (nI i))] [] h' ∧ JI h' ∧ FA h h' := by
  obtain ⟨v, h1, h2, e1, is1, K1, e2, J2, F2⟩ := j_person (d := d) hJ (xs (i + 1)) (xs (i + 2))
  have hS1 : am_at h1 1000000 = some (.inl (10, L, .inl xs)) := by rw [K1 _ (by decide)]; exact hS
  refine ⟨h2, ?_, J2, F2⟩
  simp only [e_223_246, e_223_247, e_223_248, e_223_249, e_223_250, e_223_251, e_223_252, e_223_253, e_223_254, e_223_255, e_223_256, e_223_257, e_223_260, e_223_261, e_223_262, e_223_263, e_223_264, e_223_265, e_223_266, e_223_267, e_223_268, e_223_269, e_223_270, e_223_271, e_223_274, lg_n, lg_i, lg_r, wd_nil, am_wd_i, am_wd_r, am_wd_l, am_gk_s, am_fld_s, List.getElem?_cons_zero, List.getElem?_cons_succ, am_bk_v, am_bk_n, bo_0, bo_1, am_pk_s, List.length_cons, List.length_nil, Nat.zero_add, List.set_cons_zero, List.set_cons_succ, Nat.reduceAdd, Nat.reduceLeDiff, Nat.reduceLT, hS, hS1, hJ.is, is1, e1, e2, eq_self, if_true, show (2 : Int32) = nI 2 by decide +kernel, ak_sc (show i + 1 < L by omega) (show L < 2 ^ 31 by omega), ak_sc (show i + 2 < L by omega) (show L < 2 ^ 31 by omega), nI_1, nI_add]
theorem lw_c5 (hJ : JI h) (hS : am_at h 1000000 = some (.inl (10, L, .inl xs))) (hi : i + 6 ≤ L) (hL : L ≤ 3072) : ∃ h', am_ev (d + 8) 223 279 [some (.ref 1000000), some (.ref 0), some (.ref 87), some (.int (nI i))] [] h = am_ev (d + 8) 223 1176 [some (.ref 1000000), some (.ref 0), some (.ref 87), some (.int (nI i))] [] h' ∧ JI h' ∧ FA h h' := by
  obtain ⟨v, h1, h2, e1, is1, K1, e2, J2, F2⟩ := j_cabin (d := d) hJ (xs (i + 1)) (xs (i + 2))
  have hS1 : am_at h1 1000000 = some (.inl (10, L, .inl xs)) := by rw [K1 _ (by decide)]; exact hS
  refine ⟨h2, ?_, J2, F2⟩
  simp only [e_223_279, e_223_280, e_223_281, e_223_282, e_223_283, e_223_284, e_223_285, e_223_286, e_223_287, e_223_288, e_223_289, e_223_290, e_223_293, e_223_294, e_223_295, e_223_296, e_223_297, e_223_298, e_223_299, e_223_300, e_223_301, e_223_302, e_223_303, e_223_304, e_223_307, lg_n, lg_i, lg_r, wd_nil, am_wd_i, am_wd_r, am_wd_l, am_gk_s, am_fld_s, List.getElem?_cons_zero, List.getElem?_cons_succ, am_bk_v, am_bk_n, bo_0, bo_1, am_pk_s, List.length_cons, List.length_nil, Nat.zero_add, List.set_cons_zero, List.set_cons_succ, Nat.reduceAdd, Nat.reduceLeDiff, Nat.reduceLT, hS, hS1, hJ.is, is1, e1, e2, eq_self, if_true, show (2 : Int32) = nI 2 by decide +kernel, ak_sc (show i + 1 < L by omega) (show L < 2 ^ 31 by omega), ak_sc (show i + 2 < L by omega) (show L < 2 ^ 31 by omega), nI_1, nI_add]
theorem lw_c6 (hJ : JI h) (hS : am_at h 1000000 = some (.inl (10, L, .inl xs))) (hi : i + 6 ≤ L) (hL : L ≤ 3072) : ∃ h', am_ev (d + 8) 223 312 [some (.ref 1000000), some (.ref 0), some (.ref 87), some (.int (nI i))] [] h = am_ev (d + 8) 223 1176 [some (.ref 1000000), some (.ref 0), some (.ref 87), some (.int (nI i))] [] h' ∧ JI h' ∧ FA h h' := by
  obtain ⟨v, h1, h2, e1, is1, K1, e2, J2, F2⟩ := j_as (d := d) hJ (xs (i + 1)) (xs (i + 2))
  have hS1 : am_at h1 1000000 = some (.inl (10, L, .inl xs)) := by rw [K1 _ (by decide)]; exact hS
  refine ⟨h2, ?_, J2, F2⟩
  simp only [e_223_312, e_223_313, e_223_314, e_223_315, e_223_316, e_223_317, e_223_318, e_223_319, e_223_320, e_223_321, e_223_322, e_223_323, e_223_326, e_223_327, e_223_328, e_223_329, e_223_330, e_223_331, e_223_332, e_223_333, e_223_334, e_223_335, e_223_336, e_223_337, e_223_340, lg_n, lg_i, lg_r, wd_nil, am_wd_i, am_wd_r, am_wd_l, am_gk_s, am_fld_s, List.getElem?_cons_zero, List.getElem?_cons_succ, am_bk_v, am_bk_n, bo_0, bo_1, am_pk_s, List.length_cons, List.length_nil, Nat.zero_add, List.set_cons_zero, List.set_cons_succ, Nat.reduceAdd, Nat.reduceLeDiff, Nat.reduceLT, hS, hS1, hJ.is, is1, e1, e2, eq_self, if_true, show (2 : Int32) = nI 2 by decide +kernel, ak_sc (show i + 1 < L by omega) (show L < 2 ^ 31 by omega), ak_sc (show i + 2 < L by omega) (show L < 2 ^ 31 by omega), nI_1, nI_add]
theorem lw_c7 (hJ : JI h) (hS : am_at h 1000000 = some (.inl (10, L, .inl xs))) (hi : i + 6 ≤ L) (hL : L ≤ 3072) : ∃ h', am_ev (d + 8) 223 345 [some (.ref 1000000), some (.ref 0), some (.ref 87), some (.int (nI i))] [] h = am_ev (d + 8) 223 1176 [some (.ref 1000000), some (.ref 0), some (.ref 87), some (.int (nI i))] [] h' ∧ JI h' ∧ FA h h' := by
  obtain ⟨v, h1, h2, e1, is1, K1, e2, J2, F2⟩ := j_step (d := d) hJ (xs (i + 1))
  have hS1 : am_at h1 1000000 = some (.inl (10, L, .inl xs)) := by rw [K1 _ (by decide)]; exact hS
  refine ⟨h2, ?_, J2, F2⟩
  simp only [e_223_345, e_223_346, e_223_347, e_223_348, e_223_349, e_223_350, e_223_351, e_223_354, e_223_355, e_223_356, e_223_357, e_223_358, e_223_359, e_223_360, e_223_363, lg_n, lg_i, lg_r, wd_nil, am_wd_i, am_wd_r, am_wd_l, am_gk_s, am_fld_s, List.getElem?_cons_zero, List.getElem?_cons_succ, am_bk_v, am_bk_n, bo_0, bo_1, am_pk_s, List.length_cons, List.length_nil, Nat.zero_add, List.set_cons_zero, List.set_cons_succ, Nat.reduceAdd, Nat.reduceLeDiff, Nat.reduceLT, hS, hS1, hJ.is, is1, e1, e2, eq_self, if_true, ak_sc (show i + 1 < L by omega) (show L < 2 ^ 31 by omega), nI_1]
theorem lw_c8 (hJ : JI h) (hS : am_at h 1000000 = some (.inl (10, L, .inl xs))) (hi : i + 6 ≤ L) (hL : L ≤ 3072) : ∃ h', am_ev (d + 8) 223 368 [some (.ref 1000000), some (.ref 0), some (.ref 87), some (.int (nI i))] [] h = am_ev (d + 8) 223 1176 [some (.ref 1000000), some (.ref 0), some (.ref 87), some (.int (nI i))] [] h' ∧ JI h' ∧ FA h h' := by
  obtain ⟨v, h1, h2, e1, is1, K1, e2, J2, F2⟩ := j_shut (d := d) hJ (xs (i + 1))
  have hS1 : am_at h1 1000000 = some (.inl (10, L, .inl xs)) := by rw [K1 _ (by decide)]; exact hS
  refine ⟨h2, ?_, J2, F2⟩
  simp only [e_223_368, e_223_369, e_223_370, e_223_371, e_223_372, e_223_373, e_223_374, e_223_377, e_223_378, e_223_379, e_223_380, e_223_381, e_223_382, e_223_383, e_223_386, lg_n, lg_i, lg_r, wd_nil, am_wd_i, am_wd_r, am_wd_l, am_gk_s, am_fld_s, List.getElem?_cons_zero, List.getElem?_cons_succ, am_bk_v, am_bk_n, bo_0, bo_1, am_pk_s, List.length_cons, List.length_nil, Nat.zero_add, List.set_cons_zero, List.set_cons_succ, Nat.reduceAdd, Nat.reduceLeDiff, Nat.reduceLT, hS, hS1, hJ.is, is1, e1, e2, eq_self, if_true, ak_sc (show i + 1 < L by omega) (show L < 2 ^ 31 by omega), nI_1]
theorem lw_c9 (hJ : JI h) (hS : am_at h 1000000 = some (.inl (10, L, .inl xs))) (hi : i + 6 ≤ L) (hL : L ≤ 3072) : ∃ h', am_ev (d + 8) 223 391 [some (.ref 1000000), some (.ref 0), some (.ref 87), some (.int (nI i))] [] h = am_ev (d + 8) 223 1176 [some (.ref 1000000), some (.ref 0), some (.ref 87), some (.int (nI i))] [] h' ∧ JI h' ∧ FA h h' := by
  obtain ⟨v, h1, h2, e1, is1, K1, e2, J2, F2⟩ := j_stairs (d := d) hJ (xs (i + 1))
  have hS1 : am_at h1 1000000 = some (.inl (10, L, .inl xs)) := by rw [K1 _ (by decide)]; exact hS
  refine ⟨h2, ?_, J2, F2⟩
  simp only [e_223_391, e_223_392, e_223_393, e_223_394, e_223_395, e_223_396, e_223_397, e_223_400, e_223_401, e_223_402, e_223_403, e_223_404, e_223_405, e_223_406, e_223_409, lg_n, lg_i, lg_r, wd_nil, am_wd_i, am_wd_r, am_wd_l, am_gk_s, am_fld_s, List.getElem?_cons_zero, List.getElem?_cons_succ, am_bk_v, am_bk_n, bo_0, bo_1, am_pk_s, List.length_cons, List.length_nil, Nat.zero_add, List.set_cons_zero, List.set_cons_succ, Nat.reduceAdd, Nat.reduceLeDiff, Nat.reduceLT, hS, hS1, hJ.is, is1, e1, e2, eq_self, if_true, ak_sc (show i + 1 < L by omega) (show L < 2 ^ 31 by omega), nI_1]
theorem lw_c10 (hJ : JI h) (hS : am_at h 1000000 = some (.inl (10, L, .inl xs))) (hi : i + 6 ≤ L) (hL : L ≤ 3072) : ∃ h', am_ev (d + 8) 223 414 [some (.ref 1000000), some (.ref 0), some (.ref 87), some (.int (nI i))] [] h = am_ev (d + 8) 223 1176 [some (.ref 1000000), some (.ref 0), some (.ref 87), some (.int (nI i))] [] h' ∧ JI h' ∧ FA h h' := by
  obtain ⟨v, h1, h2, e1, is1, K1, e2, J2, F2⟩ := j_undo (d := d) hJ 
  have hS1 : am_at h1 1000000 = some (.inl (10, L, .inl xs)) := by rw [K1 _ (by decide)]; exact hS
  refine ⟨h2, ?_, J2, F2⟩
  simp only [e_223_414, e_223_415, e_223_418, e_223_419, e_223_422, lg_n, lg_i, lg_r, wd_nil, am_wd_i, am_wd_r, am_wd_l, am_gk_s, am_fld_s, List.getElem?_cons_zero, List.getElem?_cons_succ, am_bk_v, am_bk_n, bo_0, bo_1, am_pk_s, List.length_cons, List.length_nil, Nat.zero_add, List.set_cons_zero, List.set_cons_succ, Nat.reduceAdd, Nat.reduceLeDiff, Nat.reduceLT, hS, hS1, hJ.is, is1, e1, e2, eq_self, if_true]
theorem lw_c11 (hJ : JI h) (hS : am_at h 1000000 = some (.inl (10, L, .inl xs))) (hi : i + 6 ≤ L) (hL : L ≤ 3072) : ∃ h', am_ev (d + 8) 223 427 [some (.ref 1000000), some (.ref 0), some (.ref 87), some (.int (nI i))] [] h = am_ev (d + 8) 223 1176 [some (.ref 1000000), some (.ref 0), some (.ref 87), some (.int (nI i))] [] h' ∧ JI h' ∧ FA h h' := by
  obtain ⟨v, h1, h2, e1, is1, K1, e2, J2, F2⟩ := j_keep (d := d) hJ (xs (i + 1))
  have hS1 : am_at h1 1000000 = some (.inl (10, L, .inl xs)) := by rw [K1 _ (by decide)]; exact hS
  refine ⟨h2, ?_, J2, F2⟩
  simp only [e_223_427, e_223_428, e_223_429, e_223_430, e_223_431, e_223_432, e_223_433, e_223_436, e_223_437, e_223_438, e_223_439, e_223_440, e_223_441, e_223_442, e_223_445, lg_n, lg_i, lg_r, wd_nil, am_wd_i, am_wd_r, am_wd_l, am_gk_s, am_fld_s, List.getElem?_cons_zero, List.getElem?_cons_succ, am_bk_v, am_bk_n, bo_0, bo_1, am_pk_s, List.length_cons, List.length_nil, Nat.zero_add, List.set_cons_zero, List.set_cons_succ, Nat.reduceAdd, Nat.reduceLeDiff, Nat.reduceLT, hS, hS1, hJ.is, is1, e1, e2, eq_self, if_true, ak_sc (show i + 1 < L by omega) (show L < 2 ^ 31 by omega), nI_1]
theorem lw_c12 (hJ : JI h) (hS : am_at h 1000000 = some (.inl (10, L, .inl xs))) (hi : i + 6 ≤ L) (hL : L ≤ 3072) : ∃ h', am_ev (d + 8) 223 450 [some (.ref 1000000), some (.ref 0), some (.ref 87), some (.int (nI i))] [] h = am_ev (d + 8) 223 1176 [some (.ref 1000000), some (.ref 0), some (.ref 87), some (.int (nI i))] [] h' ∧ JI h' ∧ FA h h' := by
  obtain ⟨v, h1, h2, e1, is1, K1, e2, J2, F2⟩ := j_back (d := d) hJ (xs (i + 1))
  have hS1 : am_at h1 1000000 = some (.inl (10, L, .inl xs)) := by rw [K1 _ (by decide)]; exact hS
  refine ⟨h2, ?_, J2, F2⟩
  simp only [e_223_450, e_223_451, e_223_452, e_223_453, e_223_454, e_223_455, e_223_456, e_223_459, e_223_460, e_223_461, e_223_462, e_223_463, e_223_464, e_223_465, e_223_468, lg_n, lg_i, lg_r, wd_nil, am_wd_i, am_wd_r, am_wd_l, am_gk_s, am_fld_s, List.getElem?_cons_zero, List.getElem?_cons_succ, am_bk_v, am_bk_n, bo_0, bo_1, am_pk_s, List.length_cons, List.length_nil, Nat.zero_add, List.set_cons_zero, List.set_cons_succ, Nat.reduceAdd, Nat.reduceLeDiff, Nat.reduceLT, hS, hS1, hJ.is, is1, e1, e2, eq_self, if_true, ak_sc (show i + 1 < L by omega) (show L < 2 ^ 31 by omega), nI_1]
theorem lw_c13 (hJ : JI h) (hS : am_at h 1000000 = some (.inl (10, L, .inl xs))) (hi : i + 6 ≤ L) (hL : L ≤ 3072) : ∃ h', am_ev (d + 8) 223 473 [some (.ref 1000000), some (.ref 0), some (.ref 87), some (.int (nI i))] [] h = am_ev (d + 8) 223 1176 [some (.ref 1000000), some (.ref 0), some (.ref 87), some (.int (nI i))] [] h' ∧ JI h' ∧ FA h h' := by
  obtain ⟨v, h1, h2, e1, is1, K1, e2, J2, F2⟩ := j_behind (d := d) hJ (xs (i + 1)) (xs (i + 2)) (xs (i + 3))
  have hS1 : am_at h1 1000000 = some (.inl (10, L, .inl xs)) := by rw [K1 _ (by decide)]; exact hS
  refine ⟨h2, ?_, J2, F2⟩
  simp only [e_223_473, e_223_474, e_223_475, e_223_476, e_223_477, e_223_478, e_223_479, e_223_480, e_223_481, e_223_482, e_223_483, e_223_484, e_223_485, e_223_486, e_223_487, e_223_488, e_223_489, e_223_492, e_223_493, e_223_494, e_223_495, e_223_496, e_223_497, e_223_498, e_223_499, e_223_500, e_223_501, e_223_502, e_223_503, e_223_504, e_223_505, e_223_506, e_223_507, e_223_508, e_223_511, lg_n, lg_i, lg_r, wd_nil, am_wd_i, am_wd_r, am_wd_l, am_gk_s, am_fld_s, List.getElem?_cons_zero, List.getElem?_cons_succ, am_bk_v, am_bk_n, bo_0, bo_1, am_pk_s, List.length_cons, List.length_nil, Nat.zero_add, List.set_cons_zero, List.set_cons_succ, Nat.reduceAdd, Nat.reduceLeDiff, Nat.reduceLT, hS, hS1, hJ.is, is1, e1, e2, eq_self, if_true, show (2 : Int32) = nI 2 by decide +kernel, show (3 : Int32) = nI 3 by decide +kernel, ak_sc (show i + 1 < L by omega) (show L < 2 ^ 31 by omega), ak_sc (show i + 2 < L by omega) (show L < 2 ^ 31 by omega), ak_sc (show i + 3 < L by omega) (show L < 2 ^ 31 by omega), nI_1, nI_add]
theorem lw_c14 (hJ : JI h) (hS : am_at h 1000000 = some (.inl (10, L, .inl xs))) (hi : i + 6 ≤ L) (hL : L ≤ 3072) : ∃ h', am_ev (d + 8) 223 516 [some (.ref 1000000), some (.ref 0), some (.ref 87), some (.int (nI i))] [] h = am_ev (d + 8) 223 1176 [some (.ref 1000000), some (.ref 0), some (.ref 87), some (.int (nI i))] [] h' ∧ JI h' ∧ FA h h' := by
  obtain ⟨v, h1, h2, e1, is1, K1, e2, J2, F2⟩ := j_arrives (d := d) hJ (xs (i + 1))
  have hS1 : am_at h1 1000000 = some (.inl (10, L, .inl xs)) := by rw [K1 _ (by decide)]; exact hS
  refine ⟨h2, ?_, J2, F2⟩
  simp only [e_223_516, e_223_517, e_223_518, e_223_519, e_223_520, e_223_521, e_223_522, e_223_525, e_223_526, e_223_527, e_223_528, e_223_529, e_223_530, e_223_531, e_223_534, lg_n, lg_i, lg_r, wd_nil, am_wd_i, am_wd_r, am_wd_l, am_gk_s, am_fld_s, List.getElem?_cons_zero, List.getElem?_cons_succ, am_bk_v, am_bk_n, bo_0, bo_1, am_pk_s, List.length_cons, List.length_nil, Nat.zero_add, List.set_cons_zero, List.set_cons_succ, Nat.reduceAdd, Nat.reduceLeDiff, Nat.reduceLT, hS, hS1, hJ.is, is1, e1, e2, eq_self, if_true, ak_sc (show i + 1 < L by omega) (show L < 2 ^ 31 by omega), nI_1]
theorem lw_c15 (hJ : JI h) (hS : am_at h 1000000 = some (.inl (10, L, .inl xs))) (hi : i + 6 ≤ L) (hL : L ≤ 3072) : ∃ h', am_ev (d + 8) 223 539 [some (.ref 1000000), some (.ref 0), some (.ref 87), some (.int (nI i))] [] h = am_ev (d + 8) 223 1176 [some (.ref 1000000), some (.ref 0), some (.ref 87), some (.int (nI i))] [] h' ∧ JI h' ∧ FA h h' := by
  obtain ⟨v, h1, h2, e1, is1, K1, e2, J2, F2⟩ := j_all (d := d) hJ 
  have hS1 : am_at h1 1000000 = some (.inl (10, L, .inl xs)) := by rw [K1 _ (by decide)]; exact hS
  refine ⟨h2, ?_, J2, F2⟩
  simp only [e_223_539, e_223_540, e_223_543, e_223_544, e_223_547, lg_n, lg_i, lg_r, wd_nil, am_wd_i, am_wd_r, am_wd_l, am_gk_s, am_fld_s, List.getElem?_cons_zero, List.getElem?_cons_succ, am_bk_v, am_bk_n, bo_0, bo_1, am_pk_s, List.length_cons, List.length_nil, Nat.zero_add, List.set_cons_zero, List.set_cons_succ, Nat.reduceAdd, Nat.reduceLeDiff, Nat.reduceLT, hS, hS1, hJ.is, is1, e1, e2, eq_self, if_true]
theorem lw_c16 (hJ : JI h) (hS : am_at h 1000000 = some (.inl (10, L, .inl xs))) (hi : i + 6 ≤ L) (hL : L ≤ 3072) : ∃ h', am_ev (d + 8) 223 552 [some (.ref 1000000), some (.ref 0), some (.ref 87), some (.int (nI i))] [] h = am_ev (d + 8) 223 1176 [some (.ref 1000000), some (.ref 0), some (.ref 87), some (.int (nI i))] [] h' ∧ JI h' ∧ FA h h' := by
  obtain ⟨v, h1, h2, e1, is1, K1, e2, J2, F2⟩ := j_meet (d := d) hJ (xs (i + 1)) (xs (i + 2))
  have hS1 : am_at h1 1000000 = some (.inl (10, L, .inl xs)) := by rw [K1 _ (by decide)]; exact hS
  refine ⟨h2, ?_, J2, F2⟩
  simp only [e_223_552, e_223_553, e_223_554, e_223_555, e_223_556, e_223_557, e_223_558, e_223_559, e_223_560, e_223_561, e_223_562, e_223_563, e_223_566, e_223_567, e_223_568, e_223_569, e_223_570, e_223_571, e_223_572, e_223_573, e_223_574, e_223_575, e_223_576, e_223_577, e_223_580, lg_n, lg_i, lg_r, wd_nil, am_wd_i, am_wd_r, am_wd_l, am_gk_s, am_fld_s, List.getElem?_cons_zero, List.getElem?_cons_succ, am_bk_v, am_bk_n, bo_0, bo_1, am_pk_s, List.length_cons, List.length_nil, Nat.zero_add, List.set_cons_zero, List.set_cons_succ, Nat.reduceAdd, Nat.reduceLeDiff, Nat.reduceLT, hS, hS1, hJ.is, is1, e1, e2, eq_self, if_true, show (2 : Int32) = nI 2 by decide +kernel, ak_sc (show i + 1 < L by omega) (show L < 2 ^ 31 by omega), ak_sc (show i + 2 < L by omega) (show L < 2 ^ 31 by omega), nI_1, nI_add]
theorem lw_c17 (hJ : JI h) (hS : am_at h 1000000 = some (.inl (10, L, .inl xs))) (hi : i + 6 ≤ L) (hL : L ≤ 3072) : ∃ h', am_ev (d + 8) 223 585 [some (.ref 1000000), some (.ref 0), some (.ref 87), some (.int (nI i))] [] h = am_ev (d + 8) 223 1176 [some (.ref 1000000), some (.ref 0), some (.ref 87), some (.int (nI i))] [] h' ∧ JI h' ∧ FA h h' := by
  obtain ⟨v, h1, h2, e1, is1, K1, e2, J2, F2⟩ := j_jam (d := d) hJ (xs (i + 1))
  have hS1 : am_at h1 1000000 = some (.inl (10, L, .inl xs)) := by rw [K1 _ (by decide)]; exact hS
  refine ⟨h2, ?_, J2, F2⟩
  simp only [e_223_585, e_223_586, e_223_587, e_223_588, e_223_589, e_223_590, e_223_591, e_223_594, e_223_595, e_223_596, e_223_597, e_223_598, e_223_599, e_223_600, e_223_603, lg_n, lg_i, lg_r, wd_nil, am_wd_i, am_wd_r, am_wd_l, am_gk_s, am_fld_s, List.getElem?_cons_zero, List.getElem?_cons_succ, am_bk_v, am_bk_n, bo_0, bo_1, am_pk_s, List.length_cons, List.length_nil, Nat.zero_add, List.set_cons_zero, List.set_cons_succ, Nat.reduceAdd, Nat.reduceLeDiff, Nat.reduceLT, hS, hS1, hJ.is, is1, e1, e2, eq_self, if_true, ak_sc (show i + 1 < L by omega) (show L < 2 ^ 31 by omega), nI_1]
theorem lw_c18 (hJ : JI h) (hS : am_at h 1000000 = some (.inl (10, L, .inl xs))) (hi : i + 6 ≤ L) (hL : L ≤ 3072) : ∃ h', am_ev (d + 8) 223 608 [some (.ref 1000000), some (.ref 0), some (.ref 87), some (.int (nI i))] [] h = am_ev (d + 8) 223 1176 [some (.ref 1000000), some (.ref 0), some (.ref 87), some (.int (nI i))] [] h' ∧ JI h' ∧ FA h h' := by
  obtain ⟨v, h1, h2, e1, is1, K1, e2, J2, F2⟩ := j_order (d := d) hJ (xs (i + 1))
  have hS1 : am_at h1 1000000 = some (.inl (10, L, .inl xs)) := by rw [K1 _ (by decide)]; exact hS
  refine ⟨h2, ?_, J2, F2⟩
  simp only [e_223_608, e_223_609, e_223_610, e_223_611, e_223_612, e_223_613, e_223_614, e_223_617, e_223_618, e_223_619, e_223_620, e_223_621, e_223_622, e_223_623, e_223_626, lg_n, lg_i, lg_r, wd_nil, am_wd_i, am_wd_r, am_wd_l, am_gk_s, am_fld_s, List.getElem?_cons_zero, List.getElem?_cons_succ, am_bk_v, am_bk_n, bo_0, bo_1, am_pk_s, List.length_cons, List.length_nil, Nat.zero_add, List.set_cons_zero, List.set_cons_succ, Nat.reduceAdd, Nat.reduceLeDiff, Nat.reduceLT, hS, hS1, hJ.is, is1, e1, e2, eq_self, if_true, ak_sc (show i + 1 < L by omega) (show L < 2 ^ 31 by omega), nI_1]
theorem lw_c19 (hJ : JI h) (hS : am_at h 1000000 = some (.inl (10, L, .inl xs))) (hi : i + 6 ≤ L) (hL : L ≤ 3072) : ∃ h', am_ev (d + 8) 223 631 [some (.ref 1000000), some (.ref 0), some (.ref 87), some (.int (nI i))] [] h = am_ev (d + 8) 223 1176 [some (.ref 1000000), some (.ref 0), some (.ref 87), some (.int (nI i))] [] h' ∧ JI h' ∧ FA h h' := by
  obtain ⟨v, h1, h2, e1, is1, K1, e2, J2, F2⟩ := j_dares (d := d) hJ (xs (i + 1)) (xs (i + 2)) (xs (i + 3)) (xs (i + 4))
  have hS1 : am_at h1 1000000 = some (.inl (10, L, .inl xs)) := by rw [K1 _ (by decide)]; exact hS
  refine ⟨h2, ?_, J2, F2⟩
  simp only [e_223_631, e_223_632, e_223_633, e_223_634, e_223_635, e_223_636, e_223_637, e_223_638, e_223_639, e_223_640, e_223_641, e_223_642, e_223_643, e_223_644, e_223_645, e_223_646, e_223_647, e_223_648, e_223_649, e_223_650, e_223_651, e_223_652, e_223_655, e_223_656, e_223_657, e_223_658, e_223_659, e_223_660, e_223_661, e_223_662, e_223_663, e_223_664, e_223_665, e_223_666, e_223_667, e_223_668, e_223_669, e_223_670, e_223_671, e_223_672, e_223_673, e_223_674, e_223_675, e_223_676, e_223_679, lg_n, lg_i, lg_r, wd_nil, am_wd_i, am_wd_r, am_wd_l, am_gk_s, am_fld_s, List.getElem?_cons_zero, List.getElem?_cons_succ, am_bk_v, am_bk_n, bo_0, bo_1, am_pk_s, List.length_cons, List.length_nil, Nat.zero_add, List.set_cons_zero, List.set_cons_succ, Nat.reduceAdd, Nat.reduceLeDiff, Nat.reduceLT, hS, hS1, hJ.is, is1, e1, e2, eq_self, if_true, show (2 : Int32) = nI 2 by decide +kernel, show (3 : Int32) = nI 3 by decide +kernel, show (4 : Int32) = nI 4 by decide +kernel, ak_sc (show i + 1 < L by omega) (show L < 2 ^ 31 by omega), ak_sc (show i + 2 < L by omega) (show L < 2 ^ 31 by omega), ak_sc (show i + 3 < L by omega) (show L < 2 ^ 31 by omega), ak_sc (show i + 4 < L by omega) (show L < 2 ^ 31 by omega), nI_1, nI_add]
theorem lw_c20 (hJ : JI h) (hS : am_at h 1000000 = some (.inl (10, L, .inl xs))) (hi : i + 6 ≤ L) (hL : L ≤ 3072) : ∃ h', am_ev (d + 8) 223 684 [some (.ref 1000000), some (.ref 0), some (.ref 87), some (.int (nI i))] [] h = am_ev (d + 8) 223 1176 [some (.ref 1000000), some (.ref 0), some (.ref 87), some (.int (nI i))] [] h' ∧ JI h' ∧ FA h h' := by
  obtain ⟨v, h1, h2, e1, is1, K1, e2, J2, F2⟩ := j_seen (d := d) hJ (xs (i + 1)) (xs (i + 2)) (xs (i + 3))
  have hS1 : am_at h1 1000000 = some (.inl (10, L, .inl xs)) := by rw [K1 _ (by decide)]; exact hS
  refine ⟨h2, ?_, J2, F2⟩
  simp only [e_223_684, e_223_685, e_223_686, e_223_687, e_223_688, e_223_689, e_223_690, e_223_691, e_223_692, e_223_693, e_223_694, e_223_695, e_223_696, e_223_697, e_223_698, e_223_699, e_223_700, e_223_703, e_223_704, e_223_705, e_223_706, e_223_707, e_223_708, e_223_709, e_223_710, e_223_711, e_223_712, e_223_713, e_223_714, e_223_715, e_223_716, e_223_717, e_223_718, e_223_719, e_223_722, lg_n, lg_i, lg_r, wd_nil, am_wd_i, am_wd_r, am_wd_l, am_gk_s, am_fld_s, List.getElem?_cons_zero, List.getElem?_cons_succ, am_bk_v, am_bk_n, bo_0, bo_1, am_pk_s, List.length_cons, List.length_nil, Nat.zero_add, List.set_cons_zero, List.set_cons_succ, Nat.reduceAdd, Nat.reduceLeDiff, Nat.reduceLT, hS, hS1, hJ.is, is1, e1, e2, eq_self, if_true, show (2 : Int32) = nI 2 by decide +kernel, show (3 : Int32) = nI 3 by decide +kernel, ak_sc (show i + 1 < L by omega) (show L < 2 ^ 31 by omega), ak_sc (show i + 2 < L by omega) (show L < 2 ^ 31 by omega), ak_sc (show i + 3 < L by omega) (show L < 2 ^ 31 by omega), nI_1, nI_add]
theorem lw_c21 (hJ : JI h) (hS : am_at h 1000000 = some (.inl (10, L, .inl xs))) (hi : i + 6 ≤ L) (hL : L ≤ 3072) : ∃ h', am_ev (d + 8) 223 727 [some (.ref 1000000), some (.ref 0), some (.ref 87), some (.int (nI i))] [] h = am_ev (d + 8) 223 1176 [some (.ref 1000000), some (.ref 0), some (.ref 87), some (.int (nI i))] [] h' ∧ JI h' ∧ FA h h' := by
  obtain ⟨v, h1, h2, e1, is1, K1, e2, J2, F2⟩ := j_forget (d := d) hJ 
  have hS1 : am_at h1 1000000 = some (.inl (10, L, .inl xs)) := by rw [K1 _ (by decide)]; exact hS
  refine ⟨h2, ?_, J2, F2⟩
  simp only [e_223_727, e_223_728, e_223_731, e_223_732, e_223_735, lg_n, lg_i, lg_r, wd_nil, am_wd_i, am_wd_r, am_wd_l, am_gk_s, am_fld_s, List.getElem?_cons_zero, List.getElem?_cons_succ, am_bk_v, am_bk_n, bo_0, bo_1, am_pk_s, List.length_cons, List.length_nil, Nat.zero_add, List.set_cons_zero, List.set_cons_succ, Nat.reduceAdd, Nat.reduceLeDiff, Nat.reduceLT, hS, hS1, hJ.is, is1, e1, e2, eq_self, if_true]
theorem lw_c22 (hJ : JI h) (hS : am_at h 1000000 = some (.inl (10, L, .inl xs))) (hi : i + 6 ≤ L) (hL : L ≤ 3072) : ∃ h', am_ev (d + 8) 223 740 [some (.ref 1000000), some (.ref 0), some (.ref 87), some (.int (nI i))] [] h = am_ev (d + 8) 223 1176 [some (.ref 1000000), some (.ref 0), some (.ref 87), some (.int (nI i))] [] h' ∧ JI h' ∧ FA h h' := by
  obtain ⟨v, h1, h2, e1, is1, K1, e2, J2, F2⟩ := j_kinds (d := d) hJ 
  have hS1 : am_at h1 1000000 = some (.inl (10, L, .inl xs)) := by rw [K1 _ (by decide)]; exact hS
  refine ⟨h2, ?_, J2, F2⟩
  simp only [e_223_740, e_223_741, e_223_744, e_223_745, e_223_748, lg_n, lg_i, lg_r, wd_nil, am_wd_i, am_wd_r, am_wd_l, am_gk_s, am_fld_s, List.getElem?_cons_zero, List.getElem?_cons_succ, am_bk_v, am_bk_n, bo_0, bo_1, am_pk_s, List.length_cons, List.length_nil, Nat.zero_add, List.set_cons_zero, List.set_cons_succ, Nat.reduceAdd, Nat.reduceLeDiff, Nat.reduceLT, hS, hS1, hJ.is, is1, e1, e2, eq_self, if_true]
theorem lw_c23 (hJ : JI h) (hS : am_at h 1000000 = some (.inl (10, L, .inl xs))) (hi : i + 6 ≤ L) (hL : L ≤ 3072) : ∃ h', am_ev (d + 8) 223 753 [some (.ref 1000000), some (.ref 0), some (.ref 87), some (.int (nI i))] [] h = am_ev (d + 8) 223 1176 [some (.ref 1000000), some (.ref 0), some (.ref 87), some (.int (nI i))] [] h' ∧ JI h' ∧ FA h h' := by
  obtain ⟨v, h1, h2, e1, is1, K1, e2, J2, F2⟩ := j_ask (d := d) hJ 
  have hS1 : am_at h1 1000000 = some (.inl (10, L, .inl xs)) := by rw [K1 _ (by decide)]; exact hS
  refine ⟨h2, ?_, J2, F2⟩
  simp only [e_223_753, e_223_754, e_223_757, e_223_758, e_223_761, lg_n, lg_i, lg_r, wd_nil, am_wd_i, am_wd_r, am_wd_l, am_gk_s, am_fld_s, List.getElem?_cons_zero, List.getElem?_cons_succ, am_bk_v, am_bk_n, bo_0, bo_1, am_pk_s, List.length_cons, List.length_nil, Nat.zero_add, List.set_cons_zero, List.set_cons_succ, Nat.reduceAdd, Nat.reduceLeDiff, Nat.reduceLT, hS, hS1, hJ.is, is1, e1, e2, eq_self, if_true]
theorem lw_c24 (hJ : JI h) (hS : am_at h 1000000 = some (.inl (10, L, .inl xs))) (hi : i + 6 ≤ L) (hL : L ≤ 3072) : ∃ h', am_ev (d + 8) 223 766 [some (.ref 1000000), some (.ref 0), some (.ref 87), some (.int (nI i))] [] h = am_ev (d + 8) 223 1176 [some (.ref 1000000), some (.ref 0), some (.ref 87), some (.int (nI i))] [] h' ∧ JI h' ∧ FA h h' := by
  obtain ⟨v, h1, h2, e1, is1, K1, e2, J2, F2⟩ := j_notes (d := d) hJ (xs (i + 1))
  have hS1 : am_at h1 1000000 = some (.inl (10, L, .inl xs)) := by rw [K1 _ (by decide)]; exact hS
  refine ⟨h2, ?_, J2, F2⟩
  simp only [e_223_766, e_223_767, e_223_768, e_223_769, e_223_770, e_223_771, e_223_772, e_223_775, e_223_776, e_223_777, e_223_778, e_223_779, e_223_780, e_223_781, e_223_784, lg_n, lg_i, lg_r, wd_nil, am_wd_i, am_wd_r, am_wd_l, am_gk_s, am_fld_s, List.getElem?_cons_zero, List.getElem?_cons_succ, am_bk_v, am_bk_n, bo_0, bo_1, am_pk_s, List.length_cons, List.length_nil, Nat.zero_add, List.set_cons_zero, List.set_cons_succ, Nat.reduceAdd, Nat.reduceLeDiff, Nat.reduceLT, hS, hS1, hJ.is, is1, e1, e2, eq_self, if_true, ak_sc (show i + 1 < L by omega) (show L < 2 ^ 31 by omega), nI_1]
theorem lw_c25 (hJ : JI h) (hS : am_at h 1000000 = some (.inl (10, L, .inl xs))) (hi : i + 6 ≤ L) (hL : L ≤ 3072) : ∃ h', am_ev (d + 8) 223 789 [some (.ref 1000000), some (.ref 0), some (.ref 87), some (.int (nI i))] [] h = am_ev (d + 8) 223 1176 [some (.ref 1000000), some (.ref 0), some (.ref 87), some (.int (nI i))] [] h' ∧ JI h' ∧ FA h h' := by
  obtain ⟨v, h1, h2, e1, is1, K1, e2, J2, F2⟩ := j_insert (d := d) hJ (xs (i + 1)) (xs (i + 2)) (xs (i + 3)) (xs (i + 4))
  have hS1 : am_at h1 1000000 = some (.inl (10, L, .inl xs)) := by rw [K1 _ (by decide)]; exact hS
  refine ⟨h2, ?_, J2, F2⟩
  simp only [e_223_789, e_223_790, e_223_791, e_223_792, e_223_793, e_223_794, e_223_795, e_223_796, e_223_797, e_223_798, e_223_799, e_223_800, e_223_801, e_223_802, e_223_803, e_223_804, e_223_805, e_223_806, e_223_807, e_223_808, e_223_809, e_223_810, e_223_813, e_223_814, e_223_815, e_223_816, e_223_817, e_223_818, e_223_819, e_223_820, e_223_821, e_223_822, e_223_823, e_223_824, e_223_825, e_223_826, e_223_827, e_223_828, e_223_829, e_223_830, e_223_831, e_223_832, e_223_833, e_223_834, e_223_837, lg_n, lg_i, lg_r, wd_nil, am_wd_i, am_wd_r, am_wd_l, am_gk_s, am_fld_s, List.getElem?_cons_zero, List.getElem?_cons_succ, am_bk_v, am_bk_n, bo_0, bo_1, am_pk_s, List.length_cons, List.length_nil, Nat.zero_add, List.set_cons_zero, List.set_cons_succ, Nat.reduceAdd, Nat.reduceLeDiff, Nat.reduceLT, hS, hS1, hJ.is, is1, e1, e2, eq_self, if_true, show (2 : Int32) = nI 2 by decide +kernel, show (3 : Int32) = nI 3 by decide +kernel, show (4 : Int32) = nI 4 by decide +kernel, ak_sc (show i + 1 < L by omega) (show L < 2 ^ 31 by omega), ak_sc (show i + 2 < L by omega) (show L < 2 ^ 31 by omega), ak_sc (show i + 3 < L by omega) (show L < 2 ^ 31 by omega), ak_sc (show i + 4 < L by omega) (show L < 2 ^ 31 by omega), nI_1, nI_add]
theorem lw_c26 (hJ : JI h) (hS : am_at h 1000000 = some (.inl (10, L, .inl xs))) (hi : i + 6 ≤ L) (hL : L ≤ 3072) : ∃ h', am_ev (d + 8) 223 842 [some (.ref 1000000), some (.ref 0), some (.ref 87), some (.int (nI i))] [] h = am_ev (d + 8) 223 1176 [some (.ref 1000000), some (.ref 0), some (.ref 87), some (.int (nI i))] [] h' ∧ JI h' ∧ FA h h' := by
  obtain ⟨v, h1, h2, e1, is1, K1, e2, J2, F2⟩ := j_look (d := d) hJ (xs (i + 1)) (xs (i + 2)) (xs (i + 3))
  have hS1 : am_at h1 1000000 = some (.inl (10, L, .inl xs)) := by rw [K1 _ (by decide)]; exact hS
  refine ⟨h2, ?_, J2, F2⟩
  simp only [e_223_842, e_223_843, e_223_844, e_223_845, e_223_846, e_223_847, e_223_848, e_223_849, e_223_850, e_223_851, e_223_852, e_223_853, e_223_854, e_223_855, e_223_856, e_223_857, e_223_858, e_223_861, e_223_862, e_223_863, e_223_864, e_223_865, e_223_866, e_223_867, e_223_868, e_223_869, e_223_870, e_223_871, e_223_872, e_223_873, e_223_874, e_223_875, e_223_876, e_223_877, e_223_880, lg_n, lg_i, lg_r, wd_nil, am_wd_i, am_wd_r, am_wd_l, am_gk_s, am_fld_s, List.getElem?_cons_zero, List.getElem?_cons_succ, am_bk_v, am_bk_n, bo_0, bo_1, am_pk_s, List.length_cons, List.length_nil, Nat.zero_add, List.set_cons_zero, List.set_cons_succ, Nat.reduceAdd, Nat.reduceLeDiff, Nat.reduceLT, hS, hS1, hJ.is, is1, e1, e2, eq_self, if_true, show (2 : Int32) = nI 2 by decide +kernel, show (3 : Int32) = nI 3 by decide +kernel, ak_sc (show i + 1 < L by omega) (show L < 2 ^ 31 by omega), ak_sc (show i + 2 < L by omega) (show L < 2 ^ 31 by omega), ak_sc (show i + 3 < L by omega) (show L < 2 ^ 31 by omega), nI_1, nI_add]
theorem lw_c27 (hJ : JI h) (hS : am_at h 1000000 = some (.inl (10, L, .inl xs))) (hi : i + 6 ≤ L) (hL : L ≤ 3072) : ∃ h', am_ev (d + 8) 223 885 [some (.ref 1000000), some (.ref 0), some (.ref 87), some (.int (nI i))] [] h = am_ev (d + 8) 223 1176 [some (.ref 1000000), some (.ref 0), some (.ref 87), some (.int (nI i))] [] h' ∧ JI h' ∧ FA h h' := by
  obtain ⟨v, h1, h2, e1, is1, K1, e2, J2, F2⟩ := j_cut (d := d) hJ (xs (i + 1)) (xs (i + 2)) (xs (i + 3))
  have hS1 : am_at h1 1000000 = some (.inl (10, L, .inl xs)) := by rw [K1 _ (by decide)]; exact hS
  refine ⟨h2, ?_, J2, F2⟩
  simp only [e_223_885, e_223_886, e_223_887, e_223_888, e_223_889, e_223_890, e_223_891, e_223_892, e_223_893, e_223_894, e_223_895, e_223_896, e_223_897, e_223_898, e_223_899, e_223_900, e_223_901, e_223_904, e_223_905, e_223_906, e_223_907, e_223_908, e_223_909, e_223_910, e_223_911, e_223_912, e_223_913, e_223_914, e_223_915, e_223_916, e_223_917, e_223_918, e_223_919, e_223_920, e_223_923, lg_n, lg_i, lg_r, wd_nil, am_wd_i, am_wd_r, am_wd_l, am_gk_s, am_fld_s, List.getElem?_cons_zero, List.getElem?_cons_succ, am_bk_v, am_bk_n, bo_0, bo_1, am_pk_s, List.length_cons, List.length_nil, Nat.zero_add, List.set_cons_zero, List.set_cons_succ, Nat.reduceAdd, Nat.reduceLeDiff, Nat.reduceLT, hS, hS1, hJ.is, is1, e1, e2, eq_self, if_true, show (2 : Int32) = nI 2 by decide +kernel, show (3 : Int32) = nI 3 by decide +kernel, ak_sc (show i + 1 < L by omega) (show L < 2 ^ 31 by omega), ak_sc (show i + 2 < L by omega) (show L < 2 ^ 31 by omega), ak_sc (show i + 3 < L by omega) (show L < 2 ^ 31 by omega), nI_1, nI_add]
theorem lw_c28 (hJ : JI h) (hS : am_at h 1000000 = some (.inl (10, L, .inl xs))) (hi : i + 6 ≤ L) (hL : L ≤ 3072) : ∃ h', am_ev (d + 8) 223 928 [some (.ref 1000000), some (.ref 0), some (.ref 87), some (.int (nI i))] [] h = am_ev (d + 8) 223 1176 [some (.ref 1000000), some (.ref 0), some (.ref 87), some (.int (nI i))] [] h' ∧ JI h' ∧ FA h h' := by
  obtain ⟨v, h1, h2, e1, is1, K1, e2, J2, F2⟩ := j_turn (d := d) hJ (xs (i + 1)) (xs (i + 2)) (xs (i + 3)) (xs (i + 4))
  have hS1 : am_at h1 1000000 = some (.inl (10, L, .inl xs)) := by rw [K1 _ (by decide)]; exact hS
  refine ⟨h2, ?_, J2, F2⟩
  simp only [e_223_928, e_223_929, e_223_930, e_223_931, e_223_932, e_223_933, e_223_934, e_223_935, e_223_936, e_223_937, e_223_938, e_223_939, e_223_940, e_223_941, e_223_942, e_223_943, e_223_944, e_223_945, e_223_946, e_223_947, e_223_948, e_223_949, e_223_952, e_223_953, e_223_954, e_223_955, e_223_956, e_223_957, e_223_958, e_223_959, e_223_960, e_223_961, e_223_962, e_223_963, e_223_964, e_223_965, e_223_966, e_223_967, e_223_968, e_223_969, e_223_970, e_223_971, e_223_972, e_223_973, e_223_976, lg_n, lg_i, lg_r, wd_nil, am_wd_i, am_wd_r, am_wd_l, am_gk_s, am_fld_s, List.getElem?_cons_zero, List.getElem?_cons_succ, am_bk_v, am_bk_n, bo_0, bo_1, am_pk_s, List.length_cons, List.length_nil, Nat.zero_add, List.set_cons_zero, List.set_cons_succ, Nat.reduceAdd, Nat.reduceLeDiff, Nat.reduceLT, hS, hS1, hJ.is, is1, e1, e2, eq_self, if_true, show (2 : Int32) = nI 2 by decide +kernel, show (3 : Int32) = nI 3 by decide +kernel, show (4 : Int32) = nI 4 by decide +kernel, ak_sc (show i + 1 < L by omega) (show L < 2 ^ 31 by omega), ak_sc (show i + 2 < L by omega) (show L < 2 ^ 31 by omega), ak_sc (show i + 3 < L by omega) (show L < 2 ^ 31 by omega), ak_sc (show i + 4 < L by omega) (show L < 2 ^ 31 by omega), nI_1, nI_add]
theorem lw_c29 (hJ : JI h) (hS : am_at h 1000000 = some (.inl (10, L, .inl xs))) (hi : i + 6 ≤ L) (hL : L ≤ 3072) : ∃ h', am_ev (d + 8) 223 981 [some (.ref 1000000), some (.ref 0), some (.ref 87), some (.int (nI i))] [] h = am_ev (d + 8) 223 1176 [some (.ref 1000000), some (.ref 0), some (.ref 87), some (.int (nI i))] [] h' ∧ JI h' ∧ FA h h' := by
  obtain ⟨v, h1, h2, e1, is1, K1, e2, J2, F2⟩ := j_reverse (d := d) hJ (xs (i + 1)) (xs (i + 2)) (xs (i + 3))
  have hS1 : am_at h1 1000000 = some (.inl (10, L, .inl xs)) := by rw [K1 _ (by decide)]; exact hS
  refine ⟨h2, ?_, J2, F2⟩
  simp only [e_223_981, e_223_982, e_223_983, e_223_984, e_223_985, e_223_986, e_223_987, e_223_988, e_223_989, e_223_990, e_223_991, e_223_992, e_223_993, e_223_994, e_223_995, e_223_996, e_223_997, e_223_1000, e_223_1001, e_223_1002, e_223_1003, e_223_1004, e_223_1005, e_223_1006, e_223_1007, e_223_1008, e_223_1009, e_223_1010, e_223_1011, e_223_1012, e_223_1013, e_223_1014, e_223_1015, e_223_1016, e_223_1019, lg_n, lg_i, lg_r, wd_nil, am_wd_i, am_wd_r, am_wd_l, am_gk_s, am_fld_s, List.getElem?_cons_zero, List.getElem?_cons_succ, am_bk_v, am_bk_n, bo_0, bo_1, am_pk_s, List.length_cons, List.length_nil, Nat.zero_add, List.set_cons_zero, List.set_cons_succ, Nat.reduceAdd, Nat.reduceLeDiff, Nat.reduceLT, hS, hS1, hJ.is, is1, e1, e2, eq_self, if_true, show (2 : Int32) = nI 2 by decide +kernel, show (3 : Int32) = nI 3 by decide +kernel, ak_sc (show i + 1 < L by omega) (show L < 2 ^ 31 by omega), ak_sc (show i + 2 < L by omega) (show L < 2 ^ 31 by omega), ak_sc (show i + 3 < L by omega) (show L < 2 ^ 31 by omega), nI_1, nI_add]
theorem lw_c30 (hJ : JI h) (hS : am_at h 1000000 = some (.inl (10, L, .inl xs))) (hi : i + 6 ≤ L) (hL : L ≤ 3072) : ∃ h', am_ev (d + 8) 223 1024 [some (.ref 1000000), some (.ref 0), some (.ref 87), some (.int (nI i))] [] h = am_ev (d + 8) 223 1176 [some (.ref 1000000), some (.ref 0), some (.ref 87), some (.int (nI i))] [] h' ∧ JI h' ∧ FA h h' := by
  obtain ⟨v, h1, h2, e1, is1, K1, e2, J2, F2⟩ := j_paste (d := d) hJ (xs (i + 1)) (xs (i + 2)) (xs (i + 3)) (xs (i + 4)) (xs (i + 5))
  have hS1 : am_at h1 1000000 = some (.inl (10, L, .inl xs)) := by rw [K1 _ (by decide)]; exact hS
  refine ⟨h2, ?_, J2, F2⟩
  simp only [e_223_1024, e_223_1025, e_223_1026, e_223_1027, e_223_1028, e_223_1029, e_223_1030, e_223_1031, e_223_1032, e_223_1033, e_223_1034, e_223_1035, e_223_1036, e_223_1037, e_223_1038, e_223_1039, e_223_1040, e_223_1041, e_223_1042, e_223_1043, e_223_1044, e_223_1045, e_223_1046, e_223_1047, e_223_1048, e_223_1049, e_223_1050, e_223_1053, e_223_1054, e_223_1055, e_223_1056, e_223_1057, e_223_1058, e_223_1059, e_223_1060, e_223_1061, e_223_1062, e_223_1063, e_223_1064, e_223_1065, e_223_1066, e_223_1067, e_223_1068, e_223_1069, e_223_1070, e_223_1071, e_223_1072, e_223_1073, e_223_1074, e_223_1075, e_223_1076, e_223_1077, e_223_1078, e_223_1079, e_223_1082, lg_n, lg_i, lg_r, wd_nil, am_wd_i, am_wd_r, am_wd_l, am_gk_s, am_fld_s, List.getElem?_cons_zero, List.getElem?_cons_succ, am_bk_v, am_bk_n, bo_0, bo_1, am_pk_s, List.length_cons, List.length_nil, Nat.zero_add, List.set_cons_zero, List.set_cons_succ, Nat.reduceAdd, Nat.reduceLeDiff, Nat.reduceLT, hS, hS1, hJ.is, is1, e1, e2, eq_self, if_true, show (2 : Int32) = nI 2 by decide +kernel, show (3 : Int32) = nI 3 by decide +kernel, show (4 : Int32) = nI 4 by decide +kernel, show (5 : Int32) = nI 5 by decide +kernel, ak_sc (show i + 1 < L by omega) (show L < 2 ^ 31 by omega), ak_sc (show i + 2 < L by omega) (show L < 2 ^ 31 by omega), ak_sc (show i + 3 < L by omega) (show L < 2 ^ 31 by omega), ak_sc (show i + 4 < L by omega) (show L < 2 ^ 31 by omega), ak_sc (show i + 5 < L by omega) (show L < 2 ^ 31 by omega), nI_1, nI_add]
theorem lw_c31 (hJ : JI h) (hS : am_at h 1000000 = some (.inl (10, L, .inl xs))) (hi : i + 6 ≤ L) (hL : L ≤ 3072) : ∃ h', am_ev (d + 8) 223 1087 [some (.ref 1000000), some (.ref 0), some (.ref 87), some (.int (nI i))] [] h = am_ev (d + 8) 223 1176 [some (.ref 1000000), some (.ref 0), some (.ref 87), some (.int (nI i))] [] h' ∧ JI h' ∧ FA h h' := by
  obtain ⟨v, h1, h2, e1, is1, K1, e2, J2, F2⟩ := j_often (d := d) hJ (xs (i + 1)) (xs (i + 2)) (xs (i + 3))
  have hS1 : am_at h1 1000000 = some (.inl (10, L, .inl xs)) := by rw [K1 _ (by decide)]; exact hS
  refine ⟨h2, ?_, J2, F2⟩
  simp only [e_223_1087, e_223_1088, e_223_1089, e_223_1090, e_223_1091, e_223_1092, e_223_1093, e_223_1094, e_223_1095, e_223_1096, e_223_1097, e_223_1098, e_223_1099, e_223_1100, e_223_1101, e_223_1102, e_223_1103, e_223_1106, e_223_1107, e_223_1108, e_223_1109, e_223_1110, e_223_1111, e_223_1112, e_223_1113, e_223_1114, e_223_1115, e_223_1116, e_223_1117, e_223_1118, e_223_1119, e_223_1120, e_223_1121, e_223_1122, e_223_1125, lg_n, lg_i, lg_r, wd_nil, am_wd_i, am_wd_r, am_wd_l, am_gk_s, am_fld_s, List.getElem?_cons_zero, List.getElem?_cons_succ, am_bk_v, am_bk_n, bo_0, bo_1, am_pk_s, List.length_cons, List.length_nil, Nat.zero_add, List.set_cons_zero, List.set_cons_succ, Nat.reduceAdd, Nat.reduceLeDiff, Nat.reduceLT, hS, hS1, hJ.is, is1, e1, e2, eq_self, if_true, show (2 : Int32) = nI 2 by decide +kernel, show (3 : Int32) = nI 3 by decide +kernel, ak_sc (show i + 1 < L by omega) (show L < 2 ^ 31 by omega), ak_sc (show i + 2 < L by omega) (show L < 2 ^ 31 by omega), ak_sc (show i + 3 < L by omega) (show L < 2 ^ 31 by omega), nI_1, nI_add]
theorem lw_c32 (hJ : JI h) (hS : am_at h 1000000 = some (.inl (10, L, .inl xs))) (hi : i + 6 ≤ L) (hL : L ≤ 3072) : ∃ h', am_ev (d + 8) 223 1130 [some (.ref 1000000), some (.ref 0), some (.ref 87), some (.int (nI i))] [] h = am_ev (d + 8) 223 1176 [some (.ref 1000000), some (.ref 0), some (.ref 87), some (.int (nI i))] [] h' ∧ JI h' ∧ FA h h' := by
  obtain ⟨v, h1, h2, e1, is1, K1, e2, J2, F2⟩ := j_drop (d := d) hJ (xs (i + 1))
  have hS1 : am_at h1 1000000 = some (.inl (10, L, .inl xs)) := by rw [K1 _ (by decide)]; exact hS
  refine ⟨h2, ?_, J2, F2⟩
  simp only [e_223_1130, e_223_1131, e_223_1132, e_223_1133, e_223_1134, e_223_1135, e_223_1136, e_223_1139, e_223_1140, e_223_1141, e_223_1142, e_223_1143, e_223_1144, e_223_1145, e_223_1148, lg_n, lg_i, lg_r, wd_nil, am_wd_i, am_wd_r, am_wd_l, am_gk_s, am_fld_s, List.getElem?_cons_zero, List.getElem?_cons_succ, am_bk_v, am_bk_n, bo_0, bo_1, am_pk_s, List.length_cons, List.length_nil, Nat.zero_add, List.set_cons_zero, List.set_cons_succ, Nat.reduceAdd, Nat.reduceLeDiff, Nat.reduceLT, hS, hS1, hJ.is, is1, e1, e2, eq_self, if_true, ak_sc (show i + 1 < L by omega) (show L < 2 ^ 31 by omega), nI_1]
theorem lw_c33 (hJ : JI h) (hS : am_at h 1000000 = some (.inl (10, L, .inl xs))) (hi : i + 6 ≤ L) (hL : L ≤ 3072) : ∃ h', am_ev (d + 8) 223 1153 [some (.ref 1000000), some (.ref 0), some (.ref 87), some (.int (nI i))] [] h = am_ev (d + 8) 223 1176 [some (.ref 1000000), some (.ref 0), some (.ref 87), some (.int (nI i))] [] h' ∧ JI h' ∧ FA h h' := by
  obtain ⟨v, h1, h2, e1, is1, K1, e2, J2, F2⟩ := j_count (d := d) hJ (xs (i + 1))
  have hS1 : am_at h1 1000000 = some (.inl (10, L, .inl xs)) := by rw [K1 _ (by decide)]; exact hS
  refine ⟨h2, ?_, J2, F2⟩
  simp only [e_223_1153, e_223_1154, e_223_1155, e_223_1156, e_223_1157, e_223_1158, e_223_1159, e_223_1162, e_223_1163, e_223_1164, e_223_1165, e_223_1166, e_223_1167, e_223_1168, e_223_1171, lg_n, lg_i, lg_r, wd_nil, am_wd_i, am_wd_r, am_wd_l, am_gk_s, am_fld_s, List.getElem?_cons_zero, List.getElem?_cons_succ, am_bk_v, am_bk_n, bo_0, bo_1, am_pk_s, List.length_cons, List.length_nil, Nat.zero_add, List.set_cons_zero, List.set_cons_succ, Nat.reduceAdd, Nat.reduceLeDiff, Nat.reduceLT, hS, hS1, hJ.is, is1, e1, e2, eq_self, if_true, ak_sc (show i + 1 < L by omega) (show L < 2 ^ 31 by omega), nI_1]
theorem lw_any {x : Int32} (hJ : JI h) (hS : am_at h 1000000 = some (.inl (10, L, .inl xs))) (hi : i + 6 ≤ L) (hL : L ≤ 3072) : ∃ h', am_ev (d + 8) 223 33 [some (.ref 1000000), some (.ref 0), some (.ref 87), some (.int (nI i))] [.int x] h = am_ev (d + 8) 223 1176 [some (.ref 1000000), some (.ref 0), some (.ref 87), some (.int (nI i))] [] h' ∧ JI h' ∧ FA h h' := by
  rw [e_223_33]
  by_cases c0 : x = 0
  · rw [if_pos c0]; exact lw_c0 hJ hS hi hL
  rw [if_neg c0]
  by_cases c1 : x = 1
  · rw [if_pos c1]; exact lw_c1 hJ hS hi hL
  rw [if_neg c1]
  by_cases c2 : x = 2
  · rw [if_pos c2]; exact lw_c2 hJ hS hi hL
  rw [if_neg c2]
  by_cases c3 : x = 3
  · rw [if_pos c3]; exact lw_c3 hJ hS hi hL
  rw [if_neg c3]
  by_cases c4 : x = 4
  · rw [if_pos c4]; exact lw_c4 hJ hS hi hL
  rw [if_neg c4]
  by_cases c5 : x = 5
  · rw [if_pos c5]; exact lw_c5 hJ hS hi hL
  rw [if_neg c5]
  by_cases c6 : x = 6
  · rw [if_pos c6]; exact lw_c6 hJ hS hi hL
  rw [if_neg c6]
  by_cases c7 : x = 7
  · rw [if_pos c7]; exact lw_c7 hJ hS hi hL
  rw [if_neg c7]
  by_cases c8 : x = 8
  · rw [if_pos c8]; exact lw_c8 hJ hS hi hL
  rw [if_neg c8]
  by_cases c9 : x = 9
  · rw [if_pos c9]; exact lw_c9 hJ hS hi hL
  rw [if_neg c9]
  by_cases c10 : x = 10
  · rw [if_pos c10]; exact lw_c10 hJ hS hi hL
  rw [if_neg c10]
  by_cases c11 : x = 11
  · rw [if_pos c11]; exact lw_c11 hJ hS hi hL
  rw [if_neg c11]
  by_cases c12 : x = 12
  · rw [if_pos c12]; exact lw_c12 hJ hS hi hL
  rw [if_neg c12]
  by_cases c13 : x = 13
  · rw [if_pos c13]; exact lw_c13 hJ hS hi hL
  rw [if_neg c13]
  by_cases c14 : x = 14
  · rw [if_pos c14]; exact lw_c14 hJ hS hi hL
  rw [if_neg c14]
  by_cases c15 : x = 15
  · rw [if_pos c15]; exact lw_c15 hJ hS hi hL
  rw [if_neg c15]
  by_cases c16 : x = 16
  · rw [if_pos c16]; exact lw_c16 hJ hS hi hL
  rw [if_neg c16]
  by_cases c17 : x = 17
  · rw [if_pos c17]; exact lw_c17 hJ hS hi hL
  rw [if_neg c17]
  by_cases c18 : x = 18
  · rw [if_pos c18]; exact lw_c18 hJ hS hi hL
  rw [if_neg c18]
  by_cases c19 : x = 19
  · rw [if_pos c19]; exact lw_c19 hJ hS hi hL
  rw [if_neg c19]
  by_cases c20 : x = 20
  · rw [if_pos c20]; exact lw_c20 hJ hS hi hL
  rw [if_neg c20]
  by_cases c21 : x = 21
  · rw [if_pos c21]; exact lw_c21 hJ hS hi hL
  rw [if_neg c21]
  by_cases c22 : x = 22
  · rw [if_pos c22]; exact lw_c22 hJ hS hi hL
  rw [if_neg c22]
  by_cases c23 : x = 23
  · rw [if_pos c23]; exact lw_c23 hJ hS hi hL
  rw [if_neg c23]
  by_cases c24 : x = 24
  · rw [if_pos c24]; exact lw_c24 hJ hS hi hL
  rw [if_neg c24]
  by_cases c25 : x = 25
  · rw [if_pos c25]; exact lw_c25 hJ hS hi hL
  rw [if_neg c25]
  by_cases c26 : x = 26
  · rw [if_pos c26]; exact lw_c26 hJ hS hi hL
  rw [if_neg c26]
  by_cases c27 : x = 27
  · rw [if_pos c27]; exact lw_c27 hJ hS hi hL
  rw [if_neg c27]
  by_cases c28 : x = 28
  · rw [if_pos c28]; exact lw_c28 hJ hS hi hL
  rw [if_neg c28]
  by_cases c29 : x = 29
  · rw [if_pos c29]; exact lw_c29 hJ hS hi hL
  rw [if_neg c29]
  by_cases c30 : x = 30
  · rw [if_pos c30]; exact lw_c30 hJ hS hi hL
  rw [if_neg c30]
  by_cases c31 : x = 31
  · rw [if_pos c31]; exact lw_c31 hJ hS hi hL
  rw [if_neg c31]
  by_cases c32 : x = 32
  · rw [if_pos c32]; exact lw_c32 hJ hS hi hL
  rw [if_neg c32]
  by_cases c33 : x = 33
  · rw [if_pos c33]; exact lw_c33 hJ hS hi hL
  rw [if_neg c33]
  exact ⟨h, rfl, hJ, FA.rf⟩
end LW
