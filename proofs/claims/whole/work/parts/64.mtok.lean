/-! the model reads: tokens, words, numbers -/
def xM (h : am_H) (u n sn fi be rF rP cl : Nat) (dg : Int32) (f g : Nat → Int32) : am_H := am_set (am_set (am_set h 97 (AI 2 g)) 88 (AI 392 f)) 87 (md0 (nI u) (nI n) (nI sn) (nI fi) (nI be) (nI rF) (nI rP) (nI cl) dg)
section XM
variable {d : Nat} {h : am_H} {u n sn fi be rF rP cl : Nat} {dg : Int32} {f g : Nat → Int32} {t : Nat → Nat}
theorem at_xM : am_at (xM h u n sn fi be rF rP cl dg f g) 87 = some (.inr (8, [.ref 88, .int (nI u), .ref 89, .ref 90, .int (nI n), .int (nI sn), .ref 91, .ref 92, .ref 93, .ref 94, .ref 95, .ref 96, .int (nI fi), .int (nI be), .int (nI rF), .int (nI rP), .int (nI cl), .int dg, .ref 97, .ref 98, .ref 99, .ref 100, .ref 101, .ref 102, .ref 103, .ref 104, .ref 105, .ref 106, .ref 107, .ref 108, .ref 109, .ref 110])) := at_set_eq
theorem at_xM88 : am_at (xM h u n sn fi be rF rP cl dg f g) 88 = some (AI 392 f) := by unfold xM; rw [at_set_ne (by decide), at_set_eq]
theorem at_xM97 : am_at (xM h u n sn fi be rF rP cl dg f g) 97 = some (AI 2 g) := by unfold xM; rw [at_set_ne (by decide), at_set_ne (by decide), at_set_eq]
theorem at_xMn {k : Nat} (h1 : k ≠ 87) (h2 : k ≠ 88) (h3 : k ≠ 97) : am_at (xM h u n sn fi be rF rP cl dg f g) k = am_at h k := by unfold xM; rw [at_set_ne h1, at_set_ne h2, at_set_ne h3]
theorem xM_p {u' n' sn' fi' be' rF' rP' cl' : Nat} {dg' : Int32} : am_set (xM h u n sn fi be rF rP cl dg f g) 87 (.inr (8, [.ref 88, .int (nI u'), .ref 89, .ref 90, .int (nI n'), .int (nI sn'), .ref 91, .ref 92, .ref 93, .ref 94, .ref 95, .ref 96, .int (nI fi'), .int (nI be'), .int (nI rF'), .int (nI rP'), .int (nI cl'), .int dg', .ref 97, .ref 98, .ref 99, .ref 100, .ref 101, .ref 102, .ref 103, .ref 104, .ref 105, .ref 106, .ref 107, .ref 108, .ref 109, .ref 110])) = xM h u' n' sn' fi' be' rF' rP' cl' dg' f g := by
  unfold xM
  rw [set_set]
  rfl
theorem xM_88 {f' : Nat → Int32} : am_set (xM h u n sn fi be rF rP cl dg f g) 88 (AI 392 f') = xM h u n sn fi be rF rP cl dg f' g := by
  unfold xM
  refine am_ext rfl rfl (fun k => ?_)
  simp only [am_at_set]
  by_cases h1 : k = 87
  · subst h1; simp
  · by_cases h2 : k = 88
    · subst h2; simp
    · simp [h1, h2]
theorem xM_97 {g' : Nat → Int32} : am_set (xM h u n sn fi be rF rP cl dg f g) 97 (AI 2 g') = xM h u n sn fi be rF rP cl dg f g' := by
  unfold xM
  refine am_ext rfl rfl (fun k => ?_)
  simp only [am_at_set]
  by_cases h1 : k = 87
  · subst h1; simp
  · by_cases h2 : k = 88
    · subst h2; simp
    · by_cases h3 : k = 97
      · subst h3; simp
      · simp [h1, h2, h3]
theorem is_xM : am_is (am_at (xM h u n sn fi be rF rP cl dg f g) 87) 8 = true := by rw [at_xM]; rfl
theorem m_isLet {x : Nat} (hx : x < 256) : am_cal (d + 2) 133 [.int (nI x)] h = some (some (.int (if srtN x = 1 then 1 else 0)), h) := by
  have hi := m_in (d := d) (h := h) (nI x).toInt64 97 122
  rw [l_in32, nI_toInt (by omega), show (97 : Int64).toInt = 97 from rfl, show (122 : Int64).toInt = 122 from rfl] at hi
  have hs : srtN x = 1 ↔ ((97 : Int) ≤ x ∧ (x : Int) ≤ 122) := by
    unfold srtN
    by_cases c : 97 ≤ x ∧ x ≤ 122
    · rw [if_pos c]; omega
    · rw [if_neg c]
      split <;> omega
  simp only [← hs] at hi
  refine (b_133 _ _ _).trans ?_; show am_ev _ 133 0 [some (.int (nI x))] [] _ = _
  simp only [e_133_0, e_133_1, e_133_2, e_133_5, e_133_8, lg_n, lg_i, lg_r, wd_nil, am_wd_i, am_wd_r, am_wd_l, am_gk_s, am_fld_s, List.getElem?_cons_zero, List.getElem?_cons_succ, am_bk_v, am_bk_n, bo_0, bo_1, am_pk_s, List.length_cons, List.length_nil, Nat.zero_add, List.set_cons_zero, List.set_cons_succ, Nat.reduceAdd, Nat.reduceLeDiff, Nat.reduceLT, hi]
  by_cases c : srtN x = 1
  · rw [if_pos c]; exact e_133_11 bo_1
  · rw [if_neg c]; exact e_133_11 bo_0
theorem m_isDig {x : Nat} (hx : x < 256) : am_cal (d + 2) 134 [.int (nI x)] h = some (some (.int (if srtN x = 2 then 1 else 0)), h) := by
  have hi := m_in (d := d) (h := h) (nI x).toInt64 48 57
  rw [l_in32, nI_toInt (by omega), show (48 : Int64).toInt = 48 from rfl, show (57 : Int64).toInt = 57 from rfl] at hi
  have hs : srtN x = 2 ↔ ((48 : Int) ≤ x ∧ (x : Int) ≤ 57) := by
    unfold srtN
    by_cases c : 97 ≤ x ∧ x ≤ 122
    · rw [if_pos c]; omega
    · rw [if_neg c]
      by_cases c2 : 48 ≤ x ∧ x ≤ 57
      · rw [if_pos c2]; omega
      · rw [if_neg c2]; omega
  simp only [← hs] at hi
  refine (b_134 _ _ _).trans ?_; show am_ev _ 134 0 [some (.int (nI x))] [] _ = _
  simp only [e_134_0, e_134_1, e_134_2, e_134_5, e_134_8, lg_n, lg_i, lg_r, wd_nil, am_wd_i, am_wd_r, am_wd_l, am_gk_s, am_fld_s, List.getElem?_cons_zero, List.getElem?_cons_succ, am_bk_v, am_bk_n, bo_0, bo_1, am_pk_s, List.length_cons, List.length_nil, Nat.zero_add, List.set_cons_zero, List.set_cons_succ, Nat.reduceAdd, Nat.reduceLeDiff, Nat.reduceLT, hi]
  by_cases c : srtN x = 2
  · rw [if_pos c]; exact e_134_11 bo_1
  · rw [if_neg c]; exact e_134_11 bo_0
theorem l_skipM (hT : am_at h 90 = some (AI 200 (fun k => nI (t k)))) (hn : n ≤ 200) (ht : ∀ k, t k < 256) : ∀ j b, b + j = n → am_ev d 135 8 [some (.ref 87)] [] (xM h u n sn b be rF rP cl dg f g) = am_ev d 135 46 [some (.ref 87)] [] (xM h u n sn (skN t j b) be rF rP cl dg f g) := by
  have e32 : (32 : Int32) = nI 32 := by decide +kernel
  intro j
  induction j with
  | zero =>
    intro b hb
    have : b = n := by omega
    subst this
    rw [e_135_8]
    simp only [e_135_9, e_135_12, e_135_13, e_135_16, lg_n, lg_i, lg_r, wd_nil, am_wd_i, am_wd_r, am_wd_l, am_gk_s, am_fld_s, List.getElem?_cons_zero, List.getElem?_cons_succ, am_bk_v, am_bk_n, bo_0, bo_1, am_pk_s, List.length_cons, List.length_nil, Nat.zero_add, List.set_cons_zero, List.set_cons_succ, Nat.reduceAdd, Nat.reduceLeDiff, Nat.reduceLT, at_xM, nI_leI (show b < 2 ^ 31 by omega) (show b < 2 ^ 31 by omega), Nat.le_refl, if_true, skN]
  | succ j ih =>
    intro b hb
    have htb := ht b
    have ih' := ih (b + 1) (by omega)
    rw [e_135_8]
    simp only [e_135_9, e_135_12, e_135_13, e_135_16, e_135_19, e_135_20, e_135_23, e_135_24, e_135_27, e_135_28, e_135_30, e_135_33, e_135_34, e_135_35, e_135_38, e_135_39, e_135_40, e_135_43, lg_n, lg_i, lg_r, wd_nil, am_wd_i, am_wd_r, am_wd_l, am_gk_s, am_fld_s, List.getElem?_cons_zero, List.getElem?_cons_succ, am_bk_v, am_bk_n, bo_0, bo_1, am_pk_s, List.length_cons, List.length_nil, Nat.zero_add, List.set_cons_zero, List.set_cons_succ, Nat.reduceAdd, Nat.reduceLeDiff, Nat.reduceLT, at_xM, nI_leI (show n < 2 ^ 31 by omega) (show b < 2 ^ 31 by omega), if_neg (show ¬ n ≤ b by omega), at_xMn (show 90 ≠ 87 by decide) (show 90 ≠ 88 by decide) (show 90 ≠ 97 by decide), hT, ak_AI (show b < 200 by omega) (show 200 < 2 ^ 31 by decide), e32, nI_eq (show t b < 2 ^ 31 by omega) (show 32 < 2 ^ 31 by decide), nI_1, xM_p]
    unfold skN
    by_cases h32 : t b = 32
    · rw [if_pos h32, if_pos h32]
      exact ih'
    · rw [if_neg h32, if_neg h32]
theorem l_runL (hT : am_at h 90 = some (AI 200 (fun k => nI (t k)))) (hn : n ≤ 200) (ht : ∀ k, t k < 256) : ∀ j e, e + j = n → am_ev (d + 2) 135 100 [some (.ref 87)] [] (xM h u n sn fi e rF rP cl dg f g) = some (none, xM h u n sn fi (rnN t 1 j e) rF rP cl dg f g) := by
  intro j
  induction j with
  | zero =>
    intro e he
    have : e = n := by omega
    subst this
    rw [e_135_100]
    simp only [e_135_101, e_135_104, e_135_105, e_135_108, e_135_204, lg_n, lg_i, lg_r, wd_nil, am_wd_i, am_wd_r, am_wd_l, am_gk_s, am_fld_s, List.getElem?_cons_zero, List.getElem?_cons_succ, am_bk_v, am_bk_n, bo_0, bo_1, am_pk_s, List.length_cons, List.length_nil, Nat.zero_add, List.set_cons_zero, List.set_cons_succ, Nat.reduceAdd, Nat.reduceLeDiff, Nat.reduceLT, at_xM, nI_leI (show e < 2 ^ 31 by omega) (show e < 2 ^ 31 by omega), Nat.le_refl, if_true, rnN]
  | succ j ih =>
    intro e he
    have hte := ht e
    have ih' := ih (e + 1) (by omega)
    rw [e_135_100]
    simp only [e_135_101, e_135_104, e_135_105, e_135_108, e_135_111, e_135_112, e_135_115, e_135_116, e_135_119, e_135_120, e_135_123, e_135_126, e_135_127, e_135_128, e_135_131, e_135_132, e_135_133, e_135_136, lg_n, lg_i, lg_r, wd_nil, am_wd_i, am_wd_r, am_wd_l, am_gk_s, am_fld_s, List.getElem?_cons_zero, List.getElem?_cons_succ, am_bk_v, am_bk_n, bo_0, bo_1, am_pk_s, List.length_cons, List.length_nil, Nat.zero_add, List.set_cons_zero, List.set_cons_succ, Nat.reduceAdd, Nat.reduceLeDiff, Nat.reduceLT, at_xM, nI_leI (show n < 2 ^ 31 by omega) (show e < 2 ^ 31 by omega), if_neg (show ¬ n ≤ e by omega), at_xMn (show 90 ≠ 87 by decide) (show 90 ≠ 88 by decide) (show 90 ≠ 97 by decide), hT, ak_AI (show e < 200 by omega) (show 200 < 2 ^ 31 by decide), m_isLet hte, nI_1, xM_p]
    unfold rnN
    by_cases hs : srtN (t e) = 1
    · simp only [hs, if_true, one_ne, if_false]
      exact ih'
    · simp only [hs, if_false, if_true, e_135_204]
theorem l_runD (hT : am_at h 90 = some (AI 200 (fun k => nI (t k)))) (hn : n ≤ 200) (ht : ∀ k, t k < 256) : ∀ j e, e + j = n → am_ev (d + 2) 135 165 [some (.ref 87)] [] (xM h u n sn fi e rF rP cl dg f g) = some (none, xM h u n sn fi (rnN t 2 j e) rF rP cl dg f g) := by
  intro j
  induction j with
  | zero =>
    intro e he
    have : e = n := by omega
    subst this
    rw [e_135_165]
    simp only [e_135_166, e_135_169, e_135_170, e_135_173, e_135_204, lg_n, lg_i, lg_r, wd_nil, am_wd_i, am_wd_r, am_wd_l, am_gk_s, am_fld_s, List.getElem?_cons_zero, List.getElem?_cons_succ, am_bk_v, am_bk_n, bo_0, bo_1, am_pk_s, List.length_cons, List.length_nil, Nat.zero_add, List.set_cons_zero, List.set_cons_succ, Nat.reduceAdd, Nat.reduceLeDiff, Nat.reduceLT, at_xM, nI_leI (show e < 2 ^ 31 by omega) (show e < 2 ^ 31 by omega), Nat.le_refl, if_true, rnN]
  | succ j ih =>
    intro e he
    have hte := ht e
    have ih' := ih (e + 1) (by omega)
    rw [e_135_165]
    simp only [e_135_166, e_135_169, e_135_170, e_135_173, e_135_176, e_135_177, e_135_180, e_135_181, e_135_184, e_135_185, e_135_188, e_135_191, e_135_192, e_135_193, e_135_196, e_135_197, e_135_198, e_135_201, lg_n, lg_i, lg_r, wd_nil, am_wd_i, am_wd_r, am_wd_l, am_gk_s, am_fld_s, List.getElem?_cons_zero, List.getElem?_cons_succ, am_bk_v, am_bk_n, bo_0, bo_1, am_pk_s, List.length_cons, List.length_nil, Nat.zero_add, List.set_cons_zero, List.set_cons_succ, Nat.reduceAdd, Nat.reduceLeDiff, Nat.reduceLT, at_xM, nI_leI (show n < 2 ^ 31 by omega) (show e < 2 ^ 31 by omega), if_neg (show ¬ n ≤ e by omega), at_xMn (show 90 ≠ 87 by decide) (show 90 ≠ 88 by decide) (show 90 ≠ 97 by decide), hT, ak_AI (show e < 200 by omega) (show 200 < 2 ^ 31 by decide), m_isDig hte, nI_1, xM_p]
    unfold rnN
    by_cases hs : srtN (t e) = 2
    · simp only [hs, if_true, one_ne, if_false]
      exact ih'
    · simp only [hs, if_false, if_true, e_135_204]
theorem m_tokM (hT : am_at h 90 = some (AI 200 (fun k => nI (t k)))) (hn : n ≤ 200) (ht : ∀ k, t k < 256) (hb : be ≤ n) : am_cal (d + 3) 135 [.ref 87] (xM h u n sn fi be rF rP cl dg f g) = some (none, xM h u n sn (tkB t n be) (tkE t n be) rF rP cl dg f g) := by
  have hle := tk_le t hb
  have hs := l_skipM (d := d + 2) (u := u) (sn := sn) (be := be) (rF := rF) (rP := rP) (cl := cl) (dg := dg) (f := f) (g := g) hT hn ht (n - be) be (by omega)
  refine (b_135 _ _ _).trans ?_; show am_ev _ 135 0 [some (.ref 87)] [] _ = _
  simp only [e_135_0, e_135_1, e_135_2, e_135_5, lg_n, lg_i, lg_r, wd_nil, am_wd_i, am_wd_r, am_wd_l, am_gk_s, am_fld_s, List.getElem?_cons_zero, List.getElem?_cons_succ, am_bk_v, am_bk_n, bo_0, bo_1, am_pk_s, List.length_cons, List.length_nil, Nat.zero_add, List.set_cons_zero, List.set_cons_succ, Nat.reduceAdd, Nat.reduceLeDiff, Nat.reduceLT, at_xM, xM_p]
  refine Eq.trans hs ?_
  change am_ev (d + 2) 135 46 _ _ (xM h u n sn (tkB t n be) be rF rP cl dg f g) = _
  have htB := ht (tkB t n be)
  have hsr : srtN (t (tkB t n be)) = 1 ∨ srtN (t (tkB t n be)) = 2 ∨ srtN (t (tkB t n be)) = 3 := by
    unfold srtN
    split
    · omega
    · split <;> omega
  by_cases hlt : tkB t n be < n
  · have hE : tkE t n be = if srtN (t (tkB t n be)) = 3 then tkB t n be + 1 else rnN t (srtN (t (tkB t n be))) (n - (tkB t n be + 1)) (tkB t n be + 1) := by unfold tkE; rw [if_pos hlt]
    have h1 := l_runL (d := d) (u := u) (sn := sn) (fi := tkB t n be) (rF := rF) (rP := rP) (cl := cl) (dg := dg) (f := f) (g := g) hT hn ht (n - (tkB t n be + 1)) (tkB t n be + 1) (by omega)
    have h2 := l_runD (d := d) (u := u) (sn := sn) (fi := tkB t n be) (rF := rF) (rP := rP) (cl := cl) (dg := dg) (f := f) (g := g) hT hn ht (n - (tkB t n be + 1)) (tkB t n be + 1) (by omega)
    have hL := m_isLet (d := d) (h := xM h u n sn (tkB t n be) (tkB t n be + 1) rF rP cl dg f g) htB
    have hG := m_isDig (d := d) (h := xM h u n sn (tkB t n be) (tkB t n be + 1) rF rP cl dg f g) htB
    rw [hE]
    generalize tkB t n be = B at *
    simp only [e_135_46, e_135_47, e_135_48, e_135_51, e_135_52, e_135_55, e_135_58, e_135_59, e_135_62, e_135_63, e_135_64, e_135_71, e_135_74, e_135_75, e_135_78, e_135_79, e_135_82, e_135_85, e_135_86, e_135_89, e_135_90, e_135_93, e_135_94, e_135_97, e_135_139, e_135_140, e_135_143, e_135_144, e_135_147, e_135_150, e_135_151, e_135_154, e_135_155, e_135_158, e_135_159, e_135_162, lg_n, lg_i, lg_r, wd_nil, am_wd_i, am_wd_r, am_wd_l, am_gk_s, am_fld_s, List.getElem?_cons_zero, List.getElem?_cons_succ, am_bk_v, am_bk_n, bo_0, bo_1, am_pk_s, List.length_cons, List.length_nil, Nat.zero_add, List.set_cons_zero, List.set_cons_succ, Nat.reduceAdd, Nat.reduceLeDiff, Nat.reduceLT, at_xM, nI_leI (show n < 2 ^ 31 by omega) (show B < 2 ^ 31 by omega), if_neg (show ¬ n ≤ B by omega), nI_1, xM_p, at_xMn (show 90 ≠ 87 by decide) (show 90 ≠ 88 by decide) (show 90 ≠ 97 by decide), hT, ak_AI (show B < 200 by omega) (show 200 < 2 ^ 31 by decide), hL, hG]
    rcases hsr with z | z | z
    · simp only [z, if_true, one_ne, if_false, show ¬ (1 : Nat) = 3 by decide]
      exact h1
    · simp only [z, if_true, one_ne, if_false, show ¬ (2 : Nat) = 1 by decide, show ¬ (2 : Nat) = 3 by decide]
      exact h2
    · simp only [z, if_true, if_false, show ¬ (3 : Nat) = 1 by decide, show ¬ (3 : Nat) = 2 by decide, e_135_204]
  · have hE : tkE t n be = tkB t n be := by unfold tkE; rw [if_neg hlt]
    rw [hE]
    generalize tkB t n be = B at *
    simp only [e_135_46, e_135_47, e_135_48, e_135_51, e_135_52, e_135_55, e_135_58, e_135_59, e_135_62, e_135_63, e_135_64, e_135_67, e_135_68, e_135_71, e_135_74, e_135_75, e_135_78, e_135_79, e_135_82, e_135_139, e_135_140, e_135_143, e_135_144, e_135_147, e_135_204, lg_n, lg_i, lg_r, wd_nil, am_wd_i, am_wd_r, am_wd_l, am_gk_s, am_fld_s, List.getElem?_cons_zero, List.getElem?_cons_succ, am_bk_v, am_bk_n, bo_0, bo_1, am_pk_s, List.length_cons, List.length_nil, Nat.zero_add, List.set_cons_zero, List.set_cons_succ, Nat.reduceAdd, Nat.reduceLeDiff, Nat.reduceLT, at_xM, nI_leI (show n < 2 ^ 31 by omega) (show B < 2 ^ 31 by omega), if_pos (show n ≤ B by omega), xM_p]
end XM
