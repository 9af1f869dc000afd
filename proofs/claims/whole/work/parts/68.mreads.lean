/-! the model reads: a clause, the text -/
theorem kw_w : ∀ w, w < 8 → kwN (wdN w) = w := by decide +kernel
theorem kw_iff {W : List Nat} {w : Nat} (hw : w < 8) : W = wdN w ↔ kwN W = w := by
  constructor
  · intro z
    rw [z]
    exact kw_w w hw
  · intro z
    unfold kwN at z
    by_cases c5 : W = wdN 5
    · rw [if_pos c5] at z; rw [← z]; exact c5
    rw [if_neg c5] at z
    by_cases c6 : W = wdN 6
    · rw [if_pos c6] at z; rw [← z]; exact c6
    rw [if_neg c6] at z
    by_cases c7 : W = wdN 7
    · rw [if_pos c7] at z; rw [← z]; exact c7
    rw [if_neg c7] at z
    by_cases c0 : W = wdN 0
    · rw [if_pos c0] at z; rw [← z]; exact c0
    rw [if_neg c0] at z
    by_cases c1 : W = wdN 1
    · rw [if_pos c1] at z; rw [← z]; exact c1
    rw [if_neg c1] at z
    by_cases c2 : W = wdN 2
    · rw [if_pos c2] at z; rw [← z]; exact c2
    rw [if_neg c2] at z
    by_cases c3 : W = wdN 3
    · rw [if_pos c3] at z; rw [← z]; exact c3
    rw [if_neg c3] at z
    by_cases c4 : W = wdN 4
    · rw [if_pos c4] at z; rw [← z]; exact c4
    rw [if_neg c4] at z
    omega
def MWd (h : am_H) : Prop := ∀ w, w < 8 → am_at h (98 + (w + 3) % 8) = some (AI (wdN w).length (fun k => nI ((wdN w).getD k 0)))
section XM
variable {d : Nat} {h : am_H} {u n sn fi be rF rP cl : Nat} {dg : Int32} {f g : Nat → Int32} {t : Nat → Nat}
theorem m_wordK (hW : MWd h) (hT : am_at h 90 = some (AI 200 (fun k => nI (t k)))) (hn : n ≤ 200) (ht : ∀ k, t k < 256) (hfb : fi ≤ be) (hb : be ≤ n) {w a : Nat} (hw : w < 8) (ha : a = 98 + (w + 3) % 8) : am_cal (d + 1) 136 [.ref 87, .ref a] (xM h u n sn fi be rF rP cl dg f g) = some (some (.int (if kwN (wordL t fi be) = w then 1 else 0)), xM h u n sn fi be rF rP cl dg f g) := by
  subst ha
  have := m_wordM (d := d) (u := u) (sn := sn) (rF := rF) (rP := rP) (cl := cl) (dg := dg) (f := f) (g := g) hT hn ht hfb hb hw (a := 98 + (w + 3) % 8) (by omega) (by omega) (by omega) (hW w hw)
  simp only [kw_iff hw] at this
  exact this
theorem m_kindM (hW : MWd h) (hT : am_at h 90 = some (AI 200 (fun k => nI (t k)))) (hn : n ≤ 200) (ht : ∀ k, t k < 256) (hfb : fi ≤ be) (hb : be ≤ n) : am_cal (d + 2) 138 [.ref 87] (xM h u n sn fi be rF rP cl dg f g) = some (some (.int (if kwN (wordL t fi be) ≤ 4 then nI (kwN (wordL t fi be)) else -1)), xM h u n sn fi be rF rP cl dg f g) := by
  have w0 := m_wordK (d := d) (u := u) (sn := sn) (rF := rF) (rP := rP) (cl := cl) (dg := dg) (f := f) (g := g) hW hT hn ht hfb hb (w := 0) (a := 101) (by decide) (by decide)
  have w1 := m_wordK (d := d) (u := u) (sn := sn) (rF := rF) (rP := rP) (cl := cl) (dg := dg) (f := f) (g := g) hW hT hn ht hfb hb (w := 1) (a := 102) (by decide) (by decide)
  have w2 := m_wordK (d := d) (u := u) (sn := sn) (rF := rF) (rP := rP) (cl := cl) (dg := dg) (f := f) (g := g) hW hT hn ht hfb hb (w := 2) (a := 103) (by decide) (by decide)
  have w3 := m_wordK (d := d) (u := u) (sn := sn) (rF := rF) (rP := rP) (cl := cl) (dg := dg) (f := f) (g := g) hW hT hn ht hfb hb (w := 3) (a := 104) (by decide) (by decide)
  have w4 := m_wordK (d := d) (u := u) (sn := sn) (rF := rF) (rP := rP) (cl := cl) (dg := dg) (f := f) (g := g) hW hT hn ht hfb hb (w := 4) (a := 105) (by decide) (by decide)
  generalize kwN (wordL t fi be) = K at *
  refine (b_138 _ _ _).trans ?_; show am_ev _ 138 0 [some (.ref 87)] [] _ = _
  by_cases c0 : K = 0
  · subst c0
    rw [if_pos rfl] at w0
    simp only [e_138_0, e_138_1, e_138_2, e_138_5, e_138_8, e_138_11, e_138_12, e_138_15, e_138_16, e_138_17, e_138_20, e_138_23, e_138_26, e_138_27, e_138_30, e_138_31, e_138_32, e_138_35, e_138_38, e_138_41, e_138_42, e_138_45, e_138_46, e_138_47, e_138_50, e_138_53, e_138_56, e_138_57, e_138_60, e_138_61, e_138_62, e_138_65, e_138_68, e_138_71, e_138_72, e_138_75, e_138_76, lg_n, lg_i, lg_r, wd_nil, am_wd_i, am_wd_r, am_wd_l, am_gk_s, am_fld_s, List.getElem?_cons_zero, List.getElem?_cons_succ, am_bk_v, am_bk_n, bo_0, bo_1, am_pk_s, List.length_cons, List.length_nil, Nat.zero_add, List.set_cons_zero, List.set_cons_succ, Nat.reduceAdd, Nat.reduceLeDiff, Nat.reduceLT, at_xM, is_c, w0, one_ne, if_false]
    rfl
  rw [if_neg c0] at w0
  by_cases c1 : K = 1
  · subst c1
    rw [if_pos rfl] at w1
    simp only [e_138_0, e_138_1, e_138_2, e_138_5, e_138_8, e_138_11, e_138_12, e_138_15, e_138_16, e_138_17, e_138_20, e_138_23, e_138_26, e_138_27, e_138_30, e_138_31, e_138_32, e_138_35, e_138_38, e_138_41, e_138_42, e_138_45, e_138_46, e_138_47, e_138_50, e_138_53, e_138_56, e_138_57, e_138_60, e_138_61, e_138_62, e_138_65, e_138_68, e_138_71, e_138_72, e_138_75, e_138_76, lg_n, lg_i, lg_r, wd_nil, am_wd_i, am_wd_r, am_wd_l, am_gk_s, am_fld_s, List.getElem?_cons_zero, List.getElem?_cons_succ, am_bk_v, am_bk_n, bo_0, bo_1, am_pk_s, List.length_cons, List.length_nil, Nat.zero_add, List.set_cons_zero, List.set_cons_succ, Nat.reduceAdd, Nat.reduceLeDiff, Nat.reduceLT, at_xM, is_c, w0, w1, one_ne, if_false, if_true]
    rfl
  rw [if_neg c1] at w1
  by_cases c2 : K = 2
  · subst c2
    rw [if_pos rfl] at w2
    simp only [e_138_0, e_138_1, e_138_2, e_138_5, e_138_8, e_138_11, e_138_12, e_138_15, e_138_16, e_138_17, e_138_20, e_138_23, e_138_26, e_138_27, e_138_30, e_138_31, e_138_32, e_138_35, e_138_38, e_138_41, e_138_42, e_138_45, e_138_46, e_138_47, e_138_50, e_138_53, e_138_56, e_138_57, e_138_60, e_138_61, e_138_62, e_138_65, e_138_68, e_138_71, e_138_72, e_138_75, e_138_76, lg_n, lg_i, lg_r, wd_nil, am_wd_i, am_wd_r, am_wd_l, am_gk_s, am_fld_s, List.getElem?_cons_zero, List.getElem?_cons_succ, am_bk_v, am_bk_n, bo_0, bo_1, am_pk_s, List.length_cons, List.length_nil, Nat.zero_add, List.set_cons_zero, List.set_cons_succ, Nat.reduceAdd, Nat.reduceLeDiff, Nat.reduceLT, at_xM, is_c, w0, w1, w2, one_ne, if_false, if_true]
    rfl
  rw [if_neg c2] at w2
  by_cases c3 : K = 3
  · subst c3
    rw [if_pos rfl] at w3
    simp only [e_138_0, e_138_1, e_138_2, e_138_5, e_138_8, e_138_11, e_138_12, e_138_15, e_138_16, e_138_17, e_138_20, e_138_23, e_138_26, e_138_27, e_138_30, e_138_31, e_138_32, e_138_35, e_138_38, e_138_41, e_138_42, e_138_45, e_138_46, e_138_47, e_138_50, e_138_53, e_138_56, e_138_57, e_138_60, e_138_61, e_138_62, e_138_65, e_138_68, e_138_71, e_138_72, e_138_75, e_138_76, lg_n, lg_i, lg_r, wd_nil, am_wd_i, am_wd_r, am_wd_l, am_gk_s, am_fld_s, List.getElem?_cons_zero, List.getElem?_cons_succ, am_bk_v, am_bk_n, bo_0, bo_1, am_pk_s, List.length_cons, List.length_nil, Nat.zero_add, List.set_cons_zero, List.set_cons_succ, Nat.reduceAdd, Nat.reduceLeDiff, Nat.reduceLT, at_xM, is_c, w0, w1, w2, w3, one_ne, if_false, if_true]
    rfl
  rw [if_neg c3] at w3
  by_cases c4 : K = 4
  · subst c4
    rw [if_pos rfl] at w4
    simp only [e_138_0, e_138_1, e_138_2, e_138_5, e_138_8, e_138_11, e_138_12, e_138_15, e_138_16, e_138_17, e_138_20, e_138_23, e_138_26, e_138_27, e_138_30, e_138_31, e_138_32, e_138_35, e_138_38, e_138_41, e_138_42, e_138_45, e_138_46, e_138_47, e_138_50, e_138_53, e_138_56, e_138_57, e_138_60, e_138_61, e_138_62, e_138_65, e_138_68, e_138_71, e_138_72, e_138_75, e_138_76, lg_n, lg_i, lg_r, wd_nil, am_wd_i, am_wd_r, am_wd_l, am_gk_s, am_fld_s, List.getElem?_cons_zero, List.getElem?_cons_succ, am_bk_v, am_bk_n, bo_0, bo_1, am_pk_s, List.length_cons, List.length_nil, Nat.zero_add, List.set_cons_zero, List.set_cons_succ, Nat.reduceAdd, Nat.reduceLeDiff, Nat.reduceLT, at_xM, is_c, w0, w1, w2, w3, w4, one_ne, if_false, if_true]
    rfl
  rw [if_neg c4] at w4
  simp only [e_138_0, e_138_1, e_138_2, e_138_5, e_138_8, e_138_11, e_138_12, e_138_15, e_138_16, e_138_17, e_138_20, e_138_23, e_138_26, e_138_27, e_138_30, e_138_31, e_138_32, e_138_35, e_138_38, e_138_41, e_138_42, e_138_45, e_138_46, e_138_47, e_138_50, e_138_53, e_138_56, e_138_57, e_138_60, e_138_61, e_138_62, e_138_65, e_138_68, e_138_71, e_138_72, e_138_75, e_138_76, lg_n, lg_i, lg_r, wd_nil, am_wd_i, am_wd_r, am_wd_l, am_gk_s, am_fld_s, List.getElem?_cons_zero, List.getElem?_cons_succ, am_bk_v, am_bk_n, bo_0, bo_1, am_pk_s, List.length_cons, List.length_nil, Nat.zero_add, List.set_cons_zero, List.set_cons_succ, Nat.reduceAdd, Nat.reduceLeDiff, Nat.reduceLT, at_xM, is_c, w0, w1, w2, w3, w4, if_true, if_neg (show ¬ K ≤ 4 by omega)]
theorem cl_le {t : Nat → Nat} {n : Nat} (D : Pn) {e : Nat} (he : e ≤ n) : (clN t n D e).1 ≤ 1 ∧ (clN t n D e).2.1 ≤ n ∧ (clN t n D e).2.2.1 ≤ n := by
  have h1 := tk_le t he
  have h2 := tk_le t h1.2.2.2
  have h3 := tk_le t h2.2.2.2
  unfold clN
  simp only
  repeat' split
  all_goals (simp only; omega)
theorem m_clauseM (hW : MWd h) (hT : am_at h 90 = some (AI 200 (fun k => nI (t k)))) (hn : n ≤ 200) (ht : ∀ k, t k < 256) {D : Pn} (hD : OKD D) {e : Nat} (he : e ≤ n) (hdg : dg = 0 ∨ dg = 1) (hF : dg = 1 → Told f D) : ∃ be' rF' rP' f' g', am_cal (d + 6) 143 [.ref 87] (xM h u n sn (tkB t n e) (tkE t n e) D.1 D.2.2.2.1 cl dg f g) = some (some (.int (nI (clN t n D e).1)), xM h u n sn (if (clN t n D e).1 = 0 then (clN t n D e).2.1 else tkB t n (clN t n D e).2.2.1) be' rF' rP' cl dg f' g') ∧ ((clN t n D e).1 ≠ 0 → be' = tkE t n (clN t n D e).2.2.1 ∧ rF' = (clN t n D e).2.2.2.1 ∧ rP' = (clN t n D e).2.2.2.2.2.2.1) ∧ FT f f' ∧ (dg = 0 → f' = f) ∧ (dg = 1 → (clN t n D e).1 ≠ 0 → Told f' (clN t n D e).2.2.2) := by
  have hle := tk_le t he
  have hk1 := m_kindM (d := d + 3) (u := u) (sn := sn) (rF := D.1) (rP := D.2.2.2.1) (cl := cl) (dg := dg) (f := f) (g := g) hW hT hn ht hle.2.2.1 hle.2.2.2
  have w5 := m_wordK (d := d + 4) (u := u) (sn := sn) (rF := D.1) (rP := D.2.2.2.1) (cl := cl) (dg := dg) (f := f) (g := g) hW hT hn ht hle.2.2.1 hle.2.2.2 (w := 5) (a := 98) (by decide) (by decide)
  have w6 := m_wordK (d := d + 4) (u := u) (sn := sn) (rF := D.1) (rP := D.2.2.2.1) (cl := cl) (dg := dg) (f := f) (g := g) hW hT hn ht hle.2.2.1 hle.2.2.2 (w := 6) (a := 99) (by decide) (by decide)
  have w7 := m_wordK (d := d + 4) (u := u) (sn := sn) (rF := D.1) (rP := D.2.2.2.1) (cl := cl) (dg := dg) (f := f) (g := g) hW hT hn ht hle.2.2.1 hle.2.2.2 (w := 7) (a := 100) (by decide) (by decide)
  have hKl := kwN_le (wordL t (tkB t n e) (tkE t n e))
  have hft : FT f f := fun _ _ => rfl
  obtain ⟨oP, d1, d2, d3, d4, d5⟩ := hD
  have hcl : clN t n D e = (if kwN (wordL t (tkB t n e) (tkE t n e)) = 5 then (if numN t n (tkB t n (tkE t n e)) (tkE t n (tkE t n e)) 2 7 = 0 then (0, tkB t n (tkE t n e), tkE t n (tkE t n e), D) else (1, tkB t n (tkE t n e), tkE t n (tkE t n e), (numN t n (tkB t n (tkE t n e)) (tkE t n (tkE t n e)) 2 7 - 1, 2, 0, 0, D.2.2.2.2)))
  else if kwN (wordL t (tkB t n e) (tkE t n e)) = 6 then (if numN t n (tkB t n (tkE t n e)) (tkE t n (tkE t n e)) 1 4 = 0 then (0, tkB t n (tkE t n e), tkE t n (tkE t n e), D) else (1, tkB t n (tkE t n e), tkE t n (tkE t n e), (D.1, numN t n (tkB t n (tkE t n e)) (tkE t n (tkE t n e)) 1 4 - 1, D.2.2)))
  else if kwN (wordL t (tkB t n e) (tkE t n e)) = 7 then (if numN t n (tkB t n (tkE t n e)) (tkE t n (tkE t n e)) 0 (2 * D.1 - 1) = 0 then (0, tkB t n (tkE t n e), tkE t n (tkE t n e), D) else (1, tkB t n (tkE t n e), tkE t n (tkE t n e), (D.1, D.2.1, D.2.2.1 ||| 2 ^ (numN t n (tkB t n (tkE t n e)) (tkE t n (tkE t n e)) 0 (2 * D.1 - 1) - 1), D.2.2.2)))
  else if kwN (wordL t (tkB t n e) (tkE t n e)) = 8 then (0, tkB t n e, tkE t n e, D)
  else if 8 ≤ D.2.2.2.1 then (0, tkB t n e, tkE t n e, D)
  else if numN t n (tkB t n (tkE t n e)) (tkE t n (tkE t n e)) 0 (D.1 - 1) = 0 then (0, tkB t n (tkE t n e), tkE t n (tkE t n e), D)
  else if numN t n (tkB t n (tkE t n (tkE t n e))) (tkE t n (tkE t n (tkE t n e))) 0 (D.1 - 1) = 0 ∨ numN t n (tkB t n (tkE t n (tkE t n e))) (tkE t n (tkE t n (tkE t n e))) 0 (D.1 - 1) = numN t n (tkB t n (tkE t n e)) (tkE t n (tkE t n e)) 0 (D.1 - 1) then (0, tkB t n (tkE t n (tkE t n e)), tkE t n (tkE t n (tkE t n e)), D)
  else (1, tkB t n (tkE t n (tkE t n e)), tkE t n (tkE t n (tkE t n e)), admN D (kwN (wordL t (tkB t n e) (tkE t n e))) (numN t n (tkB t n (tkE t n e)) (tkE t n (tkE t n e)) 0 (D.1 - 1) - 1) (numN t n (tkB t n (tkE t n (tkE t n e))) (tkE t n (tkE t n (tkE t n e))) 0 (D.1 - 1) - 1))) := rfl
  by_cases c5 : kwN (wordL t (tkB t n e) (tkE t n e)) = 5
  · rw [if_pos c5] at hcl w5
    rw [if_neg (by omega)] at hk1
    obtain ⟨g1, g2⟩ := m_rHall (d := d) (u := u) (sn := sn) (fi := tkB t n e) (rF := D.1) (rP := D.2.2.2.1) (cl := cl) (f := f) (g := g) hT hn ht hle.2.2.2 hdg
    by_cases hV : numN t n (tkB t n (tkE t n e)) (tkE t n (tkE t n e)) 2 7 = 0
    · rw [if_pos hV] at hcl
      rw [hcl]
      refine ⟨tkE t n (tkE t n e), D.1, D.2.2.2.1, f, g, ?_, fun z => absurd rfl z, hft, fun _ => rfl, fun _ z => absurd rfl z⟩
      refine (b_143 _ _ _).trans ?_; show am_ev _ 143 0 [some (.ref 87)] [] _ = _
      simp only [e_143_0, e_143_1, e_143_4, e_143_5, e_143_8, e_143_9, e_143_10, e_143_13, e_143_16, e_143_17, e_143_18, e_143_19, e_143_22, e_143_25, e_143_28, e_143_29, e_143_32, e_143_35, e_143_36, e_143_37, e_143_40, e_143_43, e_143_46, e_143_47, e_143_50, e_143_53, e_143_54, e_143_55, e_143_58, e_143_61, e_143_64, e_143_65, e_143_68, e_143_71, e_143_72, e_143_75, e_143_76, lg_n, lg_i, lg_r, wd_nil, am_wd_i, am_wd_r, am_wd_l, am_gk_s, am_fld_s, List.getElem?_cons_zero, List.getElem?_cons_succ, am_bk_v, am_bk_n, bo_0, bo_1, am_pk_s, List.length_cons, List.length_nil, Nat.zero_add, List.set_cons_zero, List.set_cons_succ, Nat.reduceAdd, Nat.reduceLeDiff, Nat.reduceLT, at_xM, is_c, hk1, if_true, w5, one_ne, if_false, g1 hV]
      rfl
    · rw [if_neg hV] at hcl
      rw [hcl]
      refine ⟨_, _, _, (if dg = 0 then f else lyN f 53 (numN t n (tkB t n (tkE t n e)) (tkE t n (tkE t n e)) 2 7 - 1)), upd g 0 (nI (numN t n (tkB t n (tkE t n e)) (tkE t n (tkE t n e)) 2 7 - 1)), ?_, fun _ => ⟨rfl, rfl, rfl⟩, ?_, ?_, ?_⟩
      · refine (b_143 _ _ _).trans ?_; show am_ev _ 143 0 [some (.ref 87)] [] _ = _
        simp only [e_143_0, e_143_1, e_143_4, e_143_5, e_143_8, e_143_9, e_143_10, e_143_13, e_143_16, e_143_17, e_143_18, e_143_19, e_143_22, e_143_25, e_143_28, e_143_29, e_143_32, e_143_35, e_143_36, e_143_37, e_143_40, e_143_43, e_143_46, e_143_47, e_143_50, e_143_53, e_143_54, e_143_55, e_143_58, e_143_61, e_143_64, e_143_65, e_143_68, e_143_71, e_143_72, e_143_75, e_143_76, lg_n, lg_i, lg_r, wd_nil, am_wd_i, am_wd_r, am_wd_l, am_gk_s, am_fld_s, List.getElem?_cons_zero, List.getElem?_cons_succ, am_bk_v, am_bk_n, bo_0, bo_1, am_pk_s, List.length_cons, List.length_nil, Nat.zero_add, List.set_cons_zero, List.set_cons_succ, Nat.reduceAdd, Nat.reduceLeDiff, Nat.reduceLT, at_xM, is_c, hk1, if_true, w5, one_ne, if_false, g2 hV]
        rfl
      · split
        · exact hft
        · exact ly_ft _ _
      · intro z; rw [if_pos z]
      · intro z _
        rw [if_neg (by rw [z]; decide)]
        exact ly_told _ _ _
  rw [if_neg c5] at hcl w5
  by_cases c6 : kwN (wordL t (tkB t n e) (tkE t n e)) = 6
  · rw [if_pos c6] at hcl w6
    rw [if_neg (by omega)] at hk1
    obtain ⟨g1, g2⟩ := m_rRoom (d := d) (u := u) (sn := sn) (fi := tkB t n e) (rF := D.1) (rP := D.2.2.2.1) (cl := cl) (f := f) (g := g) hT hn ht hle.2.2.2 hdg
    by_cases hV : numN t n (tkB t n (tkE t n e)) (tkE t n (tkE t n e)) 1 4 = 0
    · rw [if_pos hV] at hcl
      rw [hcl]
      refine ⟨tkE t n (tkE t n e), D.1, D.2.2.2.1, f, g, ?_, fun z => absurd rfl z, hft, fun _ => rfl, fun _ z => absurd rfl z⟩
      refine (b_143 _ _ _).trans ?_; show am_ev _ 143 0 [some (.ref 87)] [] _ = _
      simp only [e_143_0, e_143_1, e_143_4, e_143_5, e_143_8, e_143_9, e_143_10, e_143_13, e_143_16, e_143_17, e_143_18, e_143_19, e_143_22, e_143_25, e_143_28, e_143_29, e_143_32, e_143_35, e_143_36, e_143_37, e_143_40, e_143_43, e_143_46, e_143_47, e_143_50, e_143_53, e_143_54, e_143_55, e_143_58, e_143_61, e_143_64, e_143_65, e_143_68, e_143_71, e_143_72, e_143_75, e_143_76, lg_n, lg_i, lg_r, wd_nil, am_wd_i, am_wd_r, am_wd_l, am_gk_s, am_fld_s, List.getElem?_cons_zero, List.getElem?_cons_succ, am_bk_v, am_bk_n, bo_0, bo_1, am_pk_s, List.length_cons, List.length_nil, Nat.zero_add, List.set_cons_zero, List.set_cons_succ, Nat.reduceAdd, Nat.reduceLeDiff, Nat.reduceLT, at_xM, is_c, hk1, if_true, w5, w6, one_ne, if_false, g1 hV]
      rfl
    · rw [if_neg hV] at hcl
      rw [hcl]
      refine ⟨_, _, _, (if dg = 0 then f else upd f 80 (nI (numN t n (tkB t n (tkE t n e)) (tkE t n (tkE t n e)) 1 4 - 1))), upd g 0 (nI (numN t n (tkB t n (tkE t n e)) (tkE t n (tkE t n e)) 1 4 - 1)), ?_, fun _ => ⟨rfl, rfl, rfl⟩, ?_, ?_, ?_⟩
      · refine (b_143 _ _ _).trans ?_; show am_ev _ 143 0 [some (.ref 87)] [] _ = _
        simp only [e_143_0, e_143_1, e_143_4, e_143_5, e_143_8, e_143_9, e_143_10, e_143_13, e_143_16, e_143_17, e_143_18, e_143_19, e_143_22, e_143_25, e_143_28, e_143_29, e_143_32, e_143_35, e_143_36, e_143_37, e_143_40, e_143_43, e_143_46, e_143_47, e_143_50, e_143_53, e_143_54, e_143_55, e_143_58, e_143_61, e_143_64, e_143_65, e_143_68, e_143_71, e_143_72, e_143_75, e_143_76, lg_n, lg_i, lg_r, wd_nil, am_wd_i, am_wd_r, am_wd_l, am_gk_s, am_fld_s, List.getElem?_cons_zero, List.getElem?_cons_succ, am_bk_v, am_bk_n, bo_0, bo_1, am_pk_s, List.length_cons, List.length_nil, Nat.zero_add, List.set_cons_zero, List.set_cons_succ, Nat.reduceAdd, Nat.reduceLeDiff, Nat.reduceLT, at_xM, is_c, hk1, if_true, w5, w6, one_ne, if_false, g2 hV]
        rfl
      · split
        · exact hft
        · exact up_ft _ (by decide) (by decide)
      · intro z; rw [if_pos z]
      · intro z _
        rw [if_neg (by rw [z]; decide)]
        exact rm_told (hF z) _
  rw [if_neg c6] at hcl w6
  by_cases c7 : kwN (wordL t (tkB t n e) (tkE t n e)) = 7
  · rw [if_pos c7] at hcl w7
    rw [if_neg (by omega)] at hk1
    obtain ⟨g1, g2⟩ := m_rShut (d := d) (u := u) (sn := sn) (fi := tkB t n e) (rF := D.1) (rP := D.2.2.2.1) (cl := cl) (f := f) (g := g) hT hn ht hle.2.2.2 hdg ⟨d1, d2⟩ (S := D.2.2.1) (fun z => (hF z).2.2.1)
    by_cases hV : numN t n (tkB t n (tkE t n e)) (tkE t n (tkE t n e)) 0 (2 * D.1 - 1) = 0
    · rw [if_pos hV] at hcl
      rw [hcl]
      refine ⟨tkE t n (tkE t n e), D.1, D.2.2.2.1, f, g, ?_, fun z => absurd rfl z, hft, fun _ => rfl, fun _ z => absurd rfl z⟩
      refine (b_143 _ _ _).trans ?_; show am_ev _ 143 0 [some (.ref 87)] [] _ = _
      simp only [e_143_0, e_143_1, e_143_4, e_143_5, e_143_8, e_143_9, e_143_10, e_143_13, e_143_16, e_143_17, e_143_18, e_143_19, e_143_22, e_143_25, e_143_28, e_143_29, e_143_32, e_143_35, e_143_36, e_143_37, e_143_40, e_143_43, e_143_46, e_143_47, e_143_50, e_143_53, e_143_54, e_143_55, e_143_58, e_143_61, e_143_64, e_143_65, e_143_68, e_143_71, e_143_72, e_143_75, e_143_76, lg_n, lg_i, lg_r, wd_nil, am_wd_i, am_wd_r, am_wd_l, am_gk_s, am_fld_s, List.getElem?_cons_zero, List.getElem?_cons_succ, am_bk_v, am_bk_n, bo_0, bo_1, am_pk_s, List.length_cons, List.length_nil, Nat.zero_add, List.set_cons_zero, List.set_cons_succ, Nat.reduceAdd, Nat.reduceLeDiff, Nat.reduceLT, at_xM, is_c, hk1, if_true, w5, w6, w7, one_ne, if_false, g1 hV]
      rfl
    · rw [if_neg hV] at hcl
      rw [hcl]
      refine ⟨_, _, _, (if dg = 0 then f else upd f 77 (nI (D.2.2.1 ||| 2 ^ (numN t n (tkB t n (tkE t n e)) (tkE t n (tkE t n e)) 0 (2 * D.1 - 1) - 1)))), upd g 0 (nI (numN t n (tkB t n (tkE t n e)) (tkE t n (tkE t n e)) 0 (2 * D.1 - 1) - 1)), ?_, fun _ => ⟨rfl, rfl, rfl⟩, ?_, ?_, ?_⟩
      · refine (b_143 _ _ _).trans ?_; show am_ev _ 143 0 [some (.ref 87)] [] _ = _
        simp only [e_143_0, e_143_1, e_143_4, e_143_5, e_143_8, e_143_9, e_143_10, e_143_13, e_143_16, e_143_17, e_143_18, e_143_19, e_143_22, e_143_25, e_143_28, e_143_29, e_143_32, e_143_35, e_143_36, e_143_37, e_143_40, e_143_43, e_143_46, e_143_47, e_143_50, e_143_53, e_143_54, e_143_55, e_143_58, e_143_61, e_143_64, e_143_65, e_143_68, e_143_71, e_143_72, e_143_75, e_143_76, lg_n, lg_i, lg_r, wd_nil, am_wd_i, am_wd_r, am_wd_l, am_gk_s, am_fld_s, List.getElem?_cons_zero, List.getElem?_cons_succ, am_bk_v, am_bk_n, bo_0, bo_1, am_pk_s, List.length_cons, List.length_nil, Nat.zero_add, List.set_cons_zero, List.set_cons_succ, Nat.reduceAdd, Nat.reduceLeDiff, Nat.reduceLT, at_xM, is_c, hk1, if_true, w5, w6, w7, one_ne, if_false, g2 hV]
        rfl
      · split
        · exact hft
        · exact up_ft _ (by decide) (by decide)
      · intro z; rw [if_pos z]
      · intro z _
        rw [if_neg (by rw [z]; decide)]
        exact sh_told (hF z) _
  rw [if_neg c7] at hcl w7
  by_cases c8 : kwN (wordL t (tkB t n e) (tkE t n e)) = 8
  · rw [if_pos c8] at hcl
    rw [if_neg (by omega)] at hk1
    rw [hcl]
    refine ⟨tkE t n e, D.1, D.2.2.2.1, f, g, ?_, fun z => absurd rfl z, hft, fun _ => rfl, fun _ z => absurd rfl z⟩
    refine (b_143 _ _ _).trans ?_; show am_ev _ 143 0 [some (.ref 87)] [] _ = _
    simp only [e_143_0, e_143_1, e_143_4, e_143_5, e_143_8, e_143_9, e_143_10, e_143_13, e_143_16, e_143_17, e_143_18, e_143_19, e_143_22, e_143_25, e_143_28, e_143_29, e_143_32, e_143_35, e_143_36, e_143_37, e_143_40, e_143_43, e_143_46, e_143_47, e_143_50, e_143_53, e_143_54, e_143_55, e_143_58, e_143_61, e_143_64, e_143_65, e_143_68, e_143_71, e_143_72, e_143_75, e_143_76, lg_n, lg_i, lg_r, wd_nil, am_wd_i, am_wd_r, am_wd_l, am_gk_s, am_fld_s, List.getElem?_cons_zero, List.getElem?_cons_succ, am_bk_v, am_bk_n, bo_0, bo_1, am_pk_s, List.length_cons, List.length_nil, Nat.zero_add, List.set_cons_zero, List.set_cons_succ, Nat.reduceAdd, Nat.reduceLeDiff, Nat.reduceLT, at_xM, is_c, hk1, if_true, w5, w6, w7]
    rfl
  rw [if_neg c8] at hcl
  rw [if_pos (by omega)] at hk1
  have hn1 : ¬ nI (kwN (wordL t (tkB t n e) (tkE t n e))) = -1 := nm1 (by omega)
  obtain ⟨g1, g2⟩ := m_rPers (d := d) (u := u) (sn := sn) (fi := tkB t n e) (rF := D.1) (rP := D.2.2.2.1) (cl := cl) (f := f) (g := g) hT hn ht hle.2.2.2 hdg ⟨d1, d2⟩ oP.2.2.2.1 (fun z => (hF z).1.2.2.1) (k := kwN (wordL t (tkB t n e) (tkE t n e)))
  have hp8 := oP.2.2.2.1
  by_cases h8 : 8 ≤ D.2.2.2.1
  · rw [if_pos h8] at hcl
    rw [hcl]
    refine ⟨tkE t n e, D.1, D.2.2.2.1, f, g, ?_, fun z => absurd rfl z, hft, fun _ => rfl, fun _ z => absurd rfl z⟩
    have g1' := g1 (by omega)
    refine (b_143 _ _ _).trans ?_; show am_ev _ 143 0 [some (.ref 87)] [] _ = _
    simp only [e_143_0, e_143_1, e_143_4, e_143_5, e_143_8, e_143_9, e_143_10, e_143_13, e_143_16, e_143_17, e_143_18, e_143_19, e_143_22, e_143_25, e_143_28, e_143_29, e_143_32, e_143_35, e_143_36, e_143_37, e_143_40, e_143_43, e_143_46, e_143_47, e_143_50, e_143_53, e_143_54, e_143_55, e_143_58, e_143_61, e_143_64, e_143_65, e_143_68, e_143_71, e_143_72, e_143_75, e_143_76, lg_n, lg_i, lg_r, wd_nil, am_wd_i, am_wd_r, am_wd_l, am_gk_s, am_fld_s, List.getElem?_cons_zero, List.getElem?_cons_succ, am_bk_v, am_bk_n, bo_0, bo_1, am_pk_s, List.length_cons, List.length_nil, Nat.zero_add, List.set_cons_zero, List.set_cons_succ, Nat.reduceAdd, Nat.reduceLeDiff, Nat.reduceLT, at_xM, is_c, hk1, hn1, if_false, g1']
    rfl
  rw [if_neg h8] at hcl
  obtain ⟨g3, g4⟩ := g2 (by omega)
  by_cases hV : numN t n (tkB t n (tkE t n e)) (tkE t n (tkE t n e)) 0 (D.1 - 1) = 0
  · rw [if_pos hV] at hcl
    rw [hcl]
    refine ⟨tkE t n (tkE t n e), D.1, D.2.2.2.1, f, g, ?_, fun z => absurd rfl z, hft, fun _ => rfl, fun _ z => absurd rfl z⟩
    refine (b_143 _ _ _).trans ?_; show am_ev _ 143 0 [some (.ref 87)] [] _ = _
    simp only [e_143_0, e_143_1, e_143_4, e_143_5, e_143_8, e_143_9, e_143_10, e_143_13, e_143_16, e_143_17, e_143_18, e_143_19, e_143_22, e_143_25, e_143_28, e_143_29, e_143_32, e_143_35, e_143_36, e_143_37, e_143_40, e_143_43, e_143_46, e_143_47, e_143_50, e_143_53, e_143_54, e_143_55, e_143_58, e_143_61, e_143_64, e_143_65, e_143_68, e_143_71, e_143_72, e_143_75, e_143_76, lg_n, lg_i, lg_r, wd_nil, am_wd_i, am_wd_r, am_wd_l, am_gk_s, am_fld_s, List.getElem?_cons_zero, List.getElem?_cons_succ, am_bk_v, am_bk_n, bo_0, bo_1, am_pk_s, List.length_cons, List.length_nil, Nat.zero_add, List.set_cons_zero, List.set_cons_succ, Nat.reduceAdd, Nat.reduceLeDiff, Nat.reduceLT, at_xM, is_c, hk1, hn1, if_false, g3 hV]
    rfl
  rw [if_neg hV] at hcl
  obtain ⟨g5, g6⟩ := g4 hV
  by_cases hX : numN t n (tkB t n (tkE t n (tkE t n e))) (tkE t n (tkE t n (tkE t n e))) 0 (D.1 - 1) = 0 ∨ numN t n (tkB t n (tkE t n (tkE t n e))) (tkE t n (tkE t n (tkE t n e))) 0 (D.1 - 1) = numN t n (tkB t n (tkE t n e)) (tkE t n (tkE t n e)) 0 (D.1 - 1)
  · rw [if_pos hX] at hcl
    rw [hcl]
    obtain ⟨g', e'⟩ := g5 hX
    refine ⟨tkE t n (tkE t n (tkE t n e)), D.1, D.2.2.2.1, f, g', ?_, fun z => absurd rfl z, hft, fun _ => rfl, fun _ z => absurd rfl z⟩
    refine (b_143 _ _ _).trans ?_; show am_ev _ 143 0 [some (.ref 87)] [] _ = _
    simp only [e_143_0, e_143_1, e_143_4, e_143_5, e_143_8, e_143_9, e_143_10, e_143_13, e_143_16, e_143_17, e_143_18, e_143_19, e_143_22, e_143_25, e_143_28, e_143_29, e_143_32, e_143_35, e_143_36, e_143_37, e_143_40, e_143_43, e_143_46, e_143_47, e_143_50, e_143_53, e_143_54, e_143_55, e_143_58, e_143_61, e_143_64, e_143_65, e_143_68, e_143_71, e_143_72, e_143_75, e_143_76, lg_n, lg_i, lg_r, wd_nil, am_wd_i, am_wd_r, am_wd_l, am_gk_s, am_fld_s, List.getElem?_cons_zero, List.getElem?_cons_succ, am_bk_v, am_bk_n, bo_0, bo_1, am_pk_s, List.length_cons, List.length_nil, Nat.zero_add, List.set_cons_zero, List.set_cons_succ, Nat.reduceAdd, Nat.reduceLeDiff, Nat.reduceLT, at_xM, is_c, hk1, hn1, if_false, e']
    rfl
  · rw [if_neg hX] at hcl
    rw [hcl]
    obtain ⟨g', e'⟩ := g6 hX
    refine ⟨_, _, _, (if dg = 0 then f else psF f D.2.2.2.1 (kwN (wordL t (tkB t n e) (tkE t n e))) (numN t n (tkB t n (tkE t n e)) (tkE t n (tkE t n e)) 0 (D.1 - 1) - 1) (numN t n (tkB t n (tkE t n (tkE t n e))) (tkE t n (tkE t n (tkE t n e))) 0 (D.1 - 1) - 1)), g', ?_, fun _ => ⟨rfl, rfl, rfl⟩, ?_, ?_, ?_⟩
    · refine (b_143 _ _ _).trans ?_; show am_ev _ 143 0 [some (.ref 87)] [] _ = _
      simp only [e_143_0, e_143_1, e_143_4, e_143_5, e_143_8, e_143_9, e_143_10, e_143_13, e_143_16, e_143_17, e_143_18, e_143_19, e_143_22, e_143_25, e_143_28, e_143_29, e_143_32, e_143_35, e_143_36, e_143_37, e_143_40, e_143_43, e_143_46, e_143_47, e_143_50, e_143_53, e_143_54, e_143_55, e_143_58, e_143_61, e_143_64, e_143_65, e_143_68, e_143_71, e_143_72, e_143_75, e_143_76, lg_n, lg_i, lg_r, wd_nil, am_wd_i, am_wd_r, am_wd_l, am_gk_s, am_fld_s, List.getElem?_cons_zero, List.getElem?_cons_succ, am_bk_v, am_bk_n, bo_0, bo_1, am_pk_s, List.length_cons, List.length_nil, Nat.zero_add, List.set_cons_zero, List.set_cons_succ, Nat.reduceAdd, Nat.reduceLeDiff, Nat.reduceLT, at_xM, is_c, hk1, hn1, if_false, e']
      rfl
    · split
      · exact hft
      · exact ps_ft (by omega)
    · intro z; rw [if_pos z]
    · intro z _
      rw [if_neg (by rw [z]; decide)]
      exact ps_told (hF z) (by omega) _ _ _
end XM
