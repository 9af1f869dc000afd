/-! the model reads: words, numbers, clauses -/
section XM
variable {d : Nat} {h : am_H} {u n sn fi be rF rP cl : Nat} {dg : Int32} {f g : Nat → Int32} {t : Nat → Nat}
theorem wd_len : ∀ w, w < 8 → 4 ≤ (wdN w).length ∧ (wdN w).length ≤ 6 ∧ ∀ i, i < 6 → (wdN w).getD i 0 < 256 := by decide +kernel
theorem l_wordM (hT : am_at h 90 = some (AI 200 (fun k => nI (t k)))) (hn : n ≤ 200) (ht : ∀ k, t k < 256) {w a : Nat} (hw : w < 8) (h1 : a ≠ 87) (h2 : a ≠ 88) (h3 : a ≠ 97) (ha : am_at h a = some (AI (wdN w).length (fun k => nI ((wdN w).getD k 0)))) (hf : fi + (wdN w).length ≤ n) : ∀ j k, k + j = (wdN w).length → am_ev d 136 22 [some (.ref 87), some (.ref a), some (.int 1), some (.int (nI k))] [] (xM h u n sn fi be rF rP cl dg f g) = some (some (.int (if mtN t fi (wdN w) j k then 1 else 0)), xM h u n sn fi be rF rP cl dg f g) := by
  obtain ⟨w1, w2, w3⟩ := wd_len w hw
  have ha' : am_at (xM h u n sn fi be rF rP cl dg f g) a = some (AI (wdN w).length (fun k => nI ((wdN w).getD k 0))) := by rw [at_xMn h1 h2 h3]; exact ha
  have hlen := fun ls st => e_136_24 (d := d) (ls := ls) (st := st) (h := xM h u n sn fi be rF rP cl dg f g) ha'
  have hz : ∀ k, k ≤ (wdN w).length → am_ev d 136 22 [some (.ref 87), some (.ref a), some (.int 0), some (.int (nI k))] [] (xM h u n sn fi be rF rP cl dg f g) = some (some (.int 0), xM h u n sn fi be rF rP cl dg f g) := by
    intro k hk
    rw [e_136_22]
    simp only [e_136_23, e_136_25, e_136_28, e_136_29, e_136_61, e_136_62, lg_n, lg_i, lg_r, wd_nil, am_wd_i, am_wd_r, am_wd_l, am_gk_s, am_fld_s, List.getElem?_cons_zero, List.getElem?_cons_succ, am_bk_v, am_bk_n, bo_0, bo_1, am_pk_s, List.length_cons, List.length_nil, Nat.zero_add, List.set_cons_zero, List.set_cons_succ, Nat.reduceAdd, Nat.reduceLeDiff, Nat.reduceLT, hlen, nI_leI (show (wdN w).length < 2 ^ 31 by omega) (show k < 2 ^ 31 by omega), if_true]
    by_cases c : (wdN w).length ≤ k
    · rw [if_pos c]
    · rw [if_neg c]
  intro j
  induction j with
  | zero =>
    intro k hk
    have : k = (wdN w).length := by omega
    subst this
    rw [e_136_22]
    simp only [e_136_23, e_136_25, e_136_61, e_136_62, lg_n, lg_i, lg_r, wd_nil, am_wd_i, am_wd_r, am_wd_l, am_gk_s, am_fld_s, List.getElem?_cons_zero, List.getElem?_cons_succ, am_bk_v, am_bk_n, bo_0, bo_1, am_pk_s, List.length_cons, List.length_nil, Nat.zero_add, List.set_cons_zero, List.set_cons_succ, Nat.reduceAdd, Nat.reduceLeDiff, Nat.reduceLT, hlen, nI_leI (show (wdN w).length < 2 ^ 31 by omega) (show (wdN w).length < 2 ^ 31 by omega), Nat.le_refl, if_true, mtN]
  | succ j ih =>
    intro k hk
    have ih' := ih (k + 1) (by omega)
    have htk := ht (fi + k)
    have hwk := w3 k (by omega)
    rw [e_136_22]
    simp only [e_136_23, e_136_25, e_136_28, e_136_29, e_136_32, e_136_33, e_136_36, e_136_37, e_136_40, e_136_41, e_136_42, e_136_43, e_136_44, e_136_45, e_136_46, e_136_49, e_136_50, e_136_53, e_136_54, e_136_55, e_136_58, lg_n, lg_i, lg_r, wd_nil, am_wd_i, am_wd_r, am_wd_l, am_gk_s, am_fld_s, List.getElem?_cons_zero, List.getElem?_cons_succ, am_bk_v, am_bk_n, bo_0, bo_1, am_pk_s, List.length_cons, List.length_nil, Nat.zero_add, List.set_cons_zero, List.set_cons_succ, Nat.reduceAdd, Nat.reduceLeDiff, Nat.reduceLT, hlen, nI_leI (show (wdN w).length < 2 ^ 31 by omega) (show k < 2 ^ 31 by omega), if_neg (show ¬ (wdN w).length ≤ k by omega), one_ne, if_false, at_xM, at_xMn (show 90 ≠ 87 by decide) (show 90 ≠ 88 by decide) (show 90 ≠ 97 by decide), hT, nI_add, ak_AI (show fi + k < 200 by omega) (show 200 < 2 ^ 31 by decide), ha', ak_AI (show k < (wdN w).length by omega) (show (wdN w).length < 2 ^ 31 by omega), nI_eq (show t (fi + k) < 2 ^ 31 by omega) (show (wdN w).getD k 0 < 2 ^ 31 by omega), nI_1]
    unfold mtN
    by_cases c : t (fi + k) = (wdN w).getD k 0
    · rw [if_pos c, if_pos c]
      exact ih'
    · rw [if_neg c, if_neg c]
      exact hz (k + 1) (by omega)
theorem m_wordM (hT : am_at h 90 = some (AI 200 (fun k => nI (t k)))) (hn : n ≤ 200) (ht : ∀ k, t k < 256) (hfb : fi ≤ be) (hb : be ≤ n) {w a : Nat} (hw : w < 8) (h1 : a ≠ 87) (h2 : a ≠ 88) (h3 : a ≠ 97) (ha : am_at h a = some (AI (wdN w).length (fun k => nI ((wdN w).getD k 0)))) : am_cal (d + 1) 136 [.ref 87, .ref a] (xM h u n sn fi be rF rP cl dg f g) = some (some (.int (if wordL t fi be = wdN w then 1 else 0)), xM h u n sn fi be rF rP cl dg f g) := by
  obtain ⟨w1, w2, w3⟩ := wd_len w hw
  have ha' : am_at (xM h u n sn fi be rF rP cl dg f g) a = some (AI (wdN w).length (fun k => nI ((wdN w).getD k 0))) := by rw [at_xMn h1 h2 h3]; exact ha
  have hlen := fun ls st => e_136_10 (d := d) (ls := ls) (st := st) (h := xM h u n sn fi be rF rP cl dg f g) ha'
  have hlen2 := fun ls st => e_136_24 (d := d) (ls := ls) (st := st) (h := xM h u n sn fi be rF rP cl dg f g) ha'
  refine (b_136 _ _ _).trans ?_; show am_ev _ 136 0 [some (.ref 87), some (.ref a), none, none] [] _ = _
  simp only [e_136_0, e_136_1, e_136_4, e_136_5, e_136_8, e_136_9, e_136_11, e_136_14, e_136_15, e_136_18, e_136_19, e_136_20, e_136_21, lg_n, lg_i, lg_r, wd_nil, am_wd_i, am_wd_r, am_wd_l, am_gk_s, am_fld_s, List.getElem?_cons_zero, List.getElem?_cons_succ, am_bk_v, am_bk_n, bo_0, bo_1, am_pk_s, List.length_cons, List.length_nil, Nat.zero_add, List.set_cons_zero, List.set_cons_succ, Nat.reduceAdd, Nat.reduceLeDiff, Nat.reduceLT, at_xM, hlen, pk_sub hfb, nI_eq (show be - fi < 2 ^ 31 by omega) (show (wdN w).length < 2 ^ 31 by omega)]
  by_cases c : be - fi = (wdN w).length
  · rw [if_pos c]
    have hl := l_wordM (d := d) (u := u) (sn := sn) (fi := fi) (be := be) (rF := rF) (rP := rP) (cl := cl) (dg := dg) (f := f) (g := g) hT hn ht hw h1 h2 h3 ha (by omega) (wdN w).length 0 (by omega)
    refine Eq.trans hl ?_
    have := word_iff t fi be (wdN w)
    by_cases c2 : mtN t fi (wdN w) (wdN w).length 0 = true
    · rw [if_pos c2, if_pos (this.2 ⟨c, c2⟩)]
    · rw [if_neg c2, if_neg (fun z => c2 (this.1 z).2)]
  · rw [if_neg c, if_neg (fun z => c ((word_iff t fi be (wdN w)).1 z).1)]
    rw [e_136_22]
    simp only [e_136_23, e_136_25, e_136_28, e_136_29, e_136_61, e_136_62, lg_n, lg_i, lg_r, wd_nil, am_wd_i, am_wd_r, am_wd_l, am_gk_s, am_fld_s, List.getElem?_cons_zero, List.getElem?_cons_succ, am_bk_v, am_bk_n, bo_0, bo_1, am_pk_s, List.length_cons, List.length_nil, Nat.zero_add, List.set_cons_zero, List.set_cons_succ, Nat.reduceAdd, Nat.reduceLeDiff, Nat.reduceLT, hlen2, if_true]
    split <;> rfl
theorem dg_of {x : Nat} (hx : srtN x = 2) : 48 ≤ x ∧ x ≤ 57 := by
  unfold srtN at hx
  by_cases g1 : 97 ≤ x ∧ x ≤ 122
  · rw [if_pos g1] at hx; omega
  · rw [if_neg g1] at hx
    by_cases g2 : 48 ≤ x ∧ x ≤ 57
    · exact g2
    · rw [if_neg g2] at hx; omega
theorem m_numM (hT : am_at h 90 = some (AI 200 (fun k => nI (t k)))) (hn : n ≤ 200) (ht : ∀ k, t k < 256) {e : Nat} (he : e ≤ n) {i lo hi : Nat} (hi2 : i < 2) (hlo : lo < 2 ^ 31) (hhi : hi < 2 ^ 31) : (numN t n (tkB t n e) (tkE t n e) lo hi = 0 → am_cal (d + 4) 137 [.ref 87, .int (nI i), .int (nI lo), .int (nI hi)] (xM h u n sn (tkB t n e) (tkE t n e) rF rP cl dg f g) = some (some (.int 0), xM h u n sn (tkB t n e) (tkE t n e) rF rP cl dg f g)) ∧ (numN t n (tkB t n e) (tkE t n e) lo hi ≠ 0 → am_cal (d + 4) 137 [.ref 87, .int (nI i), .int (nI lo), .int (nI hi)] (xM h u n sn (tkB t n e) (tkE t n e) rF rP cl dg f g) = some (some (.int 1), xM h u n sn (tkB t n (tkE t n e)) (tkE t n (tkE t n e)) rF rP cl dg f (upd g i (nI (numN t n (tkB t n e) (tkE t n e) lo hi - 1))))) := by
  have hle := tk_le t he
  have hlt := tk_lt t (n := n) (e := e)
  have hall := fun i => tk_all t (n := n) (e := e) (i := i)
  have hnx := fun g' => m_tokM (d := d) (h := h) (u := u) (n := n) (sn := sn) (fi := tkB t n e) (be := tkE t n e) (rF := rF) (rP := rP) (cl := cl) (dg := dg) (f := f) (g := g') hT hn ht hle.2.2.2
  generalize tkB t n e = B at *
  generalize tkE t n e = E at *
  have e2 : (2 : Int32) = nI 2 := by decide +kernel
  have e10 : (10 : Int32) = nI 10 := by decide +kernel
  have e48 : (48 : Int32) = nI 48 := by decide +kernel
  have htB := ht B
  have hG := m_isDig (d := d + 1) (h := xM h u n sn B E rF rP cl dg f g) htB
  unfold numN
  by_cases h1 : B < n
  · have h4 := hlt h1
    by_cases h2 : srtN (t B) = 2
    · rw [if_pos h2] at hG
      have dB := dg_of h2
      by_cases h3 : E - B ≤ 2
      · rw [if_pos ⟨h1, h2, h3⟩]
        have fin : ∀ V, V < 2 ^ 30 → valN t B E = V → ∀ z, am_lg z = false → ((if lo ≤ V ∧ V ≤ hi then V + 1 else 0) = 0 → am_ev (d + 3) 137 95 [some (.ref 87), some (.int (nI i)), some (.int (nI lo)), some (.int (nI hi)), some (.int (nI V)), z] [] (xM h u n sn B E rF rP cl dg f g) = some (some (.int 0), xM h u n sn B E rF rP cl dg f g)) ∧ ((if lo ≤ V ∧ V ≤ hi then V + 1 else 0) ≠ 0 → am_ev (d + 3) 137 95 [some (.ref 87), some (.int (nI i)), some (.int (nI lo)), some (.int (nI hi)), some (.int (nI V)), z] [] (xM h u n sn B E rF rP cl dg f g) = some (some (.int 1), xM h u n sn (tkB t n E) (tkE t n E) rF rP cl dg f (upd g i (nI V)))) := by
          intro V hV hval z lz
          have hIn := m_in (d := d + 2) (h := xM h u n sn B E rF rP cl dg f g) (nI V).toInt64 (nI lo).toInt64 (nI hi).toInt64
          rw [l_in32, l_in32, l_in32, nI_toInt (show V < 2 ^ 31 by omega), nI_toInt hlo, nI_toInt hhi] at hIn
          by_cases hin : lo ≤ V ∧ V ≤ hi
          · rw [if_pos (by omega)] at hIn
            rw [if_pos hin]
            refine ⟨fun z => absurd z (by omega), fun _ => ?_⟩
            simp only [e_137_95, e_137_97, e_137_98, e_137_99, e_137_100, e_137_101, e_137_102, e_137_105, e_137_107, e_137_109, e_137_112, e_137_113, e_137_116, e_137_117, e_137_119, e_137_120, e_137_121, e_137_124, lg_n, lg_i, lg_r, wd_nil, am_wd_i, am_wd_r, am_wd_l, am_gk_s, am_fld_s, List.getElem?_cons_zero, List.getElem?_cons_succ, am_bk_v, am_bk_n, bo_0, bo_1, am_pk_s, List.length_cons, List.length_nil, Nat.zero_add, List.set_cons_zero, List.set_cons_succ, Nat.reduceAdd, Nat.reduceLeDiff, Nat.reduceLT, lz, hIn, one_ne, if_false, at_xM, at_xM97, sk_AI hi2 (show 2 < 2 ^ 31 by decide), st_AI hi2 (show 2 < 2 ^ 31 by decide), xM_97, is_c, hnx]
            exact e_137_126 bo_1
          · rw [if_neg (by omega)] at hIn
            rw [if_neg hin]
            refine ⟨fun _ => ?_, fun z => absurd rfl z⟩
            simp only [e_137_95, e_137_97, e_137_98, e_137_99, e_137_100, e_137_101, e_137_102, e_137_105, e_137_107, e_137_109, e_137_124, lg_n, lg_i, lg_r, wd_nil, am_wd_i, am_wd_r, am_wd_l, am_gk_s, am_fld_s, List.getElem?_cons_zero, List.getElem?_cons_succ, am_bk_v, am_bk_n, bo_0, bo_1, am_pk_s, List.length_cons, List.length_nil, Nat.zero_add, List.set_cons_zero, List.set_cons_succ, Nat.reduceAdd, Nat.reduceLeDiff, Nat.reduceLT, lz, hIn, if_true]
            exact e_137_126 bo_0
        have head : ∀ R : Option am_R, am_ev (d + 3) 137 95 [some (.ref 87), some (.int (nI i)), some (.int (nI lo)), some (.int (nI hi)), some (.int (nI (valN t B E))), none] [] (xM h u n sn B E rF rP cl dg f g) = R → am_cal (d + 4) 137 [.ref 87, .int (nI i), .int (nI lo), .int (nI hi)] (xM h u n sn B E rF rP cl dg f g) = R := by
          intro R hR
          refine (b_137 _ _ _).trans ?_; show am_ev _ 137 0 [some (.ref 87), some (.int (nI i)), some (.int (nI lo)), some (.int (nI hi)), none, none] [] _ = _
          unfold valN at hR
          by_cases h5 : E - B = 2
          · have dB1 := dg_of ((hall (B + 1) (by omega) (by omega) (by omega)).trans h2)
            have htB1 := ht (B + 1)
            rw [if_pos h5] at hR
            simp only [e_137_0, e_137_1, e_137_4, e_137_5, e_137_8, e_137_11, e_137_12, e_137_15, e_137_16, e_137_19, e_137_20, e_137_23, e_137_26, e_137_27, e_137_30, e_137_31, e_137_34, e_137_35, e_137_36, e_137_39, e_137_40, e_137_41, e_137_42, e_137_45, e_137_46, e_137_49, e_137_50, e_137_52, e_137_53, e_137_55, e_137_56, e_137_59, e_137_60, e_137_63, e_137_64, e_137_65, e_137_68, e_137_70, e_137_72, e_137_73, e_137_74, e_137_77, e_137_78, e_137_81, e_137_82, e_137_83, e_137_84, e_137_85, e_137_87, e_137_88, e_137_91, e_137_93, lg_n, lg_i, lg_r, wd_nil, am_wd_i, am_wd_r, am_wd_l, am_gk_s, am_fld_s, List.getElem?_cons_zero, List.getElem?_cons_succ, am_bk_v, am_bk_n, bo_0, bo_1, am_pk_s, List.length_cons, List.length_nil, Nat.zero_add, List.set_cons_zero, List.set_cons_succ, Nat.reduceAdd, Nat.reduceLeDiff, Nat.reduceLT, at_xM, nI_eq (show B < 2 ^ 31 by omega) (show n < 2 ^ 31 by omega), if_neg (show ¬ B = n by omega), at_xMn (show 90 ≠ 87 by decide) (show 90 ≠ 88 by decide) (show 90 ≠ 97 by decide), hT, ak_AI (show B < 200 by omega) (show 200 < 2 ^ 31 by decide), hG, one_ne, if_false, pk_sub hle.2.2.1, e2, nI_leI (show E - B < 2 ^ 31 by omega) (show 2 < 2 ^ 31 by decide), if_pos h3, e48, e10, pk_sub dB.1, nI_eq (show E - B < 2 ^ 31 by omega) (show 2 < 2 ^ 31 by decide), if_pos h5, nI_1, ak_AI (show B + 1 < 200 by omega) (show 200 < 2 ^ 31 by decide), pk_mul, nI_add, pk_sub (show 48 ≤ 10 * (t B - 48) + t (B + 1) by omega)]
            exact hR
          · rw [if_neg h5] at hR
            simp only [e_137_0, e_137_1, e_137_4, e_137_5, e_137_8, e_137_11, e_137_12, e_137_15, e_137_16, e_137_19, e_137_20, e_137_23, e_137_26, e_137_27, e_137_30, e_137_31, e_137_34, e_137_35, e_137_36, e_137_39, e_137_40, e_137_41, e_137_42, e_137_45, e_137_46, e_137_49, e_137_50, e_137_52, e_137_53, e_137_55, e_137_56, e_137_59, e_137_60, e_137_63, e_137_64, e_137_65, e_137_68, e_137_70, e_137_72, e_137_73, e_137_74, e_137_77, e_137_78, e_137_81, e_137_82, e_137_83, e_137_84, e_137_85, e_137_87, e_137_88, e_137_91, e_137_93, lg_n, lg_i, lg_r, wd_nil, am_wd_i, am_wd_r, am_wd_l, am_gk_s, am_fld_s, List.getElem?_cons_zero, List.getElem?_cons_succ, am_bk_v, am_bk_n, bo_0, bo_1, am_pk_s, List.length_cons, List.length_nil, Nat.zero_add, List.set_cons_zero, List.set_cons_succ, Nat.reduceAdd, Nat.reduceLeDiff, Nat.reduceLT, at_xM, nI_eq (show B < 2 ^ 31 by omega) (show n < 2 ^ 31 by omega), if_neg (show ¬ B = n by omega), at_xMn (show 90 ≠ 87 by decide) (show 90 ≠ 88 by decide) (show 90 ≠ 97 by decide), hT, ak_AI (show B < 200 by omega) (show 200 < 2 ^ 31 by decide), hG, one_ne, if_false, pk_sub hle.2.2.1, e2, nI_leI (show E - B < 2 ^ 31 by omega) (show 2 < 2 ^ 31 by decide), if_pos h3, e48, pk_sub dB.1, nI_eq (show E - B < 2 ^ 31 by omega) (show 2 < 2 ^ 31 by decide), if_neg h5]
            exact hR
        have hvl : valN t B E < 2 ^ 30 := by
          unfold valN
          by_cases h5 : E - B = 2
          · have dB1 := dg_of ((hall (B + 1) (by omega) (by omega) (by omega)).trans h2)
            rw [if_pos h5]
            omega
          · rw [if_neg h5]
            omega
        obtain ⟨g1, g2⟩ := fin _ hvl rfl none lg_n
        refine ⟨fun z => head _ (g1 z), fun z => head _ ?_⟩
        rw [g2 z]
        by_cases hin : lo ≤ valN t B E ∧ valN t B E ≤ hi
        · rw [if_pos hin, Nat.add_sub_cancel]
        · rw [if_neg hin] at z
          exact absurd rfl z
      · rw [if_neg (fun z => h3 z.2.2)]
        refine ⟨fun _ => ?_, fun z => absurd rfl z⟩
        refine (b_137 _ _ _).trans ?_; show am_ev _ 137 0 [some (.ref 87), some (.int (nI i)), some (.int (nI lo)), some (.int (nI hi)), none, none] [] _ = _
        simp only [e_137_0, e_137_1, e_137_4, e_137_5, e_137_8, e_137_11, e_137_12, e_137_15, e_137_16, e_137_19, e_137_20, e_137_23, e_137_26, e_137_27, e_137_30, e_137_31, e_137_34, e_137_35, e_137_36, e_137_39, e_137_40, lg_n, lg_i, lg_r, wd_nil, am_wd_i, am_wd_r, am_wd_l, am_gk_s, am_fld_s, List.getElem?_cons_zero, List.getElem?_cons_succ, am_bk_v, am_bk_n, bo_0, bo_1, am_pk_s, List.length_cons, List.length_nil, Nat.zero_add, List.set_cons_zero, List.set_cons_succ, Nat.reduceAdd, Nat.reduceLeDiff, Nat.reduceLT, at_xM, nI_eq (show B < 2 ^ 31 by omega) (show n < 2 ^ 31 by omega), if_neg (show ¬ B = n by omega), at_xMn (show 90 ≠ 87 by decide) (show 90 ≠ 88 by decide) (show 90 ≠ 97 by decide), hT, ak_AI (show B < 200 by omega) (show 200 < 2 ^ 31 by decide), hG, one_ne, if_false, pk_sub hle.2.2.1, e2, nI_leI (show E - B < 2 ^ 31 by omega) (show 2 < 2 ^ 31 by decide), if_neg h3]
    · rw [if_neg h2] at hG
      rw [if_neg (fun z => h2 z.2.1)]
      refine ⟨fun _ => ?_, fun z => absurd rfl z⟩
      refine (b_137 _ _ _).trans ?_; show am_ev _ 137 0 [some (.ref 87), some (.int (nI i)), some (.int (nI lo)), some (.int (nI hi)), none, none] [] _ = _
      simp only [e_137_0, e_137_1, e_137_4, e_137_5, e_137_8, e_137_11, e_137_12, e_137_15, e_137_16, e_137_19, e_137_20, e_137_23, e_137_26, e_137_27, e_137_30, e_137_31, e_137_34, e_137_35, e_137_36, e_137_39, e_137_40, lg_n, lg_i, lg_r, wd_nil, am_wd_i, am_wd_r, am_wd_l, am_gk_s, am_fld_s, List.getElem?_cons_zero, List.getElem?_cons_succ, am_bk_v, am_bk_n, bo_0, bo_1, am_pk_s, List.length_cons, List.length_nil, Nat.zero_add, List.set_cons_zero, List.set_cons_succ, Nat.reduceAdd, Nat.reduceLeDiff, Nat.reduceLT, at_xM, nI_eq (show B < 2 ^ 31 by omega) (show n < 2 ^ 31 by omega), if_neg (show ¬ B = n by omega), at_xMn (show 90 ≠ 87 by decide) (show 90 ≠ 88 by decide) (show 90 ≠ 97 by decide), hT, ak_AI (show B < 200 by omega) (show 200 < 2 ^ 31 by decide), hG, if_true]
  · rw [if_neg (fun z => h1 z.1)]
    refine ⟨fun _ => ?_, fun z => absurd rfl z⟩
    refine (b_137 _ _ _).trans ?_; show am_ev _ 137 0 [some (.ref 87), some (.int (nI i)), some (.int (nI lo)), some (.int (nI hi)), none, none] [] _ = _
    simp only [e_137_0, e_137_1, e_137_4, e_137_5, e_137_8, e_137_39, e_137_40, lg_n, lg_i, lg_r, wd_nil, am_wd_i, am_wd_r, am_wd_l, am_gk_s, am_fld_s, List.getElem?_cons_zero, List.getElem?_cons_succ, am_bk_v, am_bk_n, bo_0, bo_1, am_pk_s, List.length_cons, List.length_nil, Nat.zero_add, List.set_cons_zero, List.set_cons_succ, Nat.reduceAdd, Nat.reduceLeDiff, Nat.reduceLT, at_xM, nI_eq (show B < 2 ^ 31 by omega) (show n < 2 ^ 31 by omega), if_pos (show B = n by omega)]
end XM
