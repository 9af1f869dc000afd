/-! the model reads: people, any clause -/
section XM
variable {d : Nat} {h : am_H} {u n sn fi be rF rP cl : Nat} {dg : Int32} {f g : Nat → Int32} {t : Nat → Nat}
def psF (f : Nat → Int32) (r k a b : Nat) : Nat → Int32 := upd (upd (upd (upd f (82 + r) (nI k)) (90 + r) (nI a)) (98 + r) (nI b)) 81 (nI (r + 1))
theorem m_rPers (hT : am_at h 90 = some (AI 200 (fun k => nI (t k)))) (hn : n ≤ 200) (ht : ∀ k, t k < 256) (hb : be ≤ n) (hdg : dg = 0 ∨ dg = 1) (hr : 2 ≤ rF ∧ rF ≤ 7) (hp : rP ≤ 8) (hS : dg = 1 → f 81 = nI rP) {k : Nat} : (rP = 8 → am_cal (d + 5) 139 [.ref 87, .int (nI k)] (xM h u n sn fi be rF rP cl dg f g) = some (some (.int 0), xM h u n sn fi be rF rP cl dg f g)) ∧ (rP < 8 → (numN t n (tkB t n be) (tkE t n be) 0 (rF - 1) = 0 → am_cal (d + 5) 139 [.ref 87, .int (nI k)] (xM h u n sn fi be rF rP cl dg f g) = some (some (.int 0), xM h u n sn (tkB t n be) (tkE t n be) rF rP cl dg f g)) ∧ (numN t n (tkB t n be) (tkE t n be) 0 (rF - 1) ≠ 0 → (numN t n (tkB t n (tkE t n be)) (tkE t n (tkE t n be)) 0 (rF - 1) = 0 ∨ numN t n (tkB t n (tkE t n be)) (tkE t n (tkE t n be)) 0 (rF - 1) = numN t n (tkB t n be) (tkE t n be) 0 (rF - 1) → ∃ g', am_cal (d + 5) 139 [.ref 87, .int (nI k)] (xM h u n sn fi be rF rP cl dg f g) = some (some (.int 0), xM h u n sn (tkB t n (tkE t n be)) (tkE t n (tkE t n be)) rF rP cl dg f g')) ∧ (¬ (numN t n (tkB t n (tkE t n be)) (tkE t n (tkE t n be)) 0 (rF - 1) = 0 ∨ numN t n (tkB t n (tkE t n be)) (tkE t n (tkE t n be)) 0 (rF - 1) = numN t n (tkB t n be) (tkE t n be) 0 (rF - 1)) → ∃ g', am_cal (d + 5) 139 [.ref 87, .int (nI k)] (xM h u n sn fi be rF rP cl dg f g) = some (some (.int 1), xM h u n sn (tkB t n (tkE t n (tkE t n be))) (tkE t n (tkE t n (tkE t n be))) rF (rP + 1) cl dg (if dg = 0 then f else psF f rP k (numN t n (tkB t n be) (tkE t n be) 0 (rF - 1) - 1) (numN t n (tkB t n (tkE t n be)) (tkE t n (tkE t n be)) 0 (rF - 1) - 1)) g')))) := by
  have hle := tk_le t hb
  have htk := m_tokM (d := d + 1) (h := h) (u := u) (n := n) (sn := sn) (fi := fi) (be := be) (rF := rF) (rP := rP) (cl := cl) (dg := dg) (f := f) (g := g) hT hn ht hb
  obtain ⟨g1, g2⟩ := m_numM (d := d) (h := h) (u := u) (n := n) (sn := sn) (rF := rF) (rP := rP) (cl := cl) (dg := dg) (f := f) (g := g) hT hn ht hb (i := 0) (lo := 0) (hi := rF - 1) (by decide) (by decide) (by omega)
  have hq := fun G => m_numM (d := d) (h := h) (u := u) (n := n) (sn := sn) (rF := rF) (rP := rP) (cl := cl) (dg := dg) (f := f) (g := G) hT hn ht hle.2.2.2 (i := 1) (lo := 0) (hi := rF - 1) (by decide) (by decide) (by omega)
  have b1 := numN_bd t n (tkB t n be) (tkE t n be) 0 (rF - 1)
  have b2 := numN_bd t n (tkB t n (tkE t n be)) (tkE t n (tkE t n be)) 0 (rF - 1)
  simp only [nI_0, show nI 1 = 1 by decide +kernel] at g1 g2 hq
  generalize numN t n (tkB t n be) (tkE t n be) 0 (rF - 1) = V at *
  generalize numN t n (tkB t n (tkE t n be)) (tkE t n (tkE t n be)) 0 (rF - 1) = W at *
  have hsub : nI rF - 1 = nI (rF - 1) := by rw [show (1 : Int32) = nI 1 by decide +kernel, pk_sub (by omega)]
  have e8 : (8 : Int32) = nI 8 := by decide +kernel
  have e81 : (81 : Int32) = nI 81 := by decide +kernel
  have e82 : (82 : Int32) = nI 82 := by decide +kernel
  have e90 : (90 : Int32) = nI 90 := by decide +kernel
  have e98 : (98 : Int32) = nI 98 := by decide +kernel
  refine ⟨fun h8 => ?_, fun h8 => ⟨fun hV => ?_, fun hV => ⟨fun hW => ?_, fun hW => ?_⟩⟩⟩
  · refine (b_139 _ _ _).trans ?_; show am_ev _ 139 0 [some (.ref 87), some (.int (nI k)), none, none] [] _ = _
    simp only [e_139_0, e_139_1, e_139_4, e_139_6, e_139_9, e_139_10, lg_n, lg_i, lg_r, wd_nil, am_wd_i, am_wd_r, am_wd_l, am_gk_s, am_fld_s, List.getElem?_cons_zero, List.getElem?_cons_succ, am_bk_v, am_bk_n, bo_0, bo_1, am_pk_s, List.length_cons, List.length_nil, Nat.zero_add, List.set_cons_zero, List.set_cons_succ, Nat.reduceAdd, Nat.reduceLeDiff, Nat.reduceLT, at_xM, e8, h8, if_true]
  · refine (b_139 _ _ _).trans ?_; show am_ev _ 139 0 [some (.ref 87), some (.int (nI k)), none, none] [] _ = _
    simp only [e_139_0, e_139_1, e_139_4, e_139_6, e_139_9, e_139_10, e_139_11, e_139_12, e_139_15, e_139_16, e_139_17, e_139_18, e_139_19, e_139_22, e_139_23, e_139_24, e_139_27, e_139_30, e_139_31, lg_n, lg_i, lg_r, wd_nil, am_wd_i, am_wd_r, am_wd_l, am_gk_s, am_fld_s, List.getElem?_cons_zero, List.getElem?_cons_succ, am_bk_v, am_bk_n, bo_0, bo_1, am_pk_s, List.length_cons, List.length_nil, Nat.zero_add, List.set_cons_zero, List.set_cons_succ, Nat.reduceAdd, Nat.reduceLeDiff, Nat.reduceLT, at_xM, is_c, e8, nI_eq (show rP < 2 ^ 31 by omega) (show 8 < 2 ^ 31 by decide), if_neg (show ¬ rP = 8 by omega), htk, hsub, g1 hV, not_true_eq_false, if_true, if_false]
  · obtain ⟨q1, q2⟩ := hq (upd g 0 (nI (V - 1)))
    by_cases hW0 : W = 0
    · refine ⟨upd g 0 (nI (V - 1)), ?_⟩
      refine (b_139 _ _ _).trans ?_; show am_ev _ 139 0 [some (.ref 87), some (.int (nI k)), none, none] [] _ = _
      simp only [e_139_0, e_139_1, e_139_4, e_139_6, e_139_9, e_139_10, e_139_11, e_139_12, e_139_15, e_139_16, e_139_17, e_139_18, e_139_19, e_139_22, e_139_23, e_139_24, e_139_27, e_139_30, e_139_31, e_139_32, e_139_33, e_139_36, e_139_37, e_139_38, e_139_41, e_139_42, e_139_43, e_139_44, e_139_45, e_139_46, e_139_49, e_139_50, e_139_51, e_139_54, e_139_57, e_139_58, lg_n, lg_i, lg_r, wd_nil, am_wd_i, am_wd_r, am_wd_l, am_gk_s, am_fld_s, List.getElem?_cons_zero, List.getElem?_cons_succ, am_bk_v, am_bk_n, bo_0, bo_1, am_pk_s, List.length_cons, List.length_nil, Nat.zero_add, List.set_cons_zero, List.set_cons_succ, Nat.reduceAdd, Nat.reduceLeDiff, Nat.reduceLT, at_xM, is_c, e8, nI_eq (show rP < 2 ^ 31 by omega) (show 8 < 2 ^ 31 by decide), if_neg (show ¬ rP = 8 by omega), htk, hsub, g2 hV, one_ne, not_false_eq_true, not_true_eq_false, if_true, if_false, q1 hW0]
    · have hWV : W = V := by omega
      refine ⟨upd (upd g 0 (nI (V - 1))) 1 (nI (W - 1)), ?_⟩
      refine (b_139 _ _ _).trans ?_; show am_ev _ 139 0 [some (.ref 87), some (.int (nI k)), none, none] [] _ = _
      simp only [e_139_0, e_139_1, e_139_4, e_139_6, e_139_9, e_139_10, e_139_11, e_139_12, e_139_15, e_139_16, e_139_17, e_139_18, e_139_19, e_139_22, e_139_23, e_139_24, e_139_27, e_139_30, e_139_31, e_139_32, e_139_33, e_139_36, e_139_37, e_139_38, e_139_41, e_139_42, e_139_43, e_139_44, e_139_45, e_139_46, e_139_49, e_139_50, e_139_51, e_139_54, lg_n, lg_i, lg_r, wd_nil, am_wd_i, am_wd_r, am_wd_l, am_gk_s, am_fld_s, List.getElem?_cons_zero, List.getElem?_cons_succ, am_bk_v, am_bk_n, bo_0, bo_1, am_pk_s, List.length_cons, List.length_nil, Nat.zero_add, List.set_cons_zero, List.set_cons_succ, Nat.reduceAdd, Nat.reduceLeDiff, Nat.reduceLT, at_xM, is_c, e8, nI_eq (show rP < 2 ^ 31 by omega) (show 8 < 2 ^ 31 by decide), if_neg (show ¬ rP = 8 by omega), htk, hsub, g2 hV, one_ne, not_false_eq_true, not_true_eq_false, if_true, if_false, q2 hW0]
      simp only [e_139_59, e_139_60, e_139_63, e_139_64, e_139_65, e_139_66, e_139_69, e_139_70, e_139_71, e_139_74, e_139_75, e_139_76, e_139_79, e_139_80, e_139_81, e_139_84, e_139_85, lg_n, lg_i, lg_r, wd_nil, am_wd_i, am_wd_r, am_wd_l, am_gk_s, am_fld_s, List.getElem?_cons_zero, List.getElem?_cons_succ, am_bk_v, am_bk_n, bo_0, bo_1, am_pk_s, List.length_cons, List.length_nil, Nat.zero_add, List.set_cons_zero, List.set_cons_succ, Nat.reduceAdd, Nat.reduceLeDiff, Nat.reduceLT, at_xM, at_xM97, ak_0 (show 0 < 2 by decide) (show 2 < 2 ^ 31 by decide), ak_1 (show 1 < 2 by decide) (show 2 < 2 ^ 31 by decide), upd_at, upd_off _ _ (show 0 ≠ 1 by decide), hWV, if_true, xM_p]
  · obtain ⟨q1, q2⟩ := hq (upd g 0 (nI (V - 1)))
    have hW0 : W ≠ 0 := fun z => hW (Or.inl z)
    have hWV : ¬ V - 1 = W - 1 := by omega
    refine ⟨upd (upd g 0 (nI (V - 1))) 1 (nI (W - 1)), ?_⟩
    refine (b_139 _ _ _).trans ?_; show am_ev _ 139 0 [some (.ref 87), some (.int (nI k)), none, none] [] _ = _
    simp only [e_139_0, e_139_1, e_139_4, e_139_6, e_139_9, e_139_10, e_139_11, e_139_12, e_139_15, e_139_16, e_139_17, e_139_18, e_139_19, e_139_22, e_139_23, e_139_24, e_139_27, e_139_30, e_139_31, e_139_32, e_139_33, e_139_36, e_139_37, e_139_38, e_139_41, e_139_42, e_139_43, e_139_44, e_139_45, e_139_46, e_139_49, e_139_50, e_139_51, e_139_54, lg_n, lg_i, lg_r, wd_nil, am_wd_i, am_wd_r, am_wd_l, am_gk_s, am_fld_s, List.getElem?_cons_zero, List.getElem?_cons_succ, am_bk_v, am_bk_n, bo_0, bo_1, am_pk_s, List.length_cons, List.length_nil, Nat.zero_add, List.set_cons_zero, List.set_cons_succ, Nat.reduceAdd, Nat.reduceLeDiff, Nat.reduceLT, at_xM, is_c, e8, nI_eq (show rP < 2 ^ 31 by omega) (show 8 < 2 ^ 31 by decide), if_neg (show ¬ rP = 8 by omega), htk, hsub, g2 hV, one_ne, not_false_eq_true, not_true_eq_false, if_true, if_false, q2 hW0]
    simp only [e_139_59, e_139_60, e_139_63, e_139_64, e_139_65, e_139_66, e_139_69, e_139_70, e_139_71, e_139_86, e_139_87, e_139_90, lg_n, lg_i, lg_r, wd_nil, am_wd_i, am_wd_r, am_wd_l, am_gk_s, am_fld_s, List.getElem?_cons_zero, List.getElem?_cons_succ, am_bk_v, am_bk_n, bo_0, bo_1, am_pk_s, List.length_cons, List.length_nil, Nat.zero_add, List.set_cons_zero, List.set_cons_succ, Nat.reduceAdd, Nat.reduceLeDiff, Nat.reduceLT, at_xM, at_xM97, ak_0 (show 0 < 2 by decide) (show 2 < 2 ^ 31 by decide), ak_1 (show 1 < 2 by decide) (show 2 < 2 ^ 31 by decide), upd_at, upd_off _ _ (show 0 ≠ 1 by decide), nI_eq (show V - 1 < 2 ^ 31 by omega) (show W - 1 < 2 ^ 31 by omega), if_neg hWV]
    rcases hdg with rfl | rfl
    · simp only [if_true, e_139_153, e_139_154, e_139_155, e_139_158, e_139_159, e_139_160, e_139_163, e_139_164, lg_n, lg_i, lg_r, wd_nil, am_wd_i, am_wd_r, am_wd_l, am_gk_s, am_fld_s, List.getElem?_cons_zero, List.getElem?_cons_succ, am_bk_v, am_bk_n, bo_0, bo_1, am_pk_s, List.length_cons, List.length_nil, Nat.zero_add, List.set_cons_zero, List.set_cons_succ, Nat.reduceAdd, Nat.reduceLeDiff, Nat.reduceLT, at_xM, nI_1, xM_p]
    · simp only [one_ne, if_false, e_139_93, e_139_94, e_139_97, e_139_99, e_139_100, e_139_103, e_139_104, e_139_105, e_139_106, e_139_107, e_139_110, e_139_112, e_139_113, e_139_116, e_139_117, e_139_118, e_139_121, e_139_122, e_139_123, e_139_124, e_139_125, e_139_128, e_139_130, e_139_131, e_139_134, e_139_135, e_139_136, e_139_139, e_139_140, e_139_141, e_139_142, e_139_143, e_139_146, e_139_148, e_139_149, e_139_150, e_139_151, e_139_152, e_139_153, e_139_154, e_139_155, e_139_158, e_139_159, e_139_160, e_139_163, e_139_164, lg_n, lg_i, lg_r, wd_nil, am_wd_i, am_wd_r, am_wd_l, am_gk_s, am_fld_s, List.getElem?_cons_zero, List.getElem?_cons_succ, am_bk_v, am_bk_n, bo_0, bo_1, am_pk_s, List.length_cons, List.length_nil, Nat.zero_add, List.set_cons_zero, List.set_cons_succ, Nat.reduceAdd, Nat.reduceLeDiff, Nat.reduceLT, at_xM, at_xM88, at_xM97, e81, e82, e90, e98, nI_add, ak_0 (show 0 < 2 by decide) (show 2 < 2 ^ 31 by decide), ak_1 (show 1 < 2 by decide) (show 2 < 2 ^ 31 by decide), upd_at, upd_off _ _ (show 0 ≠ 1 by decide), sk_AI (show 82 + rP < 392 by omega) (show 392 < 2 ^ 31 by decide), st_AI (show 82 + rP < 392 by omega) (show 392 < 2 ^ 31 by decide), sk_AI (show 90 + rP < 392 by omega) (show 392 < 2 ^ 31 by decide), st_AI (show 90 + rP < 392 by omega) (show 392 < 2 ^ 31 by decide), sk_AI (show 98 + rP < 392 by omega) (show 392 < 2 ^ 31 by decide), st_AI (show 98 + rP < 392 by omega) (show 392 < 2 ^ 31 by decide), xM_88, ak_AI (show 81 < 392 by decide) (show 392 < 2 ^ 31 by decide), sk_AI (show 81 < 392 by decide) (show 392 < 2 ^ 31 by decide), st_AI (show 81 < 392 by decide) (show 392 < 2 ^ 31 by decide), upd_off _ _ (show 81 ≠ 82 + rP by omega), upd_off _ _ (show 81 ≠ 90 + rP by omega), upd_off _ _ (show 81 ≠ 98 + rP by omega), hS rfl, nI_1, xM_p]
      rfl
theorem ps_told {D : Pn} (hF : Told f D) (h8 : D.2.2.2.1 < 8) (k a b : Nat) : Told (psF f D.2.2.2.1 k a b) (admN D k a b) := by
  obtain ⟨⟨r1, r2, r3, r4⟩, r5, r6, r7⟩ := hF
  have ho : ∀ q, 53 ≤ q → q < 81 → psF f D.2.2.2.1 k a b q = f q := by
    intro q h1 h2
    unfold psF
    rw [upd_off _ _ (by omega), upd_off _ _ (by omega), upd_off _ _ (by omega), upd_off _ _ (by omega)]
  refine ⟨⟨?_, ?_, ?_, fun p hp => ?_⟩, fun p hp => ?_, ?_, ?_⟩
  · rw [ho _ (by omega) (by omega)]; exact r1
  · rw [ho _ (by omega) (by omega)]; exact r2
  · unfold psF
    rw [upd_at]
    rfl
  · have hp' : p < D.2.2.2.1 + 1 := hp
    unfold psF admN updn
    simp only
    by_cases c : p = D.2.2.2.1
    · rw [if_pos c, if_pos c, if_pos c, c]
      refine ⟨?_, ?_, ?_⟩
      · rw [upd_off _ _ (by omega), upd_off _ _ (by omega), upd_off _ _ (by omega), upd_at]
      · rw [upd_off _ _ (by omega), upd_off _ _ (by omega), upd_at]
      · rw [upd_off _ _ (by omega), upd_at]
    · rw [if_neg c, if_neg c, if_neg c]
      obtain ⟨s1, s2, s3⟩ := r4 p (by omega)
      refine ⟨?_, ?_, ?_⟩
      · rw [upd_off _ _ (by omega), upd_off _ _ (by omega), upd_off _ _ (by omega), upd_off _ _ (by omega)]; exact s1
      · rw [upd_off _ _ (by omega), upd_off _ _ (by omega), upd_off _ _ (by omega), upd_off _ _ (by omega)]; exact s2
      · rw [upd_off _ _ (by omega), upd_off _ _ (by omega), upd_off _ _ (by omega), upd_off _ _ (by omega)]; exact s3
  · obtain ⟨s1, s2, s3⟩ := r5 p hp
    rw [ho _ (by omega) (by omega), ho _ (by omega) (by omega), ho _ (by omega) (by omega)]
    exact ⟨s1, s2, s3⟩
  · rw [ho _ (by omega) (by omega)]; exact r6
  · rw [ho _ (by omega) (by omega)]; exact r7
theorem ps_ft {r k a b : Nat} (hr : r < 8) : FT f (psF f r k a b) := by
  intro q hq
  unfold psF
  rw [upd_off _ _ (by omega), upd_off _ _ (by omega), upd_off _ _ (by omega), upd_off _ _ (by omega)]
theorem rm_told {D : Pn} (hF : Told f D) (v : Nat) : Told (upd f 80 (nI v)) (D.1, v, D.2.2) := by
  obtain ⟨⟨r1, r2, r3, r4⟩, r5, r6, r7⟩ := hF
  refine ⟨⟨?_, ?_, ?_, fun p hp => ?_⟩, fun p hp => ?_, ?_, ?_⟩
  · rw [upd_off _ _ (by omega)]; exact r1
  · exact upd_at _ _ _
  · rw [upd_off _ _ (by omega)]; exact r3
  · obtain ⟨s1, s2, s3⟩ := r4 p hp
    rw [upd_off _ _ (by omega), upd_off _ _ (by omega), upd_off _ _ (by omega)]
    exact ⟨s1, s2, s3⟩
  · obtain ⟨s1, s2, s3⟩ := r5 p hp
    rw [upd_off _ _ (by omega), upd_off _ _ (by omega), upd_off _ _ (by omega)]
    exact ⟨s1, s2, s3⟩
  · rw [upd_off _ _ (by omega)]; exact r6
  · rw [upd_off _ _ (by omega)]; exact r7
theorem sh_told {D : Pn} (hF : Told f D) (S : Nat) : Told (upd f 77 (nI S)) (D.1, D.2.1, S, D.2.2.2) := by
  obtain ⟨⟨r1, r2, r3, r4⟩, r5, r6, r7⟩ := hF
  refine ⟨⟨?_, ?_, ?_, fun p hp => ?_⟩, fun p hp => ?_, ?_, ?_⟩
  · rw [upd_off _ _ (by omega)]; exact r1
  · rw [upd_off _ _ (by omega)]; exact r2
  · rw [upd_off _ _ (by omega)]; exact r3
  · obtain ⟨s1, s2, s3⟩ := r4 p hp
    rw [upd_off _ _ (by omega), upd_off _ _ (by omega), upd_off _ _ (by omega)]
    exact ⟨s1, s2, s3⟩
  · obtain ⟨s1, s2, s3⟩ := r5 p hp
    rw [upd_off _ _ (by omega), upd_off _ _ (by omega), upd_off _ _ (by omega)]
    exact ⟨s1, s2, s3⟩
  · exact upd_at _ _ _
  · rw [upd_off _ _ (by omega)]; exact r7
theorem up_ft {k : Nat} (x : Int32) (h1 : 53 ≤ k) (h2 : k < 106) : FT f (upd f k x) := by
  intro q hq
  rw [upd_off _ _ (by omega)]
end XM
