/-! the reader: clauses, the text -/
theorem rnN_all (t : Nat → Nat) (s : Nat) : ∀ j p i, p ≤ i → i < rnN t s j p → srtN (t i) = s
  | 0, p, i, h1, h2 => by unfold rnN at h2; omega
  | j + 1, p, i, h1, h2 => by
    unfold rnN at h2
    by_cases hs : srtN (t p) = s
    · rw [if_pos hs] at h2
      by_cases hi : i = p
      · subst hi; exact hs
      · exact rnN_all t s j (p + 1) i (by omega) h2
    · rw [if_neg hs] at h2; omega
theorem tk_all (t : Nat → Nat) {n e i : Nat} (h1 : tkB t n e ≤ i) (h2 : i < tkE t n e) (h3 : srtN (t (tkB t n e)) ≠ 3) : srtN (t i) = srtN (t (tkB t n e)) := by
  unfold tkE at h2
  by_cases hb : tkB t n e < n
  · rw [if_pos hb, if_neg h3] at h2
    by_cases hi : i = tkB t n e
    · rw [hi]
    · exact rnN_all t _ _ _ i (by omega) h2
  · rw [if_neg hb] at h2; omega
theorem tk_lt (t : Nat → Nat) {n e : Nat} (h : tkB t n e < n) : tkB t n e < tkE t n e := by
  unfold tkE
  have := rnN_le t (srtN (t (tkB t n e))) (n - (tkB t n e + 1)) (tkB t n e + 1)
  rw [if_pos h]
  split <;> omega
def valN (t : Nat → Nat) (b e : Nat) : Nat := if e - b = 2 then 10 * (t b - 48) + t (b + 1) - 48 else t b - 48
def numN (t : Nat → Nat) (n b e lo hi : Nat) : Nat := if b < n ∧ srtN (t b) = 2 ∧ e - b ≤ 2 then (if lo ≤ valN t b e ∧ valN t b e ≤ hi then valN t b e + 1 else 0) else 0
def kwN (W : List Nat) : Nat := if W = wdN 5 then 5 else if W = wdN 6 then 6 else if W = wdN 7 then 7 else if W = wdN 0 then 0 else if W = wdN 1 then 1 else if W = wdN 2 then 2 else if W = wdN 3 then 3 else if W = wdN 4 then 4 else 8
/-- a clause: whether it is read, where its last token begins and ends, what is told behind it -/
def clN (t : Nat → Nat) (n : Nat) (D : Pn) (e : Nat) : Nat × Nat × Nat × Pn :=
  let b1 := tkB t n e
  let e1 := tkE t n e
  let b2 := tkB t n e1
  let e2 := tkE t n e1
  let b3 := tkB t n e2
  let e3 := tkE t n e2
  let k := kwN (wordL t b1 e1)
  if k = 5 then (if numN t n b2 e2 2 7 = 0 then (0, b2, e2, D) else (1, b2, e2, (numN t n b2 e2 2 7 - 1, 2, 0, 0, D.2.2.2.2)))
  else if k = 6 then (if numN t n b2 e2 1 4 = 0 then (0, b2, e2, D) else (1, b2, e2, (D.1, numN t n b2 e2 1 4 - 1, D.2.2)))
  else if k = 7 then (if numN t n b2 e2 0 (2 * D.1 - 1) = 0 then (0, b2, e2, D) else (1, b2, e2, (D.1, D.2.1, D.2.2.1 ||| 2 ^ (numN t n b2 e2 0 (2 * D.1 - 1) - 1), D.2.2.2)))
  else if k = 8 then (0, b1, e1, D)
  else if 8 ≤ D.2.2.2.1 then (0, b1, e1, D)
  else if numN t n b2 e2 0 (D.1 - 1) = 0 then (0, b2, e2, D)
  else if numN t n b3 e3 0 (D.1 - 1) = 0 ∨ numN t n b3 e3 0 (D.1 - 1) = numN t n b2 e2 0 (D.1 - 1) then (0, b3, e3, D)
  else (1, b3, e3, admN D k (numN t n b2 e2 0 (D.1 - 1) - 1) (numN t n b3 e3 0 (D.1 - 1) - 1))
/-- the text: 0, or where the fault is made one greater; clauses; what is told -/
def rdN (t : Nat → Nat) (n : Nat) : Nat → Nat → Pn → Nat → Nat → Nat × Nat × Pn
  | 0, c, D, _, b0 => (b0 + 1, c, D)
  | j + 1, c, D, e, _ =>
    let r := clN t n D e
    if r.1 = 0 then (r.2.1 + 1, c, D)
    else if n ≤ tkB t n r.2.2.1 then (0, c + 1, r.2.2.2)
    else if t (tkB t n r.2.2.1) = 59 then rdN t n j (c + 1) r.2.2.2 (tkE t n r.2.2.1) (tkB t n r.2.2.1)
    else (tkB t n r.2.2.1 + 1, c + 1, r.2.2.2)
def OKD (D : Pn) : Prop := OKP D ∧ 2 ≤ D.1 ∧ D.1 ≤ 7 ∧ D.2.2.1 < 2 ^ 14 ∧ 1 ≤ D.2.1 ∧ D.2.1 ≤ 4
theorem numN_bd (t : Nat → Nat) (n b e lo hi : Nat) : numN t n b e lo hi = 0 ∨ (lo + 1 ≤ numN t n b e lo hi ∧ numN t n b e lo hi ≤ hi + 1) := by
  unfold numN
  split
  · split
    · right; omega
    · left; rfl
  · left; rfl
theorem kwN_le (W : List Nat) : kwN W ≤ 8 := by
  unfold kwN
  repeat' split
  all_goals omega
theorem or_lt14 {a c : Nat} (ha : a < 2 ^ 14) (hc : c < 14) : a ||| 2 ^ c < 2 ^ 14 := Nat.or_lt_two_pow ha (Nat.pow_lt_pow_right (by decide) hc)
theorem OKD.cl {t : Nat → Nat} {n : Nat} {D : Pn} (hD : OKD D) (e : Nat) : OKD (clN t n D e).2.2.2 := by
  obtain ⟨⟨p1, p2, p3, p4, p5, p6⟩, q1, q2, q3, q4, q5⟩ := hD
  have hD' : OKD D := ⟨⟨p1, p2, p3, p4, p5, p6⟩, q1, q2, q3, q4, q5⟩
  unfold clN
  simp only
  have hk8 := kwN_le (wordL t (tkB t n e) (tkE t n e))
  generalize kwN (wordL t (tkB t n e) (tkE t n e)) = k at *
  by_cases h5 : k = 5
  · rw [if_pos h5]
    have := numN_bd t n (tkB t n (tkE t n e)) (tkE t n (tkE t n e)) 2 7
    split
    · exact hD'
    · refine ⟨⟨?_, ?_, ?_, ?_, p5, ?_⟩, ?_, ?_, ?_, ?_, ?_⟩ <;> simp only <;> first | omega | (intro p hp; omega)
  · rw [if_neg h5]
    by_cases h6 : k = 6
    · rw [if_pos h6]
      have := numN_bd t n (tkB t n (tkE t n e)) (tkE t n (tkE t n e)) 1 4
      split
      · exact hD'
      · refine ⟨⟨p1, p2, ?_, p4, p5, p6⟩, q1, q2, q3, ?_, ?_⟩ <;> simp only <;> omega
    · rw [if_neg h6]
      by_cases h7 : k = 7
      · rw [if_pos h7]
        have := numN_bd t n (tkB t n (tkE t n e)) (tkE t n (tkE t n e)) 0 (2 * D.1 - 1)
        split
        · exact hD'
        · exact ⟨⟨p1, p2, p3, p4, p5, p6⟩, q1, q2, or_lt14 q3 (by omega), q4, q5⟩
      · rw [if_neg h7]
        by_cases h8 : k = 8
        · rw [if_pos h8]; exact hD'
        · rw [if_neg h8]
          have n1 := numN_bd t n (tkB t n (tkE t n e)) (tkE t n (tkE t n e)) 0 (D.1 - 1)
          have n2 := numN_bd t n (tkB t n (tkE t n (tkE t n e))) (tkE t n (tkE t n (tkE t n e))) 0 (D.1 - 1)
          split
          · exact hD'
          · split
            · exact hD'
            · split
              · exact hD'
              · refine ⟨⟨p1, p2, p3, ?_, ?_, ?_⟩, q1, q2, q3, q4, q5⟩
                · simp only [admN]; omega
                · intro p hp
                  simp only [admN]
                  unfold updn
                  split
                  · omega
                  · exact p5 p hp
                · intro p hp
                  simp only [admN] at hp ⊢
                  unfold updn
                  constructor
                  · split
                    · omega
                    · exact (p6 p (by omega)).1
                  · split
                    · omega
                    · exact (p6 p (by omega)).2
def FX (h h' : am_H) (v : Nat) : Prop := h'.1 = h.1 ∧ h'.2.1 = h.2.1 ∧ ∀ k, (k < v ∨ v + 5 < k) → am_at h' k = am_at h k
theorem FX.rf {h : am_H} {v : Nat} : FX h h v := ⟨rfl, rfl, fun _ _ => rfl⟩
theorem FX.tr {h h' h'' : am_H} {v : Nat} (h1 : FX h h' v) (h2 : FX h' h'' v) : FX h h'' v := ⟨h2.1.trans h1.1, h2.2.1.trans h1.2.1, fun k hk => (h2.2.2 k hk).trans (h1.2.2 k hk)⟩
theorem FX.set {h : am_H} {v a : Nat} {c : va_E} (h1 : v ≤ a) (h2 : a ≤ v + 5) : FX h (am_set h a c) v := ⟨rfl, rfl, fun k hk => at_set_ne (by omega)⟩
theorem FX.pP {h : am_H} {v : Nat} {D : Pn} : FX h (pP h (v + 2) D) v := ⟨rfl, rfl, fun k hk => at_pP_ne (by omega)⟩
def RX (h : am_H) (v : Nat) (t : Nat → Nat) (n c b e : Nat) (D : Pn) : Prop := RD h v t n c b e ∧ PlanAt h (v + 2) D
section RX
variable {d : Nat} {h : am_H} {v n c b e : Nat} {t : Nat → Nat} {D : Pn}
theorem RX.set (hX : RX h v t n c b e D) (c' b' e' : Nat) : RX (am_set h v (rd0 v n c' b' e')) v t n c' b' e' D := ⟨hX.1.set c' b' e', hX.2.keep (fun k _ _ => at_set_ne (by omega))⟩
theorem RX.pl (hX : RX h v t n c b e D) (D' : Pn) : RX (pP h (v + 2) D') v t n c b e D' := by
  obtain ⟨⟨h1, h2, h3, h4, h5, h6⟩, hp⟩ := hX
  exact ⟨⟨h1.pP (by omega), by rw [at_pP_ne (by omega)]; exact h2, by rw [at_pP_ne (by omega)]; exact h3, h4, h5, h6⟩, PlanAt_pP _ _ _⟩
theorem m_within (x lo hi : Int32) : am_cal (d + 1) 117 [.int x, .int lo, .int hi] h = some (some (.int (if lo ≤ x ∧ x ≤ hi then 1 else 0)), h) := by
  refine (b_117 _ _ _).trans ?_; show am_ev _ 117 0 [some (.int x), some (.int lo), some (.int hi)] [] _ = _
  simp only [e_117_0, e_117_1, e_117_2, e_117_5, e_117_6, e_117_7, e_117_10, e_117_11, e_117_14, e_117_15, lg_n, lg_i, lg_r, wd_nil, am_wd_i, am_wd_r, am_wd_l, am_gk_s, am_fld_s, List.getElem?_cons_zero, List.getElem?_cons_succ, am_bk_v, am_bk_n, bo_0, bo_1, am_pk_s, List.length_cons, List.length_nil, Nat.zero_add, List.set_cons_zero, List.set_cons_succ, Nat.reduceAdd, Nat.reduceLeDiff, Nat.reduceLT, i_lt, i_le]
  split <;> split <;> (try split) <;> first | rfl | (exfalso; omega)
theorem l_spell (hR : RD h v t n c b e) (hbe : b ≤ e) (he : e ≤ n) {w : Nat} (hw : w < 8) (hl : e - b = (wdN w).length) : ∀ j k, k + j = (wdN w).length → am_ev (d + 4) 71 23 [some (.ref v), some (.ref (1000007 + w)), some (.int (nI (b + k)))] [] h = some (some (.int (if mtN t b (wdN w) j k then 1 else 0)), h) := by
  obtain ⟨k0, k1, k2, k3, k4, k5, k6⟩ := hR.fl
  obtain ⟨a1, -⟩ := at_str hR.1 hw
  have hn := hR.2.2.2.1
  intro j
  induction j with
  | zero =>
    intro k hk
    rw [e_71_23]
    simp only [e_71_0, e_71_1, e_71_4, e_71_5, e_71_8, e_71_9, e_71_10, e_71_13, e_71_16, e_71_17, e_71_18, e_71_19, e_71_22, e_71_24, e_71_25, e_71_28, e_71_31, e_71_32, e_71_35, e_71_36, e_71_37, e_71_38, e_71_39, e_71_40, e_71_43, e_71_44, e_71_47, e_71_50, e_71_51, e_71_52, e_71_55, e_71_58, e_71_59, lg_n, lg_i, lg_r, wd_nil, am_wd_i, am_wd_r, am_wd_l, am_gk_s, am_fld_s, List.getElem?_cons_zero, List.getElem?_cons_succ, am_bk_v, am_bk_n, bo_0, bo_1, am_pk_s, List.length_cons, List.length_nil, Nat.zero_add, List.set_cons_zero, List.set_cons_succ, Nat.reduceAdd, Nat.reduceLeDiff, Nat.reduceLT, k5, nI_leI (show e < 2 ^ 31 by omega) (show b + k < 2 ^ 31 by omega), if_pos (show e ≤ b + k by omega), mtN, if_true]
  | succ j ih =>
    intro k hk
    have ih' := ih (k + 1) (by omega)
    have ht := hR.2.2.2.2.2 (b + k)
    have hkl : k < (wdN w).length := by omega
    obtain ⟨-, -, b3⟩ := byt_ok w hw k hkl
    rw [e_71_23]
    simp only [e_71_0, e_71_1, e_71_4, e_71_5, e_71_8, e_71_9, e_71_10, e_71_13, e_71_16, e_71_17, e_71_18, e_71_19, e_71_22, e_71_24, e_71_25, e_71_28, e_71_31, e_71_32, e_71_35, e_71_36, e_71_37, e_71_38, e_71_39, e_71_40, e_71_43, e_71_44, e_71_47, e_71_50, e_71_51, e_71_52, e_71_55, e_71_58, e_71_59, lg_n, lg_i, lg_r, wd_nil, am_wd_i, am_wd_r, am_wd_l, am_gk_s, am_fld_s, List.getElem?_cons_zero, List.getElem?_cons_succ, am_bk_v, am_bk_n, bo_0, bo_1, am_pk_s, List.length_cons, List.length_nil, Nat.zero_add, List.set_cons_zero, List.set_cons_succ, Nat.reduceAdd, Nat.reduceLeDiff, Nat.reduceLT, k0, k4, k5, nI_leI (show e < 2 ^ 31 by omega) (show b + k < 2 ^ 31 by omega), if_neg (show ¬ e ≤ b + k by omega), hR.2.2.1, ak_AI (show b + k < 200 by omega) (show 200 < 2 ^ 31 by decide), pk_sub (show b ≤ b + k by omega), Nat.add_sub_cancel_left, a1, is_c, m_charAt hR.1 hw hkl, nI_eq (show t (b + k) < 2 ^ 31 by omega) (show (wdN w).getD k 0 < 2 ^ 31 by omega), nI_1]
    have hm : mtN t b (wdN w) (j + 1) k = if t (b + k) = (wdN w).getD k 0 then mtN t b (wdN w) j (k + 1) else false := rfl
    by_cases hc : t (b + k) = (wdN w).getD k 0
    · rw [if_pos hc] at hm
      rw [if_pos hc, hm]
      exact ih'
    · rw [if_neg hc] at hm
      rw [if_neg hc, hm]
      rfl
theorem m_spells (hR : RD h v t n c b e) (hbe : b ≤ e) (he : e ≤ n) {w : Nat} (hw : w < 8) : am_cal (d + 5) 71 [.ref v, .ref (1000007 + w)] h = some (some (.int (if wordL t b e = wdN w then 1 else 0)), h) := by
  refine (b_71 _ _ _).trans ?_; show am_ev _ 71 0 [some (.ref v), some (.ref (1000007 + w)), none] [] _ = _
  obtain ⟨k0, k1, k2, k3, k4, k5, k6⟩ := hR.fl
  obtain ⟨a1, -⟩ := at_str hR.1 hw
  have hn := hR.2.2.2.1
  have hlen : (wdN w).length < 2 ^ 31 := by
    rcases (show w = 0 ∨ w = 1 ∨ w = 2 ∨ w = 3 ∨ w = 4 ∨ w = 5 ∨ w = 6 ∨ w = 7 by omega) with rfl | rfl | rfl | rfl | rfl | rfl | rfl | rfl <;> decide
  simp only [e_71_0, e_71_1, e_71_4, e_71_5, e_71_8, e_71_9, e_71_10, e_71_13, e_71_16, e_71_17, e_71_18, e_71_19, e_71_22, lg_n, lg_i, lg_r, wd_nil, am_wd_i, am_wd_r, am_wd_l, am_gk_s, am_fld_s, List.getElem?_cons_zero, List.getElem?_cons_succ, am_bk_v, am_bk_n, bo_0, bo_1, am_pk_s, List.length_cons, List.length_nil, Nat.zero_add, List.set_cons_zero, List.set_cons_succ, Nat.reduceAdd, Nat.reduceLeDiff, Nat.reduceLT, k4, k5, pk_sub hbe, a1, is_c, m_strLen hR.1 hw, nI_eq (show e - b < 2 ^ 31 by omega) hlen]
  have hwi := word_iff t b e (wdN w)
  by_cases hl : e - b = (wdN w).length
  · rw [if_pos hl]
    refine (l_spell (d := d) hR hbe he hw hl (wdN w).length 0 (by omega)).trans ?_
    by_cases hm : mtN t b (wdN w) (wdN w).length 0 = true
    · rw [if_pos hm, if_pos (hwi.2 ⟨hl, hm⟩)]
    · rw [if_neg hm, if_neg (fun z => hm (hwi.1 z).2)]
  · rw [if_neg hl, if_neg (fun z => hl (hwi.1 z).1)]
theorem m_readNumber (hR : RD h v t n c b e) (he : e ≤ n) {lo hi : Nat} (hlo : lo < 2 ^ 31) (hhi : hi < 2 ^ 31) : am_cal (d + 3) 70 [.ref v, .int (nI lo), .int (nI hi)] h = some (some (.int (cI (numN t n (tkB t n e) (tkE t n e) lo hi + 1))), am_set h v (rd0 v n c (tkB t n e) (tkE t n e))) := by
  refine (b_70 _ _ _).trans ?_; show am_ev _ 70 0 [some (.ref v), some (.int (nI lo)), some (.int (nI hi)), none, none] [] _ = _
  obtain ⟨k0, k1, k2, k3, k4, k5, k6⟩ := hR.fl
  have hn := hR.2.2.2.1
  have hle := tk_le t he
  have hR1 := hR.set c (tkB t n e) (tkE t n e)
  have hlt := tk_lt t (n := n) (e := e)
  have hall := fun i => tk_all t (n := n) (e := e) (i := i)
  have hnt := m_nextTok (d := d) hR he
  generalize tkB t n e = B at *
  generalize tkE t n e = E at *
  obtain ⟨r0, r1, r2, r3, r4, r5, r6⟩ := hR1.fl
  have ht := hR.2.2.2.2.2
  have hsr : srtN (t B) ≤ 3 := by unfold srtN; repeat' split
                                  all_goals omega
  have e2 : (2 : Int32) = nI 2 := by decide +kernel
  have e10 : (10 : Int32) = nI 10 := by decide +kernel
  have e48 : (48 : Int32) = nI 48 := by decide +kernel
  have hc0 : cI (0 + 1) = -1 := rfl
  simp only [e_70_0, e_70_1, e_70_4, e_70_5, e_70_8, e_70_9, e_70_12, lg_n, lg_i, lg_r, wd_nil, am_wd_i, am_wd_r, am_wd_l, am_gk_s, am_fld_s, List.getElem?_cons_zero, List.getElem?_cons_succ, am_bk_v, am_bk_n, bo_0, bo_1, am_pk_s, List.length_cons, List.length_nil, Nat.zero_add, List.set_cons_zero, List.set_cons_succ, Nat.reduceAdd, Nat.reduceLeDiff, Nat.reduceLT, k6, hnt, r1, r4, nI_leI (show n < 2 ^ 31 by omega) (show B < 2 ^ 31 by omega)]
  unfold numN
  by_cases h1 : B < n
  · rw [if_neg (show ¬ n ≤ B by omega)]
    have htB := ht B
    simp only [e_70_15, e_70_16, e_70_19, e_70_20, e_70_23, e_70_24, e_70_27, e_70_28, e_70_31, e_70_32, e_70_35, e_70_36, e_70_39, e_70_40, e_70_41, e_70_44, e_70_45, lg_n, lg_i, lg_r, wd_nil, am_wd_i, am_wd_r, am_wd_l, am_gk_s, am_fld_s, List.getElem?_cons_zero, List.getElem?_cons_succ, am_bk_v, am_bk_n, bo_0, bo_1, am_pk_s, List.length_cons, List.length_nil, Nat.zero_add, List.set_cons_zero, List.set_cons_succ, Nat.reduceAdd, Nat.reduceLeDiff, Nat.reduceLT, r0, r4, r5, hR1.2.2.1, ak_AI (show B < 200 by omega) (show 200 < 2 ^ 31 by decide), m_sortR (show t B < 2 ^ 31 by omega), e2, nI_eq (show srtN (t B) < 2 ^ 31 by omega) (show 2 < 2 ^ 31 by decide), pk_sub hle.2.2.1, nI_leI (show E - B < 2 ^ 31 by omega) (show 2 < 2 ^ 31 by decide)]
    by_cases h2 : srtN (t B) = 2
    · rw [if_pos h2]
      by_cases h3 : E - B ≤ 2
      · rw [if_pos h3, if_pos ⟨h1, h2, h3⟩]
        have h4 := hlt h1
        have hdig : ∀ x, srtN x = 2 → 48 ≤ x ∧ x ≤ 57 := by
          intro x hx
          unfold srtN at hx
          by_cases g1 : 97 ≤ x ∧ x ≤ 122
          · rw [if_pos g1] at hx; omega
          · rw [if_neg g1] at hx
            by_cases g2 : 48 ≤ x ∧ x ≤ 57
            · exact g2
            · rw [if_neg g2] at hx; omega
        have dB := hdig _ h2
        have fin : ∀ V, V < 2 ^ 30 → ∀ z, am_ev (d + 2) 70 85 [some (.ref v), some (.int (nI lo)), some (.int (nI hi)), some (.int (nI V)), z] [] (am_set h v (rd0 v n c B E)) = some (some (.int (cI ((if lo ≤ V ∧ V ≤ hi then V + 1 else 0) + 1))), am_set h v (rd0 v n c B E)) := by
          intro V hV z
          simp only [e_70_85, e_70_86, e_70_87, e_70_88, e_70_91, e_70_94, e_70_95, e_70_98, e_70_99, lg_n, lg_i, lg_r, wd_nil, am_wd_i, am_wd_r, am_wd_l, am_gk_s, am_fld_s, List.getElem?_cons_zero, List.getElem?_cons_succ, am_bk_v, am_bk_n, bo_0, bo_1, am_pk_s, List.length_cons, List.length_nil, Nat.zero_add, List.set_cons_zero, List.set_cons_succ, Nat.reduceAdd, Nat.reduceLeDiff, Nat.reduceLT, m_within, nI_leI hlo (show V < 2 ^ 31 by omega), nI_leI (show V < 2 ^ 31 by omega) hhi, z_if]
          by_cases hin : lo ≤ V ∧ V ≤ hi
          · rw [if_neg (not_not_intro hin), if_pos hin, cI_s]
          · rw [if_pos hin, if_neg hin, hc0]
        have hz : nI (10 * 0) = nI 0 := rfl
        simp only [e_70_46, e_70_47, e_70_48, e_70_49, e_70_52, lg_n, lg_i, lg_r, wd_nil, am_wd_i, am_wd_r, am_wd_l, am_gk_s, am_fld_s, List.getElem?_cons_zero, List.getElem?_cons_succ, am_bk_v, am_bk_n, bo_0, bo_1, am_pk_s, List.length_cons, List.length_nil, Nat.zero_add, List.set_cons_zero, List.set_cons_succ, Nat.reduceAdd, Nat.reduceLeDiff, Nat.reduceLT, r4]
        rw [e_70_54]
        simp only [e_70_56, e_70_57, e_70_60, e_70_63, e_70_65, e_70_66, e_70_67, e_70_68, e_70_71, e_70_73, e_70_74, e_70_75, e_70_77, e_70_78, e_70_79, e_70_82, lg_n, lg_i, lg_r, wd_nil, am_wd_i, am_wd_r, am_wd_l, am_gk_s, am_fld_s, List.getElem?_cons_zero, List.getElem?_cons_succ, am_bk_v, am_bk_n, bo_0, bo_1, am_pk_s, List.length_cons, List.length_nil, Nat.zero_add, List.set_cons_zero, List.set_cons_succ, Nat.reduceAdd, Nat.reduceLeDiff, Nat.reduceLT, r0, r5, nI_leI (show E < 2 ^ 31 by omega) (show B < 2 ^ 31 by omega), if_neg (show ¬ E ≤ B by omega), hR1.2.2.1, ak_AI (show B < 200 by omega) (show 200 < 2 ^ 31 by decide), show (0 : Int32) = nI 0 from rfl, e10, e48, pk_mul, nI_add, Nat.mul_zero, Nat.zero_add, pk_sub dB.1, nI_1]
        by_cases h5 : E - B = 2
        · have dB1 := hdig _ ((hall (B + 1) (by omega) (by omega) (by omega)).trans h2)
          have htB1 := ht (B + 1)
          rw [e_70_54]
          simp only [e_70_56, e_70_57, e_70_60, e_70_63, e_70_65, e_70_66, e_70_67, e_70_68, e_70_71, e_70_73, e_70_74, e_70_75, e_70_77, e_70_78, e_70_79, e_70_82, lg_n, lg_i, lg_r, wd_nil, am_wd_i, am_wd_r, am_wd_l, am_gk_s, am_fld_s, List.getElem?_cons_zero, List.getElem?_cons_succ, am_bk_v, am_bk_n, bo_0, bo_1, am_pk_s, List.length_cons, List.length_nil, Nat.zero_add, List.set_cons_zero, List.set_cons_succ, Nat.reduceAdd, Nat.reduceLeDiff, Nat.reduceLT, r0, r5, nI_leI (show E < 2 ^ 31 by omega) (show B + 1 < 2 ^ 31 by omega), if_neg (show ¬ E ≤ B + 1 by omega), hR1.2.2.1, ak_AI (show B + 1 < 200 by omega) (show 200 < 2 ^ 31 by decide), e10, e48, pk_mul, nI_add, pk_sub (show 48 ≤ 10 * (t B - 48) + t (B + 1) by omega), nI_1]
          rw [e_70_54]
          simp only [e_70_56, e_70_57, e_70_60, lg_n, lg_i, lg_r, wd_nil, am_wd_i, am_wd_r, am_wd_l, am_gk_s, am_fld_s, List.getElem?_cons_zero, List.getElem?_cons_succ, am_bk_v, am_bk_n, bo_0, bo_1, am_pk_s, List.length_cons, List.length_nil, Nat.zero_add, List.set_cons_zero, List.set_cons_succ, Nat.reduceAdd, Nat.reduceLeDiff, Nat.reduceLT, r5, nI_leI (show E < 2 ^ 31 by omega) (show B + 1 + 1 < 2 ^ 31 by omega), if_pos (show E ≤ B + 1 + 1 by omega)]
          rw [fin _ (by omega)]
          unfold valN
          rw [if_pos h5]
        · rw [e_70_54]
          simp only [e_70_56, e_70_57, e_70_60, lg_n, lg_i, lg_r, wd_nil, am_wd_i, am_wd_r, am_wd_l, am_gk_s, am_fld_s, List.getElem?_cons_zero, List.getElem?_cons_succ, am_bk_v, am_bk_n, bo_0, bo_1, am_pk_s, List.length_cons, List.length_nil, Nat.zero_add, List.set_cons_zero, List.set_cons_succ, Nat.reduceAdd, Nat.reduceLeDiff, Nat.reduceLT, r5, nI_leI (show E < 2 ^ 31 by omega) (show B + 1 < 2 ^ 31 by omega), if_pos (show E ≤ B + 1 by omega)]
          rw [fin _ (by omega)]
          unfold valN
          rw [if_neg h5]
      · rw [if_neg h3, if_neg (fun z => h3 z.2.2), hc0]
    · rw [if_neg h2, if_neg (fun z => h2 z.2.1), hc0]
  · rw [if_pos (show n ≤ B by omega), if_neg (fun z => h1 z.1)]
    simp only [e_70_44, e_70_45, lg_n, lg_i, lg_r, wd_nil, am_wd_i, am_wd_r, am_wd_l, am_gk_s, am_fld_s, List.getElem?_cons_zero, List.getElem?_cons_succ, am_bk_v, am_bk_n, bo_0, bo_1, am_pk_s, List.length_cons, List.length_nil, Nat.zero_add, List.set_cons_zero, List.set_cons_succ, Nat.reduceAdd, Nat.reduceLeDiff, Nat.reduceLT, hc0]
end RX
