/-! the model reads: clauses -/
def lyF (f : Nat → Int32) (b i : Nat) : Nat → Int32 := fun k => if b ≤ k ∧ k < b + i then (if b + 8 ≤ k ∧ k < b + 16 then -1 else 0) else f k
def lyN (f : Nat → Int32) (b F : Nat) : Nat → Int32 := upd (upd (lyF f b 53) (b + 26) (nI F)) (b + 27) (nI 2)
theorem upd_at (g : Nat → Int32) (i : Nat) (x : Int32) : upd g i x i = x := by unfold upd; rw [if_pos rfl]
theorem upd_off (g : Nat → Int32) {i k : Nat} (x : Int32) (h : k ≠ i) : upd g i x k = g k := by unfold upd; rw [if_neg h]
theorem lyF_s (f : Nat → Int32) (b i : Nat) : upd (lyF f b i) (b + i) (if 8 ≤ i ∧ i ≤ 15 then -1 else 0) = lyF f b (i + 1) := by
  funext k
  unfold upd lyF
  by_cases h : k = b + i
  · subst h
    rw [if_pos rfl, if_pos (show b ≤ b + i ∧ b + i < b + (i + 1) by omega)]
    by_cases c : 8 ≤ i ∧ i ≤ 15
    · rw [if_pos c, if_pos (by omega)]
    · rw [if_neg c, if_neg (by omega)]
  · rw [if_neg h]
    have : (b ≤ k ∧ k < b + (i + 1)) ↔ (b ≤ k ∧ k < b + i) := by omega
    simp only [this]
def Told (f : Nat → Int32) (D : Pn) : Prop := RowP f 53 D ∧ RowH f 53 (0, D.2.2.1, (fun _ => 0), (fun _ => 0))
def FT (f f' : Nat → Int32) : Prop := ∀ k, k < 53 ∨ 106 ≤ k → f' k = f k
theorem ly_told (f : Nat → Int32) (F : Nat) (K : (Nat → Nat) × (Nat → Nat) × (Nat → Nat)) : Told (lyN f 53 F) (F, 2, 0, 0, K) := by
  have h0 : ∀ k, 53 ≤ k → k < 106 → k ≠ 79 → k ≠ 80 → lyN f 53 F k = if 61 ≤ k ∧ k < 69 then -1 else 0 := by
    intro k h1 h2 h3 h4
    unfold lyN
    rw [upd_off _ _ (by omega), upd_off _ _ (by omega)]
    unfold lyF
    rw [if_pos ⟨h1, by omega⟩]
  refine ⟨⟨?_, ?_, ?_, fun p hp => absurd hp (Nat.not_lt_zero p)⟩, fun p hp => ⟨?_, ?_, ?_⟩, ?_, ?_⟩
  · unfold lyN
    rw [upd_off _ _ (by omega), upd_at]
  · unfold lyN
    rw [upd_at]
  · rw [h0 _ (by omega) (by omega) (by omega) (by omega)]
    rfl
  · rw [h0 _ (by omega) (by omega) (by omega) (by omega), if_neg (by omega)]
    rfl
  · rw [h0 _ (by omega) (by omega) (by omega) (by omega), if_pos (by omega)]
    rfl
  · rw [h0 _ (by omega) (by omega) (by omega) (by omega), if_neg (by omega)]
    rfl
  · rw [h0 _ (by omega) (by omega) (by omega) (by omega), if_neg (by omega)]
    rfl
  · rw [h0 _ (by omega) (by omega) (by omega) (by omega), if_neg (by omega)]
    rfl
theorem ly_ft (f : Nat → Int32) (F : Nat) : FT f (lyN f 53 F) := by
  intro k hk
  unfold lyN
  rw [upd_off _ _ (by omega), upd_off _ _ (by omega)]
  unfold lyF
  rw [if_neg (by omega)]
section XM
variable {d : Nat} {h : am_H} {u n sn fi be rF rP cl : Nat} {dg : Int32} {f g : Nat → Int32} {t : Nat → Nat}
theorem l_layH {b F : Nat} (hb : b ≤ 339) : ∀ j i, i + j = 53 → am_ev (d + 1) 130 2 [some (.ref 87), some (.int (nI b)), some (.int (nI F)), some (.int (nI i))] [] (xM h u n sn fi be rF rP cl dg (lyF f b i) g) = some (none, xM h u n sn fi be rF rP cl dg (lyN f b F) g) := by
  have e53 : (53 : Int32) = nI 53 := by decide +kernel
  have e26 : (26 : Int32) = nI 26 := by decide +kernel
  have e27 : (27 : Int32) = nI 27 := by decide +kernel
  have e2 : (2 : Int32) = nI 2 := by decide +kernel
  intro j
  induction j with
  | zero =>
    intro i hi
    have : i = 53 := by omega
    subst this
    rw [e_130_2]
    simp only [e_130_3, e_130_5, e_130_41, e_130_42, e_130_45, e_130_46, e_130_48, e_130_49, e_130_50, e_130_51, e_130_52, e_130_55, e_130_56, e_130_58, e_130_59, e_130_60, e_130_61, lg_n, lg_i, lg_r, wd_nil, am_wd_i, am_wd_r, am_wd_l, am_gk_s, am_fld_s, List.getElem?_cons_zero, List.getElem?_cons_succ, am_bk_v, am_bk_n, bo_0, bo_1, am_pk_s, List.length_cons, List.length_nil, Nat.zero_add, List.set_cons_zero, List.set_cons_succ, Nat.reduceAdd, Nat.reduceLeDiff, Nat.reduceLT, e53, e26, e27, e2, nI_leI (show 53 < 2 ^ 31 by decide) (show 53 < 2 ^ 31 by decide), Nat.le_refl, if_true, at_xM, at_xM88, nI_add, sk_AI (show b + 26 < 392 by omega) (show 392 < 2 ^ 31 by decide), st_AI (show b + 26 < 392 by omega) (show 392 < 2 ^ 31 by decide), xM_88, sk_AI (show b + 27 < 392 by omega) (show 392 < 2 ^ 31 by decide), st_AI (show b + 27 < 392 by omega) (show 392 < 2 ^ 31 by decide)]
    rfl
  | succ j ih =>
    intro i hi
    have ih' := ih (i + 1) (by omega)
    rw [← lyF_s] at ih'
    have hIn := m_in (d := d) (h := xM h u n sn fi be rF rP cl dg (lyF f b i) g) (nI i).toInt64 8 15
    rw [l_in32, nI_toInt (by omega), show (8 : Int64).toInt = 8 from rfl, show (15 : Int64).toInt = 15 from rfl] at hIn
    rw [e_130_2]
    by_cases c : 8 ≤ i ∧ i ≤ 15
    · rw [if_pos (by omega)] at hIn
      rw [if_pos c] at ih'
      simp only [e_130_3, e_130_5, e_130_8, e_130_9, e_130_12, e_130_13, e_130_14, e_130_15, e_130_16, e_130_17, e_130_20, e_130_23, e_130_26, e_130_29, e_130_30, e_130_33, e_130_34, e_130_35, e_130_38, lg_n, lg_i, lg_r, wd_nil, am_wd_i, am_wd_r, am_wd_l, am_gk_s, am_fld_s, List.getElem?_cons_zero, List.getElem?_cons_succ, am_bk_v, am_bk_n, bo_0, bo_1, am_pk_s, List.length_cons, List.length_nil, Nat.zero_add, List.set_cons_zero, List.set_cons_succ, Nat.reduceAdd, Nat.reduceLeDiff, Nat.reduceLT, e53, nI_leI (show 53 < 2 ^ 31 by decide) (show i < 2 ^ 31 by omega), if_neg (show ¬ 53 ≤ i by omega), hIn, one_ne, if_false, at_xM, at_xM88, nI_add, sk_AI (show b + i < 392 by omega) (show 392 < 2 ^ 31 by decide), st_AI (show b + i < 392 by omega) (show 392 < 2 ^ 31 by decide), xM_88, nI_1]
      exact ih'
    · rw [if_neg (by omega)] at hIn
      rw [if_neg c] at ih'
      simp only [e_130_3, e_130_5, e_130_8, e_130_9, e_130_12, e_130_13, e_130_14, e_130_15, e_130_16, e_130_17, e_130_20, e_130_23, e_130_26, e_130_29, e_130_30, e_130_33, e_130_34, e_130_35, e_130_38, lg_n, lg_i, lg_r, wd_nil, am_wd_i, am_wd_r, am_wd_l, am_gk_s, am_fld_s, List.getElem?_cons_zero, List.getElem?_cons_succ, am_bk_v, am_bk_n, bo_0, bo_1, am_pk_s, List.length_cons, List.length_nil, Nat.zero_add, List.set_cons_zero, List.set_cons_succ, Nat.reduceAdd, Nat.reduceLeDiff, Nat.reduceLT, e53, nI_leI (show 53 < 2 ^ 31 by decide) (show i < 2 ^ 31 by omega), if_neg (show ¬ 53 ≤ i by omega), hIn, if_true, at_xM, at_xM88, nI_add, sk_AI (show b + i < 392 by omega) (show 392 < 2 ^ 31 by decide), st_AI (show b + i < 392 by omega) (show 392 < 2 ^ 31 by decide), xM_88, nI_1]
      exact ih'
theorem m_layH {b F : Nat} (hb : b ≤ 339) : am_cal (d + 2) 130 [.ref 87, .int (nI b), .int (nI F)] (xM h u n sn fi be rF rP cl dg f g) = some (none, xM h u n sn fi be rF rP cl dg (lyN f b F) g) := by
  have hl := l_layH (d := d) (h := h) (u := u) (n := n) (sn := sn) (fi := fi) (be := be) (rF := rF) (rP := rP) (cl := cl) (dg := dg) (f := f) (g := g) (F := F) hb 53 0 (by omega)
  have h0 : lyF f b 0 = f := by
    funext k
    unfold lyF
    rw [if_neg (by omega)]
  rw [h0] at hl
  refine (b_130 _ _ _).trans ?_; show am_ev _ 130 0 [some (.ref 87), some (.int (nI b)), some (.int (nI F)), none] [] _ = _
  simp only [e_130_0, e_130_1, lg_n, lg_i, lg_r, wd_nil, am_wd_i, am_wd_r, am_wd_l, am_gk_s, am_fld_s, List.getElem?_cons_zero, List.getElem?_cons_succ, am_bk_v, am_bk_n, bo_0, bo_1, am_pk_s, List.length_cons, List.length_nil, Nat.zero_add, List.set_cons_zero, List.set_cons_succ, Nat.reduceAdd, Nat.reduceLeDiff, Nat.reduceLT]
  exact hl
theorem ak_0 {n : Nat} {f : Nat → Int32} {k : Int32 → Option am_R} (h0 : 0 < n) (hn : n < 2 ^ 31) : am_ak (some (AI n f)) 0 10 0 k = k (f 0) := by
  have := ak_AI (j := 0) (f := f) (k := k) h0 hn
  rw [nI_0] at this
  exact this
theorem ak_1 {n : Nat} {f : Nat → Int32} {k : Int32 → Option am_R} (h0 : 1 < n) (hn : n < 2 ^ 31) : am_ak (some (AI n f)) 0 10 1 k = k (f 1) := by
  have := ak_AI (j := 1) (f := f) (k := k) h0 hn
  rw [show nI 1 = 1 by decide +kernel] at this
  exact this
theorem m_rHall (hT : am_at h 90 = some (AI 200 (fun k => nI (t k)))) (hn : n ≤ 200) (ht : ∀ k, t k < 256) (hb : be ≤ n) (hdg : dg = 0 ∨ dg = 1) : (numN t n (tkB t n be) (tkE t n be) 2 7 = 0 → am_cal (d + 5) 140 [.ref 87] (xM h u n sn fi be rF rP cl dg f g) = some (some (.int 0), xM h u n sn (tkB t n be) (tkE t n be) rF rP cl dg f g)) ∧ (numN t n (tkB t n be) (tkE t n be) 2 7 ≠ 0 → am_cal (d + 5) 140 [.ref 87] (xM h u n sn fi be rF rP cl dg f g) = some (some (.int 1), xM h u n sn (tkB t n (tkE t n be)) (tkE t n (tkE t n be)) (numN t n (tkB t n be) (tkE t n be) 2 7 - 1) 0 cl dg (if dg = 0 then f else lyN f 53 (numN t n (tkB t n be) (tkE t n be) 2 7 - 1)) (upd g 0 (nI (numN t n (tkB t n be) (tkE t n be) 2 7 - 1))))) := by
  have htk := m_tokM (d := d + 1) (h := h) (u := u) (n := n) (sn := sn) (fi := fi) (be := be) (rF := rF) (rP := rP) (cl := cl) (dg := dg) (f := f) (g := g) hT hn ht hb
  obtain ⟨g1, g2⟩ := m_numM (d := d) (h := h) (u := u) (n := n) (sn := sn) (rF := rF) (rP := rP) (cl := cl) (dg := dg) (f := f) (g := g) hT hn ht hb (i := 0) (lo := 2) (hi := 7) (by decide) (by decide) (by decide)
  rw [nI_0, show nI 2 = 2 by decide +kernel, show nI 7 = 7 by decide +kernel] at g1 g2
  generalize numN t n (tkB t n be) (tkE t n be) 2 7 = V at *
  refine ⟨fun hV => ?_, fun hV => ?_⟩
  · refine (b_140 _ _ _).trans ?_; show am_ev _ 140 0 [some (.ref 87)] [] _ = _
    simp only [e_140_0, e_140_1, e_140_4, e_140_5, e_140_6, e_140_7, e_140_9, e_140_12, e_140_15, e_140_16, lg_n, lg_i, lg_r, wd_nil, am_wd_i, am_wd_r, am_wd_l, am_gk_s, am_fld_s, List.getElem?_cons_zero, List.getElem?_cons_succ, am_bk_v, am_bk_n, bo_0, bo_1, am_pk_s, List.length_cons, List.length_nil, Nat.zero_add, List.set_cons_zero, List.set_cons_succ, Nat.reduceAdd, Nat.reduceLeDiff, Nat.reduceLT, is_xM, htk, g1 hV, not_true_eq_false, if_false, if_true]
  · have hl := fun f' g' => m_layH (d := d + 2) (h := h) (u := u) (n := n) (sn := sn) (fi := tkB t n (tkE t n be)) (be := tkE t n (tkE t n be)) (rF := V - 1) (rP := 0) (cl := cl) (dg := dg) (f := f') (g := g') (b := 53) (F := V - 1) (by decide)
    have e53 : (53 : Int32) = nI 53 := by decide +kernel
    have xz := fun (h : am_H) (u n sn fi be rF rP cl : Nat) (dg : Int32) (f g : Nat → Int32) (fi' be' rF' : Nat) => xM_p (h := h) (u := u) (n := n) (sn := sn) (fi := fi) (be := be) (rF := rF) (rP := rP) (cl := cl) (dg := dg) (f := f) (g := g) (u' := u) (n' := n) (sn' := sn) (fi' := fi') (be' := be') (rF' := rF') (rP' := 0) (cl' := cl) (dg' := dg)
    simp only [nI_0] at xz
    refine (b_140 _ _ _).trans ?_; show am_ev _ 140 0 [some (.ref 87)] [] _ = _
    simp only [e_140_0, e_140_1, e_140_4, e_140_5, e_140_6, e_140_7, e_140_9, e_140_12, lg_n, lg_i, lg_r, wd_nil, am_wd_i, am_wd_r, am_wd_l, am_gk_s, am_fld_s, List.getElem?_cons_zero, List.getElem?_cons_succ, am_bk_v, am_bk_n, bo_0, bo_1, am_pk_s, List.length_cons, List.length_nil, Nat.zero_add, List.set_cons_zero, List.set_cons_succ, Nat.reduceAdd, Nat.reduceLeDiff, Nat.reduceLT, is_xM, htk, g2 hV, one_ne, not_false_eq_true, if_false, if_true]
    simp only [e_140_17, e_140_18, e_140_19, e_140_22, e_140_23, e_140_24, e_140_27, e_140_28, e_140_29, e_140_32, e_140_33, e_140_36, lg_n, lg_i, lg_r, wd_nil, am_wd_i, am_wd_r, am_wd_l, am_gk_s, am_fld_s, List.getElem?_cons_zero, List.getElem?_cons_succ, am_bk_v, am_bk_n, bo_0, bo_1, am_pk_s, List.length_cons, List.length_nil, Nat.zero_add, List.set_cons_zero, List.set_cons_succ, Nat.reduceAdd, Nat.reduceLeDiff, Nat.reduceLT, at_xM, at_xM97, ak_0 (show 0 < 2 by decide) (show 2 < 2 ^ 31 by decide), upd_at, xM_p, xz]
    rcases hdg with rfl | rfl
    · simp only [if_true, e_140_49, e_140_50, lg_n, lg_i, lg_r, wd_nil, am_wd_i, am_wd_r, am_wd_l, am_gk_s, am_fld_s, List.getElem?_cons_zero, List.getElem?_cons_succ, am_bk_v, am_bk_n, bo_0, bo_1, am_pk_s, List.length_cons, List.length_nil, Nat.zero_add, List.set_cons_zero, List.set_cons_succ, Nat.reduceAdd, Nat.reduceLeDiff, Nat.reduceLT]
    · simp only [one_ne, if_false, e_140_39, e_140_40, e_140_42, e_140_43, e_140_46, e_140_49, e_140_50, lg_n, lg_i, lg_r, wd_nil, am_wd_i, am_wd_r, am_wd_l, am_gk_s, am_fld_s, List.getElem?_cons_zero, List.getElem?_cons_succ, am_bk_v, am_bk_n, bo_0, bo_1, am_pk_s, List.length_cons, List.length_nil, Nat.zero_add, List.set_cons_zero, List.set_cons_succ, Nat.reduceAdd, Nat.reduceLeDiff, Nat.reduceLT, at_xM, is_c, e53, hl]
theorem m_rRoom (hT : am_at h 90 = some (AI 200 (fun k => nI (t k)))) (hn : n ≤ 200) (ht : ∀ k, t k < 256) (hb : be ≤ n) (hdg : dg = 0 ∨ dg = 1) : (numN t n (tkB t n be) (tkE t n be) 1 4 = 0 → am_cal (d + 5) 141 [.ref 87] (xM h u n sn fi be rF rP cl dg f g) = some (some (.int 0), xM h u n sn (tkB t n be) (tkE t n be) rF rP cl dg f g)) ∧ (numN t n (tkB t n be) (tkE t n be) 1 4 ≠ 0 → am_cal (d + 5) 141 [.ref 87] (xM h u n sn fi be rF rP cl dg f g) = some (some (.int 1), xM h u n sn (tkB t n (tkE t n be)) (tkE t n (tkE t n be)) rF rP cl dg (if dg = 0 then f else upd f 80 (nI (numN t n (tkB t n be) (tkE t n be) 1 4 - 1))) (upd g 0 (nI (numN t n (tkB t n be) (tkE t n be) 1 4 - 1))))) := by
  have htk := m_tokM (d := d + 1) (h := h) (u := u) (n := n) (sn := sn) (fi := fi) (be := be) (rF := rF) (rP := rP) (cl := cl) (dg := dg) (f := f) (g := g) hT hn ht hb
  obtain ⟨g1, g2⟩ := m_numM (d := d) (h := h) (u := u) (n := n) (sn := sn) (rF := rF) (rP := rP) (cl := cl) (dg := dg) (f := f) (g := g) hT hn ht hb (i := 0) (lo := 1) (hi := 4) (by decide) (by decide) (by decide)
  rw [nI_0, show nI 1 = 1 by decide +kernel, show nI 4 = 4 by decide +kernel] at g1 g2
  generalize numN t n (tkB t n be) (tkE t n be) 1 4 = V at *
  have e80 : (80 : Int32) = nI 80 := by decide +kernel
  have hself : upd f 80 (f 80) = f := by
    funext k
    unfold upd
    by_cases c : k = 80
    · rw [if_pos c, c]
    · rw [if_neg c]
  refine ⟨fun hV => ?_, fun hV => ?_⟩
  · refine (b_141 _ _ _).trans ?_; show am_ev _ 141 0 [some (.ref 87)] [] _ = _
    simp only [e_141_0, e_141_1, e_141_4, e_141_5, e_141_6, e_141_7, e_141_8, e_141_11, e_141_14, e_141_15, lg_n, lg_i, lg_r, wd_nil, am_wd_i, am_wd_r, am_wd_l, am_gk_s, am_fld_s, List.getElem?_cons_zero, List.getElem?_cons_succ, am_bk_v, am_bk_n, bo_0, bo_1, am_pk_s, List.length_cons, List.length_nil, Nat.zero_add, List.set_cons_zero, List.set_cons_succ, Nat.reduceAdd, Nat.reduceLeDiff, Nat.reduceLT, is_xM, htk, g1 hV, not_true_eq_false, if_false, if_true]
  · refine (b_141 _ _ _).trans ?_; show am_ev _ 141 0 [some (.ref 87)] [] _ = _
    simp only [e_141_0, e_141_1, e_141_4, e_141_5, e_141_6, e_141_7, e_141_8, e_141_11, lg_n, lg_i, lg_r, wd_nil, am_wd_i, am_wd_r, am_wd_l, am_gk_s, am_fld_s, List.getElem?_cons_zero, List.getElem?_cons_succ, am_bk_v, am_bk_n, bo_0, bo_1, am_pk_s, List.length_cons, List.length_nil, Nat.zero_add, List.set_cons_zero, List.set_cons_succ, Nat.reduceAdd, Nat.reduceLeDiff, Nat.reduceLT, is_xM, htk, g2 hV, one_ne, not_false_eq_true, if_false, if_true]
    rcases hdg with rfl | rfl
    · simp only [e_141_16, e_141_17, e_141_20, e_141_22, e_141_23, e_141_26, e_141_29, e_141_30, e_141_33, e_141_34, e_141_35, e_141_38, e_141_39, e_141_42, e_141_44, e_141_45, e_141_46, e_141_47, lg_n, lg_i, lg_r, wd_nil, am_wd_i, am_wd_r, am_wd_l, am_gk_s, am_fld_s, List.getElem?_cons_zero, List.getElem?_cons_succ, am_bk_v, am_bk_n, bo_0, bo_1, am_pk_s, List.length_cons, List.length_nil, Nat.zero_add, List.set_cons_zero, List.set_cons_succ, Nat.reduceAdd, Nat.reduceLeDiff, Nat.reduceLT, if_true, at_xM, at_xM88, e80, ak_AI (show 80 < 392 by decide) (show 392 < 2 ^ 31 by decide), sk_AI (show 80 < 392 by decide) (show 392 < 2 ^ 31 by decide), st_AI (show 80 < 392 by decide) (show 392 < 2 ^ 31 by decide), hself, xM_88]
    · simp only [e_141_16, e_141_17, e_141_20, e_141_22, e_141_23, e_141_26, e_141_29, e_141_30, e_141_33, e_141_34, e_141_35, e_141_38, e_141_39, e_141_42, e_141_44, e_141_45, e_141_46, e_141_47, lg_n, lg_i, lg_r, wd_nil, am_wd_i, am_wd_r, am_wd_l, am_gk_s, am_fld_s, List.getElem?_cons_zero, List.getElem?_cons_succ, am_bk_v, am_bk_n, bo_0, bo_1, am_pk_s, List.length_cons, List.length_nil, Nat.zero_add, List.set_cons_zero, List.set_cons_succ, Nat.reduceAdd, Nat.reduceLeDiff, Nat.reduceLT, one_ne, if_false, at_xM, at_xM97, ak_0 (show 0 < 2 by decide) (show 2 < 2 ^ 31 by decide), upd_at, at_xM88, e80, sk_AI (show 80 < 392 by decide) (show 392 < 2 ^ 31 by decide), st_AI (show 80 < 392 by decide) (show 392 < 2 ^ 31 by decide), xM_88]
theorem m_rShut (hT : am_at h 90 = some (AI 200 (fun k => nI (t k)))) (hn : n ≤ 200) (ht : ∀ k, t k < 256) (hb : be ≤ n) (hdg : dg = 0 ∨ dg = 1) (hr : 2 ≤ rF ∧ rF ≤ 7) {S : Nat} (hS : dg = 1 → f 77 = nI S) : (numN t n (tkB t n be) (tkE t n be) 0 (2 * rF - 1) = 0 → am_cal (d + 5) 142 [.ref 87] (xM h u n sn fi be rF rP cl dg f g) = some (some (.int 0), xM h u n sn (tkB t n be) (tkE t n be) rF rP cl dg f g)) ∧ (numN t n (tkB t n be) (tkE t n be) 0 (2 * rF - 1) ≠ 0 → am_cal (d + 5) 142 [.ref 87] (xM h u n sn fi be rF rP cl dg f g) = some (some (.int 1), xM h u n sn (tkB t n (tkE t n be)) (tkE t n (tkE t n be)) rF rP cl dg (if dg = 0 then f else upd f 77 (nI (S ||| 2 ^ (numN t n (tkB t n be) (tkE t n be) 0 (2 * rF - 1) - 1)))) (upd g 0 (nI (numN t n (tkB t n be) (tkE t n be) 0 (2 * rF - 1) - 1))))) := by
  have htk := m_tokM (d := d + 1) (h := h) (u := u) (n := n) (sn := sn) (fi := fi) (be := be) (rF := rF) (rP := rP) (cl := cl) (dg := dg) (f := f) (g := g) hT hn ht hb
  obtain ⟨g1, g2⟩ := m_numM (d := d) (h := h) (u := u) (n := n) (sn := sn) (rF := rF) (rP := rP) (cl := cl) (dg := dg) (f := f) (g := g) hT hn ht hb (i := 0) (lo := 0) (hi := 2 * rF - 1) (by decide) (by decide) (by omega)
  have hbd := numN_bd t n (tkB t n be) (tkE t n be) 0 (2 * rF - 1)
  rw [nI_0] at g1 g2
  generalize numN t n (tkB t n be) (tkE t n be) 0 (2 * rF - 1) = V at *
  have e77 : (77 : Int32) = nI 77 := by decide +kernel
  have e2 : (2 : Int32) = nI 2 := by decide +kernel
  have hsub : nI (2 * rF) - 1 = nI (2 * rF - 1) := by rw [show (1 : Int32) = nI 1 by decide +kernel, pk_sub (by omega)]
  have hself : upd f 77 (f 77) = f := by
    funext k
    unfold upd
    by_cases c : k = 77
    · rw [if_pos c, c]
    · rw [if_neg c]
  refine ⟨fun hV => ?_, fun hV => ?_⟩
  · refine (b_142 _ _ _).trans ?_; show am_ev _ 142 0 [some (.ref 87)] [] _ = _
    simp only [e_142_0, e_142_1, e_142_4, e_142_5, e_142_6, e_142_7, e_142_8, e_142_9, e_142_12, e_142_13, e_142_14, e_142_15, e_142_18, e_142_21, e_142_22, lg_n, lg_i, lg_r, wd_nil, am_wd_i, am_wd_r, am_wd_l, am_gk_s, am_fld_s, List.getElem?_cons_zero, List.getElem?_cons_succ, am_bk_v, am_bk_n, bo_0, bo_1, am_pk_s, List.length_cons, List.length_nil, Nat.zero_add, List.set_cons_zero, List.set_cons_succ, Nat.reduceAdd, Nat.reduceLeDiff, Nat.reduceLT, is_xM, htk, at_xM, is_c, e2, pk_mul, hsub, g1 hV, not_true_eq_false, if_false, if_true]
  · refine (b_142 _ _ _).trans ?_; show am_ev _ 142 0 [some (.ref 87)] [] _ = _
    simp only [e_142_0, e_142_1, e_142_4, e_142_5, e_142_6, e_142_7, e_142_8, e_142_9, e_142_12, e_142_13, e_142_14, e_142_15, e_142_18, lg_n, lg_i, lg_r, wd_nil, am_wd_i, am_wd_r, am_wd_l, am_gk_s, am_fld_s, List.getElem?_cons_zero, List.getElem?_cons_succ, am_bk_v, am_bk_n, bo_0, bo_1, am_pk_s, List.length_cons, List.length_nil, Nat.zero_add, List.set_cons_zero, List.set_cons_succ, Nat.reduceAdd, Nat.reduceLeDiff, Nat.reduceLT, is_xM, htk, at_xM, is_c, e2, pk_mul, hsub, g2 hV, one_ne, not_false_eq_true, if_false, if_true]
    rcases hdg with rfl | rfl
    · simp only [e_142_23, e_142_24, e_142_27, e_142_29, e_142_30, e_142_31, e_142_32, e_142_35, e_142_38, e_142_39, e_142_40, e_142_43, e_142_44, e_142_45, e_142_46, e_142_49, e_142_50, e_142_51, e_142_52, e_142_53, lg_n, lg_i, lg_r, wd_nil, am_wd_i, am_wd_r, am_wd_l, am_gk_s, am_fld_s, List.getElem?_cons_zero, List.getElem?_cons_succ, am_bk_v, am_bk_n, bo_0, bo_1, am_pk_s, List.length_cons, List.length_nil, Nat.zero_add, List.set_cons_zero, List.set_cons_succ, Nat.reduceAdd, Nat.reduceLeDiff, Nat.reduceLT, if_true, at_xM, at_xM88, e77, ak_AI (show 77 < 392 by decide) (show 392 < 2 ^ 31 by decide), sk_AI (show 77 < 392 by decide) (show 392 < 2 ^ 31 by decide), st_AI (show 77 < 392 by decide) (show 392 < 2 ^ 31 by decide), Int32.or_zero, hself, xM_88]
    · simp only [e_142_23, e_142_24, e_142_27, e_142_29, e_142_30, e_142_31, e_142_32, e_142_35, e_142_38, e_142_39, e_142_40, e_142_43, e_142_44, e_142_45, e_142_46, e_142_49, e_142_50, e_142_51, e_142_52, e_142_53, lg_n, lg_i, lg_r, wd_nil, am_wd_i, am_wd_r, am_wd_l, am_gk_s, am_fld_s, List.getElem?_cons_zero, List.getElem?_cons_succ, am_bk_v, am_bk_n, bo_0, bo_1, am_pk_s, List.length_cons, List.length_nil, Nat.zero_add, List.set_cons_zero, List.set_cons_succ, Nat.reduceAdd, Nat.reduceLeDiff, Nat.reduceLT, one_ne, if_false, at_xM, at_xM97, ak_0 (show 0 < 2 by decide) (show 2 < 2 ^ 31 by decide), upd_at, at_xM88, e77, ak_AI (show 77 < 392 by decide) (show 392 < 2 ^ 31 by decide), sk_AI (show 77 < 392 by decide) (show 392 < 2 ^ 31 by decide), st_AI (show 77 < 392 by decide) (show 392 < 2 ^ 31 by decide), sh1 (V - 1) (by omega), hS rfl, fa_or, xM_88]
end XM
