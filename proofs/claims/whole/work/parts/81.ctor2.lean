/-! the class's constructors: past, ride -/
def hn0 : Hn := (0, 0, (fun _ => 0), (fun _ => 0))
def pn0 : Pn := (4, 2, 0, 0, (fun _ => 0), (fun _ => 0), (fun _ => 0))
section CT
variable {d : Nat} {h : am_H}
theorem l_past1 : ∀ j i (h : am_H), i + j = 8 → h.1 = 13 + 4 * i → am_at h 9 = some (.inr (3, [.ref 10, .ref 11, .ref 12, .int 0, .int 0])) → am_at h 10 = some (ARp 3 8 i (fun i => 13 + 4 * i)) → (∀ k, k < i → RawAt h (13 + 4 * k) 1) → ∃ h', am_ev (d + 2) 49 30 [some (.ref 9), some (.ref 1), some (.int (nI i))] [] h = am_ev (d + 2) 49 56 [some (.ref 9), some (.ref 1), some (.int (nI 8))] [] h' ∧ h'.1 = 13 + 4 * 8 ∧ h'.2.1 = h.2.1 + 30 * j ∧ am_at h' 10 = some (AR 3 8 (fun i => 13 + 4 * i)) ∧ (∀ k, k < 8 → RawAt h' (13 + 4 * k) 1) ∧ ∀ k, k ≠ 10 → (k < 13 + 4 * i ∨ 13 + 4 * 8 ≤ k) → am_at h' k = am_at h k := by
  have eL : (8 : Int32) = nI 8 := by decide +kernel
  intro j
  induction j with
  | zero =>
    intro i h hi hN a0 hA hR
    have : i = 8 := by omega
    subst this
    refine ⟨h, ?_, hN, by omega, hA, hR, fun k _ _ => rfl⟩
    rw [e_49_30]
    simp only [e_49_31, e_49_33, lg_n, lg_i, lg_r, wd_nil, am_wd_i, am_wd_r, am_wd_l, am_gk_s, am_fld_s, List.getElem?_cons_zero, List.getElem?_cons_succ, am_bk_v, am_bk_n, bo_0, bo_1, am_pk_s, List.length_cons, List.length_nil, Nat.zero_add, List.set_cons_zero, List.set_cons_succ, Nat.reduceAdd, Nat.reduceLeDiff, Nat.reduceLT, eL, nI_leI (show 8 < 2 ^ 31 by decide) (show 8 < 2 ^ 31 by decide), Nat.le_refl, if_true]
  | succ j ih =>
    intro i h hi hN a0 hA hR
    obtain ⟨g, r, ng, zg, og, kg⟩ := nwb (h := h) (n := (am_dflt 1).length) (Z := .inr (1, am_dflt 1))
    rw [hN] at og
    rw [dl_1] at zg
    obtain ⟨h1, e1, s1, n1, z1, k1⟩ := m_house0 (d := d) (h := g) (a := 13 + 4 * i) (b := 1) (by omega) (by omega) og
    obtain ⟨h2, q2, n2, z2, a2, k2⟩ := stb (h := h1) (a := 10) (x := ARp 3 8 (i + 1) (fun i => 13 + 4 * i))
    have A1 : am_at h1 10 = some (ARp 3 8 i (fun i => 13 + 4 * i)) := by rw [k1 _ (by omega) (by omega), kg _ (by omega)]; exact hA
    obtain ⟨h', e', n', z', c', R', k'⟩ := ih (i + 1) h2 (by omega) (by omega) (by rw [k2 _ (by omega), k1 _ (by omega) (by omega), kg _ (by omega)]; exact a0) a2 (fun k hk => by
      by_cases e : k = i
      · subst e; exact s1.keep (fun q _ _ => by rw [k2 _ (by omega)])
      · exact (hR k (by omega)).keep (fun q _ _ => by rw [k2 _ (by omega), k1 _ (by omega) (by omega), kg _ (by omega)]))
    refine ⟨h', ?_, n', by omega, c', R', fun k q1 q2 => by rw [k' _ (by omega) (by omega), k2 _ (by omega), k1 _ (by omega) (by omega), kg _ (by omega)]⟩
    obtain ⟨s, t, f1, f2, f3, o1, -⟩ := s1
    have hwt := wt_ARp (t := 3) (n := 8) (f := fun i => 13 + 4 * i) (show i < 2 ^ 31 by omega)
    rw [e_49_30]
    simp only [e_49_31, e_49_33, e_49_36, e_49_37, e_49_40, lg_n, lg_i, lg_r, wd_nil, am_wd_i, am_wd_r, am_wd_l, am_gk_s, am_fld_s, List.getElem?_cons_zero, List.getElem?_cons_succ, am_bk_v, am_bk_n, bo_0, bo_1, am_pk_s, List.length_cons, List.length_nil, Nat.zero_add, List.set_cons_zero, List.set_cons_succ, Nat.reduceAdd, Nat.reduceLeDiff, Nat.reduceLT, eL, nI_leI (show 8 < 2 ^ 31 by decide) (show i < 2 ^ 31 by omega), if_neg (show ¬ 8 ≤ i by omega), a0]
    rw [e_49_41 (h := h) (by omega), ← r, hN]
    simp only [e_49_44, e_49_45, e_49_46, e_49_49, e_49_50, e_49_53, lg_n, lg_i, lg_r, wd_nil, am_wd_i, am_wd_r, am_wd_l, am_gk_s, am_fld_s, List.getElem?_cons_zero, List.getElem?_cons_succ, am_bk_v, am_bk_n, bo_0, bo_1, am_pk_s, List.length_cons, List.length_nil, Nat.zero_add, List.set_cons_zero, List.set_cons_succ, Nat.reduceAdd, Nat.reduceLeDiff, Nat.reduceLT, e1, A1, wk_ARp o1 (show 1 = am_tc 3 from rfl) (show i < 8 by omega) (show 8 < 2 ^ 31 by decide), hwt, nI_1]
    rw [← q2]
    exact e'
theorem l_past2 : ∀ j i (h : am_H), i + j = 2 → h.1 = 45 + 4 * i → am_at h 9 = some (.inr (3, [.ref 10, .ref 11, .ref 12, .int 0, .int 0])) → am_at h 11 = some (ARp 3 2 i (fun i => 45 + 4 * i)) → (∀ k, k < i → RawAt h (45 + 4 * k) 1) → ∃ h', am_ev (d + 2) 49 58 [some (.ref 9), some (.ref 1), some (.int (nI i))] [] h = am_ev (d + 2) 49 83 [some (.ref 9), some (.ref 1), some (.int (nI 2))] [] h' ∧ h'.1 = 45 + 4 * 2 ∧ h'.2.1 = h.2.1 + 30 * j ∧ am_at h' 11 = some (AR 3 2 (fun i => 45 + 4 * i)) ∧ (∀ k, k < 2 → RawAt h' (45 + 4 * k) 1) ∧ ∀ k, k ≠ 11 → (k < 45 + 4 * i ∨ 45 + 4 * 2 ≤ k) → am_at h' k = am_at h k := by
  have eL : (2 : Int32) = nI 2 := by decide +kernel
  intro j
  induction j with
  | zero =>
    intro i h hi hN a0 hA hR
    have : i = 2 := by omega
    subst this
    refine ⟨h, ?_, hN, by omega, hA, hR, fun k _ _ => rfl⟩
    rw [e_49_58]
    simp only [e_49_59, e_49_60, lg_n, lg_i, lg_r, wd_nil, am_wd_i, am_wd_r, am_wd_l, am_gk_s, am_fld_s, List.getElem?_cons_zero, List.getElem?_cons_succ, am_bk_v, am_bk_n, bo_0, bo_1, am_pk_s, List.length_cons, List.length_nil, Nat.zero_add, List.set_cons_zero, List.set_cons_succ, Nat.reduceAdd, Nat.reduceLeDiff, Nat.reduceLT, eL, nI_leI (show 2 < 2 ^ 31 by decide) (show 2 < 2 ^ 31 by decide), Nat.le_refl, if_true]
  | succ j ih =>
    intro i h hi hN a0 hA hR
    obtain ⟨g, r, ng, zg, og, kg⟩ := nwb (h := h) (n := (am_dflt 1).length) (Z := .inr (1, am_dflt 1))
    rw [hN] at og
    rw [dl_1] at zg
    obtain ⟨h1, e1, s1, n1, z1, k1⟩ := m_house0 (d := d) (h := g) (a := 45 + 4 * i) (b := 1) (by omega) (by omega) og
    obtain ⟨h2, q2, n2, z2, a2, k2⟩ := stb (h := h1) (a := 11) (x := ARp 3 2 (i + 1) (fun i => 45 + 4 * i))
    have A1 : am_at h1 11 = some (ARp 3 2 i (fun i => 45 + 4 * i)) := by rw [k1 _ (by omega) (by omega), kg _ (by omega)]; exact hA
    obtain ⟨h', e', n', z', c', R', k'⟩ := ih (i + 1) h2 (by omega) (by omega) (by rw [k2 _ (by omega), k1 _ (by omega) (by omega), kg _ (by omega)]; exact a0) a2 (fun k hk => by
      by_cases e : k = i
      · subst e; exact s1.keep (fun q _ _ => by rw [k2 _ (by omega)])
      · exact (hR k (by omega)).keep (fun q _ _ => by rw [k2 _ (by omega), k1 _ (by omega) (by omega), kg _ (by omega)]))
    refine ⟨h', ?_, n', by omega, c', R', fun k q1 q2 => by rw [k' _ (by omega) (by omega), k2 _ (by omega), k1 _ (by omega) (by omega), kg _ (by omega)]⟩
    obtain ⟨s, t, f1, f2, f3, o1, -⟩ := s1
    have hwt := wt_ARp (t := 3) (n := 2) (f := fun i => 45 + 4 * i) (show i < 2 ^ 31 by omega)
    rw [e_49_58]
    simp only [e_49_59, e_49_60, e_49_63, e_49_64, e_49_67, lg_n, lg_i, lg_r, wd_nil, am_wd_i, am_wd_r, am_wd_l, am_gk_s, am_fld_s, List.getElem?_cons_zero, List.getElem?_cons_succ, am_bk_v, am_bk_n, bo_0, bo_1, am_pk_s, List.length_cons, List.length_nil, Nat.zero_add, List.set_cons_zero, List.set_cons_succ, Nat.reduceAdd, Nat.reduceLeDiff, Nat.reduceLT, eL, nI_leI (show 2 < 2 ^ 31 by decide) (show i < 2 ^ 31 by omega), if_neg (show ¬ 2 ≤ i by omega), a0]
    rw [e_49_68 (h := h) (by omega), ← r, hN]
    simp only [e_49_71, e_49_72, e_49_73, e_49_76, e_49_77, e_49_80, lg_n, lg_i, lg_r, wd_nil, am_wd_i, am_wd_r, am_wd_l, am_gk_s, am_fld_s, List.getElem?_cons_zero, List.getElem?_cons_succ, am_bk_v, am_bk_n, bo_0, bo_1, am_pk_s, List.length_cons, List.length_nil, Nat.zero_add, List.set_cons_zero, List.set_cons_succ, Nat.reduceAdd, Nat.reduceLeDiff, Nat.reduceLT, e1, A1, wk_ARp o1 (show 1 = am_tc 3 from rfl) (show i < 2 by omega) (show 2 < 2 ^ 31 by decide), hwt, nI_1]
    rw [← q2]
    exact e'
theorem m_past0 {pa ke : Nat → Hn} (hN : h.1 = 10) (a0 : am_at h 9 = some (.inr (3, am_dflt 3))) : ∃ h', am_cal (d + 3) 49 [.ref 9, .ref 1] h = some (none, h') ∧ PS h' 0 0 pa (fun _ => false) ke ∧ NW h h' 9 43 312 := by
  rw [df_3] at a0
  have m1 : am_at (am_new h 8 (ARp 3 8 0 (fun i => 13 + 4 * i))) 9 = some (.inr (3, [.null, .null, .null, .int 0, .int 0])) := by rw [at_new_ne (by omega)]; exact a0
  obtain ⟨h1, q1, n1, z1, a1, c1, k1⟩ := blk (h := h) (a := 9) (n := 8) (Z := ARp 3 8 0 (fun i => 13 + 4 * i)) (x := .inr (3, [.ref h.1, .null, .null, .int 0, .int 0])) (by omega)
  have N1 : h1.1 = 11 := by omega
  rw [hN] at a1 c1
  have m2 : am_at (am_new h1 2 (ARp 3 2 0 (fun i => 45 + 4 * i))) 9 = some (.inr (3, [.ref (10), .null, .null, .int 0, .int 0])) := by rw [at_new_ne (by omega)]; exact a1
  obtain ⟨h2, q2, n2, z2, a2, c2, k2⟩ := blk (h := h1) (a := 9) (n := 2) (Z := ARp 3 2 0 (fun i => 45 + 4 * i)) (x := .inr (3, [.ref (10), .ref h1.1, .null, .int 0, .int 0])) (by omega)
  have N2 : h2.1 = 12 := by omega
  rw [N1] at a2 c2
  have m3 : am_at (am_new h2 2 (AZ 2 (fun _ => false))) 9 = some (.inr (3, [.ref (10), .ref (11), .null, .int 0, .int 0])) := by rw [at_new_ne (by omega)]; exact a2
  obtain ⟨h3, q3, n3, z3, a3, c3, k3⟩ := blk (h := h2) (a := 9) (n := 2) (Z := AZ 2 (fun _ => false)) (x := .inr (3, [.ref (10), .ref (11), .ref h2.1, .int 0, .int 0])) (by omega)
  have N3 : h3.1 = 13 := by omega
  rw [N2] at a3 c3
  obtain ⟨h4, e4, n4, z4, c4, R4, k4⟩ := l_past1 (d := d) 8 0 h3 (by omega) (by omega) a3 (by rw [k3 _ (by omega) (by omega), k2 _ (by omega) (by omega)]; exact c1) (fun k hk => absurd hk (Nat.not_lt_zero k))
  rw [nI_0] at e4
  obtain ⟨h5, e5, n5, z5, c5, R5, k5⟩ := l_past2 (d := d) 2 0 h4 (by omega) (by omega) (by rw [k4 _ (by omega) (by omega)]; exact a3) (by rw [k4 _ (by omega) (by omega), k3 _ (by omega) (by omega)]; exact c2) (fun k hk => absurd hk (Nat.not_lt_zero k))
  rw [nI_0] at e5
  refine ⟨h5, ?_, ⟨by rw [k5 _ (by omega) (by omega), k4 _ (by omega) (by omega), a3]; unfold pa0; simp only [nI_0], by rw [k5 _ (by omega) (by omega)]; exact c4, c5, by rw [k5 _ (by omega) (by omega), k4 _ (by omega) (by omega)]; exact c3, fun i hi => (R4 i hi).keep (fun k _ _ => k5 _ (by omega) (by omega)), R5, by omega, by omega, fun i hi => absurd hi (Nat.not_lt_zero i), fun k _ z => Bool.noConfusion z⟩, by omega, by omega, fun j hj1 hj2 => by rw [k5 _ (by omega) (by omega), k4 _ (by omega) (by omega), k3 _ (by omega) (by omega), k2 _ (by omega) (by omega), k1 _ (by omega) (by omega)]⟩
  · refine (b_49 _ _ _).trans ?_; show am_ev _ 49 0 [some (.ref 9), some (.ref 1), none] [] _ = _
    simp only [e_49_0, e_49_1, e_49_4, e_49_5, lg_n, lg_i, lg_r, wd_nil, am_wd_i, am_wd_r, am_wd_l, am_gk_s, am_fld_s, List.getElem?_cons_zero, List.getElem?_cons_succ, am_bk_v, am_bk_n, bo_0, bo_1, am_pk_s, List.length_cons, List.length_nil, Nat.zero_add, List.set_cons_zero, List.set_cons_succ, Nat.reduceAdd, Nat.reduceLeDiff, Nat.reduceLT]
    rw [w_49_7 (f := fun i => 13 + 4 * i) (h := h) (by omega)]
    simp only [e_49_10, e_49_13, e_49_14, lg_n, lg_i, lg_r, wd_nil, am_wd_i, am_wd_r, am_wd_l, am_gk_s, am_fld_s, List.getElem?_cons_zero, List.getElem?_cons_succ, am_bk_v, am_bk_n, bo_0, bo_1, am_pk_s, List.length_cons, List.length_nil, Nat.zero_add, List.set_cons_zero, List.set_cons_succ, Nat.reduceAdd, Nat.reduceLeDiff, Nat.reduceLT, m1]
    rw [← q1]
    rw [w_49_15 (f := fun i => 45 + 4 * i) (h := h1) (by omega)]
    simp only [e_49_18, e_49_21, e_49_22, lg_n, lg_i, lg_r, wd_nil, am_wd_i, am_wd_r, am_wd_l, am_gk_s, am_fld_s, List.getElem?_cons_zero, List.getElem?_cons_succ, am_bk_v, am_bk_n, bo_0, bo_1, am_pk_s, List.length_cons, List.length_nil, Nat.zero_add, List.set_cons_zero, List.set_cons_succ, Nat.reduceAdd, Nat.reduceLeDiff, Nat.reduceLT, m2]
    rw [← q2]
    rw [w_49_23 (h := h2) (by omega)]
    simp only [e_49_25, e_49_28, e_49_29, lg_n, lg_i, lg_r, wd_nil, am_wd_i, am_wd_r, am_wd_l, am_gk_s, am_fld_s, List.getElem?_cons_zero, List.getElem?_cons_succ, am_bk_v, am_bk_n, bo_0, bo_1, am_pk_s, List.length_cons, List.length_nil, Nat.zero_add, List.set_cons_zero, List.set_cons_succ, Nat.reduceAdd, Nat.reduceLeDiff, Nat.reduceLT, m3]
    rw [← q3]
    refine e4.trans ?_
    simp only [e_49_56, e_49_57, lg_n, lg_i, lg_r, wd_nil, am_wd_i, am_wd_r, am_wd_l, am_gk_s, am_fld_s, List.getElem?_cons_zero, List.getElem?_cons_succ, am_bk_v, am_bk_n, bo_0, bo_1, am_pk_s, List.length_cons, List.length_nil, Nat.zero_add, List.set_cons_zero, List.set_cons_succ, Nat.reduceAdd, Nat.reduceLeDiff, Nat.reduceLT]
    refine e5.trans ?_
    exact e_49_83
theorem l_notes0 : ∀ j i (h : am_H), i + j = 3 → h.1 = 81 + 2 * i → am_fld (am_at h 0) 7 6 = some (.ref 79) → am_at h 79 = some (ARp 4 3 i (fun i => 81 + 2 * i)) → (∀ k, k < i → NoteAt h (81 + 2 * k) 1 0 (fun _ => 0)) → ∃ h', am_ev (d + 3) 82 100 [some (.ref 0), some (.int (nI i))] [] h = am_ev (d + 3) 82 124 [some (.ref 0), some (.int (nI 3))] [] h' ∧ h'.1 = 87 ∧ h'.2.1 = h.2.1 + 15 * j ∧ am_at h' 79 = some (AR 4 3 (fun i => 81 + 2 * i)) ∧ (∀ k, k < 3 → NoteAt h' (81 + 2 * k) 1 0 (fun _ => 0)) ∧ ∀ k, k ≠ 79 → (k < 81 + 2 * i ∨ 87 ≤ k) → am_at h' k = am_at h k := by
  have eL : (3 : Int32) = nI 3 := by decide +kernel
  intro j
  induction j with
  | zero =>
    intro i h hi hN a0 hA hR
    have : i = 3 := by omega
    subst this
    refine ⟨h, ?_, hN, by omega, hA, hR, fun k _ _ => rfl⟩
    rw [e_82_100]
    simp only [e_82_101, e_82_102, lg_n, lg_i, lg_r, wd_nil, am_wd_i, am_wd_r, am_wd_l, am_gk_s, am_fld_s, List.getElem?_cons_zero, List.getElem?_cons_succ, am_bk_v, am_bk_n, bo_0, bo_1, am_pk_s, List.length_cons, List.length_nil, Nat.zero_add, List.set_cons_zero, List.set_cons_succ, Nat.reduceAdd, Nat.reduceLeDiff, Nat.reduceLT, eL, nI_leI (show 3 < 2 ^ 31 by decide) (show 3 < 2 ^ 31 by decide), Nat.le_refl, if_true]
  | succ j ih =>
    intro i h hi hN a0 hA hR
    obtain ⟨g, r, ng, zg, og, kg⟩ := nwb (h := h) (n := (am_dflt 2).length) (Z := .inr (2, am_dflt 2))
    rw [hN] at og
    rw [dl_2] at zg
    obtain ⟨h1, e1, s1, n1, z1, k1⟩ := m_note0 (d := d + 1) (h := g) (a := 81 + 2 * i) (by omega) (by omega) og
    obtain ⟨h2, q2, n2, z2, a2, k2⟩ := stb (h := h1) (a := 79) (x := ARp 4 3 (i + 1) (fun i => 81 + 2 * i))
    have A1 : am_at h1 79 = some (ARp 4 3 i (fun i => 81 + 2 * i)) := by rw [k1 _ (by omega) (by omega), kg _ (by omega)]; exact hA
    obtain ⟨h', e', n', z', c', R', k'⟩ := ih (i + 1) h2 (by omega) (by omega) (by rw [k2 _ (by omega), k1 _ (by omega) (by omega), kg _ (by omega)]; exact a0) a2 (fun k hk => by
      by_cases e : k = i
      · subst e; exact s1.keep (fun q _ _ => by rw [k2 _ (by omega)])
      · exact (hR k (by omega)).keep (fun q _ _ => by rw [k2 _ (by omega), k1 _ (by omega) (by omega), kg _ (by omega)]))
    refine ⟨h', ?_, n', by omega, c', R', fun k q1 q2 => by rw [k' _ (by omega) (by omega), k2 _ (by omega), k1 _ (by omega) (by omega), kg _ (by omega)]⟩
    have o1 := s1.1
    unfold note0 at o1
    have hwt := wt_ARp (t := 4) (n := 3) (f := fun i => 81 + 2 * i) (show i < 2 ^ 31 by omega)
    rw [e_82_100]
    simp only [e_82_101, e_82_102, e_82_105, e_82_106, e_82_109, lg_n, lg_i, lg_r, wd_nil, am_wd_i, am_wd_r, am_wd_l, am_gk_s, am_fld_s, List.getElem?_cons_zero, List.getElem?_cons_succ, am_bk_v, am_bk_n, bo_0, bo_1, am_pk_s, List.length_cons, List.length_nil, Nat.zero_add, List.set_cons_zero, List.set_cons_succ, Nat.reduceAdd, Nat.reduceLeDiff, Nat.reduceLT, eL, nI_leI (show 3 < 2 ^ 31 by decide) (show i < 2 ^ 31 by omega), if_neg (show ¬ 3 ≤ i by omega), a0]
    rw [e_82_110 (h := h) (by omega), ← r, hN]
    simp only [e_82_113, e_82_114, e_82_117, e_82_118, e_82_121, lg_n, lg_i, lg_r, wd_nil, am_wd_i, am_wd_r, am_wd_l, am_gk_s, am_fld_s, List.getElem?_cons_zero, List.getElem?_cons_succ, am_bk_v, am_bk_n, bo_0, bo_1, am_pk_s, List.length_cons, List.length_nil, Nat.zero_add, List.set_cons_zero, List.set_cons_succ, Nat.reduceAdd, Nat.reduceLeDiff, Nat.reduceLT, e1, A1, wk_ARp o1 (show 2 = am_tc 4 from rfl) (show i < 3 by omega) (show 3 < 2 ^ 31 by decide), hwt, nI_1]
    rw [← q2]
    exact e'
theorem OKD0 : OKD pn0 := ⟨⟨by decide, by decide, by decide, by decide, fun p _ => (by decide : 0 < 5), fun p hp => absurd hp (Nat.not_lt_zero p)⟩, by decide, by decide, by decide, by decide, by decide⟩
theorem m_ride0 (hN : h.1 = 1) (hs : Stt h) (a0 : am_at h 0 = some (.inr (7, am_dflt 7))) : ∃ h', am_cal (d + 4) 82 [.ref 0] h = some (none, h') ∧ CI h' pn0 hn0 0 (fun _ => hn0) (fun _ => false) (fun _ => hn0) (fun _ => 0) 0 0 (fun _ => 0) (fun _ => 0) (fun _ => 0) (fun _ => 0) (fun _ _ => 0) ∧ NW h h' 0 86 815 := by
  rw [df_7] at a0
  obtain ⟨g1, r1, ng1, zg1, og1, kg1⟩ := nwb (h := h) (n := (am_dflt 4).length) (Z := .inr (4, am_dflt 4))
  rw [hN] at og1
  have Ng1 : g1.1 = 2 := by omega
  have b1 : am_at g1 0 = some (.inr (7, [.null, .null, .null, .null, .null, .null, .null, .null])) := by rw [kg1 _ (by omega)]; exact a0
  rw [dl_4] at zg1
  obtain ⟨h1, e1, s1, n1, z1, k1⟩ := m_plan0 (d := d + 1) (h := g1) (a := 1) (by omega) (by omega) (hs.keep (fun k hk => by rw [kg1 _ (by omega)])) og1
  have N1 : h1.1 = 5 := by omega
  have a1 : am_at h1 0 = some (.inr (7, [.null, .null, .null, .null, .null, .null, .null, .null])) := by rw [k1 _ (by omega) (by omega)]; exact b1
  obtain ⟨h2, q2, n2, z2, a2, k2⟩ := stb (h := h1) (a := 0) (x := .inr (7, [.ref 1, .null, .null, .null, .null, .null, .null, .null]))
  have N2 : h2.1 = 5 := by omega
  obtain ⟨g3, r3, ng3, zg3, og3, kg3⟩ := nwb (h := h2) (n := (am_dflt 1).length) (Z := .inr (1, am_dflt 1))
  rw [N2] at og3
  have Ng3 : g3.1 = 6 := by omega
  have b3 : am_at g3 0 = some (.inr (7, [.ref 1, .null, .null, .null, .null, .null, .null, .null])) := by rw [kg3 _ (by omega)]; exact a2
  rw [dl_1] at zg3
  obtain ⟨h3, e3, s3, n3, z3, k3⟩ := m_house0 (d := d + 1) (h := g3) (a := 5) (b := 1) (by omega) (by omega) og3
  have N3 : h3.1 = 9 := by omega
  have a3 : am_at h3 0 = some (.inr (7, [.ref 1, .null, .null, .null, .null, .null, .null, .null])) := by rw [k3 _ (by omega) (by omega)]; exact b3
  obtain ⟨h4, q4, n4, z4, a4, k4⟩ := stb (h := h3) (a := 0) (x := .inr (7, [.ref 1, .ref 5, .null, .null, .null, .null, .null, .null]))
  have N4 : h4.1 = 9 := by omega
  obtain ⟨g5, r5, ng5, zg5, og5, kg5⟩ := nwb (h := h4) (n := (am_dflt 3).length) (Z := .inr (3, am_dflt 3))
  rw [N4] at og5
  have Ng5 : g5.1 = 10 := by omega
  have b5 : am_at g5 0 = some (.inr (7, [.ref 1, .ref 5, .null, .null, .null, .null, .null, .null])) := by rw [kg5 _ (by omega)]; exact a4
  rw [dl_3] at zg5
  obtain ⟨h5, e5, s5, n5, z5, k5⟩ := m_past0 (d := d) (h := g5) (pa := fun _ => hn0) (ke := fun _ => hn0) (by omega) og5
  have N5 : h5.1 = 53 := by omega
  have a5 : am_at h5 0 = some (.inr (7, [.ref 1, .ref 5, .null, .null, .null, .null, .null, .null])) := by rw [k5 _ (by omega) (by omega)]; exact b5
  obtain ⟨h6, q6, n6, z6, a6, k6⟩ := stb (h := h5) (a := 0) (x := .inr (7, [.ref 1, .ref 5, .ref 9, .null, .null, .null, .null, .null]))
  have N6 : h6.1 = 53 := by omega
  obtain ⟨g7, r7, ng7, zg7, og7, kg7⟩ := nwb (h := h6) (n := (am_dflt 5).length) (Z := .inr (5, am_dflt 5))
  rw [N6] at og7
  have Ng7 : g7.1 = 54 := by omega
  have b7 : am_at g7 0 = some (.inr (7, [.ref 1, .ref 5, .ref 9, .null, .null, .null, .null, .null])) := by rw [kg7 _ (by omega)]; exact a6
  rw [dl_5] at zg7
  obtain ⟨h7, e7, s7, n7, z7, k7⟩ := m_read0 (d := d) (h := g7) (a := 53) (by omega) (by omega) (hs.keep (fun k hk => by rw [kg7 _ (by omega), k6 _ (by omega), k5 _ (by omega) (by omega), kg5 _ (by omega), k4 _ (by omega), k3 _ (by omega) (by omega), kg3 _ (by omega), k2 _ (by omega), k1 _ (by omega) (by omega), kg1 _ (by omega)])) og7
  have N7 : h7.1 = 59 := by omega
  have a7 : am_at h7 0 = some (.inr (7, [.ref 1, .ref 5, .ref 9, .null, .null, .null, .null, .null])) := by rw [k7 _ (by omega) (by omega)]; exact b7
  obtain ⟨h8, q8, n8, z8, a8, k8⟩ := stb (h := h7) (a := 0) (x := .inr (7, [.ref 1, .ref 5, .ref 9, .ref 53, .null, .null, .null, .null]))
  have N8 : h8.1 = 59 := by omega
  obtain ⟨g9, r9, ng9, zg9, og9, kg9⟩ := nwb (h := h8) (n := (am_dflt 0).length) (Z := .inr (0, am_dflt 0))
  rw [N8] at og9
  have Ng9 : g9.1 = 60 := by omega
  have b9 : am_at g9 0 = some (.inr (7, [.ref 1, .ref 5, .ref 9, .ref 53, .null, .null, .null, .null])) := by rw [kg9 _ (by omega)]; exact a8
  rw [dl_0] at zg9
  have fn : am_fld (am_at g9 5) 1 0 = some (.ref 1) := by
    obtain ⟨_, _, _, _, _, o1, -⟩ := s3
    rw [kg9 _ (by omega), k8 _ (by omega), k7 _ (by omega) (by omega), kg7 _ (by omega), k6 _ (by omega), k5 _ (by omega) (by omega), kg5 _ (by omega), k4 _ (by omega), o1]
    rfl
  obtain ⟨h9, e9, s9, n9, z9, k9⟩ := m_fore0 (d := d) (h := g9) (a := 59) (n := 5) (b := 1) (by omega) (by omega) (by omega) fn og9
  have N9 : h9.1 = 66 := by omega
  have a9 : am_at h9 0 = some (.inr (7, [.ref 1, .ref 5, .ref 9, .ref 53, .null, .null, .null, .null])) := by rw [k9 _ (by omega) (by omega)]; exact b9
  obtain ⟨h10, q10, n10, z10, a10, k10⟩ := stb (h := h9) (a := 0) (x := .inr (7, [.ref 1, .ref 5, .ref 9, .ref 53, .ref 59, .null, .null, .null]))
  have N10 : h10.1 = 66 := by omega
  obtain ⟨g11, r11, ng11, zg11, og11, kg11⟩ := nwb (h := h10) (n := (am_dflt 6).length) (Z := .inr (6, am_dflt 6))
  rw [N10] at og11
  have Ng11 : g11.1 = 67 := by omega
  have b11 : am_at g11 0 = some (.inr (7, [.ref 1, .ref 5, .ref 9, .ref 53, .ref 59, .null, .null, .null])) := by rw [kg11 _ (by omega)]; exact a10
  rw [dl_6] at zg11
  obtain ⟨h11, e11, s11, n11, z11, k11⟩ := m_sigh0 (d := d) (h := g11) (a := 66) (by omega) (by omega) (hs.keep (fun k hk => by rw [kg11 _ (by omega), k10 _ (by omega), k9 _ (by omega) (by omega), kg9 _ (by omega), k8 _ (by omega), k7 _ (by omega) (by omega), kg7 _ (by omega), k6 _ (by omega), k5 _ (by omega) (by omega), kg5 _ (by omega), k4 _ (by omega), k3 _ (by omega) (by omega), kg3 _ (by omega), k2 _ (by omega), k1 _ (by omega) (by omega), kg1 _ (by omega)])) og11
  have N11 : h11.1 = 79 := by omega
  have a11 : am_at h11 0 = some (.inr (7, [.ref 1, .ref 5, .ref 9, .ref 53, .ref 59, .null, .null, .null])) := by rw [k11 _ (by omega) (by omega)]; exact b11
  obtain ⟨h12, q12, n12, z12, a12, k12⟩ := stb (h := h11) (a := 0) (x := .inr (7, [.ref 1, .ref 5, .ref 9, .ref 53, .ref 59, .ref 66, .null, .null]))
  have N12 : h12.1 = 79 := by omega
  have m13 : am_at (am_new h12 3 (ARp 4 3 0 (fun i => 81 + 2 * i))) 0 = some (.inr (7, [.ref 1, .ref 5, .ref 9, .ref 53, .ref 59, .ref 66, .null, .null])) := by rw [at_new_ne (by omega)]; exact a12
  obtain ⟨h13, q13, n13, z13, a13, c13, k13⟩ := blk (h := h12) (a := 0) (n := 3) (Z := ARp 4 3 0 (fun i => 81 + 2 * i)) (x := .inr (7, [.ref 1, .ref 5, .ref 9, .ref 53, .ref 59, .ref 66, .ref h12.1, .null])) (by omega)
  have N13 : h13.1 = 80 := by omega
  rw [N12] at a13 c13
  have m14 : am_at (am_new h13 12 (Z8 12)) 0 = some (.inr (7, [.ref 1, .ref 5, .ref 9, .ref 53, .ref 59, .ref 66, .ref (79), .null])) := by rw [at_new_ne (by omega)]; exact a13
  obtain ⟨h14, q14, n14, z14, a14, c14, k14⟩ := blk (h := h13) (a := 0) (n := 12) (Z := Z8 12) (x := .inr (7, [.ref 1, .ref 5, .ref 9, .ref 53, .ref 59, .ref 66, .ref (79), .ref h13.1])) (by omega)
  have N14 : h14.1 = 81 := by omega
  rw [N13] at a14 c14
  obtain ⟨hy, ey, ny, zy, cy, Ry, ky⟩ := l_notes0 (d := d) 3 0 h14 (by omega) (by omega) (by rw [a14]; rfl) (by rw [k14 _ (by omega) (by omega)]; exact c13) (fun k hk => absurd hk (Nat.not_lt_zero k))
  rw [nI_0] at ey
  have ay : am_at hy 0 = some (.inr (7, [.ref 1, .ref 5, .ref 9, .ref 53, .ref 59, .ref 66, .ref (79), .ref (80)])) := by rw [ky _ (by omega) (by omega)]; exact a14
  have Py := s1.keep (fun k _ _ => by rw [ky _ (by omega) (by omega), k14 _ (by omega) (by omega), k13 _ (by omega) (by omega), k12 _ (by omega), k11 _ (by omega) (by omega), kg11 _ (by omega), k10 _ (by omega), k9 _ (by omega) (by omega), kg9 _ (by omega), k8 _ (by omega), k7 _ (by omega) (by omega), kg7 _ (by omega), k6 _ (by omega), k5 _ (by omega) (by omega), kg5 _ (by omega), k4 _ (by omega), k3 _ (by omega) (by omega), kg3 _ (by omega), k2 _ (by omega)])
  have Hy := s3.keep (fun k _ _ => by rw [ky _ (by omega) (by omega), k14 _ (by omega) (by omega), k13 _ (by omega) (by omega), k12 _ (by omega), k11 _ (by omega) (by omega), kg11 _ (by omega), k10 _ (by omega), k9 _ (by omega) (by omega), kg9 _ (by omega), k8 _ (by omega), k7 _ (by omega) (by omega), kg7 _ (by omega), k6 _ (by omega), k5 _ (by omega) (by omega), kg5 _ (by omega), k4 _ (by omega)])
  have By := m_beginR (d := d + 1) Py Hy (by omega)
  obtain ⟨hz, qz, nz, zz, Hz, kz⟩ : ∃ h', h' = pH hy 5 1 hn0 ∧ h'.1 = hy.1 ∧ h'.2.1 = hy.2.1 ∧ HouseAt h' 5 1 hn0 ∧ ∀ k, (k < 5 ∨ 8 < k) → am_at h' k = am_at hy k := ⟨_, rfl, rfl, rfl, HouseAt_pH _ _ _ _, fun k hk => at_pH_ne hk⟩
  change am_cal (d + 1 + 2) 15 [.ref 5] hy = some (none, pH hy 5 1 hn0) at By
  have Iy : am_is (am_at hy 5) 1 = true := by
    obtain ⟨_, _, _, _, _, o1, -⟩ := Hy
    rw [o1]
    rfl
  rw [← qz] at By
  obtain ⟨w1, w2, w3, w4⟩ := s9
  refine ⟨hz, ?_, ⟨hs.keep (fun k hk => by rw [kz _ (by omega), ky _ (by omega) (by omega), k14 _ (by omega) (by omega), k13 _ (by omega) (by omega), k12 _ (by omega), k11 _ (by omega) (by omega), kg11 _ (by omega), k10 _ (by omega), k9 _ (by omega) (by omega), kg9 _ (by omega), k8 _ (by omega), k7 _ (by omega) (by omega), kg7 _ (by omega), k6 _ (by omega), k5 _ (by omega) (by omega), kg5 _ (by omega), k4 _ (by omega), k3 _ (by omega) (by omega), kg3 _ (by omega), k2 _ (by omega), k1 _ (by omega) (by omega), kg1 _ (by omega)]), by rw [kz _ (by omega), ay]; rfl, Py.keep (fun k _ _ => by rw [kz _ (by omega)]), Hz, ⟨0, s5.keep (fun k _ _ => by rw [kz _ (by omega), ky _ (by omega) (by omega), k14 _ (by omega) (by omega), k13 _ (by omega) (by omega), k12 _ (by omega), k11 _ (by omega) (by omega), kg11 _ (by omega), k10 _ (by omega), k9 _ (by omega) (by omega), kg9 _ (by omega), k8 _ (by omega), k7 _ (by omega) (by omega), kg7 _ (by omega), k6 _ (by omega)])⟩, ⟨0, 0, 0, _, s7.keep (fun k _ => by rw [kz _ (by omega), ky _ (by omega) (by omega), k14 _ (by omega) (by omega), k13 _ (by omega) (by omega), k12 _ (by omega), k11 _ (by omega) (by omega), kg11 _ (by omega), k10 _ (by omega), k9 _ (by omega) (by omega), kg9 _ (by omega), k8 _ (by omega)]), OKD0⟩, ⟨(0, 0, 0, (fun _ => 0), (fun _ => 0)), by rw [kz _ (by omega), ky _ (by omega) (by omega), k14 _ (by omega) (by omega), k13 _ (by omega) (by omega), k12 _ (by omega), k11 _ (by omega) (by omega), kg11 _ (by omega), k10 _ (by omega)]; exact w1, by rw [kz _ (by omega), ky _ (by omega) (by omega), k14 _ (by omega) (by omega), k13 _ (by omega) (by omega), k12 _ (by omega), k11 _ (by omega) (by omega), kg11 _ (by omega), k10 _ (by omega)]; exact w2, by rw [kz _ (by omega), ky _ (by omega) (by omega), k14 _ (by omega) (by omega), k13 _ (by omega) (by omega), k12 _ (by omega), k11 _ (by omega) (by omega), kg11 _ (by omega), k10 _ (by omega)]; exact w3, w4.keep (fun k _ _ => by rw [kz _ (by omega), ky _ (by omega) (by omega), k14 _ (by omega) (by omega), k13 _ (by omega) (by omega), k12 _ (by omega), k11 _ (by omega) (by omega), kg11 _ (by omega), k10 _ (by omega)]), fun i _ => (by decide : 0 < 8), Or.inl rfl⟩, ⟨fun _ => nI 0, s11.keep (fun k _ => by rw [kz _ (by omega), ky _ (by omega) (by omega), k14 _ (by omega) (by omega), k13 _ (by omega) (by omega), k12 _ (by omega)])⟩, by rw [kz _ (by omega)]; exact cy, ⟨fun _ => 0, by rw [kz _ (by omega), ky _ (by omega) (by omega)]; exact c14⟩, fun i hi => ⟨0, fun _ => 0, (Ry i hi).keep (fun k _ _ => by rw [kz _ (by omega)]), fun z => absurd rfl z⟩⟩, by omega, by omega, fun j hj1 hj2 => by rw [kz _ (by omega), ky _ (by omega) (by omega), k14 _ (by omega) (by omega), k13 _ (by omega) (by omega), k12 _ (by omega), k11 _ (by omega) (by omega), kg11 _ (by omega), k10 _ (by omega), k9 _ (by omega) (by omega), kg9 _ (by omega), k8 _ (by omega), k7 _ (by omega) (by omega), kg7 _ (by omega), k6 _ (by omega), k5 _ (by omega) (by omega), kg5 _ (by omega), k4 _ (by omega), k3 _ (by omega) (by omega), kg3 _ (by omega), k2 _ (by omega), k1 _ (by omega) (by omega), kg1 _ (by omega)]⟩
  · refine (b_82 _ _ _).trans ?_; show am_ev _ 82 0 [some (.ref 0), none] [] _ = _
    simp only [e_82_0, e_82_1, e_82_4, lg_n, lg_i, lg_r, wd_nil, am_wd_i, am_wd_r, am_wd_l, am_gk_s, am_fld_s, List.getElem?_cons_zero, List.getElem?_cons_succ, am_bk_v, am_bk_n, bo_0, bo_1, am_pk_s, List.length_cons, List.length_nil, Nat.zero_add, List.set_cons_zero, List.set_cons_succ, Nat.reduceAdd, Nat.reduceLeDiff, Nat.reduceLT]
    rw [e_82_5 (h := h) (by omega), ← r1, hN]
    simp only [e_82_8, e_82_9, e_82_12, lg_n, lg_i, lg_r, wd_nil, am_wd_i, am_wd_r, am_wd_l, am_gk_s, am_fld_s, List.getElem?_cons_zero, List.getElem?_cons_succ, am_bk_v, am_bk_n, bo_0, bo_1, am_pk_s, List.length_cons, List.length_nil, Nat.zero_add, List.set_cons_zero, List.set_cons_succ, Nat.reduceAdd, Nat.reduceLeDiff, Nat.reduceLT, b1, e1, a1]
    rw [← q2]
    simp only [e_82_15, lg_n, lg_i, lg_r, wd_nil, am_wd_i, am_wd_r, am_wd_l, am_gk_s, am_fld_s, List.getElem?_cons_zero, List.getElem?_cons_succ, am_bk_v, am_bk_n, bo_0, bo_1, am_pk_s, List.length_cons, List.length_nil, Nat.zero_add, List.set_cons_zero, List.set_cons_succ, Nat.reduceAdd, Nat.reduceLeDiff, Nat.reduceLT]
    rw [e_82_16 (h := h2) (by omega), ← r3, N2]
    simp only [e_82_19, e_82_20, e_82_21, e_82_24, e_82_27, lg_n, lg_i, lg_r, wd_nil, am_wd_i, am_wd_r, am_wd_l, am_gk_s, am_fld_s, List.getElem?_cons_zero, List.getElem?_cons_succ, am_bk_v, am_bk_n, bo_0, bo_1, am_pk_s, List.length_cons, List.length_nil, Nat.zero_add, List.set_cons_zero, List.set_cons_succ, Nat.reduceAdd, Nat.reduceLeDiff, Nat.reduceLT, b3, e3, a3]
    rw [← q4]
    simp only [e_82_30, lg_n, lg_i, lg_r, wd_nil, am_wd_i, am_wd_r, am_wd_l, am_gk_s, am_fld_s, List.getElem?_cons_zero, List.getElem?_cons_succ, am_bk_v, am_bk_n, bo_0, bo_1, am_pk_s, List.length_cons, List.length_nil, Nat.zero_add, List.set_cons_zero, List.set_cons_succ, Nat.reduceAdd, Nat.reduceLeDiff, Nat.reduceLT]
    rw [e_82_31 (h := h4) (by omega), ← r5, N4]
    simp only [e_82_34, e_82_35, e_82_36, e_82_39, e_82_42, lg_n, lg_i, lg_r, wd_nil, am_wd_i, am_wd_r, am_wd_l, am_gk_s, am_fld_s, List.getElem?_cons_zero, List.getElem?_cons_succ, am_bk_v, am_bk_n, bo_0, bo_1, am_pk_s, List.length_cons, List.length_nil, Nat.zero_add, List.set_cons_zero, List.set_cons_succ, Nat.reduceAdd, Nat.reduceLeDiff, Nat.reduceLT, b5, e5, a5]
    rw [← q6]
    simp only [e_82_45, lg_n, lg_i, lg_r, wd_nil, am_wd_i, am_wd_r, am_wd_l, am_gk_s, am_fld_s, List.getElem?_cons_zero, List.getElem?_cons_succ, am_bk_v, am_bk_n, bo_0, bo_1, am_pk_s, List.length_cons, List.length_nil, Nat.zero_add, List.set_cons_zero, List.set_cons_succ, Nat.reduceAdd, Nat.reduceLeDiff, Nat.reduceLT]
    rw [e_82_46 (h := h6) (by omega), ← r7, N6]
    simp only [e_82_49, e_82_50, e_82_53, lg_n, lg_i, lg_r, wd_nil, am_wd_i, am_wd_r, am_wd_l, am_gk_s, am_fld_s, List.getElem?_cons_zero, List.getElem?_cons_succ, am_bk_v, am_bk_n, bo_0, bo_1, am_pk_s, List.length_cons, List.length_nil, Nat.zero_add, List.set_cons_zero, List.set_cons_succ, Nat.reduceAdd, Nat.reduceLeDiff, Nat.reduceLT, b7, e7, a7]
    rw [← q8]
    simp only [e_82_56, lg_n, lg_i, lg_r, wd_nil, am_wd_i, am_wd_r, am_wd_l, am_gk_s, am_fld_s, List.getElem?_cons_zero, List.getElem?_cons_succ, am_bk_v, am_bk_n, bo_0, bo_1, am_pk_s, List.length_cons, List.length_nil, Nat.zero_add, List.set_cons_zero, List.set_cons_succ, Nat.reduceAdd, Nat.reduceLeDiff, Nat.reduceLT]
    rw [e_82_57 (h := h8) (by omega), ← r9, N8]
    simp only [e_82_60, e_82_61, e_82_62, e_82_65, e_82_68, lg_n, lg_i, lg_r, wd_nil, am_wd_i, am_wd_r, am_wd_l, am_gk_s, am_fld_s, List.getElem?_cons_zero, List.getElem?_cons_succ, am_bk_v, am_bk_n, bo_0, bo_1, am_pk_s, List.length_cons, List.length_nil, Nat.zero_add, List.set_cons_zero, List.set_cons_succ, Nat.reduceAdd, Nat.reduceLeDiff, Nat.reduceLT, b9, e9, a9]
    rw [← q10]
    simp only [e_82_71, lg_n, lg_i, lg_r, wd_nil, am_wd_i, am_wd_r, am_wd_l, am_gk_s, am_fld_s, List.getElem?_cons_zero, List.getElem?_cons_succ, am_bk_v, am_bk_n, bo_0, bo_1, am_pk_s, List.length_cons, List.length_nil, Nat.zero_add, List.set_cons_zero, List.set_cons_succ, Nat.reduceAdd, Nat.reduceLeDiff, Nat.reduceLT]
    rw [e_82_72 (h := h10) (by omega), ← r11, N10]
    simp only [e_82_75, e_82_76, e_82_79, lg_n, lg_i, lg_r, wd_nil, am_wd_i, am_wd_r, am_wd_l, am_gk_s, am_fld_s, List.getElem?_cons_zero, List.getElem?_cons_succ, am_bk_v, am_bk_n, bo_0, bo_1, am_pk_s, List.length_cons, List.length_nil, Nat.zero_add, List.set_cons_zero, List.set_cons_succ, Nat.reduceAdd, Nat.reduceLeDiff, Nat.reduceLT, b11, e11, a11]
    rw [← q12]
    simp only [e_82_82, e_82_83, lg_n, lg_i, lg_r, wd_nil, am_wd_i, am_wd_r, am_wd_l, am_gk_s, am_fld_s, List.getElem?_cons_zero, List.getElem?_cons_succ, am_bk_v, am_bk_n, bo_0, bo_1, am_pk_s, List.length_cons, List.length_nil, Nat.zero_add, List.set_cons_zero, List.set_cons_succ, Nat.reduceAdd, Nat.reduceLeDiff, Nat.reduceLT]
    rw [w_82_84 (f := fun i => 81 + 2 * i) (h := h12) (by omega)]
    simp only [e_82_87, e_82_90, e_82_91, lg_n, lg_i, lg_r, wd_nil, am_wd_i, am_wd_r, am_wd_l, am_gk_s, am_fld_s, List.getElem?_cons_zero, List.getElem?_cons_succ, am_bk_v, am_bk_n, bo_0, bo_1, am_pk_s, List.length_cons, List.length_nil, Nat.zero_add, List.set_cons_zero, List.set_cons_succ, Nat.reduceAdd, Nat.reduceLeDiff, Nat.reduceLT, m13]
    rw [← q13]
    rw [w_82_93 (h := h13) (by omega)]
    simp only [e_82_95, e_82_98, e_82_99, lg_n, lg_i, lg_r, wd_nil, am_wd_i, am_wd_r, am_wd_l, am_gk_s, am_fld_s, List.getElem?_cons_zero, List.getElem?_cons_succ, am_bk_v, am_bk_n, bo_0, bo_1, am_pk_s, List.length_cons, List.length_nil, Nat.zero_add, List.set_cons_zero, List.set_cons_succ, Nat.reduceAdd, Nat.reduceLeDiff, Nat.reduceLT, m14]
    rw [← q14]
    refine ey.trans ?_
    simp only [e_82_124, e_82_125, e_82_128, lg_n, lg_i, lg_r, wd_nil, am_wd_i, am_wd_r, am_wd_l, am_gk_s, am_fld_s, List.getElem?_cons_zero, List.getElem?_cons_succ, am_bk_v, am_bk_n, bo_0, bo_1, am_pk_s, List.length_cons, List.length_nil, Nat.zero_add, List.set_cons_zero, List.set_cons_succ, Nat.reduceAdd, Nat.reduceLeDiff, Nat.reduceLT, ay, Iy, By]
    exact e_82_131
end CT
