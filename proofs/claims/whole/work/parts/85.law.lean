/-! the law -/
theorem lw_cmp {L i : Nat} (hL : L ≤ 3072) (hi : i ≤ 3100) : (nI L - 6 < nI i) ↔ L < i + 6 := by
  by_cases c : 6 ≤ L
  · rw [show (6 : Int32) = nI 6 by decide +kernel, pk_sub c, nI_ltI (by omega) (by omega)]
    omega
  · refine ⟨fun _ => by omega, fun _ => ?_⟩
    have hp := nI_toInt (show i < 2 ^ 31 by omega)
    rw [Int32.lt_iff_toInt_lt, hp]
    rcases (show L = 0 ∨ L = 1 ∨ L = 2 ∨ L = 3 ∨ L = 4 ∨ L = 5 by omega) with rfl | rfl | rfl | rfl | rfl | rfl
    · have : (nI 0 - 6).toInt = -6 := by decide +kernel
      omega
    · have : (nI 1 - 6).toInt = -5 := by decide +kernel
      omega
    · have : (nI 2 - 6).toInt = -4 := by decide +kernel
      omega
    · have : (nI 3 - 6).toInt = -3 := by decide +kernel
      omega
    · have : (nI 4 - 6).toInt = -2 := by decide +kernel
      omega
    · have : (nI 5 - 6).toInt = -1 := by decide +kernel
      omega
section LW
variable {d : Nat} {h : am_H} {L : Nat} {xs : Nat → Int32}
theorem lw_loop (hL : L ≤ 3072) : ∀ j i (h : am_H), L < i + 6 * j + 6 → i ≤ 3090 → JI h → am_at h 1000000 = some (.inl (10, L, .inl xs)) → ∃ h', am_ev (d + 8) 223 18 [some (.ref 1000000), some (.ref 0), some (.ref 87), some (.int (nI i))] [] h = some (some (.int 1), h') ∧ FA h h' := by
  have e6 : ∀ i : Nat, nI i + 6 = nI (i + 6) := fun i => by rw [show (6 : Int32) = nI 6 by decide +kernel, nI_add]
  intro j
  induction j with
  | zero =>
    intro i h hj hi hJ hS
    refine ⟨h, ?_, FA.rf⟩
    rw [e_223_18]
    simp only [e_223_19, lg_n, lg_i, lg_r, wd_nil, am_wd_i, am_wd_r, am_wd_l, am_gk_s, am_fld_s, List.getElem?_cons_zero, List.getElem?_cons_succ, am_bk_v, am_bk_n, bo_0, bo_1, am_pk_s, List.length_cons, List.length_nil, Nat.zero_add, List.set_cons_zero, List.set_cons_succ, Nat.reduceAdd, Nat.reduceLeDiff, Nat.reduceLT]
    rw [e_223_20 hS]
    simp only [e_223_21, e_223_23, e_223_24, e_223_1182, e_223_1183, lg_n, lg_i, lg_r, wd_nil, am_wd_i, am_wd_r, am_wd_l, am_gk_s, am_fld_s, List.getElem?_cons_zero, List.getElem?_cons_succ, am_bk_v, am_bk_n, bo_0, bo_1, am_pk_s, List.length_cons, List.length_nil, Nat.zero_add, List.set_cons_zero, List.set_cons_succ, Nat.reduceAdd, Nat.reduceLeDiff, Nat.reduceLT, lw_cmp hL (show i ≤ 3100 by omega), if_pos (show L < i + 6 by omega)]
  | succ j ih =>
    intro i h hj hi hJ hS
    by_cases c : L < i + 6
    · refine ⟨h, ?_, FA.rf⟩
      rw [e_223_18]
      simp only [e_223_19, lg_n, lg_i, lg_r, wd_nil, am_wd_i, am_wd_r, am_wd_l, am_gk_s, am_fld_s, List.getElem?_cons_zero, List.getElem?_cons_succ, am_bk_v, am_bk_n, bo_0, bo_1, am_pk_s, List.length_cons, List.length_nil, Nat.zero_add, List.set_cons_zero, List.set_cons_succ, Nat.reduceAdd, Nat.reduceLeDiff, Nat.reduceLT]
      rw [e_223_20 hS]
      simp only [e_223_21, e_223_23, e_223_24, e_223_1182, e_223_1183, lg_n, lg_i, lg_r, wd_nil, am_wd_i, am_wd_r, am_wd_l, am_gk_s, am_fld_s, List.getElem?_cons_zero, List.getElem?_cons_succ, am_bk_v, am_bk_n, bo_0, bo_1, am_pk_s, List.length_cons, List.length_nil, Nat.zero_add, List.set_cons_zero, List.set_cons_succ, Nat.reduceAdd, Nat.reduceLeDiff, Nat.reduceLT, lw_cmp hL (show i ≤ 3100 by omega), if_pos c]
    · obtain ⟨h1, e1, J1, F1⟩ := lw_any (d := d) (x := xs i &&& 63) hJ hS (show i + 6 ≤ L by omega) hL
      obtain ⟨h', e', F'⟩ := ih (i + 6) h1 (by omega) (by omega) J1 (by rw [F1.2.2 _ (by decide)]; exact hS)
      refine ⟨h', ?_, F1.tr F'⟩
      rw [e_223_18]
      simp only [e_223_19, lg_n, lg_i, lg_r, wd_nil, am_wd_i, am_wd_r, am_wd_l, am_gk_s, am_fld_s, List.getElem?_cons_zero, List.getElem?_cons_succ, am_bk_v, am_bk_n, bo_0, bo_1, am_pk_s, List.length_cons, List.length_nil, Nat.zero_add, List.set_cons_zero, List.set_cons_succ, Nat.reduceAdd, Nat.reduceLeDiff, Nat.reduceLT]
      rw [e_223_20 hS]
      simp only [e_223_21, e_223_23, e_223_24, e_223_27, e_223_28, e_223_29, e_223_30, e_223_32, lg_n, lg_i, lg_r, wd_nil, am_wd_i, am_wd_r, am_wd_l, am_gk_s, am_fld_s, List.getElem?_cons_zero, List.getElem?_cons_succ, am_bk_v, am_bk_n, bo_0, bo_1, am_pk_s, List.length_cons, List.length_nil, Nat.zero_add, List.set_cons_zero, List.set_cons_succ, Nat.reduceAdd, Nat.reduceLeDiff, Nat.reduceLT, lw_cmp hL (show i ≤ 3100 by omega), if_neg c, hS, ak_sc (show i < L by omega) (show L < 2 ^ 31 by omega)]
      refine e1.trans ?_
      rw [e_223_1176 (lg_r _), e6, e_223_1179]
      exact e'
theorem st_0 (L : Nat) (xs : Nat → Int32) (j : Nat) : am_at (am_h0 L xs) (1000000 + j) = am_stc L xs j := by
  show (if 1000000 + j < 1000000 then none else am_stc L xs (1000000 + j - 1000000)) = _
  rw [if_neg (by omega), Nat.add_sub_cancel_left]
theorem Stt_0 (L : Nat) (xs : Nat → Int32) : Stt (am_h0 L xs) := fun j h1 h2 => by
  rw [st_0]
  unfold am_stc
  rw [if_neg (show ¬ j = 0 by omega), if_neg (show ¬ j = 0 by omega)]
theorem lw_all (hL : L ≤ 3072) : ∃ h', am_ev (d + 8) 223 0 [some (.ref 1000000), none, none, none] [] (am_h0 L xs) = some (some (.int 1), h') ∧ h'.1 = 111 ∧ h'.2.1 = 1630 := by
  have s0 : Stt (am_h0 L xs) := Stt_0 L xs
  have c0 : am_at (am_h0 L xs) 1000000 = some (.inl (10, L, .inl xs)) := st_0 L xs 0
  have x0 : (am_h0 L xs).1 = 0 := rfl
  have y0 : (am_h0 L xs).2.1 = 0 := rfl
  generalize am_h0 L xs = h at *
  obtain ⟨g1, r1, ng1, zg1, og1, kg1⟩ := nwb (h := h) (n := (am_dflt 7).length) (Z := .inr (7, am_dflt 7))
  rw [dl_7] at zg1
  rw [x0] at og1 ng1 kg1
  obtain ⟨h1, e1, C1, n1, z1, k1⟩ := m_ride0 (d := d + 4) (h := g1) (by omega) (s0.keep (fun k hk => by rw [kg1 _ (by omega)])) og1
  have N1 : h1.1 = 87 := by omega
  obtain ⟨g2, r2, ng2, zg2, og2, kg2⟩ := nwb (h := h1) (n := (am_dflt 8).length) (Z := .inr (8, am_dflt 8))
  rw [dl_8] at zg2
  rw [N1] at og2 ng2 kg2
  obtain ⟨h2, e2, M2, n2, z2, k2⟩ := m_model0 (d := d + 5) (h := g2) (pa := fun _ => hn0) (ke := fun _ => hn0) (by omega) og2
  have C2 := C1.keepM (h' := h2) (fun k hk => by rw [k2 _ (by omega) (by omega), kg2 _ (by omega)])
  have I2 : IV pn0 hn0 0 (fun _ => hn0) (fun _ => false) (fun _ => hn0) (fun _ => 0) 0 0 (fun _ => 0) (fun _ => 0) (fun _ => 0) (fun _ => 0) (fun _ _ => 0) := ⟨OKD0, HOK.beg OKD0, by omega, fun i hi => absurd hi (Nat.not_lt_zero i), fun k _ z => Bool.noConfusion z, fun _ => (by decide : 0 < 256), by omega, by omega, fun s hs => absurd hs (Nat.not_lt_zero s), fun i _ => ⟨Nat.zero_le _, fun k hk => absurd hk (Nat.not_lt_zero (k + 1))⟩⟩
  have J2 : JI h2 := ⟨pn0, hn0, 0, fun _ => hn0, fun _ => false, fun _ => hn0, fun _ => 0, 0, 0, fun _ => 0, fun _ => 0, fun _ => 0, fun _ => 0, fun _ _ => 0, C2, M2, I2⟩
  obtain ⟨h', e', F'⟩ := lw_loop (d := d) hL 600 0 h2 (by omega) (by omega) J2 (by rw [k2 _ (by omega) (by omega), kg2 _ (by omega), k1 _ (by omega) (by omega), kg1 _ (by omega)]; exact c0)
  rw [nI_0] at e'
  refine ⟨h', ?_, by have := F'.1; omega, by have := F'.2.1; omega⟩
  rw [e_223_0 (h := h) (by omega), ← r1, x0]
  simp only [e_223_3, e_223_4, e_223_7, lg_n, lg_i, lg_r, wd_nil, am_wd_i, am_wd_r, am_wd_l, am_gk_s, am_fld_s, List.getElem?_cons_zero, List.getElem?_cons_succ, am_bk_v, am_bk_n, bo_0, bo_1, am_pk_s, List.length_cons, List.length_nil, Nat.zero_add, List.set_cons_zero, List.set_cons_succ, Nat.reduceAdd, Nat.reduceLeDiff, Nat.reduceLT, e1]
  rw [e_223_8 (h := h1) (by omega), ← r2, N1]
  simp only [e_223_11, e_223_12, e_223_15, e_223_16, e_223_17, lg_n, lg_i, lg_r, wd_nil, am_wd_i, am_wd_r, am_wd_l, am_gk_s, am_fld_s, List.getElem?_cons_zero, List.getElem?_cons_succ, am_bk_v, am_bk_n, bo_0, bo_1, am_pk_s, List.length_cons, List.length_nil, Nat.zero_add, List.set_cons_zero, List.set_cons_succ, Nat.reduceAdd, Nat.reduceLeDiff, Nat.reduceLT, e2]
  exact e'
theorem am_owed : am_Owed := by
  intro L xs hL
  obtain ⟨h', e', n', z'⟩ := lw_all (d := 2) (xs := xs) hL
  exact ⟨h', e', by omega, by omega⟩
end LW
