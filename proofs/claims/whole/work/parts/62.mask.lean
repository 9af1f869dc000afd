/-! the model: what to ask -/
section MI
variable {d : Nat} {h : am_H} {P : Pn} {σ : Hn} {u : Nat} {pa : Nat → Hn} {kp : Nat → Bool} {ke : Nat → Hn} {t : Nat → Nat} {n sn : Nat} {sF sT sK : Nat → Nat} {nz : Nat → Nat} {nt : Nat → Nat → Nat} {f : Nat → Int32} {L : Nat → Nat}
def smN (f m a b k q : Nat) : Bool := m.testBit k && m.testBit q && tmN f k a b == tmN f q a b
theorem l_part1 (hM : MB h f L) (hP : RowP f 0 P) (hf : 2 ≤ P.1 ∧ P.1 ≤ 7) {m a b k : Nat} (hm : m < 32) (ha : a < P.1) (hb : b < P.1) (hk : k < 5) {x4 : Option Value} : ∀ j q, q + j = 5 → am_ev (d + 2) 193 18 [some (.ref 87), some (.int (nI m)), some (.int (nI a)), some (.int (nI b)), x4, some (.int (nI k)), some (.int (nI (cntN (smN P.1 m a b k) q))), some (.int (nI q))] [] h = am_ev (d + 2) 193 77 [some (.ref 87), some (.int (nI m)), some (.int (nI a)), some (.int (nI b)), x4, some (.int (nI k)), some (.int (nI (cntN (smN P.1 m a b k) 5))), some (.int (nI 5))] [] h := by
  have m2 := hM.2.2.1
  have e5 : (5 : Int32) = nI 5 := by decide +kernel
  intro j
  induction j with
  | zero =>
    intro q hq
    have : q = 5 := by omega
    subst this
    rw [e_193_18]
    simp only [e_193_20, e_193_21, lg_n, lg_i, lg_r, wd_nil, am_wd_i, am_wd_r, am_wd_l, am_gk_s, am_fld_s, List.getElem?_cons_zero, List.getElem?_cons_succ, am_bk_v, am_bk_n, bo_0, bo_1, am_pk_s, List.length_cons, List.length_nil, Nat.zero_add, List.set_cons_zero, List.set_cons_succ, Nat.reduceAdd, Nat.reduceLeDiff, Nat.reduceLT, e5, nI_leI (show 5 < 2 ^ 31 by decide) (show 5 < 2 ^ 31 by decide), Nat.le_refl, if_true]
  | succ j ih =>
    intro q hq
    have ih' := ih (q + 1) (by omega)
    have h1 := m_alone (d := d) hM hP hf hk ha hb
    have h2 := m_alone (d := d) hM hP hf (show q < 5 by omega) ha hb
    have t1 := tmN_le P.1 k a b
    have t2 := tmN_le P.1 q a b
    have hk1 := m_has (d := d + 1) (h := h) (n := m) (k := k) (by omega) (by omega)
    have hk2 := m_has (d := d + 1) (h := h) (n := m) (k := q) (by omega) (by omega)
    have hN : cntN (smN P.1 m a b k) (q + 1) = cntN (smN P.1 m a b k) q + (if smN P.1 m a b k q then 1 else 0) := rfl
    rw [hN] at ih'
    rw [e_193_18]
    by_cases c1 : m.testBit k = true
    · rw [if_pos c1] at hk1
      by_cases c2 : m.testBit q = true
      · rw [if_pos c2] at hk2
        by_cases c3 : tmN P.1 k a b = tmN P.1 q a b
        · rw [if_pos (by unfold smN; simp [c1, c2, c3])] at ih'
          simp only [e_193_20, e_193_21, e_193_24, e_193_26, e_193_27, e_193_29, e_193_32, e_193_35, e_193_36, e_193_38, e_193_41, e_193_44, e_193_45, e_193_47, e_193_48, e_193_49, e_193_52, e_193_53, e_193_55, e_193_56, e_193_57, e_193_60, e_193_63, e_193_64, e_193_67, e_193_68, e_193_69, e_193_71, e_193_74, lg_n, lg_i, lg_r, wd_nil, am_wd_i, am_wd_r, am_wd_l, am_gk_s, am_fld_s, List.getElem?_cons_zero, List.getElem?_cons_succ, am_bk_v, am_bk_n, bo_0, bo_1, am_pk_s, List.length_cons, List.length_nil, Nat.zero_add, List.set_cons_zero, List.set_cons_succ, Nat.reduceAdd, Nat.reduceLeDiff, Nat.reduceLT, e5, nI_leI (show 5 < 2 ^ 31 by decide) (show q < 2 ^ 31 by omega), if_neg (show ¬ 5 ≤ q by omega), hk1, hk2, one_ne, if_false, if_true, m2, h1, h2, c3, nI_1]
          exact ih'
        · rw [if_neg (by unfold smN; simp [c1, c2, c3])] at ih'
          simp only [e_193_20, e_193_21, e_193_24, e_193_26, e_193_27, e_193_29, e_193_32, e_193_35, e_193_36, e_193_38, e_193_41, e_193_44, e_193_45, e_193_47, e_193_48, e_193_49, e_193_52, e_193_53, e_193_55, e_193_56, e_193_57, e_193_60, e_193_63, e_193_64, e_193_67, e_193_68, e_193_69, e_193_71, e_193_74, lg_n, lg_i, lg_r, wd_nil, am_wd_i, am_wd_r, am_wd_l, am_gk_s, am_fld_s, List.getElem?_cons_zero, List.getElem?_cons_succ, am_bk_v, am_bk_n, bo_0, bo_1, am_pk_s, List.length_cons, List.length_nil, Nat.zero_add, List.set_cons_zero, List.set_cons_succ, Nat.reduceAdd, Nat.reduceLeDiff, Nat.reduceLT, e5, nI_leI (show 5 < 2 ^ 31 by decide) (show q < 2 ^ 31 by omega), if_neg (show ¬ 5 ≤ q by omega), hk1, hk2, one_ne, if_false, if_true, m2, h1, h2, nI_eq (show tmN P.1 k a b < 2 ^ 31 by omega) (show tmN P.1 q a b < 2 ^ 31 by omega), c3, Int32.add_zero, nI_1]
          exact ih'
      · rw [if_neg c2] at hk2
        rw [if_neg (by unfold smN; simp [c1, c2])] at ih'
        simp only [e_193_20, e_193_21, e_193_24, e_193_26, e_193_27, e_193_29, e_193_32, e_193_35, e_193_36, e_193_38, e_193_41, e_193_44, e_193_45, e_193_47, e_193_48, e_193_49, e_193_52, e_193_53, e_193_55, e_193_56, e_193_57, e_193_60, e_193_63, e_193_64, e_193_67, e_193_68, e_193_69, e_193_71, e_193_74, lg_n, lg_i, lg_r, wd_nil, am_wd_i, am_wd_r, am_wd_l, am_gk_s, am_fld_s, List.getElem?_cons_zero, List.getElem?_cons_succ, am_bk_v, am_bk_n, bo_0, bo_1, am_pk_s, List.length_cons, List.length_nil, Nat.zero_add, List.set_cons_zero, List.set_cons_succ, Nat.reduceAdd, Nat.reduceLeDiff, Nat.reduceLT, e5, nI_leI (show 5 < 2 ^ 31 by decide) (show q < 2 ^ 31 by omega), if_neg (show ¬ 5 ≤ q by omega), hk1, hk2, one_ne, if_false, if_true, Int32.add_zero, nI_1]
        exact ih'
    · rw [if_neg c1] at hk1
      rw [if_neg (by unfold smN; simp [c1])] at ih'
      simp only [e_193_20, e_193_21, e_193_24, e_193_26, e_193_27, e_193_29, e_193_32, e_193_35, e_193_36, e_193_38, e_193_41, e_193_44, e_193_45, e_193_47, e_193_48, e_193_49, e_193_52, e_193_53, e_193_55, e_193_56, e_193_57, e_193_60, e_193_63, e_193_64, e_193_67, e_193_68, e_193_69, e_193_71, e_193_74, lg_n, lg_i, lg_r, wd_nil, am_wd_i, am_wd_r, am_wd_l, am_gk_s, am_fld_s, List.getElem?_cons_zero, List.getElem?_cons_succ, am_bk_v, am_bk_n, bo_0, bo_1, am_pk_s, List.length_cons, List.length_nil, Nat.zero_add, List.set_cons_zero, List.set_cons_succ, Nat.reduceAdd, Nat.reduceLeDiff, Nat.reduceLT, e5, nI_leI (show 5 < 2 ^ 31 by decide) (show q < 2 ^ 31 by omega), if_neg (show ¬ 5 ≤ q by omega), hk1, if_true, Int32.add_zero, nI_1]
      exact ih'
theorem sm_most (f m a b k : Nat) : mostN (codN f m a b) (k + 1) = max (mostN (codN f m a b) k) (cntN (smN f m a b k) 5) := by
  rw [mostN]
  have hz : ∀ j, (∀ q, smN f m a b k q = false) → cntN (smN f m a b k) j = 0 := by
    intro j hq
    induction j with
    | zero => rfl
    | succ j ih => rw [cntN, ih, hq]; rfl
  by_cases c1 : m.testBit k = true
  · have hck : codN f m a b k = tmN f k a b + 1 := by unfold codN; rw [if_pos c1]
    rw [if_neg (by omega), cntN_cong (g' := smN f m a b k) (fun q _ => ?_)]
    unfold smN
    rw [hck]
    unfold codN
    by_cases c2 : m.testBit q = true
    · rw [if_pos c2, c1, c2, Bool.true_and, Bool.true_and, Bool.eq_iff_iff, beq_iff_eq, beq_iff_eq]
      omega
    · rw [if_neg c2]
      simp [c2]
  · rw [if_pos (show codN f m a b k = 0 by unfold codN; rw [if_neg c1]), hz 5 (fun q => by unfold smN; simp [c1]), Nat.max_eq_left (Nat.zero_le _)]
theorem l_part2 (hM : MB h f L) (hP : RowP f 0 P) (hf : 2 ≤ P.1 ∧ P.1 ≤ 7) {m a b : Nat} (hm : m < 32) (ha : a < P.1) (hb : b < P.1) : ∀ j k (x6 x7 : Option Value), am_lg x6 = false → am_lg x7 = false → k + j = 5 → am_ev (d + 2) 193 6 [some (.ref 87), some (.int (nI m)), some (.int (nI a)), some (.int (nI b)), some (.int (nI (mostN (codN P.1 m a b) k))), some (.int (nI k)), x6, x7] [] h = some (some (.int (nI (mostN (codN P.1 m a b) 5))), h) := by
  have e5 : (5 : Int32) = nI 5 := by decide +kernel
  intro j
  induction j with
  | zero =>
    intro k x6 x7 l6 l7 hk
    have : k = 5 := by omega
    subst this
    rw [e_193_6]
    simp only [e_193_8, e_193_9, e_193_99, e_193_101, lg_n, lg_i, lg_r, wd_nil, am_wd_i, am_wd_r, am_wd_l, am_gk_s, am_fld_s, List.getElem?_cons_zero, List.getElem?_cons_succ, am_bk_v, am_bk_n, bo_0, bo_1, am_pk_s, List.length_cons, List.length_nil, Nat.zero_add, List.set_cons_zero, List.set_cons_succ, Nat.reduceAdd, Nat.reduceLeDiff, Nat.reduceLT, e5, nI_leI (show 5 < 2 ^ 31 by decide) (show 5 < 2 ^ 31 by decide), Nat.le_refl, if_true]
  | succ j ih =>
    intro k x6 x7 l6 l7 hk
    have ih' := ih (k + 1) (some (.int (nI (cntN (smN P.1 m a b k) 5)))) (some (.int (nI 5))) (lg_i _) (lg_i _) (by omega)
    have hl := l_part1 (d := d) hM hP hf hm ha hb (show k < 5 by omega) (x4 := some (.int (nI (mostN (codN P.1 m a b) k)))) 5 0 (by omega)
    rw [show cntN (smN P.1 m a b k) 0 = 0 from rfl, nI_0] at hl
    rw [sm_most] at ih'
    have b1 := mostN_le (codN P.1 m a b) k
    have b2 := cntN_le (smN P.1 m a b k) 5
    generalize mostN (codN P.1 m a b) k = M at *
    generalize cntN (smN P.1 m a b k) 5 = C at *
    rw [e_193_6]
    simp only [e_193_8, e_193_9, e_193_12, e_193_13, e_193_15, e_193_16, lg_n, lg_i, lg_r, wd_nil, am_wd_i, am_wd_r, am_wd_l, am_gk_s, am_fld_s, List.getElem?_cons_zero, List.getElem?_cons_succ, am_bk_v, am_bk_n, bo_0, bo_1, am_pk_s, List.length_cons, List.length_nil, Nat.zero_add, List.set_cons_zero, List.set_cons_succ, Nat.reduceAdd, Nat.reduceLeDiff, Nat.reduceLT, l6, l7, e5, nI_leI (show 5 < 2 ^ 31 by decide) (show k < 2 ^ 31 by omega), if_neg (show ¬ 5 ≤ k by omega)]
    refine Eq.trans hl ?_
    simp only [e_193_77, e_193_79, e_193_81, e_193_84, e_193_86, e_193_89, e_193_91, e_193_93, e_193_96, lg_n, lg_i, lg_r, wd_nil, am_wd_i, am_wd_r, am_wd_l, am_gk_s, am_fld_s, List.getElem?_cons_zero, List.getElem?_cons_succ, am_bk_v, am_bk_n, bo_0, bo_1, am_pk_s, List.length_cons, List.length_nil, Nat.zero_add, List.set_cons_zero, List.set_cons_succ, Nat.reduceAdd, Nat.reduceLeDiff, Nat.reduceLT, nI_leI (show C < 2 ^ 31 by omega) (show M < 2 ^ 31 by omega), nI_1]
    by_cases hc : C ≤ M
    · rw [Nat.max_eq_left hc] at ih'
      rw [if_pos hc]
      exact ih'
    · rw [Nat.max_eq_right (by omega)] at ih'
      rw [if_neg hc]
      exact ih'
theorem m_part (hM : MB h f L) (hP : RowP f 0 P) (hf : 2 ≤ P.1 ∧ P.1 ≤ 7) {m a b : Nat} (hm : m < 32) (ha : a < P.1) (hb : b < P.1) : am_cal (d + 3) 193 [.ref 87, .int (nI m), .int (nI a), .int (nI b)] h = some (some (.int (nI (mostN (codN P.1 m a b) 5))), h) := by
  have hl := l_part2 (d := d) hM hP hf hm ha hb 5 0 none none lg_n lg_n (by omega)
  refine (b_193 _ _ _).trans ?_; show am_ev _ 193 0 [some (.ref 87), some (.int (nI m)), some (.int (nI a)), some (.int (nI b)), none, none, none, none] [] _ = _
  simp only [e_193_0, e_193_1, e_193_3, e_193_4, lg_n, lg_i, lg_r, wd_nil, am_wd_i, am_wd_r, am_wd_l, am_gk_s, am_fld_s, List.getElem?_cons_zero, List.getElem?_cons_succ, am_bk_v, am_bk_n, bo_0, bo_1, am_pk_s, List.length_cons, List.length_nil, Nat.zero_add, List.set_cons_zero, List.set_cons_succ, Nat.reduceAdd, Nat.reduceLeDiff, Nat.reduceLT]
  exact hl
theorem l_ask1 (hM : MB h f L) (hP : RowP f 0 P) (hf : 2 ≤ P.1 ∧ P.1 ≤ 7) {m a : Nat} (hm : m < 32) (ha : a < P.1) (r : Nat × Nat) (hr : r.1 ≤ 8 ∧ r.2 ≤ 200) : ∀ j b (x6 : Option Value), am_lg x6 = false → b + j = P.1 → ∃ x6', am_lg x6' = false ∧ am_ev (d + 3) 194 30 [some (.ref 87), some (.int (nI m)), some (.int (cI ((bqI (fun a b => mostN (codN P.1 m a b) 5) a b r).2 + 1))), some (.int (nI (bqI (fun a b => mostN (codN P.1 m a b) 5) a b r).1)), some (.int (nI a)), some (.int (nI b)), x6] [] h = am_ev (d + 3) 194 103 [some (.ref 87), some (.int (nI m)), some (.int (cI ((bqI (fun a b => mostN (codN P.1 m a b) 5) a P.1 r).2 + 1))), some (.int (nI (bqI (fun a b => mostN (codN P.1 m a b) 5) a P.1 r).1)), some (.int (nI a)), some (.int (nI P.1)), x6'] [] h := by
  obtain ⟨m0, m1, m2, m3, m4⟩ := id hM
  have h26 := hP.1
  rw [Nat.zero_add] at h26
  have e26 : (26 : Int32) = nI 26 := by decide +kernel
  have e99 : (99 : Int32) = nI 99 := by decide +kernel
  have e10 : (10 : Int32) = nI 10 := by decide +kernel
  intro j
  induction j with
  | zero =>
    intro b x6 l6 hb
    have : b = P.1 := by omega
    subst this
    refine ⟨x6, l6, ?_⟩
    rw [e_194_30]
    simp only [e_194_32, e_194_33, e_194_36, e_194_38, e_194_39, lg_n, lg_i, lg_r, wd_nil, am_wd_i, am_wd_r, am_wd_l, am_gk_s, am_fld_s, List.getElem?_cons_zero, List.getElem?_cons_succ, am_bk_v, am_bk_n, bo_0, bo_1, am_pk_s, List.length_cons, List.length_nil, Nat.zero_add, List.set_cons_zero, List.set_cons_succ, Nat.reduceAdd, Nat.reduceLeDiff, Nat.reduceLT, m0, m3, e26, ak_AI (show 26 < 392 by decide) (show 392 < 2 ^ 31 by decide), h26, nI_leI (show P.1 < 2 ^ 31 by omega) (show P.1 < 2 ^ 31 by omega), Nat.le_refl, if_true]
  | succ j ih =>
    intro b x6 l6 hb
    have hle := bqI_le (fun a b => mostN (codN P.1 m a b) 5) a (by omega) hr b (by omega)
    have hN : bqI (fun a b => mostN (codN P.1 m a b) 5) a (b + 1) r = if a ≠ b ∧ mostN (codN P.1 m a b) 5 < (bqI (fun a b => mostN (codN P.1 m a b) 5) a b r).1 then (mostN (codN P.1 m a b) 5, 10 * a + b + 1) else bqI (fun a b => mostN (codN P.1 m a b) 5) a b r := rfl
    by_cases hab : a = b
    · rw [if_neg (fun z => z.1 hab)] at hN
      obtain ⟨x6', l6', e'⟩ := ih (b + 1) (some (.int (nI 99))) (lg_i _) (by omega)
      rw [hN] at e'
      refine ⟨x6', l6', ?_⟩
      generalize bqI (fun a b => mostN (codN P.1 m a b) 5) a b r = R at *
      rw [e_194_30]
      simp only [e_194_32, e_194_33, e_194_36, e_194_38, e_194_39, e_194_42, e_194_44, e_194_46, e_194_49, e_194_51, e_194_54, e_194_55, e_194_56, e_194_58, e_194_60, e_194_63, e_194_65, e_194_67, e_194_68, e_194_71, e_194_73, e_194_75, e_194_76, e_194_78, e_194_79, e_194_82, e_194_83, e_194_84, e_194_86, e_194_87, e_194_90, e_194_92, e_194_95, e_194_96, e_194_97, e_194_100, lg_n, lg_i, lg_r, wd_nil, am_wd_i, am_wd_r, am_wd_l, am_gk_s, am_fld_s, List.getElem?_cons_zero, List.getElem?_cons_succ, am_bk_v, am_bk_n, bo_0, bo_1, am_pk_s, List.length_cons, List.length_nil, Nat.zero_add, List.set_cons_zero, List.set_cons_succ, Nat.reduceAdd, Nat.reduceLeDiff, Nat.reduceLT, l6, m0, m3, e26, e99, ak_AI (show 26 < 392 by decide) (show 392 < 2 ^ 31 by decide), h26, nI_leI (show P.1 < 2 ^ 31 by omega) (show b < 2 ^ 31 by omega), if_neg (show ¬ P.1 ≤ b by omega), nI_eq (show a < 2 ^ 31 by omega) (show b < 2 ^ 31 by omega), hab, if_true, nI_leI (show R.1 < 2 ^ 31 by omega) (show 99 < 2 ^ 31 by omega), if_pos (show R.1 ≤ 99 by omega), nI_1]
      rw [← hab] at e' ⊢
      exact e'
    · have hmp := m_part (d := d) hM hP hf hm ha (show b < P.1 by omega)
      have hmm := mostN_le (codN P.1 m a b) 5
      obtain ⟨x6', l6', e'⟩ := ih (b + 1) (some (.int (nI (mostN (codN P.1 m a b) 5)))) (lg_i _) (by omega)
      refine ⟨x6', l6', ?_⟩
      generalize bqI (fun a b => mostN (codN P.1 m a b) 5) a b r = R at *
      rw [e_194_30]
      simp only [e_194_32, e_194_33, e_194_36, e_194_38, e_194_39, e_194_42, e_194_44, e_194_46, e_194_49, e_194_51, e_194_54, e_194_55, e_194_56, e_194_58, e_194_60, e_194_63, e_194_65, e_194_67, e_194_68, e_194_71, e_194_73, e_194_75, e_194_76, e_194_78, e_194_79, e_194_82, e_194_83, e_194_84, e_194_86, e_194_87, e_194_90, e_194_92, e_194_95, e_194_96, e_194_97, e_194_100, lg_n, lg_i, lg_r, wd_nil, am_wd_i, am_wd_r, am_wd_l, am_gk_s, am_fld_s, List.getElem?_cons_zero, List.getElem?_cons_succ, am_bk_v, am_bk_n, bo_0, bo_1, am_pk_s, List.length_cons, List.length_nil, Nat.zero_add, List.set_cons_zero, List.set_cons_succ, Nat.reduceAdd, Nat.reduceLeDiff, Nat.reduceLT, l6, m0, m2, m3, e26, ak_AI (show 26 < 392 by decide) (show 392 < 2 ^ 31 by decide), h26, nI_leI (show P.1 < 2 ^ 31 by omega) (show b < 2 ^ 31 by omega), if_neg (show ¬ P.1 ≤ b by omega), nI_eq (show a < 2 ^ 31 by omega) (show b < 2 ^ 31 by omega), hab, if_false, hmp, nI_leI (show R.1 < 2 ^ 31 by omega) (show mostN (codN P.1 m a b) 5 < 2 ^ 31 by omega), e10, pk_mul, nI_add, nI_1]
      by_cases hlt : mostN (codN P.1 m a b) 5 < R.1
      · rw [if_pos ⟨hab, hlt⟩] at hN
        rw [hN, cI_s] at e'
        simp only [if_neg (show ¬ R.1 ≤ mostN (codN P.1 m a b) 5 by omega)]
        exact e'
      · rw [if_neg (fun z => hlt z.2)] at hN
        rw [hN] at e'
        simp only [if_pos (show R.1 ≤ mostN (codN P.1 m a b) 5 by omega)]
        exact e'
theorem l_ask2 (hM : MB h f L) (hP : RowP f 0 P) (hf : 2 ≤ P.1 ∧ P.1 ≤ 7) {m : Nat} (hm : m < 32) (r : Nat × Nat) (hr : r.1 ≤ 8 ∧ r.2 ≤ 200) : ∀ j a (x5 x6 : Option Value), am_lg x5 = false → am_lg x6 = false → a + j = P.1 → am_ev (d + 3) 194 15 [some (.ref 87), some (.int (nI m)), some (.int (cI ((bqO (fun a b => mostN (codN P.1 m a b) 5) P.1 a r).2 + 1))), some (.int (nI (bqO (fun a b => mostN (codN P.1 m a b) 5) P.1 a r).1)), some (.int (nI a)), x5, x6] [] h = some (some (.int (cI ((bqO (fun a b => mostN (codN P.1 m a b) 5) P.1 P.1 r).2 + 1))), h) := by
  obtain ⟨m0, m1, m2, m3, m4⟩ := id hM
  have h26 := hP.1
  rw [Nat.zero_add] at h26
  have e26 : (26 : Int32) = nI 26 := by decide +kernel
  intro j
  induction j with
  | zero =>
    intro a x5 x6 l5 l6 ha
    have : a = P.1 := by omega
    subst this
    rw [e_194_15]
    simp only [e_194_17, e_194_18, e_194_21, e_194_23, e_194_24, e_194_109, e_194_110, lg_n, lg_i, lg_r, wd_nil, am_wd_i, am_wd_r, am_wd_l, am_gk_s, am_fld_s, List.getElem?_cons_zero, List.getElem?_cons_succ, am_bk_v, am_bk_n, bo_0, bo_1, am_pk_s, List.length_cons, List.length_nil, Nat.zero_add, List.set_cons_zero, List.set_cons_succ, Nat.reduceAdd, Nat.reduceLeDiff, Nat.reduceLT, m0, m3, e26, ak_AI (show 26 < 392 by decide) (show 392 < 2 ^ 31 by decide), h26, nI_leI (show P.1 < 2 ^ 31 by omega) (show P.1 < 2 ^ 31 by omega), Nat.le_refl, if_true]
  | succ j ih =>
    intro a x5 x6 l5 l6 ha
    have hle := bqO_le (fun a b => mostN (codN P.1 m a b) 5) P.1 (by omega) hr a (by omega)
    obtain ⟨x6', l6', e1⟩ := l_ask1 (d := d) hM hP hf hm (show a < P.1 by omega) (bqO (fun a b => mostN (codN P.1 m a b) 5) P.1 a r) hle P.1 0 x6 l6 (by omega)
    have e' := ih (a + 1) (some (.int (nI P.1))) x6' (lg_i _) l6' (by omega)
    rw [e_194_15]
    simp only [e_194_17, e_194_18, e_194_21, e_194_23, e_194_24, e_194_27, e_194_28, lg_n, lg_i, lg_r, wd_nil, am_wd_i, am_wd_r, am_wd_l, am_gk_s, am_fld_s, List.getElem?_cons_zero, List.getElem?_cons_succ, am_bk_v, am_bk_n, bo_0, bo_1, am_pk_s, List.length_cons, List.length_nil, Nat.zero_add, List.set_cons_zero, List.set_cons_succ, Nat.reduceAdd, Nat.reduceLeDiff, Nat.reduceLT, l5, m0, m3, e26, ak_AI (show 26 < 392 by decide) (show 392 < 2 ^ 31 by decide), h26, nI_leI (show P.1 < 2 ^ 31 by omega) (show a < 2 ^ 31 by omega), if_neg (show ¬ P.1 ≤ a by omega)]
    refine Eq.trans e1 ?_
    simp only [e_194_103, e_194_106, lg_n, lg_i, lg_r, wd_nil, am_wd_i, am_wd_r, am_wd_l, am_gk_s, am_fld_s, List.getElem?_cons_zero, List.getElem?_cons_succ, am_bk_v, am_bk_n, bo_0, bo_1, am_pk_s, List.length_cons, List.length_nil, Nat.zero_add, List.set_cons_zero, List.set_cons_succ, Nat.reduceAdd, Nat.reduceLeDiff, Nat.reduceLT, nI_1]
    exact e'
theorem cnt_b32 {m : Nat} (hm : m < 32) : cntN (fun i => m.testBit i) 14 = cntN (fun i => m.testBit i) 8 := by
  have hz : ∀ i, 8 ≤ i → m.testBit i = false := fun i hi => Nat.testBit_lt_two_pow (Nat.lt_of_lt_of_le hm (Nat.le_trans (by decide) (Nat.pow_le_pow_right (by decide) hi)))
  show cntN (fun i => m.testBit i) 8 + _ + _ + _ + _ + _ + _ = _
  simp only [hz 8 (by decide), hz 9 (by decide), hz 10 (by decide), hz 11 (by decide), hz 12 (by decide), hz 13 (by decide), Bool.false_eq_true, if_false, Nat.add_zero]
theorem n_ask (hM : MI h P σ u pa kp ke t n sn sF sT sK nz nt) (hD : OKD P) (hsn : sn ≤ 6) (hb : ∀ s, s < sn → sF s < P.1 ∧ sT s < P.1 ∧ sF s ≠ sT s ∧ 1 ≤ sK s ∧ sK s ≤ 60) : am_cal (d + 8) 194 [.ref 87] h = some (some (.int (cI ((bqO (fun a b => mostN (codN P.1 (bitsN (fun k => fitN P.1 k sF sT sK sn 0) 5) a b) 5) P.1 P.1 (cntN (fun i => (bitsN (fun k => fitN P.1 k sF sT sK sn 0) 5).testBit i) 8, 0)).2 + 1))), h) := by
  have hkn := n_kinds (d := d + 4) hM hD hsn hb
  obtain ⟨⟨fi, be, rF, rP, cl, dg, h1⟩, ⟨f, h2, h2'⟩, h3, h4, h5, h6⟩ := id hM
  obtain ⟨oP, q1, q2, -⟩ := hD
  have hB := hM.mb h2
  have hm : bitsN (fun k => fitN P.1 k sF sT sK sn 0) 5 < 32 := bitsN_lt _ 5
  generalize bitsN (fun k => fitN P.1 k sF sT sK sn 0) 5 = m at *
  have hbi := m_bits (d := d + 6) (h := h) (n := m) (by omega)
  rw [cnt_b32 hm] at hbi
  have hl := l_ask2 (d := d + 4) hB h2'.1 ⟨q1, q2⟩ hm (cntN (fun i => m.testBit i) 8, 0) ⟨bcN m hm, Nat.zero_le _⟩ P.1 0 none none lg_n lg_n (by omega)
  refine (b_194 _ _ _).trans ?_; show am_ev _ 194 0 [some (.ref 87), none, none, none, none, none, none] [] _ = _
  simp only [e_194_0, e_194_1, e_194_4, e_194_5, e_194_6, e_194_7, e_194_8, e_194_11, e_194_12, e_194_13, lg_n, lg_i, lg_r, wd_nil, am_wd_i, am_wd_r, am_wd_l, am_gk_s, am_fld_s, List.getElem?_cons_zero, List.getElem?_cons_succ, am_bk_v, am_bk_n, bo_0, bo_1, am_pk_s, List.length_cons, List.length_nil, Nat.zero_add, List.set_cons_zero, List.set_cons_succ, Nat.reduceAdd, Nat.reduceLeDiff, Nat.reduceLT, hB.2.2.1, hkn, hbi]
  exact hl
end MI
