/-! the reader: clauses, the text, run -/
theorem cI_m1 {x : Nat} (hx : x < 2 ^ 30) : cI (x + 1) = -1 ↔ x = 0 := by
  cases x with
  | zero => exact ⟨fun _ => rfl, fun _ => rfl⟩
  | succ x =>
    rw [cI_s, i_eq, nI_toInt (by omega), i_m1]
    constructor <;> intro h <;> omega
theorem nm1 {x : Nat} (hx : x < 2 ^ 31) : ¬ nI x = -1 := by
  rw [i_eq, nI_toInt hx, i_m1]
  omega
section RX
variable {d : Nat} {h : am_H} {v n c b e : Nat} {t : Nat → Nat} {D : Pn}
theorem m_readHall (hX : RX h v t n c b e D) (he : e ≤ n) : ∃ h', am_cal (d + 4) 66 [.ref v] h = some (some (.int (if numN t n (tkB t n e) (tkE t n e) 2 7 = 0 then 0 else 1)), h') ∧ RX h' v t n c (tkB t n e) (tkE t n e) (if numN t n (tkB t n e) (tkE t n e) 2 7 = 0 then D else (numN t n (tkB t n e) (tkE t n e) 2 7 - 1, 2, 0, 0, D.2.2.2.2)) ∧ FX h h' v := by
  obtain ⟨k0, k1, k2, k3, k4, k5, k6⟩ := hX.1.fl
  have hrn := m_readNumber (d := d) hX.1 he (show 2 < 2 ^ 31 by decide) (show 7 < 2 ^ 31 by decide)
  have hbd := numN_bd t n (tkB t n e) (tkE t n e) 2 7
  have hX1 := hX.set c (tkB t n e) (tkE t n e)
  generalize numN t n (tkB t n e) (tkE t n e) 2 7 = x at *
  generalize tkB t n e = B at *
  generalize tkE t n e = E at *
  obtain ⟨r0, r1, r2, r3, r4, r5, r6⟩ := hX1.1.fl
  have e2 : (2 : Int32) = nI 2 := by decide +kernel
  have e7 : (7 : Int32) = nI 7 := by decide +kernel
  by_cases hx : x = 0
  · refine ⟨_, ?_, by rw [if_pos hx]; exact hX1, FX.set (Nat.le_refl _) (by omega)⟩
    refine (b_66 _ _ _).trans ?_; show am_ev _ 66 0 [some (.ref v), none] [] _ = _
    simp only [e_66_0, e_66_1, e_66_2, e_66_4, e_66_7, e_66_8, e_66_9, e_66_10, e_66_13, e_66_14, e_66_15, e_66_16, e_66_19, e_66_20, e_66_23, e_66_24, lg_n, lg_i, lg_r, wd_nil, am_wd_i, am_wd_r, am_wd_l, am_gk_s, am_fld_s, List.getElem?_cons_zero, List.getElem?_cons_succ, am_bk_v, am_bk_n, bo_0, bo_1, am_pk_s, List.length_cons, List.length_nil, Nat.zero_add, List.set_cons_zero, List.set_cons_succ, Nat.reduceAdd, Nat.reduceLeDiff, Nat.reduceLT, k6, e2, e7, hrn, cI_m1 (show x < 2 ^ 30 by omega), if_pos hx]
  · obtain ⟨y, rfl⟩ : ∃ y, x = y + 1 := ⟨x - 1, by omega⟩
    have hcl := m_clear (d := d + 2) hX1.2 y
    have hse : am_set (am_set h v (rd0 v n c B E)) (v + 2) (plan0 (v + 2) (y, 2, 0, 0, D.2.2.2.2)) = pP (am_set h v (rd0 v n c B E)) (v + 2) (y, 2, 0, 0, D.2.2.2.2) := by
      have := set_pP0 (h := am_set h v (rd0 v n c B E)) (b := v + 2) (P := D) y 2 0 0
      rw [pP_self hX1.2] at this
      exact this
    rw [hse] at hcl
    refine ⟨pP (am_set h v (rd0 v n c B E)) (v + 2) (y, 2, 0, 0, D.2.2.2.2), ?_, ?_, FX.tr (FX.set (Nat.le_refl _) (by omega)) FX.pP⟩
    · refine (b_66 _ _ _).trans ?_; show am_ev _ 66 0 [some (.ref v), none] [] _ = _
      simp only [e_66_0, e_66_1, e_66_2, e_66_4, e_66_7, e_66_8, e_66_9, e_66_10, e_66_13, e_66_14, e_66_15, e_66_16, e_66_19, e_66_20, e_66_23, e_66_24, lg_n, lg_i, lg_r, wd_nil, am_wd_i, am_wd_r, am_wd_l, am_gk_s, am_fld_s, List.getElem?_cons_zero, List.getElem?_cons_succ, am_bk_v, am_bk_n, bo_0, bo_1, am_pk_s, List.length_cons, List.length_nil, Nat.zero_add, List.set_cons_zero, List.set_cons_succ, Nat.reduceAdd, Nat.reduceLeDiff, Nat.reduceLT, k6, e2, e7, hrn, if_neg (nm1 (show y < 2 ^ 31 by omega)), if_neg hx, r2, is_plan hX1.2, cI_s, hcl]
    · rw [if_neg hx, Nat.add_sub_cancel]
      exact hX1.pl _
theorem m_readRoom (hX : RX h v t n c b e D) (he : e ≤ n) : ∃ h', am_cal (d + 4) 67 [.ref v] h = some (some (.int (if numN t n (tkB t n e) (tkE t n e) 1 4 = 0 then 0 else 1)), h') ∧ RX h' v t n c (tkB t n e) (tkE t n e) (if numN t n (tkB t n e) (tkE t n e) 1 4 = 0 then D else (D.1, numN t n (tkB t n e) (tkE t n e) 1 4 - 1, D.2.2)) ∧ FX h h' v := by
  obtain ⟨k0, k1, k2, k3, k4, k5, k6⟩ := hX.1.fl
  have hrn := m_readNumber (d := d) hX.1 he (show 1 < 2 ^ 31 by decide) (show 4 < 2 ^ 31 by decide)
  have hbd := numN_bd t n (tkB t n e) (tkE t n e) 1 4
  have hX1 := hX.set c (tkB t n e) (tkE t n e)
  generalize numN t n (tkB t n e) (tkE t n e) 1 4 = x at *
  generalize tkB t n e = B at *
  generalize tkE t n e = E at *
  obtain ⟨r0, r1, r2, r3, r4, r5, r6⟩ := hX1.1.fl
  have e2 : (1 : Int32) = nI 1 := by decide +kernel
  have e7 : (4 : Int32) = nI 4 := by decide +kernel
  rw [← e2, ← e7] at hrn
  by_cases hx : x = 0
  · refine ⟨_, ?_, by rw [if_pos hx]; exact hX1, FX.set (Nat.le_refl _) (by omega)⟩
    refine (b_67 _ _ _).trans ?_; show am_ev _ 67 0 [some (.ref v), none] [] _ = _
    simp only [e_67_0, e_67_1, e_67_2, e_67_3, e_67_6, e_67_7, e_67_8, e_67_9, e_67_12, e_67_13, e_67_14, e_67_15, e_67_18, e_67_19, e_67_22, e_67_23, lg_n, lg_i, lg_r, wd_nil, am_wd_i, am_wd_r, am_wd_l, am_gk_s, am_fld_s, List.getElem?_cons_zero, List.getElem?_cons_succ, am_bk_v, am_bk_n, bo_0, bo_1, am_pk_s, List.length_cons, List.length_nil, Nat.zero_add, List.set_cons_zero, List.set_cons_succ, Nat.reduceAdd, Nat.reduceLeDiff, Nat.reduceLT, k6, hrn, cI_m1 (show x < 2 ^ 30 by omega), if_pos hx]
  · obtain ⟨y, rfl⟩ : ∃ y, x = y + 1 := ⟨x - 1, by omega⟩
    have hp0 := hX1.2.1
    unfold plan0 at hp0
    have hse : am_set (am_set h v (rd0 v n c B E)) (v + 2) (plan0 (v + 2) (D.1, y, D.2.2)) = pP (am_set h v (rd0 v n c B E)) (v + 2) (D.1, y, D.2.2) := by
      have := set_pP0 (h := am_set h v (rd0 v n c B E)) (b := v + 2) (P := D) D.1 y D.2.2.1 D.2.2.2.1
      rw [pP_self hX1.2] at this
      exact this
    refine ⟨pP (am_set h v (rd0 v n c B E)) (v + 2) (D.1, y, D.2.2), ?_, ?_, FX.tr (FX.set (Nat.le_refl _) (by omega)) FX.pP⟩
    · rw [← hse]
      refine (b_67 _ _ _).trans ?_; show am_ev _ 67 0 [some (.ref v), none] [] _ = _
      simp only [e_67_0, e_67_1, e_67_2, e_67_3, e_67_6, e_67_7, e_67_8, e_67_9, e_67_12, e_67_13, e_67_14, e_67_15, e_67_18, e_67_19, e_67_22, e_67_23, lg_n, lg_i, lg_r, wd_nil, am_wd_i, am_wd_r, am_wd_l, am_gk_s, am_fld_s, List.getElem?_cons_zero, List.getElem?_cons_succ, am_bk_v, am_bk_n, bo_0, bo_1, am_pk_s, List.length_cons, List.length_nil, Nat.zero_add, List.set_cons_zero, List.set_cons_succ, Nat.reduceAdd, Nat.reduceLeDiff, Nat.reduceLT, k6, hrn, if_neg (nm1 (show y < 2 ^ 31 by omega)), if_neg hx, r2, hp0, cI_s]
      rfl
    · rw [if_neg hx, Nat.add_sub_cancel]
      exact hX1.pl _
theorem m_readShut (hX : RX h v t n c b e D) (he : e ≤ n) (hD : OKD D) : ∃ h', am_cal (d + 4) 68 [.ref v] h = some (some (.int (if numN t n (tkB t n e) (tkE t n e) 0 (2 * D.1 - 1) = 0 then 0 else 1)), h') ∧ RX h' v t n c (tkB t n e) (tkE t n e) (if numN t n (tkB t n e) (tkE t n e) 0 (2 * D.1 - 1) = 0 then D else (D.1, D.2.1, D.2.2.1 ||| 2 ^ (numN t n (tkB t n e) (tkE t n e) 0 (2 * D.1 - 1) - 1), D.2.2.2)) ∧ FX h h' v := by
  obtain ⟨k0, k1, k2, k3, k4, k5, k6⟩ := hX.1.fl
  obtain ⟨oP, q1, q2, -⟩ := hD
  have hrn := m_readNumber (d := d) hX.1 he (show 0 < 2 ^ 31 by decide) (show 2 * D.1 - 1 < 2 ^ 31 by omega)
  have hbd := numN_bd t n (tkB t n e) (tkE t n e) 0 (2 * D.1 - 1)
  have hX1 := hX.set c (tkB t n e) (tkE t n e)
  generalize numN t n (tkB t n e) (tkE t n e) 0 (2 * D.1 - 1) = x at *
  generalize tkB t n e = B at *
  generalize tkE t n e = E at *
  obtain ⟨r0, r1, r2, r3, r4, r5, r6⟩ := hX1.1.fl
  have e2 : nI (2 * D.1) - 1 = nI (2 * D.1 - 1) := by rw [show (1 : Int32) = nI 1 by decide +kernel, pk_sub (by omega)]
  rw [nI_0] at hrn
  by_cases hx : x = 0
  · refine ⟨_, ?_, by rw [if_pos hx]; exact hX1, FX.set (Nat.le_refl _) (by omega)⟩
    refine (b_68 _ _ _).trans ?_; show am_ev _ 68 0 [some (.ref v), none] [] _ = _
    simp only [e_68_0, e_68_1, e_68_2, e_68_3, e_68_6, e_68_9, e_68_10, e_68_11, e_68_14, e_68_15, e_68_16, e_68_17, e_68_20, e_68_21, e_68_22, e_68_23, e_68_26, e_68_27, e_68_30, e_68_31, e_68_32, e_68_33, e_68_34, e_68_37, e_68_38, lg_n, lg_i, lg_r, wd_nil, am_wd_i, am_wd_r, am_wd_l, am_gk_s, am_fld_s, List.getElem?_cons_zero, List.getElem?_cons_succ, am_bk_v, am_bk_n, bo_0, bo_1, am_pk_s, List.length_cons, List.length_nil, Nat.zero_add, List.set_cons_zero, List.set_cons_succ, Nat.reduceAdd, Nat.reduceLeDiff, Nat.reduceLT, k2, k6, is_plan hX.2, m_ring hX.2, e2, hrn, cI_m1 (show x < 2 ^ 30 by omega), if_pos hx]
  · obtain ⟨y, rfl⟩ : ∃ y, x = y + 1 := ⟨x - 1, by omega⟩
    have hp0 := hX1.2.1
    unfold plan0 at hp0
    have hse : am_set (am_set h v (rd0 v n c B E)) (v + 2) (plan0 (v + 2) (D.1, D.2.1, D.2.2.1 ||| 2 ^ y, D.2.2.2)) = pP (am_set h v (rd0 v n c B E)) (v + 2) (D.1, D.2.1, D.2.2.1 ||| 2 ^ y, D.2.2.2) := by
      have := set_pP0 (h := am_set h v (rd0 v n c B E)) (b := v + 2) (P := D) D.1 D.2.1 (D.2.2.1 ||| 2 ^ y) D.2.2.2.1
      rw [pP_self hX1.2] at this
      exact this
    refine ⟨pP (am_set h v (rd0 v n c B E)) (v + 2) (D.1, D.2.1, D.2.2.1 ||| 2 ^ y, D.2.2.2), ?_, ?_, FX.tr (FX.set (Nat.le_refl _) (by omega)) FX.pP⟩
    · rw [← hse]
      refine (b_68 _ _ _).trans ?_; show am_ev _ 68 0 [some (.ref v), none] [] _ = _
      simp only [e_68_0, e_68_1, e_68_2, e_68_3, e_68_6, e_68_9, e_68_10, e_68_11, e_68_14, e_68_15, e_68_16, e_68_17, e_68_20, e_68_21, e_68_22, e_68_23, e_68_26, e_68_27, e_68_30, e_68_31, e_68_32, e_68_33, e_68_34, e_68_37, e_68_38, lg_n, lg_i, lg_r, wd_nil, am_wd_i, am_wd_r, am_wd_l, am_gk_s, am_fld_s, List.getElem?_cons_zero, List.getElem?_cons_succ, am_bk_v, am_bk_n, bo_0, bo_1, am_pk_s, List.length_cons, List.length_nil, Nat.zero_add, List.set_cons_zero, List.set_cons_succ, Nat.reduceAdd, Nat.reduceLeDiff, Nat.reduceLT, k2, k6, is_plan hX.2, m_ring hX.2, e2, hrn, if_neg (nm1 (show y < 2 ^ 31 by omega)), if_neg hx, r2, hp0, cI_s, sh1 y (by omega), fa_or]
      rfl
    · rw [if_neg hx, Nat.add_sub_cancel]
      exact hX1.pl _
theorem m_readPerson (hX : RX h v t n c b e D) (he : e ≤ n) (hD : OKD D) (hn8 : D.2.2.2.1 < 8) {k : Nat} (hk : k < 5) : ∃ h', am_cal (d + 4) 69 [.ref v, .ref (1000002 + k)] h = some (some (.int (if numN t n (tkB t n e) (tkE t n e) 0 (D.1 - 1) = 0 then 0 else if numN t n (tkB t n (tkE t n e)) (tkE t n (tkE t n e)) 0 (D.1 - 1) = 0 ∨ numN t n (tkB t n (tkE t n e)) (tkE t n (tkE t n e)) 0 (D.1 - 1) = numN t n (tkB t n e) (tkE t n e) 0 (D.1 - 1) then 0 else 1)), h') ∧ RX h' v t n c (if numN t n (tkB t n e) (tkE t n e) 0 (D.1 - 1) = 0 then tkB t n e else tkB t n (tkE t n e)) (if numN t n (tkB t n e) (tkE t n e) 0 (D.1 - 1) = 0 then tkE t n e else tkE t n (tkE t n e)) (if numN t n (tkB t n e) (tkE t n e) 0 (D.1 - 1) = 0 then D else if numN t n (tkB t n (tkE t n e)) (tkE t n (tkE t n e)) 0 (D.1 - 1) = 0 ∨ numN t n (tkB t n (tkE t n e)) (tkE t n (tkE t n e)) 0 (D.1 - 1) = numN t n (tkB t n e) (tkE t n e) 0 (D.1 - 1) then D else admN D k (numN t n (tkB t n e) (tkE t n e) 0 (D.1 - 1) - 1) (numN t n (tkB t n (tkE t n e)) (tkE t n (tkE t n e)) 0 (D.1 - 1) - 1)) ∧ FX h h' v := by
  obtain ⟨k0, k1, k2, k3, k4, k5, k6⟩ := hX.1.fl
  obtain ⟨oP, q1, q2, -⟩ := hD
  have hle := tk_le t he
  have hrn := m_readNumber (d := d) hX.1 he (show 0 < 2 ^ 31 by decide) (show D.1 - 1 < 2 ^ 31 by omega)
  have hbd := numN_bd t n (tkB t n e) (tkE t n e) 0 (D.1 - 1)
  have hX1 := hX.set c (tkB t n e) (tkE t n e)
  have hX2 := hX.set c (tkB t n (tkE t n e)) (tkE t n (tkE t n e))
  have hrn2 := m_readNumber (d := d) hX1.1 hle.2.2.2 (show 0 < 2 ^ 31 by decide) (show D.1 - 1 < 2 ^ 31 by omega)
  have hbd2 := numN_bd t n (tkB t n (tkE t n e)) (tkE t n (tkE t n e)) 0 (D.1 - 1)
  rw [set_set] at hrn2
  generalize numN t n (tkB t n e) (tkE t n e) 0 (D.1 - 1) = x at *
  generalize numN t n (tkB t n (tkE t n e)) (tkE t n (tkE t n e)) 0 (D.1 - 1) = y at *
  generalize tkB t n (tkE t n e) = B2 at *
  generalize tkE t n (tkE t n e) = E2 at *
  generalize tkB t n e = B at *
  generalize tkE t n e = E at *
  obtain ⟨r0, r1, r2, r3, r4, r5, r6⟩ := hX1.1.fl
  obtain ⟨s0, s1, s2, s3, s4, s5, s6⟩ := hX2.1.fl
  have e2 : nI D.1 - 1 = nI (D.1 - 1) := by rw [show (1 : Int32) = nI 1 by decide +kernel, pk_sub (by omega)]
  obtain ⟨f0, -⟩ := fl_plan hX.2
  obtain ⟨f0', -⟩ := fl_plan hX1.2
  rw [nI_0] at hrn hrn2
  by_cases hx : x = 0
  · refine ⟨_, ?_, by rw [if_pos hx, if_pos hx, if_pos hx]; exact hX1, FX.set (Nat.le_refl _) (by omega)⟩
    refine (b_69 _ _ _).trans ?_; show am_ev _ 69 0 [some (.ref v), some (.ref (1000002 + k)), none, none] [] _ = _
    simp only [e_69_0, e_69_1, e_69_2, e_69_3, e_69_6, e_69_9, e_69_10, e_69_11, e_69_14, e_69_15, e_69_16, e_69_17, e_69_20, e_69_21, e_69_22, e_69_23, e_69_24, e_69_25, e_69_28, e_69_31, e_69_32, e_69_33, e_69_36, e_69_37, e_69_38, e_69_39, e_69_42, e_69_43, e_69_44, e_69_47, e_69_48, e_69_49, e_69_50, e_69_53, e_69_54, e_69_55, e_69_56, e_69_59, e_69_60, lg_n, lg_i, lg_r, wd_nil, am_wd_i, am_wd_r, am_wd_l, am_gk_s, am_fld_s, List.getElem?_cons_zero, List.getElem?_cons_succ, am_bk_v, am_bk_n, bo_0, bo_1, am_pk_s, List.length_cons, List.length_nil, Nat.zero_add, List.set_cons_zero, List.set_cons_succ, Nat.reduceAdd, Nat.reduceLeDiff, Nat.reduceLT, k2, k6, f0, e2, hrn, cI_m1 (show x < 2 ^ 30 by omega), if_pos hx]
  · obtain ⟨x, rfl⟩ : ∃ y, x = y + 1 := ⟨x - 1, by omega⟩
    by_cases hy : y = 0
    · refine ⟨_, ?_, by rw [if_neg hx, if_neg hx, if_neg hx, if_pos (Or.inl hy)]; exact hX2, FX.set (Nat.le_refl _) (by omega)⟩
      refine (b_69 _ _ _).trans ?_; show am_ev _ 69 0 [some (.ref v), some (.ref (1000002 + k)), none, none] [] _ = _
      simp only [e_69_0, e_69_1, e_69_2, e_69_3, e_69_6, e_69_9, e_69_10, e_69_11, e_69_14, e_69_15, e_69_16, e_69_17, e_69_20, e_69_21, e_69_22, e_69_23, e_69_24, e_69_25, e_69_28, e_69_31, e_69_32, e_69_33, e_69_36, e_69_37, e_69_38, e_69_39, e_69_42, e_69_43, e_69_44, e_69_47, e_69_48, e_69_49, e_69_50, e_69_53, e_69_54, e_69_55, e_69_56, e_69_59, e_69_60, lg_n, lg_i, lg_r, wd_nil, am_wd_i, am_wd_r, am_wd_l, am_gk_s, am_fld_s, List.getElem?_cons_zero, List.getElem?_cons_succ, am_bk_v, am_bk_n, bo_0, bo_1, am_pk_s, List.length_cons, List.length_nil, Nat.zero_add, List.set_cons_zero, List.set_cons_succ, Nat.reduceAdd, Nat.reduceLeDiff, Nat.reduceLT, k2, k6, f0, e2, hrn, if_neg (nm1 (show x < 2 ^ 31 by omega)), if_neg hx, r2, r6, f0', hrn2, cI_m1 (show x + 1 < 2 ^ 30 by omega), cI_m1 (show y < 2 ^ 30 by omega), if_pos hy, if_pos (Or.inl hy : y = 0 ∨ y = x + 1)]
    · obtain ⟨y, rfl⟩ : ∃ z, y = z + 1 := ⟨y - 1, by omega⟩
      by_cases hxy : y = x
      · refine ⟨_, ?_, by rw [if_neg hx, if_neg hx, if_neg hx, if_pos (Or.inr (by omega))]; exact hX2, FX.set (Nat.le_refl _) (by omega)⟩
        refine (b_69 _ _ _).trans ?_; show am_ev _ 69 0 [some (.ref v), some (.ref (1000002 + k)), none, none] [] _ = _
        simp only [e_69_0, e_69_1, e_69_2, e_69_3, e_69_6, e_69_9, e_69_10, e_69_11, e_69_14, e_69_15, e_69_16, e_69_17, e_69_20, e_69_21, e_69_22, e_69_23, e_69_24, e_69_25, e_69_28, e_69_31, e_69_32, e_69_33, e_69_36, e_69_37, e_69_38, e_69_39, e_69_42, e_69_43, e_69_44, e_69_47, e_69_48, e_69_49, e_69_50, e_69_53, e_69_54, e_69_55, e_69_56, e_69_59, e_69_60, lg_n, lg_i, lg_r, wd_nil, am_wd_i, am_wd_r, am_wd_l, am_gk_s, am_fld_s, List.getElem?_cons_zero, List.getElem?_cons_succ, am_bk_v, am_bk_n, bo_0, bo_1, am_pk_s, List.length_cons, List.length_nil, Nat.zero_add, List.set_cons_zero, List.set_cons_succ, Nat.reduceAdd, Nat.reduceLeDiff, Nat.reduceLT, k2, k6, f0, e2, hrn, if_neg (nm1 (show x < 2 ^ 31 by omega)), if_neg hx, r2, r6, f0', hrn2, if_neg (nm1 (show y < 2 ^ 31 by omega)), if_neg hy, cI_s, nI_eq (show y < 2 ^ 31 by omega) (show x < 2 ^ 31 by omega), if_pos hxy, if_pos (Or.inr (by omega) : y + 1 = 0 ∨ y + 1 = x + 1)]
      · have had := m_admit (d := d + 1) hX2.1.1 hX2.2 (by have := hX.1.2.2.2.2.1; omega) hk hn8 x y
        have hno : ¬ (y + 1 = 0 ∨ y + 1 = x + 1) := by omega
        refine ⟨pP (am_set h v (rd0 v n c B2 E2)) (v + 2) (admN D k x y), ?_, by rw [if_neg hx, if_neg hx, if_neg hx, if_neg hno]; exact hX2.pl _, FX.tr (FX.set (Nat.le_refl _) (by omega)) FX.pP⟩
        refine (b_69 _ _ _).trans ?_; show am_ev _ 69 0 [some (.ref v), some (.ref (1000002 + k)), none, none] [] _ = _
        simp only [e_69_0, e_69_1, e_69_2, e_69_3, e_69_6, e_69_9, e_69_10, e_69_11, e_69_14, e_69_15, e_69_16, e_69_17, e_69_20, e_69_21, e_69_22, e_69_23, e_69_24, e_69_25, e_69_28, e_69_31, e_69_32, e_69_33, e_69_36, e_69_37, e_69_38, e_69_39, e_69_42, e_69_43, e_69_44, e_69_47, e_69_48, e_69_49, e_69_50, e_69_53, e_69_54, e_69_55, e_69_56, e_69_59, e_69_60, lg_n, lg_i, lg_r, wd_nil, am_wd_i, am_wd_r, am_wd_l, am_gk_s, am_fld_s, List.getElem?_cons_zero, List.getElem?_cons_succ, am_bk_v, am_bk_n, bo_0, bo_1, am_pk_s, List.length_cons, List.length_nil, Nat.zero_add, List.set_cons_zero, List.set_cons_succ, Nat.reduceAdd, Nat.reduceLeDiff, Nat.reduceLT, k2, k6, f0, e2, hrn, if_neg (nm1 (show x < 2 ^ 31 by omega)), if_neg hx, r2, r6, f0', hrn2, if_neg (nm1 (show y < 2 ^ 31 by omega)), if_neg hy, cI_s, nI_eq (show y < 2 ^ 31 by omega) (show x < 2 ^ 31 by omega), if_neg hxy, if_neg hno, s2, is_plan hX2.2, had]
theorem l_kinds (hX : RX h v t n c b e D) (hbe : b ≤ e) (he : e ≤ n) (hD : OKD D) : ∀ j k (z : Option Value), k + j = 5 → (∀ i, i < k → ¬ wordL t b e = wdN i) → ∃ h', (∀ i, i < 5 → wordL t b e = wdN i → am_ev (d + 5) 65 48 [some (.ref v), some (.int (nI k)), z] [] h = some (some (.int (if 8 ≤ D.2.2.2.1 then 0 else if numN t n (tkB t n e) (tkE t n e) 0 (D.1 - 1) = 0 then 0 else if numN t n (tkB t n (tkE t n e)) (tkE t n (tkE t n e)) 0 (D.1 - 1) = 0 ∨ numN t n (tkB t n (tkE t n e)) (tkE t n (tkE t n e)) 0 (D.1 - 1) = numN t n (tkB t n e) (tkE t n e) 0 (D.1 - 1) then 0 else 1)), h') ∧ RX h' v t n c (if 8 ≤ D.2.2.2.1 then b else if numN t n (tkB t n e) (tkE t n e) 0 (D.1 - 1) = 0 then tkB t n e else tkB t n (tkE t n e)) (if 8 ≤ D.2.2.2.1 then e else if numN t n (tkB t n e) (tkE t n e) 0 (D.1 - 1) = 0 then tkE t n e else tkE t n (tkE t n e)) (if 8 ≤ D.2.2.2.1 then D else if numN t n (tkB t n e) (tkE t n e) 0 (D.1 - 1) = 0 then D else if numN t n (tkB t n (tkE t n e)) (tkE t n (tkE t n e)) 0 (D.1 - 1) = 0 ∨ numN t n (tkB t n (tkE t n e)) (tkE t n (tkE t n e)) 0 (D.1 - 1) = numN t n (tkB t n e) (tkE t n e) 0 (D.1 - 1) then D else admN D i (numN t n (tkB t n e) (tkE t n e) 0 (D.1 - 1) - 1) (numN t n (tkB t n (tkE t n e)) (tkE t n (tkE t n e)) 0 (D.1 - 1) - 1))) ∧ ((∀ i, i < 5 → ¬ wordL t b e = wdN i) → h' = h ∧ am_ev (d + 5) 65 48 [some (.ref v), some (.int (nI k)), z] [] h = some (some (.int 0), h)) ∧ FX h h' v := by
  obtain ⟨k0, k1, k2, k3, k4, k5, k6⟩ := hX.1.fl
  have e5 : (5 : Int32) = nI 5 := by decide +kernel
  intro j
  induction j with
  | zero =>
    intro k z hk hno
    have : k = 5 := by omega
    subst this
    refine ⟨h, fun i hi hw => absurd hw (hno i hi), fun _ => ⟨rfl, ?_⟩, FX.rf⟩
    rw [e_65_48]
    simp only [e_65_49, e_65_50, e_65_53, e_65_99, e_65_100, lg_n, lg_i, lg_r, wd_nil, am_wd_i, am_wd_r, am_wd_l, am_gk_s, am_fld_s, List.getElem?_cons_zero, List.getElem?_cons_succ, am_bk_v, am_bk_n, bo_0, bo_1, am_pk_s, List.length_cons, List.length_nil, Nat.zero_add, List.set_cons_zero, List.set_cons_succ, Nat.reduceAdd, Nat.reduceLeDiff, Nat.reduceLT, e5, nI_leI (show 5 < 2 ^ 31 by omega) (show 5 < 2 ^ 31 by omega), Nat.le_refl, if_true]
  | succ j ih =>
    intro k z hk hno
    have hk5 : k < 5 := by omega
    obtain ⟨q0, q1, q2, q3, q4⟩ := fl_kind hX.1.1 hk5
    have hsp := m_spells (d := d) hX.1 hbe he (show k < 8 by omega)
    have uni : ∀ i, i < 5 → wdN k = wdN i → i = k := by
      intro i hi
      have : ∀ k, k < 5 → ∀ i, i < 5 → wdN k = wdN i → i = k := by decide
      exact this k hk5 i hi
    by_cases hw : wordL t b e = wdN k
    · rw [if_pos hw] at hsp
      have hcr := m_isCrowded (d := d + 4) hX.2 (show D.2.2.2.1 < 2 ^ 31 by have := hD.1.2.2.2.1; omega)
      by_cases h8 : 8 ≤ D.2.2.2.1
      · rw [if_pos h8] at hcr
        refine ⟨h, fun i hi hwi => ⟨?_, ?_⟩, fun hno' => absurd hw (hno' k hk5), FX.rf⟩
        · rw [e_65_48]
          simp only [e_65_49, e_65_50, e_65_53, e_65_54, e_65_57, e_65_58, e_65_59, e_65_60, e_65_63, e_65_66, e_65_69, e_65_70, e_65_73, e_65_76, e_65_79, e_65_80, e_65_81, e_65_84, e_65_87, e_65_88, e_65_91, e_65_92, lg_n, lg_i, lg_r, wd_nil, am_wd_i, am_wd_r, am_wd_l, am_gk_s, am_fld_s, List.getElem?_cons_zero, List.getElem?_cons_succ, am_bk_v, am_bk_n, bo_0, bo_1, am_pk_s, List.length_cons, List.length_nil, Nat.zero_add, List.set_cons_zero, List.set_cons_succ, Nat.reduceAdd, Nat.reduceLeDiff, Nat.reduceLT, e5, nI_leI (show 5 < 2 ^ 31 by omega) (show k < 2 ^ 31 by omega), if_neg (show ¬ 5 ≤ k by omega), m_numbered hk5, q1, k2, k6, hsp, is_plan hX.2, hcr, one_ne, if_false, if_pos h8]
        · rw [if_pos h8, if_pos h8, if_pos h8]; exact hX
      · rw [if_neg h8] at hcr
        obtain ⟨h', e', X', F'⟩ := m_readPerson (d := d + 1) hX he hD (by omega) hk5
        refine ⟨h', fun i hi hwi => ⟨?_, ?_⟩, fun hno' => absurd hw (hno' k hk5), F'⟩
        · have : i = k := uni i hi (hw.symm.trans hwi)
          subst this
          rw [e_65_48]
          simp only [e_65_49, e_65_50, e_65_53, e_65_54, e_65_57, e_65_58, e_65_59, e_65_60, e_65_63, e_65_66, e_65_69, e_65_70, e_65_73, e_65_76, e_65_79, e_65_80, e_65_81, lg_n, lg_i, lg_r, wd_nil, am_wd_i, am_wd_r, am_wd_l, am_gk_s, am_fld_s, List.getElem?_cons_zero, List.getElem?_cons_succ, am_bk_v, am_bk_n, bo_0, bo_1, am_pk_s, List.length_cons, List.length_nil, Nat.zero_add, List.set_cons_zero, List.set_cons_succ, Nat.reduceAdd, Nat.reduceLeDiff, Nat.reduceLT, e5, nI_leI (show 5 < 2 ^ 31 by omega) (show i < 2 ^ 31 by omega), if_neg (show ¬ 5 ≤ i by omega), m_numbered hk5, q1, k2, k6, hsp, is_plan hX.2, hcr, one_ne, if_false, if_neg h8, if_true, not_true_eq_false, e']
          have hx01 : ∀ (p q : Prop) [Decidable p] [Decidable q], (if p then (0 : Int32) else if q then 0 else 1) = 0 ∨ (if p then (0 : Int32) else if q then 0 else 1) = 1 := by
            intro p q _ _
            by_cases hp : p <;> by_cases hq : q <;> simp [hp, hq]
          have hx := hx01 (numN t n (tkB t n e) (tkE t n e) 0 (D.1 - 1) = 0) (numN t n (tkB t n (tkE t n e)) (tkE t n (tkE t n e)) 0 (D.1 - 1) = 0 ∨ numN t n (tkB t n (tkE t n e)) (tkE t n (tkE t n e)) 0 (D.1 - 1) = numN t n (tkB t n e) (tkE t n e) 0 (D.1 - 1))
          generalize (if numN t n (tkB t n e) (tkE t n e) 0 (D.1 - 1) = 0 then (0 : Int32) else if numN t n (tkB t n (tkE t n e)) (tkE t n (tkE t n e)) 0 (D.1 - 1) = 0 ∨ numN t n (tkB t n (tkE t n e)) (tkE t n (tkE t n e)) 0 (D.1 - 1) = numN t n (tkB t n e) (tkE t n e) 0 (D.1 - 1) then 0 else 1) = x at *
          rcases hx with hx | hx <;> simp only [hx, e_65_84, e_65_87, e_65_88, e_65_91, e_65_92, lg_n, lg_i, lg_r, wd_nil, am_wd_i, am_wd_r, am_wd_l, am_gk_s, am_fld_s, List.getElem?_cons_zero, List.getElem?_cons_succ, am_bk_v, am_bk_n, bo_0, bo_1, am_pk_s, List.length_cons, List.length_nil, Nat.zero_add, List.set_cons_zero, List.set_cons_succ, Nat.reduceAdd, Nat.reduceLeDiff, Nat.reduceLT, one_ne, if_true, if_false]
        · have : i = k := uni i hi (hw.symm.trans hwi)
          subst this
          rw [if_neg h8, if_neg h8, if_neg h8]; exact X'
    · rw [if_neg hw] at hsp
      obtain ⟨h', a1, a2, a3⟩ := ih (k + 1) (some (.ref (1000002 + k))) (by omega) (fun i hi => by
        by_cases hik : i = k
        · subst hik; exact hw
        · exact hno i (by omega))
      refine ⟨h', fun i hi hwi => ?_, fun hno' => ?_, a3⟩
      · obtain ⟨b1, b2⟩ := a1 i hi hwi
        refine ⟨?_, b2⟩
        rw [e_65_48]
        simp only [e_65_49, e_65_50, e_65_53, e_65_54, e_65_57, e_65_58, e_65_59, e_65_60, e_65_63, e_65_66, e_65_93, e_65_96, lg_n, lg_i, lg_r, wd_nil, am_wd_i, am_wd_r, am_wd_l, am_gk_s, am_fld_s, List.getElem?_cons_zero, List.getElem?_cons_succ, am_bk_v, am_bk_n, bo_0, bo_1, am_pk_s, List.length_cons, List.length_nil, Nat.zero_add, List.set_cons_zero, List.set_cons_succ, Nat.reduceAdd, Nat.reduceLeDiff, Nat.reduceLT, e5, nI_leI (show 5 < 2 ^ 31 by omega) (show k < 2 ^ 31 by omega), if_neg (show ¬ 5 ≤ k by omega), m_numbered hk5, q1, k6, hsp, if_true, nI_1]
        exact b1
      · obtain ⟨b1, b2⟩ := a2 hno'
        refine ⟨b1, ?_⟩
        rw [e_65_48]
        simp only [e_65_49, e_65_50, e_65_53, e_65_54, e_65_57, e_65_58, e_65_59, e_65_60, e_65_63, e_65_66, e_65_93, e_65_96, lg_n, lg_i, lg_r, wd_nil, am_wd_i, am_wd_r, am_wd_l, am_gk_s, am_fld_s, List.getElem?_cons_zero, List.getElem?_cons_succ, am_bk_v, am_bk_n, bo_0, bo_1, am_pk_s, List.length_cons, List.length_nil, Nat.zero_add, List.set_cons_zero, List.set_cons_succ, Nat.reduceAdd, Nat.reduceLeDiff, Nat.reduceLT, e5, nI_leI (show 5 < 2 ^ 31 by omega) (show k < 2 ^ 31 by omega), if_neg (show ¬ 5 ≤ k by omega), m_numbered hk5, q1, k6, hsp, if_true, nI_1]
        exact b2
theorem m_readClause (hX : RX h v t n c b e D) (he : e ≤ n) (hD : OKD D) : ∃ h', am_cal (d + 6) 65 [.ref v] h = some (some (.int (nI (clN t n D e).1)), h') ∧ RX h' v t n c (clN t n D e).2.1 (clN t n D e).2.2.1 (clN t n D e).2.2.2 ∧ FX h h' v ∧ (clN t n D e).1 ≤ 1 ∧ (clN t n D e).2.2.1 ≤ n ∧ (clN t n D e).2.1 ≤ n := by
  obtain ⟨k0, k1, k2, k3, k4, k5, k6⟩ := hX.1.fl
  have hnt := m_nextTok (d := d + 3) hX.1 he
  have hle := tk_le t he
  have hle2 := tk_le t hle.2.2.2
  have hle3 := tk_le t hle2.2.2.2
  have hX1 := hX.set c (tkB t n e) (tkE t n e)
  have F1 : FX h (am_set h v (rd0 v n c (tkB t n e) (tkE t n e))) v := FX.set (Nat.le_refl _) (by omega)
  have hn := hX.1.2.2.2.1
  unfold clN
  simp only
  have sp5 := m_spells (d := d) hX1.1 hle.2.2.1 hle.2.2.2 (show 5 < 8 by decide)
  have sp6 := m_spells (d := d) hX1.1 hle.2.2.1 hle.2.2.2 (show 6 < 8 by decide)
  have sp7 := m_spells (d := d) hX1.1 hle.2.2.1 hle.2.2.2 (show 7 < 8 by decide)
  obtain ⟨h5, e5, X5, F5⟩ := m_readHall (d := d + 1) hX1 hle.2.2.2
  obtain ⟨h6, e6, X6, F6⟩ := m_readRoom (d := d + 1) hX1 hle.2.2.2
  obtain ⟨h7, e7, X7, F7⟩ := m_readShut (d := d + 1) hX1 hle.2.2.2 hD
  obtain ⟨h0, K1, K2, F0⟩ := l_kinds (d := d) hX1 hle.2.2.1 hle.2.2.2 hD 5 0 none (by omega) (fun i hi => absurd hi (Nat.not_lt_zero i))
  obtain ⟨r0, r1, r2, r3, r4, r5, r6⟩ := hX1.1.fl
  generalize tkB t n (tkE t n (tkE t n e)) = B3 at *
  generalize tkE t n (tkE t n (tkE t n e)) = E3 at *
  generalize tkB t n (tkE t n e) = B2 at *
  generalize tkE t n (tkE t n e) = E2 at *
  generalize tkB t n e = B at *
  generalize tkE t n e = E at *
  by_cases w5 : wordL t B E = wdN 5
  · have hk : kwN (wordL t B E) = 5 := by unfold kwN; rw [if_pos w5]
    rw [hk]
    rw [if_pos w5] at sp5
    simp only [if_true]
    refine ⟨h5, ?_, ?_, F1.tr F5, ?_⟩
    · refine (b_65 _ _ _).trans ?_; show am_ev _ 65 0 [some (.ref v), none, none] [] _ = _
      simp only [e_65_0, e_65_1, e_65_4, e_65_5, e_65_7, e_65_10, e_65_13, e_65_14, lg_n, lg_i, lg_r, wd_nil, am_wd_i, am_wd_r, am_wd_l, am_gk_s, am_fld_s, List.getElem?_cons_zero, List.getElem?_cons_succ, am_bk_v, am_bk_n, bo_0, bo_1, am_pk_s, List.length_cons, List.length_nil, Nat.zero_add, List.set_cons_zero, List.set_cons_succ, Nat.reduceAdd, Nat.reduceLeDiff, Nat.reduceLT, k6, r6, hnt, sp5, one_ne, if_false, e5]
      by_cases hz : numN t n B2 E2 2 7 = 0
      · simp only [if_pos hz, e_65_17, lg_n, lg_i, lg_r, wd_nil, am_wd_i, am_wd_r, am_wd_l, am_gk_s, am_fld_s, List.getElem?_cons_zero, List.getElem?_cons_succ, am_bk_v, am_bk_n, bo_0, bo_1, am_pk_s, List.length_cons, List.length_nil, Nat.zero_add, List.set_cons_zero, List.set_cons_succ, Nat.reduceAdd, Nat.reduceLeDiff, Nat.reduceLT]; rfl
      · simp only [if_neg hz, e_65_17, lg_n, lg_i, lg_r, wd_nil, am_wd_i, am_wd_r, am_wd_l, am_gk_s, am_fld_s, List.getElem?_cons_zero, List.getElem?_cons_succ, am_bk_v, am_bk_n, bo_0, bo_1, am_pk_s, List.length_cons, List.length_nil, Nat.zero_add, List.set_cons_zero, List.set_cons_succ, Nat.reduceAdd, Nat.reduceLeDiff, Nat.reduceLT]; rfl
    · by_cases hz : numN t n B2 E2 2 7 = 0
      · simp only [if_pos hz] at X5 ⊢; exact X5
      · simp only [if_neg hz] at X5 ⊢; exact X5
    · split <;> simp only <;> omega
  · rw [if_neg w5] at sp5
    by_cases w6 : wordL t B E = wdN 6
    · have hk : kwN (wordL t B E) = 6 := by unfold kwN; rw [if_neg w5, if_pos w6]
      rw [hk]
      rw [if_pos w6] at sp6
      simp only [if_true, if_neg (show ¬ 6 = 5 by decide)]
      refine ⟨h6, ?_, ?_, F1.tr F6, ?_⟩
      · refine (b_65 _ _ _).trans ?_; show am_ev _ 65 0 [some (.ref v), none, none] [] _ = _
        simp only [e_65_0, e_65_1, e_65_4, e_65_5, e_65_7, e_65_10, e_65_13, e_65_14, e_65_17, e_65_18, e_65_19, e_65_21, e_65_24, e_65_27, e_65_28, lg_n, lg_i, lg_r, wd_nil, am_wd_i, am_wd_r, am_wd_l, am_gk_s, am_fld_s, List.getElem?_cons_zero, List.getElem?_cons_succ, am_bk_v, am_bk_n, bo_0, bo_1, am_pk_s, List.length_cons, List.length_nil, Nat.zero_add, List.set_cons_zero, List.set_cons_succ, Nat.reduceAdd, Nat.reduceLeDiff, Nat.reduceLT, k6, r6, hnt, sp5, sp6, one_ne, if_false, if_true, e6]
        by_cases hz : numN t n B2 E2 1 4 = 0
        · simp only [if_pos hz, e_65_31, lg_n, lg_i, lg_r, wd_nil, am_wd_i, am_wd_r, am_wd_l, am_gk_s, am_fld_s, List.getElem?_cons_zero, List.getElem?_cons_succ, am_bk_v, am_bk_n, bo_0, bo_1, am_pk_s, List.length_cons, List.length_nil, Nat.zero_add, List.set_cons_zero, List.set_cons_succ, Nat.reduceAdd, Nat.reduceLeDiff, Nat.reduceLT]; rfl
        · simp only [if_neg hz, e_65_31, lg_n, lg_i, lg_r, wd_nil, am_wd_i, am_wd_r, am_wd_l, am_gk_s, am_fld_s, List.getElem?_cons_zero, List.getElem?_cons_succ, am_bk_v, am_bk_n, bo_0, bo_1, am_pk_s, List.length_cons, List.length_nil, Nat.zero_add, List.set_cons_zero, List.set_cons_succ, Nat.reduceAdd, Nat.reduceLeDiff, Nat.reduceLT]; rfl
      · by_cases hz : numN t n B2 E2 1 4 = 0
        · simp only [if_pos hz] at X6 ⊢; exact X6
        · simp only [if_neg hz] at X6 ⊢; exact X6
      · split <;> simp only <;> omega
    · rw [if_neg w6] at sp6
      by_cases w7 : wordL t B E = wdN 7
      · have hk : kwN (wordL t B E) = 7 := by unfold kwN; rw [if_neg w5, if_neg w6, if_pos w7]
        rw [hk]
        rw [if_pos w7] at sp7
        simp only [if_true, if_neg (show ¬ 7 = 5 by decide), if_neg (show ¬ 7 = 6 by decide)]
        refine ⟨h7, ?_, ?_, F1.tr F7, ?_⟩
        · refine (b_65 _ _ _).trans ?_; show am_ev _ 65 0 [some (.ref v), none, none] [] _ = _
          simp only [e_65_0, e_65_1, e_65_4, e_65_5, e_65_7, e_65_10, e_65_13, e_65_14, e_65_17, e_65_18, e_65_19, e_65_21, e_65_24, e_65_27, e_65_28, e_65_31, e_65_32, e_65_33, e_65_35, e_65_38, e_65_41, e_65_42, lg_n, lg_i, lg_r, wd_nil, am_wd_i, am_wd_r, am_wd_l, am_gk_s, am_fld_s, List.getElem?_cons_zero, List.getElem?_cons_succ, am_bk_v, am_bk_n, bo_0, bo_1, am_pk_s, List.length_cons, List.length_nil, Nat.zero_add, List.set_cons_zero, List.set_cons_succ, Nat.reduceAdd, Nat.reduceLeDiff, Nat.reduceLT, k6, r6, hnt, sp5, sp6, sp7, one_ne, if_false, if_true, e7]
          by_cases hz : numN t n B2 E2 0 (2 * D.1 - 1) = 0
          · simp only [if_pos hz, e_65_45, lg_n, lg_i, lg_r, wd_nil, am_wd_i, am_wd_r, am_wd_l, am_gk_s, am_fld_s, List.getElem?_cons_zero, List.getElem?_cons_succ, am_bk_v, am_bk_n, bo_0, bo_1, am_pk_s, List.length_cons, List.length_nil, Nat.zero_add, List.set_cons_zero, List.set_cons_succ, Nat.reduceAdd, Nat.reduceLeDiff, Nat.reduceLT]; rfl
          · simp only [if_neg hz, e_65_45, lg_n, lg_i, lg_r, wd_nil, am_wd_i, am_wd_r, am_wd_l, am_gk_s, am_fld_s, List.getElem?_cons_zero, List.getElem?_cons_succ, am_bk_v, am_bk_n, bo_0, bo_1, am_pk_s, List.length_cons, List.length_nil, Nat.zero_add, List.set_cons_zero, List.set_cons_succ, Nat.reduceAdd, Nat.reduceLeDiff, Nat.reduceLT]; rfl
        · by_cases hz : numN t n B2 E2 0 (2 * D.1 - 1) = 0
          · simp only [if_pos hz] at X7 ⊢; exact X7
          · simp only [if_neg hz] at X7 ⊢; exact X7
        · split <;> simp only <;> omega
      · rw [if_neg w7] at sp7
        have go : am_cal (d + 6) 65 [.ref v] h = am_ev (d + 5) 65 48 [some (.ref v), some (.int (nI 0)), none] [] (am_set h v (rd0 v n c B E)) := by
          refine (b_65 _ _ _).trans ?_; show am_ev _ 65 0 [some (.ref v), none, none] [] _ = _
          simp only [e_65_0, e_65_1, e_65_4, e_65_5, e_65_7, e_65_10, e_65_13, e_65_14, e_65_17, e_65_18, e_65_19, e_65_21, e_65_24, e_65_27, e_65_28, e_65_31, e_65_32, e_65_33, e_65_35, e_65_38, e_65_41, e_65_42, e_65_45, e_65_46, e_65_47, lg_n, lg_i, lg_r, wd_nil, am_wd_i, am_wd_r, am_wd_l, am_gk_s, am_fld_s, List.getElem?_cons_zero, List.getElem?_cons_succ, am_bk_v, am_bk_n, bo_0, bo_1, am_pk_s, List.length_cons, List.length_nil, Nat.zero_add, List.set_cons_zero, List.set_cons_succ, Nat.reduceAdd, Nat.reduceLeDiff, Nat.reduceLT, k6, r6, hnt, sp5, sp6, sp7, if_true]
          rfl
        by_cases hex : ∃ i, i < 5 ∧ wordL t B E = wdN i
        · obtain ⟨i, hi, wi⟩ := hex
          obtain ⟨K1a, K1b⟩ := K1 i hi wi
          have hk : kwN (wordL t B E) = i := by
            rw [wi]
            have : ∀ i, i < 5 → kwN (wdN i) = i := by decide
            exact this i hi
          rw [hk]
          simp only [if_neg (show ¬ i = 5 by omega), if_neg (show ¬ i = 6 by omega), if_neg (show ¬ i = 7 by omega), if_neg (show ¬ i = 8 by omega)]
          refine ⟨h0, ?_, ?_, F1.tr F0, ?_⟩
          · rw [go, K1a]
            repeat' split
            all_goals rfl
          · by_cases c1 : 8 ≤ D.2.2.2.1
            · simp only [if_pos c1] at K1b ⊢; exact K1b
            · simp only [if_neg c1] at K1b ⊢
              by_cases c2 : numN t n B2 E2 0 (D.1 - 1) = 0
              · simp only [if_pos c2] at K1b ⊢; exact K1b
              · simp only [if_neg c2] at K1b ⊢
                by_cases c3 : numN t n B3 E3 0 (D.1 - 1) = 0 ∨ numN t n B3 E3 0 (D.1 - 1) = numN t n B2 E2 0 (D.1 - 1)
                · simp only [if_pos c3] at K1b ⊢; exact K1b
                · simp only [if_neg c3] at K1b ⊢; exact K1b
          · repeat' split
            all_goals (simp only; omega)
        · have hno : ∀ i, i < 5 → ¬ wordL t B E = wdN i := fun i hi wi => hex ⟨i, hi, wi⟩
          have hk : kwN (wordL t B E) = 8 := by
            unfold kwN
            rw [if_neg w5, if_neg w6, if_neg w7, if_neg (hno 0 (by decide)), if_neg (hno 1 (by decide)), if_neg (hno 2 (by decide)), if_neg (hno 3 (by decide)), if_neg (hno 4 (by decide))]
          obtain ⟨K2a, K2b⟩ := K2 hno
          rw [hk]
          simp only [if_true, if_neg (show ¬ 8 = 5 by decide), if_neg (show ¬ 8 = 6 by decide), if_neg (show ¬ 8 = 7 by decide)]
          refine ⟨_, ?_, hX1, F1, ?_⟩
          · rw [go, K2b]; rfl
          · omega
theorem l_text : ∀ j c (h : am_H) (b e : Nat) (D : Pn) (x1 : Option Value), c + j = 24 → RX h v t n c b e D → e ≤ n → (j = 0 → b ≤ n) → OKD D → ∃ h' b' e' D', am_ev (d + 6) 64 18 [some (.ref v), x1] [] h = some (some (.int (cI ((rdN t n j c D e b).1 + 1))), h') ∧ RX h' v t n (rdN t n j c D e b).2.1 b' e' D' ∧ ((rdN t n j c D e b).1 = 0 → D' = (rdN t n j c D e b).2.2) ∧ OKD D' ∧ FX h h' v ∧ (rdN t n j c D e b).2.1 ≤ 24 ∧ (rdN t n j c D e b).1 ≤ 201 := by
  intro j
  have e24 : (24 : Int32) = nI 24 := by decide +kernel
  have e59 : (59 : Int32) = nI 59 := by decide +kernel
  induction j with
  | zero =>
    intro c h b e D x1 hc hX he hb hD
    obtain ⟨k0, k1, k2, k3, k4, k5, k6⟩ := hX.1.fl
    have hn := hX.1.2.2.2.1
    have : c = 24 := by omega
    subst this
    have hb := hb rfl
    refine ⟨h, b, e, D, ?_, hX, fun hz => absurd hz (by simp [rdN]), hD, FX.rf, by simp only [rdN]; omega, by simp only [rdN]; omega⟩
    rw [e_64_18]
    simp only [e_64_19, e_64_22, e_64_24, e_64_85, e_64_86, e_64_89, lg_n, lg_i, lg_r, wd_nil, am_wd_i, am_wd_r, am_wd_l, am_gk_s, am_fld_s, List.getElem?_cons_zero, List.getElem?_cons_succ, am_bk_v, am_bk_n, bo_0, bo_1, am_pk_s, List.length_cons, List.length_nil, Nat.zero_add, List.set_cons_zero, List.set_cons_succ, Nat.reduceAdd, Nat.reduceLeDiff, Nat.reduceLT, k3, k4, e24, nI_leI (show 24 < 2 ^ 31 by omega) (show 24 < 2 ^ 31 by omega), Nat.le_refl, if_true, rdN, cI_s]
  | succ j ih =>
    intro c h b e D x1 hc hX he hb hD
    obtain ⟨k0, k1, k2, k3, k4, k5, k6⟩ := hX.1.fl
    have hn := hX.1.2.2.2.1
    obtain ⟨h1, e1, X1, F1, l1, l2, l3⟩ := m_readClause (d := d) hX he hD
    have hD1 := hD.cl (t := t) (n := n) e
    unfold rdN
    simp only
    generalize clN t n D e = r at *
    obtain ⟨r0, r1, r2, r3, r4, r5, r6⟩ := X1.1.fl
    have hz : nI r.1 = 0 ↔ r.1 = 0 := z_nI (by omega)
    by_cases hr : r.1 = 0
    · simp only [if_pos hr]
      refine ⟨h1, _, _, _, ?_, X1, fun h0 => by omega, hD1, F1, by omega, by omega⟩
      rw [e_64_18]
      simp only [e_64_19, e_64_22, e_64_24, e_64_27, e_64_28, e_64_31, e_64_34, e_64_35, e_64_38, lg_n, lg_i, lg_r, wd_nil, am_wd_i, am_wd_r, am_wd_l, am_gk_s, am_fld_s, List.getElem?_cons_zero, List.getElem?_cons_succ, am_bk_v, am_bk_n, bo_0, bo_1, am_pk_s, List.length_cons, List.length_nil, Nat.zero_add, List.set_cons_zero, List.set_cons_succ, Nat.reduceAdd, Nat.reduceLeDiff, Nat.reduceLT, k3, e24, nI_leI (show 24 < 2 ^ 31 by omega) (show c < 2 ^ 31 by omega), if_neg (show ¬ 24 ≤ c by omega), k6, e1, hz, if_pos hr, r4, cI_s]
    · simp only [if_neg hr]
      have hle := tk_le t l2
      have X2 := X1.set (c + 1) r.2.1 r.2.2.1
      have hnt := m_nextTok (d := d + 4) X2.1 l2
      rw [set_set] at hnt
      have X3 := X1.set (c + 1) (tkB t n r.2.2.1) (tkE t n r.2.2.1)
      have F3 : FX h1 (am_set h1 v (rd0 v n (c + 1) (tkB t n r.2.2.1) (tkE t n r.2.2.1))) v := FX.set (Nat.le_refl _) (by omega)
      obtain ⟨s0, s1, s2, s3, s4, s5, s6⟩ := X2.1.fl
      obtain ⟨u0, u1, u2, u3, u4, u5, u6⟩ := X3.1.fl
      have hv1 := X1.1.2.1
      unfold rd0 at hv1
      have go : am_ev (d + 6) 64 18 [some (.ref v), x1] [] h = am_ev (d + 6) 64 53 [some (.ref v), x1] [] (am_set h1 v (rd0 v n (c + 1) (tkB t n r.2.2.1) (tkE t n r.2.2.1))) := by
        rw [e_64_18]
        simp only [e_64_19, e_64_22, e_64_24, e_64_27, e_64_28, e_64_31, e_64_34, e_64_35, e_64_38, e_64_39, e_64_40, e_64_41, e_64_44, e_64_45, e_64_46, lg_n, lg_i, lg_r, wd_nil, am_wd_i, am_wd_r, am_wd_l, am_gk_s, am_fld_s, List.getElem?_cons_zero, List.getElem?_cons_succ, am_bk_v, am_bk_n, bo_0, bo_1, am_pk_s, List.length_cons, List.length_nil, Nat.zero_add, List.set_cons_zero, List.set_cons_succ, Nat.reduceAdd, Nat.reduceLeDiff, Nat.reduceLT, k3, e24, nI_leI (show 24 < 2 ^ 31 by omega) (show c < 2 ^ 31 by omega), if_neg (show ¬ 24 ≤ c by omega), k6, e1, hz, if_neg hr, hv1, nI_1]
        change am_ev (d + 6) 64 49 _ _ (am_set h1 v (rd0 v n (c + 1) r.2.1 r.2.2.1)) = _
        simp only [e_64_49, e_64_50, lg_n, lg_i, lg_r, wd_nil, am_wd_i, am_wd_r, am_wd_l, am_gk_s, am_fld_s, List.getElem?_cons_zero, List.getElem?_cons_succ, am_bk_v, am_bk_n, bo_0, bo_1, am_pk_s, List.length_cons, List.length_nil, Nat.zero_add, List.set_cons_zero, List.set_cons_succ, Nat.reduceAdd, Nat.reduceLeDiff, Nat.reduceLT, s6, hnt]
      rw [go]
      by_cases hnb : n ≤ tkB t n r.2.2.1
      · simp only [if_pos hnb]
        refine ⟨_, _, _, _, ?_, X3, fun _ => rfl, hD1, F1.tr F3, by omega, by omega⟩
        simp only [e_64_53, e_64_54, e_64_57, e_64_58, e_64_61, e_64_64, e_64_65, lg_n, lg_i, lg_r, wd_nil, am_wd_i, am_wd_r, am_wd_l, am_gk_s, am_fld_s, List.getElem?_cons_zero, List.getElem?_cons_succ, am_bk_v, am_bk_n, bo_0, bo_1, am_pk_s, List.length_cons, List.length_nil, Nat.zero_add, List.set_cons_zero, List.set_cons_succ, Nat.reduceAdd, Nat.reduceLeDiff, Nat.reduceLT, u1, u4, nI_ltI (show tkB t n r.2.2.1 < 2 ^ 31 by omega) (show n < 2 ^ 31 by omega), if_neg (show ¬ tkB t n r.2.2.1 < n by omega)]
        rfl
      · simp only [if_neg hnb]
        have ht := X1.1.2.2.2.2.2 (tkB t n r.2.2.1)
        by_cases h59 : t (tkB t n r.2.2.1) = 59
        · simp only [if_pos h59]
          obtain ⟨h', b', e', D', a1, a2, a3, a4, a5, a6⟩ := ih (c + 1) _ _ _ _ x1 (by omega) X3 hle.2.2.2 (fun _ => hle.2.1) hD1
          refine ⟨h', b', e', D', ?_, a2, a3, a4, (F1.tr F3).tr a5, a6⟩
          rw [← a1]
          simp only [e_64_53, e_64_54, e_64_57, e_64_58, e_64_61, e_64_64, e_64_65, e_64_66, e_64_67, e_64_70, e_64_71, e_64_74, e_64_75, e_64_77, e_64_80, e_64_81, e_64_84, lg_n, lg_i, lg_r, wd_nil, am_wd_i, am_wd_r, am_wd_l, am_gk_s, am_fld_s, List.getElem?_cons_zero, List.getElem?_cons_succ, am_bk_v, am_bk_n, bo_0, bo_1, am_pk_s, List.length_cons, List.length_nil, Nat.zero_add, List.set_cons_zero, List.set_cons_succ, Nat.reduceAdd, Nat.reduceLeDiff, Nat.reduceLT, u0, u1, u4, nI_ltI (show tkB t n r.2.2.1 < 2 ^ 31 by omega) (show n < 2 ^ 31 by omega), if_pos (show tkB t n r.2.2.1 < n by omega), X3.1.2.2.1, ak_AI (show tkB t n r.2.2.1 < 200 by omega) (show 200 < 2 ^ 31 by decide), e59, nI_eq (show t (tkB t n r.2.2.1) < 2 ^ 31 by omega) (show 59 < 2 ^ 31 by decide), if_pos h59]
        · simp only [if_neg h59]
          refine ⟨_, _, _, _, ?_, X3, fun h0 => by omega, hD1, F1.tr F3, by omega, by omega⟩
          simp only [e_64_53, e_64_54, e_64_57, e_64_58, e_64_61, e_64_64, e_64_65, e_64_66, e_64_67, e_64_70, e_64_71, e_64_74, e_64_75, e_64_77, e_64_80, e_64_81, e_64_84, lg_n, lg_i, lg_r, wd_nil, am_wd_i, am_wd_r, am_wd_l, am_gk_s, am_fld_s, List.getElem?_cons_zero, List.getElem?_cons_succ, am_bk_v, am_bk_n, bo_0, bo_1, am_pk_s, List.length_cons, List.length_nil, Nat.zero_add, List.set_cons_zero, List.set_cons_succ, Nat.reduceAdd, Nat.reduceLeDiff, Nat.reduceLT, u0, u1, u4, nI_ltI (show tkB t n r.2.2.1 < 2 ^ 31 by omega) (show n < 2 ^ 31 by omega), if_pos (show tkB t n r.2.2.1 < n by omega), X3.1.2.2.1, ak_AI (show tkB t n r.2.2.1 < 200 by omega) (show 200 < 2 ^ 31 by decide), e59, nI_eq (show t (tkB t n r.2.2.1) < 2 ^ 31 by omega) (show 59 < 2 ^ 31 by decide), if_neg h59, cI_s]
def txN (t : Nat → Nat) (n : Nat) (P : Pn) : Nat × Nat × Pn := rdN t n 24 0 P 0 0
theorem m_readText (hX : RX h v t n c b e D) {a : Nat} {P : Pn} (hp : PlanAt h a P) (ha : a + 3 < v) (hP : OKD P) : ∃ h' b' e' D', am_cal (d + 7) 64 [.ref v, .ref a] h = some (some (.int (cI ((txN t n P).1 + 1))), h') ∧ RX h' v t n (txN t n P).2.1 b' e' D' ∧ ((txN t n P).1 = 0 → D' = (txN t n P).2.2) ∧ OKD D' ∧ FX h h' v ∧ (txN t n P).2.1 ≤ 24 ∧ (txN t n P).1 ≤ 201 := by
  obtain ⟨k0, k1, k2, k3, k4, k5, k6⟩ := hX.1.fl
  have htk := m_planTake (d := d + 5) hX.1.1 hX.2 hp (by have := hX.1.2.2.2.2.1; omega) (by omega) hP.1.2.2.2.2.1
  have X1 := hX.pl P
  have X2 := X1.set 0 b 0
  have hL := l_text (d := d) (v := v) (t := t) (n := n) 24 0 _ b 0 P (some (.ref a)) (by omega) X2 (by omega) (fun z => absurd z (by decide)) hP
  rw [show rdN t n 24 0 P 0 b = txN t n P from rfl] at hL
  obtain ⟨h', b', e', D', a1, a2, a3, a4, a5, a6⟩ := hL
  generalize txN t n P = T at *
  refine ⟨h', b', e', D', ?_, a2, a3, a4, (FX.pP.tr (FX.set (Nat.le_refl _) (by omega))).tr a5, a6⟩
  refine (b_64 _ _ _).trans ?_; show am_ev _ 64 0 [some (.ref v), some (.ref a)] [] _ = _
  have hv1 := X1.1.2.1
  unfold rd0 at hv1
  have X15 := X1.set 0 b e
  have hv2 : ∀ (h : am_H) c b e, am_at (am_set h v (rd0 v n c b e)) v = some (.inr (5, [.ref (v + 1), .int (nI n), .ref (v + 2), .int (nI c), .int (nI b), .int (nI e)])) := fun h c b e => at_set_eq
  simp only [e_64_0, e_64_1, e_64_4, e_64_5, e_64_8, e_64_9, e_64_10, lg_n, lg_i, lg_r, wd_nil, am_wd_i, am_wd_r, am_wd_l, am_gk_s, am_fld_s, List.getElem?_cons_zero, List.getElem?_cons_succ, am_bk_v, am_bk_n, bo_0, bo_1, am_pk_s, List.length_cons, List.length_nil, Nat.zero_add, List.set_cons_zero, List.set_cons_succ, Nat.reduceAdd, Nat.reduceLeDiff, Nat.reduceLT, k2, is_plan hX.2, htk, hv1]
  change am_ev (d + 6) 64 13 _ _ (am_set (pP h (v + 2) P) v (rd0 v n 0 b e)) = _
  simp only [e_64_13, e_64_14, e_64_15, lg_n, lg_i, lg_r, wd_nil, am_wd_i, am_wd_r, am_wd_l, am_gk_s, am_fld_s, List.getElem?_cons_zero, List.getElem?_cons_succ, am_bk_v, am_bk_n, bo_0, bo_1, am_pk_s, List.length_cons, List.length_nil, Nat.zero_add, List.set_cons_zero, List.set_cons_succ, Nat.reduceAdd, Nat.reduceLeDiff, Nat.reduceLT, hv2, set_set]
  exact a1
end RX
