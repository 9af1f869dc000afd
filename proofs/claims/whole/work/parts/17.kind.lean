/-! kinds, plans: small methods -/
theorem i_lt (x y : Int32) : x < y ↔ x.toInt < y.toInt := Int32.lt_iff_toInt_lt
theorem i_le (x y : Int32) : x ≤ y ↔ x.toInt ≤ y.toInt := Int32.le_iff_toInt_le
theorem i_eq (x y : Int32) : x = y ↔ x.toInt = y.toInt := ⟨fun h => by rw [h], fun h => Int32.toInt_inj.mp h⟩
theorem i_0 : (0 : Int32).toInt = 0 := rfl
theorem i_1 : (1 : Int32).toInt = 1 := rfl
theorem i_2 : (2 : Int32).toInt = 2 := rfl
theorem i_m1 : (-1 : Int32).toInt = -1 := rfl
theorem m_ring {d : Nat} {h : am_H} {b : Nat} {P : Pn} (hp : PlanAt h b P) : am_cal (d + 1) 58 [.ref b] h = some (some (.int (nI (2 * P.1))), h) := by
  refine (b_58 _ _ _).trans ?_; show am_ev _ 58 0 [some (.ref b)] [] _ = _
  obtain ⟨f0, -⟩ := fl_plan hp
  simp only [e_58_0, e_58_1, e_58_2, e_58_5, e_58_6, lg_n, lg_i, lg_r, wd_nil, am_wd_i, am_wd_r, am_wd_l, am_gk_s, am_fld_s, List.getElem?_cons_zero, List.getElem?_cons_succ, am_bk_v, am_bk_n, bo_0, bo_1, am_pk_s, List.length_cons, List.length_nil, Nat.zero_add, List.set_cons_zero, List.set_cons_succ, Nat.reduceAdd, Nat.reduceLeDiff, Nat.reduceLT, f0]
  rw [show (2 : Int32) = nI 2 by decide +kernel, pk_mul]
theorem m_hasPerson {d : Nat} {h : am_H} {b : Nat} {P : Pn} (hp : PlanAt h b P) (hn : P.2.2.2.1 < 2 ^ 31) (x : Int32) : am_cal (d + 1) 61 [.ref b, .int x] h = some (some (.int (if 0 ≤ x.toInt ∧ x.toInt < P.2.2.2.1 then 1 else 0)), h) := by
  refine (b_61 _ _ _).trans ?_; show am_ev _ 61 0 [some (.ref b), some (.int x)] [] _ = _
  obtain ⟨-, -, -, f3, -⟩ := fl_plan hp
  simp only [e_61_0, e_61_1, e_61_4, e_61_5, e_61_6, e_61_9, e_61_12, e_61_13, e_61_16, e_61_17, lg_n, lg_i, lg_r, wd_nil, am_wd_i, am_wd_r, am_wd_l, am_gk_s, am_fld_s, List.getElem?_cons_zero, List.getElem?_cons_succ, am_bk_v, am_bk_n, bo_0, bo_1, am_pk_s, List.length_cons, List.length_nil, Nat.zero_add, List.set_cons_zero, List.set_cons_succ, Nat.reduceAdd, Nat.reduceLeDiff, Nat.reduceLT, f3, i_lt, i_le, nI_toInt hn, i_0]
  split <;> split <;> (try split) <;> first | rfl | (exfalso; omega)
theorem m_hasFloor {d : Nat} {h : am_H} {b : Nat} {P : Pn} (hp : PlanAt h b P) (hn : P.1 < 2 ^ 31) (x : Int32) : am_cal (d + 1) 59 [.ref b, .int x] h = some (some (.int (if 0 ≤ x.toInt ∧ x.toInt < P.1 then 1 else 0)), h) := by
  refine (b_59 _ _ _).trans ?_; show am_ev _ 59 0 [some (.ref b), some (.int x)] [] _ = _
  obtain ⟨f3, -⟩ := fl_plan hp
  simp only [e_59_0, e_59_1, e_59_4, e_59_5, e_59_6, e_59_9, e_59_12, e_59_13, e_59_16, e_59_17, lg_n, lg_i, lg_r, wd_nil, am_wd_i, am_wd_r, am_wd_l, am_gk_s, am_fld_s, List.getElem?_cons_zero, List.getElem?_cons_succ, am_bk_v, am_bk_n, bo_0, bo_1, am_pk_s, List.length_cons, List.length_nil, Nat.zero_add, List.set_cons_zero, List.set_cons_succ, Nat.reduceAdd, Nat.reduceLeDiff, Nat.reduceLT, f3, i_lt, i_le, nI_toInt hn, i_0]
  split <;> split <;> (try split) <;> first | rfl | (exfalso; omega)
theorem m_hasCabin {d : Nat} {h : am_H} {b : Nat} {P : Pn} (hp : PlanAt h b P) (hn : P.1 < 2 ^ 30) (x : Int32) : am_cal (d + 2) 60 [.ref b, .int x] h = some (some (.int (if 0 ≤ x.toInt ∧ x.toInt < (2 * P.1 : Nat) then 1 else 0)), h) := by
  refine (b_60 _ _ _).trans ?_; show am_ev _ 60 0 [some (.ref b), some (.int x)] [] _ = _
  simp only [e_60_0, e_60_1, e_60_4, e_60_5, e_60_6, e_60_9, e_60_12, e_60_13, e_60_16, e_60_17, lg_n, lg_i, lg_r, wd_nil, am_wd_i, am_wd_r, am_wd_l, am_gk_s, am_fld_s, List.getElem?_cons_zero, List.getElem?_cons_succ, am_bk_v, am_bk_n, bo_0, bo_1, am_pk_s, List.length_cons, List.length_nil, Nat.zero_add, List.set_cons_zero, List.set_cons_succ, Nat.reduceAdd, Nat.reduceLeDiff, Nat.reduceLT, is_plan hp, m_ring hp, i_lt, i_le, nI_toInt (show 2 * P.1 < 2 ^ 31 by omega), i_0, Nat.reduceLeDiff]
  split <;> split <;> (try split) <;> first | rfl | (exfalso; omega)
theorem m_isCrowded {d : Nat} {h : am_H} {b : Nat} {P : Pn} (hp : PlanAt h b P) (hn : P.2.2.2.1 < 2 ^ 31) : am_cal (d + 1) 56 [.ref b] h = some (some (.int (if 8 ≤ P.2.2.2.1 then 1 else 0)), h) := by
  refine (b_56 _ _ _).trans ?_; show am_ev _ 56 0 [some (.ref b)] [] _ = _
  obtain ⟨-, -, -, f3, -⟩ := fl_plan hp
  simp only [e_56_0, e_56_1, e_56_4, e_56_6, e_56_9, e_56_10, e_56_13, e_56_14, lg_n, lg_i, lg_r, wd_nil, am_wd_i, am_wd_r, am_wd_l, am_gk_s, am_fld_s, List.getElem?_cons_zero, List.getElem?_cons_succ, am_bk_v, am_bk_n, bo_0, bo_1, am_pk_s, List.length_cons, List.length_nil, Nat.zero_add, List.set_cons_zero, List.set_cons_succ, Nat.reduceAdd, Nat.reduceLeDiff, Nat.reduceLT, f3, i_lt, i_le, nI_toInt hn, show (8 : Int32).toInt = 8 from rfl]
  split <;> split <;> first | rfl | (exfalso; omega)
theorem m_clear {d : Nat} {h : am_H} {b : Nat} {P : Pn} (hp : PlanAt h b P) (f : Nat) : am_cal (d + 1) 54 [.ref b, .int (nI f)] h = some (none, am_set h b (plan0 b (f, 2, 0, 0, P.2.2.2.2))) := by
  refine (b_54 _ _ _).trans ?_; show am_ev _ 54 0 [some (.ref b), some (.int (nI f))] [] _ = _
  have hb := hp.1
  unfold plan0 at hb
  simp only [e_54_0, e_54_1, e_54_2, e_54_5, e_54_6, e_54_7, e_54_10, e_54_11, e_54_12, e_54_15, e_54_16, e_54_17, e_54_20, lg_n, lg_i, lg_r, wd_nil, am_wd_i, am_wd_r, am_wd_l, am_gk_s, am_fld_s, List.getElem?_cons_zero, List.getElem?_cons_succ, am_bk_v, am_bk_n, bo_0, bo_1, am_pk_s, List.length_cons, List.length_nil, Nat.zero_add, List.set_cons_zero, List.set_cons_succ, Nat.reduceAdd, Nat.reduceLeDiff, Nat.reduceLT, hb, at_set_eq]
  congr 2
  refine am_ext rfl rfl (fun k => ?_)
  simp only [am_at_set]
  split <;> rfl
theorem m_kq {d : Nat} {h : am_H} (hs : Stt h) {k : Nat} (hk : k < 5) : am_cal (d + 1) 36 [.ref (1000002 + k)] h = some (some (.int (if k = 3 then 1 else 0)), h) ∧ am_cal (d + 1) 35 [.ref (1000002 + k)] h = some (some (.int (if k = 1 then 1 else 0)), h) ∧ am_cal (d + 1) 37 [.ref (1000002 + k)] h = some (some (.int (if k = 3 then 1 else 0)), h) ∧ am_cal (d + 1) 38 [.ref (1000002 + k)] h = some (some (.int (if k = 3 ∨ k = 4 then 1 else 0)), h) := by
  have ha : 1000001 < 1000002 + k ∧ 1000002 + k < 1000007 := by omega
  have hb : 1000001 < 1000005 ∧ 1000005 < 1000007 := by omega
  have hb2 : 1000001 < 1000003 ∧ 1000003 < 1000007 := by omega
  have hb3 : 1000001 < 1000006 ∧ 1000006 < 1000007 := by omega
  have hc : (1000002 + k = 1000005) ↔ k = 3 := by omega
  have hc2 : (1000002 + k = 1000003) ↔ k = 1 := by omega
  have hc3 : (1000002 + k = 1000006) ↔ k = 4 := by omega
  refine ⟨?_, ?_, ?_, ?_⟩
  · refine (b_36 _ _ _).trans ?_; show am_ev _ 36 0 [some (.ref (1000002 + k))] [] _ = _
    simp only [e_36_0, e_36_1, e_36_4, e_36_7, e_36_8, e_36_11, e_36_12, lg_n, lg_i, lg_r, wd_nil, am_wd_i, am_wd_r, am_wd_l, am_gk_s, am_fld_s, List.getElem?_cons_zero, List.getElem?_cons_succ, am_bk_v, am_bk_n, bo_0, bo_1, am_pk_s, List.length_cons, List.length_nil, Nat.zero_add, List.set_cons_zero, List.set_cons_succ, Nat.reduceAdd, Nat.reduceLeDiff, Nat.reduceLT, ha, hb, hc, and_self]
    by_cases h3 : k = 3 <;> simp [h3]
  · refine (b_35 _ _ _).trans ?_; show am_ev _ 35 0 [some (.ref (1000002 + k))] [] _ = _
    simp only [e_35_0, e_35_1, e_35_4, e_35_7, e_35_8, e_35_11, e_35_12, lg_n, lg_i, lg_r, wd_nil, am_wd_i, am_wd_r, am_wd_l, am_gk_s, am_fld_s, List.getElem?_cons_zero, List.getElem?_cons_succ, am_bk_v, am_bk_n, bo_0, bo_1, am_pk_s, List.length_cons, List.length_nil, Nat.zero_add, List.set_cons_zero, List.set_cons_succ, Nat.reduceAdd, Nat.reduceLeDiff, Nat.reduceLT, ha, hb2, hc2, and_self]
    by_cases h3 : k = 1 <;> simp [h3]
  · refine (b_37 _ _ _).trans ?_; show am_ev _ 37 0 [some (.ref (1000002 + k))] [] _ = _
    simp only [e_37_0, e_37_1, e_37_4, e_37_7, e_37_8, e_37_11, e_37_12, lg_n, lg_i, lg_r, wd_nil, am_wd_i, am_wd_r, am_wd_l, am_gk_s, am_fld_s, List.getElem?_cons_zero, List.getElem?_cons_succ, am_bk_v, am_bk_n, bo_0, bo_1, am_pk_s, List.length_cons, List.length_nil, Nat.zero_add, List.set_cons_zero, List.set_cons_succ, Nat.reduceAdd, Nat.reduceLeDiff, Nat.reduceLT, ha, hb, hc, and_self]
    by_cases h3 : k = 3 <;> simp [h3]
  · refine (b_38 _ _ _).trans ?_; show am_ev _ 38 0 [some (.ref (1000002 + k))] [] _ = _
    simp only [e_38_0, e_38_1, e_38_4, e_38_7, e_38_8, e_38_11, e_38_14, e_38_15, e_38_18, e_38_19, lg_n, lg_i, lg_r, wd_nil, am_wd_i, am_wd_r, am_wd_l, am_gk_s, am_fld_s, List.getElem?_cons_zero, List.getElem?_cons_succ, am_bk_v, am_bk_n, bo_0, bo_1, am_pk_s, List.length_cons, List.length_nil, Nat.zero_add, List.set_cons_zero, List.set_cons_succ, Nat.reduceAdd, Nat.reduceLeDiff, Nat.reduceLT, ha, hb, hb3, hc, hc3, and_self]
    by_cases h3 : k = 3 <;> by_cases h4 : k = 4 <;> simp [h3, h4]
theorem m_numbered {d : Nat} {h : am_H} {k : Nat} (hk : k < 5) : am_cal (d + 1) 33 [.int (nI k)] h = some (some (.ref (1000002 + k)), h) := by
  refine (b_33 _ _ _).trans ?_; show am_ev _ 33 0 [some (.int (nI k))] [] _ = _
  simp only [e_33_0, e_33_1, e_33_32, e_33_35, e_33_36, e_33_39, e_33_40, e_33_43, e_33_44, e_33_47, e_33_48, e_33_51, lg_n, lg_i, lg_r, wd_nil, am_wd_i, am_wd_r, am_wd_l, am_gk_s, am_fld_s, List.getElem?_cons_zero, List.getElem?_cons_succ, am_bk_v, am_bk_n, bo_0, bo_1, am_pk_s, List.length_cons, List.length_nil, Nat.zero_add, List.set_cons_zero, List.set_cons_succ, Nat.reduceAdd, Nat.reduceLeDiff, Nat.reduceLT, i_eq, nI_toInt (show k < 2 ^ 31 by omega), i_1, i_2, show (3 : Int32).toInt = 3 from rfl, show (4 : Int32).toInt = 4 from rfl]
  rcases (show k = 0 ∨ k = 1 ∨ k = 2 ∨ k = 3 ∨ k = 4 by omega) with rfl | rfl | rfl | rfl | rfl <;> rfl
theorem m_isUnder {d : Nat} {h : am_H} (hs : Stt h) {k : Nat} (hk : k < 5) (x : Nat) (hx : x < 2 ^ 31) : am_cal (d + 1) 34 [.ref (1000002 + k), .int (nI x)] h = some (some (.int (if x = 0 ∨ x = k + 1 ∨ x = kpar k then 1 else 0)), h) := by
  refine (b_34 _ _ _).trans ?_; show am_ev _ 34 0 [some (.ref (1000002 + k)), some (.int (nI x))] [] _ = _
  obtain ⟨f0, -, f2, -⟩ := fl_kind hs hk
  have hkp : kpar k < 2 ^ 31 := by unfold kpar; split <;> (try split) <;> (try split) <;> omega
  have e0 : ((x : Int) = 0) ↔ x = 0 := by omega
  have e1 : ((x : Int) = ((k + 1 : Nat) : Int)) ↔ x = k + 1 := by omega
  have e2 : ((x : Int) = ((kpar k : Nat) : Int)) ↔ x = kpar k := by omega
  simp only [e_34_0, e_34_1, e_34_4, e_34_5, e_34_6, e_34_9, e_34_10, e_34_11, e_34_14, e_34_15, e_34_16, e_34_19, e_34_22, e_34_23, e_34_26, e_34_27, lg_n, lg_i, lg_r, wd_nil, am_wd_i, am_wd_r, am_wd_l, am_gk_s, am_fld_s, List.getElem?_cons_zero, List.getElem?_cons_succ, am_bk_v, am_bk_n, bo_0, bo_1, am_pk_s, List.length_cons, List.length_nil, Nat.zero_add, List.set_cons_zero, List.set_cons_succ, Nat.reduceAdd, Nat.reduceLeDiff, Nat.reduceLT, f0, f2, i_eq, nI_toInt hx, i_0, nI_1, nI_toInt (show k + 1 < 2 ^ 31 by omega), nI_toInt hkp, e0, e1, e2]
  by_cases h0 : x = 0
  · simp only [h0, if_true, true_or]
  · by_cases h1 : x = k + 1
    · simp only [h0, if_pos h1, if_false, if_pos (Or.inr (Or.inl h1) : False ∨ x = k + 1 ∨ x = kpar k)]
    · by_cases h2 : x = kpar k
      · simp only [h0, if_neg h1, if_false, if_pos h2, if_pos (Or.inr (Or.inr h2) : False ∨ x = k + 1 ∨ x = kpar k)]
      · simp only [h0, h1, h2, if_false, or_self]
