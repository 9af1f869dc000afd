/-! a house: riders, room, choices -/
def OKP (P : Pn) : Prop := 1 ≤ P.1 ∧ P.1 < 2 ^ 20 ∧ P.2.1 < 2 ^ 20 ∧ P.2.2.2.1 ≤ 8 ∧ (∀ p, p < 8 → P.2.2.2.2.1 p < 5) ∧ ∀ p, p < P.2.2.2.1 → P.2.2.2.2.2.1 p < P.1 ∧ P.2.2.2.2.2.2 p < P.1
def OKH (P : Pn) (σ : Hn) : Prop := σ.1 < 2 ^ 28 ∧ ∀ p, p < 8 → σ.2.2.1 p < 2 ^ 28 ∧ σ.2.2.2 p < 2 ^ 28
theorem sc_iff {x c : Nat} (hx : x < 2 ^ 28) (hc : c < 2 ^ 28) : (sI x = 1 ∧ cI x = nI c) ↔ x = c + 2 := by
  rw [sI_1, cI_eq (by omega) (by omega)]; omega
theorem i_sub {a b : Nat} (ha : a < 2 ^ 30) (hb : b < 2 ^ 30) : (nI a - nI b).toInt = (a : Int) - b := by
  rw [Int32.toInt_sub, nI_toInt (by omega), nI_toInt (by omega), Int.bmod_def]
  omega
theorem usedN_le (kd x : Nat → Nat) (c : Nat) : ∀ n, usedN kd x c n ≤ 2 * n
  | 0 => Nat.le_refl _
  | n + 1 => by
    have := usedN_le kd x c n
    have h2 : ktak (kd n) ≤ 2 := by unfold ktak; split <;> omega
    unfold usedN
    split <;> omega
theorem z_if {c : Prop} [Decidable c] : ((if c then (1 : Int32) else 0) = 0) ↔ ¬ c := by
  by_cases h : c <;> simp [h]
theorem z_nI {n : Nat} (hn : n < 2 ^ 31) : nI n = 0 ↔ n = 0 := by
  rw [i_eq, nI_toInt hn, i_0]; omega
section HS
variable {d : Nat} {h : am_H} {a b : Nat} {P : Pn} {σ : Hn}
theorem l_ridersIn (hp : PlanAt h b P) (hh : HouseAt h a b σ) (oP : OKP P) (oH : OKH P σ) {c : Nat} (hc : c < 2 ^ 28) : ∀ j p, p + j = P.2.2.2.1 → am_ev d 26 4 [some (.ref a), some (.int (nI c)), some (.int (nI (bitsN (fun q => σ.2.2.1 q == c + 2) p))), some (.int (nI p))] [] h = some (some (.int (nI (bitsN (fun q => σ.2.2.1 q == c + 2) P.2.2.2.1))), h) := by
  obtain ⟨g0, g1, g2, g3, g4, g5⟩ := fl_house hh
  obtain ⟨-, -, -, f3, -⟩ := fl_plan hp
  have hn := oP.2.2.2.1
  intro j
  induction j with
  | zero =>
    intro p hpj
    have : p = P.2.2.2.1 := by omega
    subst this
    rw [e_26_4]
    simp only [e_26_0, e_26_1, e_26_2, e_26_3, e_26_5, e_26_6, e_26_9, e_26_12, e_26_15, e_26_16, e_26_19, e_26_20, e_26_21, e_26_22, e_26_25, e_26_26, e_26_29, e_26_30, e_26_31, e_26_32, e_26_35, e_26_36, e_26_37, e_26_38, e_26_39, e_26_40, e_26_41, e_26_44, e_26_47, e_26_48, lg_n, lg_i, lg_r, wd_nil, am_wd_i, am_wd_r, am_wd_l, am_gk_s, am_fld_s, List.getElem?_cons_zero, List.getElem?_cons_succ, am_bk_v, am_bk_n, bo_0, bo_1, am_pk_s, List.length_cons, List.length_nil, Nat.zero_add, List.set_cons_zero, List.set_cons_succ, Nat.reduceAdd, Nat.reduceLeDiff, Nat.reduceLT, g0, f3, nI_leI (show P.2.2.2.1 < 2 ^ 31 by omega) (show P.2.2.2.1 < 2 ^ 31 by omega), Nat.le_refl, if_true]
  | succ j ih =>
    intro p hpj
    rw [e_26_4]
    have hx := oH.2 p (by omega)
    simp only [e_26_0, e_26_1, e_26_2, e_26_3, e_26_5, e_26_6, e_26_9, e_26_12, e_26_15, e_26_16, e_26_19, e_26_20, e_26_21, e_26_22, e_26_25, e_26_26, e_26_29, e_26_30, e_26_31, e_26_32, e_26_35, e_26_36, e_26_37, e_26_38, e_26_39, e_26_40, e_26_41, e_26_44, e_26_47, e_26_48, lg_n, lg_i, lg_r, wd_nil, am_wd_i, am_wd_r, am_wd_l, am_gk_s, am_fld_s, List.getElem?_cons_zero, List.getElem?_cons_succ, am_bk_v, am_bk_n, bo_0, bo_1, am_pk_s, List.length_cons, List.length_nil, Nat.zero_add, List.set_cons_zero, List.set_cons_succ, Nat.reduceAdd, Nat.reduceLeDiff, Nat.reduceLT, g0, g3, g4, f3, nI_leI (show P.2.2.2.1 < 2 ^ 31 by omega) (show p < 2 ^ 31 by omega), if_neg (show ¬ P.2.2.2.1 ≤ p by omega), hh.2.1, hh.2.2.1, ak_AI (show p < 8 by omega) (show 8 < 2 ^ 31 by decide), sh1 p (by omega), fa_or, nI_1]
    have := ih (p + 1) (by omega)
    rw [bitsN] at this
    rw [← this]
    have hi := sc_iff hx.1 hc
    by_cases h1 : sI (σ.2.2.1 p) = 1
    · by_cases h2 : cI (σ.2.2.1 p) = nI c
      · have h3 := hi.1 ⟨h1, h2⟩
        rw [if_pos h1, if_pos h2]; simp [h3]
      · have h3 : ¬ σ.2.2.1 p = c + 2 := fun e => h2 (hi.2 e).2
        simp [h1, h2, h3]
    · have h3 : ¬ σ.2.2.1 p = c + 2 := fun e => h1 (hi.2 e).1
      simp [h1, h3]
theorem m_ridersIn (hp : PlanAt h b P) (hh : HouseAt h a b σ) (oP : OKP P) (oH : OKH P σ) {c : Nat} (hc : c < 2 ^ 28) : am_cal (d + 1) 26 [.ref a, .int (nI c)] h = some (some (.int (nI (bitsN (fun q => σ.2.2.1 q == c + 2) P.2.2.2.1))), h) := by
  refine (b_26 _ _ _).trans ?_; show am_ev _ 26 0 [some (.ref a), some (.int (nI c)), none, none] [] _ = _
  simp only [e_26_0, e_26_1, e_26_2, e_26_3, lg_n, lg_i, lg_r, wd_nil, am_wd_i, am_wd_r, am_wd_l, am_gk_s, am_fld_s, List.getElem?_cons_zero, List.getElem?_cons_succ, am_bk_v, am_bk_n, bo_0, bo_1, am_pk_s, List.length_cons, List.length_nil, Nat.zero_add, List.set_cons_zero, List.set_cons_succ, Nat.reduceAdd, Nat.reduceLeDiff, Nat.reduceLT]
  exact l_ridersIn hp hh oP oH hc P.2.2.2.1 0 (by omega)
theorem l_roomLeft (hs : Stt h) (hp : PlanAt h b P) (hh : HouseAt h a b σ) (oP : OKP P) (oH : OKH P σ) {c : Nat} (hc : c < 2 ^ 28) : ∀ j p, p + j = P.2.2.2.1 → am_ev d 27 10 [some (.ref a), some (.int (nI c)), some (.int (nI P.2.1 - nI (usedN P.2.2.2.2.1 σ.2.2.1 c p))), some (.int (nI p))] [] h = some (some (.int (nI P.2.1 - nI (usedN P.2.2.2.2.1 σ.2.2.1 c P.2.2.2.1))), h) := by
  obtain ⟨g0, g1, g2, g3, g4, g5⟩ := fl_house hh
  obtain ⟨-, -, -, f3, f4, -⟩ := fl_plan hp
  have hn := oP.2.2.2.1
  intro j
  induction j with
  | zero =>
    intro p hpj
    have : p = P.2.2.2.1 := by omega
    subst this
    rw [e_27_10]
    simp only [e_27_0, e_27_1, e_27_4, e_27_7, e_27_8, e_27_9, e_27_11, e_27_12, e_27_15, e_27_18, e_27_21, e_27_22, e_27_25, e_27_26, e_27_27, e_27_28, e_27_31, e_27_32, e_27_35, e_27_36, e_27_37, e_27_38, e_27_41, e_27_42, e_27_43, e_27_46, e_27_49, e_27_50, e_27_51, e_27_54, e_27_55, e_27_56, e_27_59, e_27_62, e_27_63, lg_n, lg_i, lg_r, wd_nil, am_wd_i, am_wd_r, am_wd_l, am_gk_s, am_fld_s, List.getElem?_cons_zero, List.getElem?_cons_succ, am_bk_v, am_bk_n, bo_0, bo_1, am_pk_s, List.length_cons, List.length_nil, Nat.zero_add, List.set_cons_zero, List.set_cons_succ, Nat.reduceAdd, Nat.reduceLeDiff, Nat.reduceLT, g0, f3, nI_leI (show P.2.2.2.1 < 2 ^ 31 by omega) (show P.2.2.2.1 < 2 ^ 31 by omega), Nat.le_refl, if_true]
  | succ j ih =>
    intro p hpj
    rw [e_27_10]
    have hx := oH.2 p (by omega)
    obtain ⟨-, -, -, k3, -⟩ := fl_kind hs (oP.2.2.2.2.1 p (by omega))
    simp only [e_27_0, e_27_1, e_27_4, e_27_7, e_27_8, e_27_9, e_27_11, e_27_12, e_27_15, e_27_18, e_27_21, e_27_22, e_27_25, e_27_26, e_27_27, e_27_28, e_27_31, e_27_32, e_27_35, e_27_36, e_27_37, e_27_38, e_27_41, e_27_42, e_27_43, e_27_46, e_27_49, e_27_50, e_27_51, e_27_54, e_27_55, e_27_56, e_27_59, e_27_62, e_27_63, lg_n, lg_i, lg_r, wd_nil, am_wd_i, am_wd_r, am_wd_l, am_gk_s, am_fld_s, List.getElem?_cons_zero, List.getElem?_cons_succ, am_bk_v, am_bk_n, bo_0, bo_1, am_pk_s, List.length_cons, List.length_nil, Nat.zero_add, List.set_cons_zero, List.set_cons_succ, Nat.reduceAdd, Nat.reduceLeDiff, Nat.reduceLT, g0, g3, g4, f3, f4, nI_leI (show P.2.2.2.1 < 2 ^ 31 by omega) (show p < 2 ^ 31 by omega), if_neg (show ¬ P.2.2.2.1 ≤ p by omega), hh.2.1, hh.2.2.1, hp.2.1, ak_AI (show p < 8 by omega) (show 8 < 2 ^ 31 by decide), qk_AK (show p < 8 by omega), k3, nI_1, sub_sub32, nI_add]
    have := ih (p + 1) (by omega)
    rw [usedN] at this
    rw [← this]
    have hi := sc_iff hx.1 hc
    by_cases h1 : sI (σ.2.2.1 p) = 1
    · by_cases h2 : cI (σ.2.2.1 p) = nI c
      · have h3 := hi.1 ⟨h1, h2⟩
        rw [if_pos h1, if_pos h2]; simp [h3]
      · have h3 : ¬ σ.2.2.1 p = c + 2 := fun e => h2 (hi.2 e).2
        simp [h1, h2, h3]
    · have h3 : ¬ σ.2.2.1 p = c + 2 := fun e => h1 (hi.2 e).1
      simp [h1, h3]
theorem m_roomLeft (hs : Stt h) (hp : PlanAt h b P) (hh : HouseAt h a b σ) (oP : OKP P) (oH : OKH P σ) {c : Nat} (hc : c < 2 ^ 28) : am_cal (d + 1) 27 [.ref a, .int (nI c)] h = some (some (.int (nI P.2.1 - nI (usedN P.2.2.2.2.1 σ.2.2.1 c P.2.2.2.1))), h) := by
  refine (b_27 _ _ _).trans ?_; show am_ev _ 27 0 [some (.ref a), some (.int (nI c)), none, none] [] _ = _
  obtain ⟨g0, g1, g2, g3, g4, g5⟩ := fl_house hh
  obtain ⟨-, f1, -, f3, f4, -⟩ := fl_plan hp
  simp only [e_27_0, e_27_1, e_27_4, e_27_7, e_27_8, e_27_9, lg_n, lg_i, lg_r, wd_nil, am_wd_i, am_wd_r, am_wd_l, am_gk_s, am_fld_s, List.getElem?_cons_zero, List.getElem?_cons_succ, am_bk_v, am_bk_n, bo_0, bo_1, am_pk_s, List.length_cons, List.length_nil, Nat.zero_add, List.set_cons_zero, List.set_cons_succ, Nat.reduceAdd, Nat.reduceLeDiff, Nat.reduceLT, g0, f1]
  have := l_roomLeft (d := d) hs hp hh oP oH hc P.2.2.2.1 0 (by omega)
  rw [usedN, nI_0, show nI P.2.1 - 0 = nI P.2.1 by apply Int32.toBitVec_inj.1; simp] at this
  exact this
/-- one of kind k would step into cabin c -/
def fitsN (P : Pn) (σ : Hn) (k c : Nat) : Bool := !σ.2.1.testBit c && decide (usedN P.2.2.2.2.1 σ.2.2.1 c P.2.2.2.1 + ktak k ≤ P.2.1) && (k != 1 || bitsN (fun q => σ.2.2.1 q == c + 2) P.2.2.2.1 == 0)
theorem bitsN_lt (g : Nat → Bool) : ∀ n, bitsN g n < 2 ^ n
  | 0 => Nat.zero_lt_one
  | n + 1 => by
    have := bitsN_lt g n
    unfold bitsN
    apply Nat.or_lt_two_pow
    · exact Nat.lt_trans this (Nat.pow_lt_pow_right (by decide) (by omega))
    · split
      · exact Nat.pow_lt_pow_right (by decide) (by omega)
      · exact Nat.two_pow_pos _
theorem m_suits (hs : Stt h) (hp : PlanAt h b P) (hh : HouseAt h a b σ) (oP : OKP P) (oH : OKH P σ) {c k : Nat} (hc : c < 31) (hk : k < 5) : am_cal (d + 2) 32 [.ref a, .ref (1000002 + k), .int (nI c)] h = some (some (.int (if fitsN P σ k c then 1 else 0)), h) := by
  refine (b_32 _ _ _).trans ?_; show am_ev _ 32 0 [some (.ref a), some (.ref (1000002 + k)), some (.int (nI c))] [] _ = _
  obtain ⟨k0, k1, k2, k3, k4⟩ := fl_kind hs hk
  obtain ⟨q1, q2, q3, q4⟩ := m_kq (d := d) hs hk
  have hn := oP.2.2.2.1
  have hu := usedN_le P.2.2.2.2.1 σ.2.2.1 c P.2.2.2.1
  have ht : ktak k ≤ 2 := by unfold ktak; split <;> omega
  have hb := bitsN_lt (fun q => σ.2.2.1 q == c + 2) P.2.2.2.1
  have hb2 : 2 ^ P.2.2.2.1 ≤ 2 ^ 8 := Nat.pow_le_pow_right (by decide) hn
  have hP := oP.2.2.1
  simp only [e_32_0, e_32_1, e_32_2, e_32_5, e_32_8, e_32_9, e_32_10, e_32_13, e_32_14, e_32_17, e_32_20, e_32_21, e_32_22, e_32_23, e_32_26, e_32_29, e_32_30, e_32_31, e_32_34, e_32_37, e_32_38, e_32_41, e_32_42, lg_n, lg_i, lg_r, wd_nil, am_wd_i, am_wd_r, am_wd_l, am_gk_s, am_fld_s, List.getElem?_cons_zero, List.getElem?_cons_succ, am_bk_v, am_bk_n, bo_0, bo_1, am_pk_s, List.length_cons, List.length_nil, Nat.zero_add, List.set_cons_zero, List.set_cons_succ, Nat.reduceAdd, Nat.reduceLeDiff, Nat.reduceLT, is_house hh, m_isShut hh hc, m_roomLeft hs hp hh oP oH (show c < 2 ^ 28 by omega), m_ridersIn hp hh oP oH (show c < 2 ^ 28 by omega), k3, k4, q1, q2, q3, q4, i_le, i_lt, z_if, i_sub (show P.2.1 < 2 ^ 30 by omega) (show usedN P.2.2.2.2.1 σ.2.2.1 c P.2.2.2.1 < 2 ^ 30 by omega), nI_toInt (show ktak k < 2 ^ 31 by omega), z_nI (show bitsN (fun q => σ.2.2.1 q == c + 2) P.2.2.2.1 < 2 ^ 31 by omega), i_0]
  unfold fitsN
  have e1 : ((ktak k : Int) ≤ P.2.1 - (usedN P.2.2.2.2.1 σ.2.2.1 c P.2.2.2.1 : Nat)) ↔ usedN P.2.2.2.2.1 σ.2.2.1 c P.2.2.2.1 + ktak k ≤ P.2.1 := by omega
  simp only [e1]
  by_cases t1 : σ.2.1.testBit c = true
  · simp [t1]
  · by_cases t2 : usedN P.2.2.2.2.1 σ.2.2.1 c P.2.2.2.1 + ktak k ≤ P.2.1
    · by_cases t3 : k = 1
      · by_cases t4 : bitsN (fun q => σ.2.2.1 q == c + 2) P.2.2.2.1 = 0 <;> (subst t3; simp [t1, t2, t4])
      · simp [t1, t2, t3]
    · simp [t1, t2]
/-- the cabin into which one would step, made one greater; 0 is none -/
def choiceN (P : Pn) (σ : Hn) (p : Nat) : Nat :=
  if p < P.2.2.2.1 ∧ σ.2.2.1 p = 0 then
    let k := P.2.2.2.2.1 p
    let u := cabA P.1 σ.1 (P.2.2.2.2.2.1 p)
    let w := cabA P.1 σ.1 (2 * P.1 - 1 - P.2.2.2.2.2.1 p)
    let uf := k = 3 ∨ P.2.2.2.2.2.1 p < P.2.2.2.2.2.2 p
    if fitsN P σ k (if uf then u else w) then (if uf then u else w) + 1
    else if (k = 3 ∨ k = 4) ∧ fitsN P σ k (if uf then w else u) then (if uf then w else u) + 1 else 0
  else 0
theorem m_choiceOf (hs : Stt h) (hp : PlanAt h b P) (hh : HouseAt h a b σ) (oP : OKP P) (oH : OKH P σ) (hf : P.1 ≤ 15) {p : Nat} (hpp : p < 2 ^ 20) : am_cal (d + 3) 31 [.ref a, .int (nI p)] h = some (some (.int (cI (choiceN P σ p + 1))), h) := by
  refine (b_31 _ _ _).trans ?_; show am_ev _ 31 0 [some (.ref a), some (.int (nI p)), none, none, none, none, none, none, none] [] _ = _
  obtain ⟨g0, g1, g2, g3, g4, g5⟩ := fl_house hh
  obtain ⟨f0, f1, f2, f3, f4, f5, f6⟩ := fl_plan hp
  have hn := oP.2.2.2.1
  simp only [e_31_0, e_31_1, e_31_2, e_31_5, e_31_8, e_31_9, lg_n, lg_i, lg_r, wd_nil, am_wd_i, am_wd_r, am_wd_l, am_gk_s, am_fld_s, List.getElem?_cons_zero, List.getElem?_cons_succ, am_bk_v, am_bk_n, bo_0, bo_1, am_pk_s, List.length_cons, List.length_nil, Nat.zero_add, List.set_cons_zero, List.set_cons_succ, Nat.reduceAdd, Nat.reduceLeDiff, Nat.reduceLT, is_house hh, m_isWaiting hp hh hn hpp, z_if]
  by_cases hw : p < P.2.2.2.1 ∧ σ.2.2.1 p = 0
  · have hk := oP.2.2.2.2.1 p (by omega)
    obtain ⟨hfr, hto⟩ := oP.2.2.2.2.2 p hw.1
    have hx : p < 8 := by omega
    obtain ⟨k0, k1, k2, k3, k4⟩ := fl_kind hs hk
    obtain ⟨q1, q2, q3, q4⟩ := m_kq (d := d + 1) hs hk
    have hP : 1 ≤ P.1 ∧ P.1 < 2 ^ 20 := ⟨oP.1, oP.2.1⟩
    have hsub : nI (2 * P.1) - 1 - nI (P.2.2.2.2.2.1 p) = nI (2 * P.1 - 1 - P.2.2.2.2.2.1 p) := by
      rw [show (1 : Int32) = nI 1 by decide +kernel, pk_sub (by omega), pk_sub (by omega)]
    have c1 : cabA P.1 σ.1 (P.2.2.2.2.2.1 p) < 31 := by
      have := Nat.mod_lt (P.2.2.2.2.2.1 p + 2 * P.1 - σ.1 % (2 * P.1)) (show 0 < 2 * P.1 by omega)
      unfold cabA; omega
    have c2 : cabA P.1 σ.1 (2 * P.1 - 1 - P.2.2.2.2.2.1 p) < 31 := by
      have := Nat.mod_lt (2 * P.1 - 1 - P.2.2.2.2.2.1 p + 2 * P.1 - σ.1 % (2 * P.1)) (show 0 < 2 * P.1 by omega)
      unfold cabA; omega
    have hcI : ∀ c, cI (c + 1 + 1) = nI c := fun c => by unfold cI; rw [if_neg (by omega)]; rfl
    have hc0 : cI (0 + 1) = -1 := by unfold cI; rfl
    simp only [if_neg (not_not_intro hw), e_31_10, e_31_11, e_31_14, e_31_17, e_31_18, e_31_19, e_31_20, e_31_21, e_31_24, e_31_27, e_31_28, e_31_29, e_31_30, e_31_31, e_31_32, e_31_35, e_31_37, e_31_38, e_31_39, e_31_42, e_31_45, e_31_46, e_31_47, e_31_48, e_31_49, e_31_52, e_31_54, e_31_55, e_31_58, e_31_61, e_31_62, e_31_65, e_31_68, e_31_69, e_31_70, e_31_71, e_31_74, e_31_75, e_31_78, e_31_79, e_31_81, e_31_83, e_31_86, e_31_88, e_31_91, e_31_93, e_31_95, e_31_96, e_31_97, e_31_99, e_31_102, e_31_105, e_31_107, e_31_108, e_31_110, e_31_113, e_31_115, e_31_118, e_31_120, e_31_122, e_31_123, e_31_126, e_31_129, e_31_130, e_31_131, e_31_133, e_31_136, e_31_139, e_31_141, e_31_144, e_31_145, lg_n, lg_i, lg_r, wd_nil, am_wd_i, am_wd_r, am_wd_l, am_gk_s, am_fld_s, List.getElem?_cons_zero, List.getElem?_cons_succ, am_bk_v, am_bk_n, bo_0, bo_1, am_pk_s, List.length_cons, List.length_nil, Nat.zero_add, List.set_cons_zero, List.set_cons_succ, Nat.reduceAdd, Nat.reduceLeDiff, Nat.reduceLT, g0, f4, f5, f6, hp.2.1, hp.2.2.1, hp.2.2.2, qk_AK hx, ak_AI hx (show 8 < 2 ^ 31 by decide), is_house hh, is_plan hp, k4, q1, q2, q3, q4, z_if, m_ring hp, hsub, m_cabinAt hp hh hP oH.1 (show P.2.2.2.2.2.1 p < 2 ^ 28 by omega), m_cabinAt hp hh hP oH.1 (show 2 * P.1 - 1 - P.2.2.2.2.2.1 p < 2 ^ 28 by omega), m_suits hs hp hh oP oH c1 hk, m_suits hs hp hh oP oH c2 hk, nI_leI (show P.2.2.2.2.2.2 p < 2 ^ 31 by omega) (show P.2.2.2.2.2.1 p < 2 ^ 31 by omega)]
    unfold choiceN
    rw [if_pos hw]
    simp only
    by_cases u1 : P.2.2.2.2.1 p = 3
    · have u1' : ¬ ¬ (P.2.2.2.2.1 p = 3) := not_not_intro u1
      simp only [u1, not_true_eq_false, if_false, if_true, true_or, true_and]
      by_cases v1 : fitsN P σ 3 (cabA P.1 σ.1 (P.2.2.2.2.2.1 p)) = true <;> by_cases v2 : fitsN P σ 3 (cabA P.1 σ.1 (2 * P.1 - 1 - P.2.2.2.2.2.1 p)) = true <;> simp [v1, v2, hcI, hc0]
    · by_cases u2 : P.2.2.2.2.2.2 p ≤ P.2.2.2.2.2.1 p
      · have u3 : ¬ (P.2.2.2.2.1 p = 3 ∨ P.2.2.2.2.2.1 p < P.2.2.2.2.2.2 p) := by omega
        simp only [if_pos u1, if_pos u2, if_neg u3]
        by_cases v2 : fitsN P σ (P.2.2.2.2.1 p) (cabA P.1 σ.1 (2 * P.1 - 1 - P.2.2.2.2.2.1 p)) = true <;> by_cases v3 : fitsN P σ (P.2.2.2.2.1 p) (cabA P.1 σ.1 (P.2.2.2.2.2.1 p)) = true <;> by_cases u4 : P.2.2.2.2.1 p = 4 <;> simp [u1, u4, v2, v3, hcI, hc0] <;> simp [← u4, v2, v3, hcI, hc0]
      · have u3 : (P.2.2.2.2.1 p = 3 ∨ P.2.2.2.2.2.1 p < P.2.2.2.2.2.2 p) := by omega
        simp only [if_pos u1, if_neg u2, if_pos u3]
        by_cases v2 : fitsN P σ (P.2.2.2.2.1 p) (cabA P.1 σ.1 (P.2.2.2.2.2.1 p)) = true <;> by_cases v3 : fitsN P σ (P.2.2.2.2.1 p) (cabA P.1 σ.1 (2 * P.1 - 1 - P.2.2.2.2.2.1 p)) = true <;> by_cases u4 : P.2.2.2.2.1 p = 4 <;> simp [u1, u4, v2, v3, hcI, hc0] <;> simp [← u4, v2, v3, hcI, hc0]
  · simp only [if_pos hw, choiceN, if_neg hw]
    rfl
end HS
