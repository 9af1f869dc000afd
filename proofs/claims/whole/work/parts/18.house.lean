/-! a house's reads -/
theorem fa_and (a b : Nat) : nI a &&& nI b = nI (a &&& b) := by
  apply Int32.toBitVec_inj.1
  show BitVec.ofNat 32 a &&& BitVec.ofNat 32 b = BitVec.ofNat 32 (a &&& b)
  apply BitVec.eq_of_getLsbD_eq
  intro i hi
  simp [hi]
theorem fa_or (a b : Nat) : nI a ||| nI b = nI (a ||| b) := by
  apply Int32.toBitVec_inj.1
  show BitVec.ofNat 32 a ||| BitVec.ofNat 32 b = BitVec.ofNat 32 (a ||| b)
  apply BitVec.eq_of_getLsbD_eq
  intro i hi
  simp [hi]
theorem fb_xorI (a b : Nat) : nI a ^^^ nI b = nI (a ^^^ b) := by
  apply Int32.toBitVec_inj.1
  show BitVec.ofNat 32 a ^^^ BitVec.ofNat 32 b = BitVec.ofNat 32 (a ^^^ b)
  apply BitVec.eq_of_getLsbD_eq
  intro i hi
  simp [hi]
theorem fb_bit_nat (n j : Nat) : n &&& 2 ^ j = 0 ↔ n.testBit j = false := by
  constructor
  · intro h
    have h1 : (n &&& 2 ^ j).testBit j = false := by rw [h]; simp
    rw [Nat.testBit_and] at h1
    simpa using h1
  · intro h
    apply Nat.eq_of_testBit_eq
    intro i
    rw [Nat.testBit_and]
    by_cases hij : j = i
    · subst hij; simp [h]
    · simp [Nat.testBit_two_pow, hij]
theorem sh1 : ∀ c, c < 31 → (1 : Int32) <<< (nI c &&& 31) = nI (2 ^ c) := by decide +kernel
theorem bit_0 {n j : Nat} (hj : j < 31) : nI n &&& nI (2 ^ j) = 0 ↔ n.testBit j = false := by
  rw [fa_and, ← fb_bit_nat]
  have h2 : (2 : Nat) ^ j < 2 ^ 31 := Nat.pow_lt_pow_right (by decide) hj
  have hle : n &&& 2 ^ j ≤ 2 ^ j := Nat.and_le_right
  rw [show (0 : Int32) = nI 0 from nI_0.symm, nI_eq (by omega) (by omega)]
theorem sub_sub32 (a b c : Int32) : a - b - c = a - (b + c) := by
  apply Int32.toBitVec_inj.1
  simp [BitVec.sub_sub]
/-- by bits: those of n of which something holds -/
def bitsN (g : Nat → Bool) : Nat → Nat
  | 0 => 0
  | n + 1 => bitsN g n ||| (if g n then 2 ^ n else 0)
theorem bitsN_cong {g g' : Nat → Bool} : ∀ {n : Nat}, (∀ k, k < n → g k = g' k) → bitsN g n = bitsN g' n
  | 0, _ => rfl
  | n + 1, h => by rw [bitsN, bitsN, bitsN_cong (fun k hk => h k (by omega)), h n (by omega)]
def usedN (kd x : Nat → Nat) (c : Nat) : Nat → Nat
  | 0 => 0
  | n + 1 => usedN kd x c n + (if x n = c + 2 then ktak (kd n) else 0)
def cabA (f s p : Nat) : Nat := (p + 2 * f - s % (2 * f)) % (2 * f)
def plc (f s c : Nat) : Nat := (c + s) % (2 * f)
def flr (f p : Nat) : Nat := if p < f then p else 2 * f - 1 - p
theorem sI_0 (x : Nat) : sI x = 0 ↔ x = 0 := by
  unfold sI
  by_cases h0 : x = 0
  · simp [h0]
  · by_cases h1 : x = 1
    · simp [h1]
    · simp [h0, h1]
theorem sI_1 (x : Nat) : sI x = 1 ↔ 2 ≤ x := by
  unfold sI
  by_cases h0 : x = 0
  · subst h0; simp
  · by_cases h1 : x = 1
    · subst h1; simp
    · simp [h0, h1]; omega
theorem sI_2 (x : Nat) : sI x = 2 ↔ x = 1 := by
  unfold sI
  by_cases h0 : x = 0
  · subst h0; simp
  · by_cases h1 : x = 1
    · simp [h1]
    · simp [h0, h1]
theorem cI_eq {x c : Nat} (hx : x < 2 ^ 30) (hc : c < 2 ^ 30) : cI x = nI c ↔ x = c + 2 := by
  unfold cI
  by_cases h2 : x < 2
  · rw [if_pos h2]
    constructor
    · intro h
      rw [i_eq, i_m1, nI_toInt (by omega)] at h
      omega
    · intro h; omega
  · rw [if_neg h2, nI_eq (by omega) (by omega)]
    omega
section HS
variable {d : Nat} {h : am_H} {a b : Nat} {P : Pn} {σ : Hn}
theorem m_placeOf (hp : PlanAt h b P) (hh : HouseAt h a b σ) (hf : 1 ≤ P.1 ∧ P.1 < 2 ^ 20) (hs : σ.1 < 2 ^ 28) {c : Nat} (hc : c < 2 ^ 28) : am_cal (d + 2) 19 [.ref a, .int (nI c)] h = some (some (.int (nI (plc P.1 σ.1 c))), h) := by
  refine (b_19 _ _ _).trans ?_; show am_ev _ 19 0 [some (.ref a), some (.int (nI c)), none] [] _ = _
  obtain ⟨g0, g1, g2, g3, g4, g5⟩ := fl_house hh
  simp only [e_19_0, e_19_1, e_19_4, e_19_7, e_19_8, e_19_9, e_19_10, e_19_13, e_19_14, e_19_17, e_19_18, e_19_19, e_19_22, e_19_23, e_19_24, e_19_25, lg_n, lg_i, lg_r, wd_nil, am_wd_i, am_wd_r, am_wd_l, am_gk_s, am_fld_s, List.getElem?_cons_zero, List.getElem?_cons_succ, am_bk_v, am_bk_n, bo_0, bo_1, am_pk_s, List.length_cons, List.length_nil, Nat.zero_add, List.set_cons_zero, List.set_cons_succ, Nat.reduceAdd, Nat.reduceLeDiff, Nat.reduceLT, g0, g1, is_plan hp, m_ring hp]
  have n0 : (1 : Int32) ≤ nI (2 * P.1) := by rw [i_le, nI_toInt (by omega), i_1]; omega
  have n1 : ¬ nI (2 * P.1) = 0 := nI_ne0 (by omega) (by omega)
  simp only [if_pos n0, if_neg n1, nI_add]
  rw [pk_rem (by omega) (by omega) (by omega)]
  rfl
theorem m_cabinAt (hp : PlanAt h b P) (hh : HouseAt h a b σ) (hf : 1 ≤ P.1 ∧ P.1 < 2 ^ 20) (hs : σ.1 < 2 ^ 28) {c : Nat} (hc : c < 2 ^ 28) : am_cal (d + 2) 20 [.ref a, .int (nI c)] h = some (some (.int (nI (cabA P.1 σ.1 c))), h) := by
  refine (b_20 _ _ _).trans ?_; show am_ev _ 20 0 [some (.ref a), some (.int (nI c)), none] [] _ = _
  obtain ⟨g0, g1, g2, g3, g4, g5⟩ := fl_house hh
  simp only [e_20_0, e_20_1, e_20_4, e_20_7, e_20_8, e_20_9, e_20_10, e_20_13, e_20_14, e_20_17, e_20_18, e_20_19, e_20_20, e_20_21, e_20_24, e_20_25, e_20_26, e_20_27, e_20_28, e_20_29, lg_n, lg_i, lg_r, wd_nil, am_wd_i, am_wd_r, am_wd_l, am_gk_s, am_fld_s, List.getElem?_cons_zero, List.getElem?_cons_succ, am_bk_v, am_bk_n, bo_0, bo_1, am_pk_s, List.length_cons, List.length_nil, Nat.zero_add, List.set_cons_zero, List.set_cons_succ, Nat.reduceAdd, Nat.reduceLeDiff, Nat.reduceLT, g0, g1, is_plan hp, m_ring hp]
  have n0 : (1 : Int32) ≤ nI (2 * P.1) := by rw [i_le, nI_toInt (by omega), i_1]; omega
  have n1 : ¬ nI (2 * P.1) = 0 := nI_ne0 (by omega) (by omega)
  have hm : σ.1 % (2 * P.1) < 2 * P.1 := Nat.mod_lt _ (by omega)
  simp only [if_pos n0, if_neg n1, nI_add]
  rw [pk_rem (by omega) (by omega) (by omega), pk_sub (by omega), pk_rem (by omega) (by omega) (by omega)]
  rfl
theorem m_floorAt (hp : PlanAt h b P) (hh : HouseAt h a b σ) (hf : 1 ≤ P.1 ∧ P.1 < 2 ^ 20) {c : Nat} (hc : c < 2 * P.1) : am_cal (d + 2) 21 [.ref a, .int (nI c)] h = some (some (.int (nI (flr P.1 c))), h) := by
  refine (b_21 _ _ _).trans ?_; show am_ev _ 21 0 [some (.ref a), some (.int (nI c))] [] _ = _
  obtain ⟨g0, g1, g2, g3, g4, g5⟩ := fl_house hh
  obtain ⟨f0, -⟩ := fl_plan hp
  simp only [e_21_0, e_21_1, e_21_2, e_21_5, e_21_8, e_21_11, e_21_12, e_21_15, e_21_16, e_21_19, e_21_22, e_21_23, e_21_24, e_21_25, e_21_26, lg_n, lg_i, lg_r, wd_nil, am_wd_i, am_wd_r, am_wd_l, am_gk_s, am_fld_s, List.getElem?_cons_zero, List.getElem?_cons_succ, am_bk_v, am_bk_n, bo_0, bo_1, am_pk_s, List.length_cons, List.length_nil, Nat.zero_add, List.set_cons_zero, List.set_cons_succ, Nat.reduceAdd, Nat.reduceLeDiff, Nat.reduceLT, g0, f0, is_plan hp, m_ring hp, nI_leI (show P.1 < 2 ^ 31 by omega) (show c < 2 ^ 31 by omega)]
  unfold flr
  by_cases hcf : c < P.1
  · simp only [if_neg (show ¬ P.1 ≤ c by omega), if_pos hcf]
  · simp only [if_pos (show P.1 ≤ c by omega), if_neg hcf]
    rw [show (1 : Int32) = nI 1 by decide +kernel, pk_sub (by omega), pk_sub (by omega)]
theorem m_isShut (hh : HouseAt h a b σ) {c : Nat} (hc : c < 31) : am_cal (d + 1) 22 [.ref a, .int (nI c)] h = some (some (.int (if σ.2.1.testBit c then 1 else 0)), h) := by
  refine (b_22 _ _ _).trans ?_; show am_ev _ 22 0 [some (.ref a), some (.int (nI c))] [] _ = _
  obtain ⟨g0, g1, g2, g3, g4, g5⟩ := fl_house hh
  simp only [e_22_0, e_22_1, e_22_4, e_22_5, e_22_6, e_22_7, e_22_8, e_22_11, e_22_12, e_22_15, e_22_16, lg_n, lg_i, lg_r, wd_nil, am_wd_i, am_wd_r, am_wd_l, am_gk_s, am_fld_s, List.getElem?_cons_zero, List.getElem?_cons_succ, am_bk_v, am_bk_n, bo_0, bo_1, am_pk_s, List.length_cons, List.length_nil, Nat.zero_add, List.set_cons_zero, List.set_cons_succ, Nat.reduceAdd, Nat.reduceLeDiff, Nat.reduceLT, g2, sh1 c hc, bit_0 hc]
  cases σ.2.1.testBit c <;> rfl
theorem m_isWaiting (hp : PlanAt h b P) (hh : HouseAt h a b σ) (hn : P.2.2.2.1 ≤ 8) {p : Nat} (hpp : p < 2 ^ 20) : am_cal (d + 1) 23 [.ref a, .int (nI p)] h = some (some (.int (if p < P.2.2.2.1 ∧ σ.2.2.1 p = 0 then 1 else 0)), h) := by
  refine (b_23 _ _ _).trans ?_; show am_ev _ 23 0 [some (.ref a), some (.int (nI p))] [] _ = _
  obtain ⟨g0, g1, g2, g3, g4, g5⟩ := fl_house hh
  obtain ⟨-, -, -, f3, -⟩ := fl_plan hp
  simp only [e_23_0, e_23_1, e_23_4, e_23_5, e_23_6, e_23_9, e_23_12, e_23_15, e_23_16, e_23_19, e_23_20, e_23_21, e_23_24, e_23_25, e_23_28, e_23_29, lg_n, lg_i, lg_r, wd_nil, am_wd_i, am_wd_r, am_wd_l, am_gk_s, am_fld_s, List.getElem?_cons_zero, List.getElem?_cons_succ, am_bk_v, am_bk_n, bo_0, bo_1, am_pk_s, List.length_cons, List.length_nil, Nat.zero_add, List.set_cons_zero, List.set_cons_succ, Nat.reduceAdd, Nat.reduceLeDiff, Nat.reduceLT, g0, g3, f3, if_neg (nI_pos (show p < 2 ^ 31 by omega)), nI_leI (show P.2.2.2.1 < 2 ^ 31 by omega) (show p < 2 ^ 31 by omega)]
  by_cases hlt : p < P.2.2.2.1
  · simp only [if_neg (show ¬ P.2.2.2.1 ≤ p by omega), hh.2.1]
    rw [ak_AI (by omega) (by decide)]
    simp only [e_23_0, e_23_1, e_23_4, e_23_5, e_23_6, e_23_9, e_23_12, e_23_15, e_23_16, e_23_19, e_23_20, e_23_21, e_23_24, e_23_25, e_23_28, e_23_29, lg_n, lg_i, lg_r, wd_nil, am_wd_i, am_wd_r, am_wd_l, am_gk_s, am_fld_s, List.getElem?_cons_zero, List.getElem?_cons_succ, am_bk_v, am_bk_n, bo_0, bo_1, am_pk_s, List.length_cons, List.length_nil, Nat.zero_add, List.set_cons_zero, List.set_cons_succ, Nat.reduceAdd, Nat.reduceLeDiff, Nat.reduceLT, sI_0]
    by_cases hx : σ.2.2.1 p = 0 <;> simp [hx, hlt]
  · simp [if_pos (show P.2.2.2.1 ≤ p by omega), hlt]
theorem l_peopleWho (hp : PlanAt h b P) (hh : HouseAt h a b σ) (hn : P.2.2.2.1 ≤ 8) (w : Int32) : ∀ j p, p + j = P.2.2.2.1 → am_ev d 24 4 [some (.ref a), some (.int w), some (.int (nI (bitsN (fun q => sI (σ.2.2.1 q) == w) p))), some (.int (nI p))] [] h = some (some (.int (nI (bitsN (fun q => sI (σ.2.2.1 q) == w) P.2.2.2.1))), h) := by
  obtain ⟨g0, g1, g2, g3, g4, g5⟩ := fl_house hh
  obtain ⟨-, -, -, f3, -⟩ := fl_plan hp
  intro j
  induction j with
  | zero =>
    intro p hpj
    have : p = P.2.2.2.1 := by omega
    subst this
    rw [e_24_4]
    simp only [e_24_0, e_24_1, e_24_2, e_24_3, e_24_5, e_24_6, e_24_9, e_24_12, e_24_15, e_24_16, e_24_19, e_24_20, e_24_21, e_24_22, e_24_25, e_24_26, e_24_27, e_24_28, e_24_29, e_24_30, e_24_31, e_24_34, e_24_37, e_24_38, lg_n, lg_i, lg_r, wd_nil, am_wd_i, am_wd_r, am_wd_l, am_gk_s, am_fld_s, List.getElem?_cons_zero, List.getElem?_cons_succ, am_bk_v, am_bk_n, bo_0, bo_1, am_pk_s, List.length_cons, List.length_nil, Nat.zero_add, List.set_cons_zero, List.set_cons_succ, Nat.reduceAdd, Nat.reduceLeDiff, Nat.reduceLT, g0, f3, nI_leI (show P.2.2.2.1 < 2 ^ 31 by omega) (show P.2.2.2.1 < 2 ^ 31 by omega), Nat.le_refl, if_true]
  | succ j ih =>
    intro p hpj
    rw [e_24_4]
    simp only [e_24_0, e_24_1, e_24_2, e_24_3, e_24_5, e_24_6, e_24_9, e_24_12, e_24_15, e_24_16, e_24_19, e_24_20, e_24_21, e_24_22, e_24_25, e_24_26, e_24_27, e_24_28, e_24_29, e_24_30, e_24_31, e_24_34, e_24_37, e_24_38, lg_n, lg_i, lg_r, wd_nil, am_wd_i, am_wd_r, am_wd_l, am_gk_s, am_fld_s, List.getElem?_cons_zero, List.getElem?_cons_succ, am_bk_v, am_bk_n, bo_0, bo_1, am_pk_s, List.length_cons, List.length_nil, Nat.zero_add, List.set_cons_zero, List.set_cons_succ, Nat.reduceAdd, Nat.reduceLeDiff, Nat.reduceLT, g0, g3, f3, nI_leI (show P.2.2.2.1 < 2 ^ 31 by omega) (show p < 2 ^ 31 by omega), if_neg (show ¬ P.2.2.2.1 ≤ p by omega), hh.2.1]
    rw [ak_AI (by omega) (by decide)]
    simp only [e_24_0, e_24_1, e_24_2, e_24_3, e_24_5, e_24_6, e_24_9, e_24_12, e_24_15, e_24_16, e_24_19, e_24_20, e_24_21, e_24_22, e_24_25, e_24_26, e_24_27, e_24_28, e_24_29, e_24_30, e_24_31, e_24_34, e_24_37, e_24_38, lg_n, lg_i, lg_r, wd_nil, am_wd_i, am_wd_r, am_wd_l, am_gk_s, am_fld_s, List.getElem?_cons_zero, List.getElem?_cons_succ, am_bk_v, am_bk_n, bo_0, bo_1, am_pk_s, List.length_cons, List.length_nil, Nat.zero_add, List.set_cons_zero, List.set_cons_succ, Nat.reduceAdd, Nat.reduceLeDiff, Nat.reduceLT, sh1 p (by omega), fa_or, nI_1]
    have := ih (p + 1) (by omega)
    rw [bitsN] at this
    by_cases hw : sI (σ.2.2.1 p) = w
    · simp only [if_pos hw]
      rw [← this]
      simp [hw]
    · simp only [if_neg hw]
      rw [← this]
      simp [hw]
theorem m_peopleWho (hp : PlanAt h b P) (hh : HouseAt h a b σ) (hn : P.2.2.2.1 ≤ 8) (w : Int32) : am_cal (d + 1) 24 [.ref a, .int w] h = some (some (.int (nI (bitsN (fun q => sI (σ.2.2.1 q) == w) P.2.2.2.1))), h) := by
  refine (b_24 _ _ _).trans ?_; show am_ev _ 24 0 [some (.ref a), some (.int w), none, none] [] _ = _
  simp only [e_24_0, e_24_1, e_24_2, e_24_3, lg_n, lg_i, lg_r, wd_nil, am_wd_i, am_wd_r, am_wd_l, am_gk_s, am_fld_s, List.getElem?_cons_zero, List.getElem?_cons_succ, am_bk_v, am_bk_n, bo_0, bo_1, am_pk_s, List.length_cons, List.length_nil, Nat.zero_add, List.set_cons_zero, List.set_cons_succ, Nat.reduceAdd, Nat.reduceLeDiff, Nat.reduceLT]
  have := l_peopleWho (d := d) hp hh hn w P.2.2.2.1 0 (by omega)
  exact this
end HS
