/-! the model: its row, small methods -/
theorem l_in32 (x : Int32) : x.toInt64.toInt = x.toInt := by simp
theorem m_in (a b c : Int64) {d : Nat} {h : am_H} : am_cal (d + 1) 127 [.long a, .long b, .long c] h = some (some (.int (if b.toInt ≤ a.toInt ∧ a.toInt ≤ c.toInt then 1 else 0)), h) := by
  refine (b_127 _ _ _).trans ?_; show am_ev _ 127 0 [some (.long a), none, some (.long b), none, some (.long c), none] [] _ = _
  have k1 : ∀ x y : Int64, lg_cmp x y < 0 ↔ x.toInt < y.toInt := by
    intro x y
    unfold lg_cmp
    by_cases h1 : x > y
    · rw [if_pos h1]
      have : y.toInt < x.toInt := Int64.lt_iff_toInt_lt.1 h1
      exact ⟨fun z => absurd z (by decide), fun z => by omega⟩
    · rw [if_neg h1]
      have g1 : ¬ y.toInt < x.toInt := fun z => h1 (Int64.lt_iff_toInt_lt.2 z)
      by_cases h2 : x = y
      · rw [if_pos h2, h2]
        exact ⟨fun z => absurd z (by decide), fun z => by omega⟩
      · rw [if_neg h2]
        have g2 : ¬ x.toInt = y.toInt := fun z => h2 (Int64.toInt_inj.1 z)
        exact ⟨fun _ => by omega, fun _ => by decide⟩
  have k2 : ∀ x y : Int64, 0 < lg_cmp x y ↔ y.toInt < x.toInt := by
    intro x y
    unfold lg_cmp
    by_cases h1 : x > y
    · rw [if_pos h1]
      exact ⟨fun _ => Int64.lt_iff_toInt_lt.1 h1, fun _ => by decide⟩
    · rw [if_neg h1]
      have g1 : ¬ y.toInt < x.toInt := fun z => h1 (Int64.lt_iff_toInt_lt.2 z)
      by_cases h2 : x = y
      · rw [if_pos h2]
        exact ⟨fun z => absurd z (by decide), fun z => absurd z g1⟩
      · rw [if_neg h2]
        exact ⟨fun z => absurd z (by decide), fun z => absurd z g1⟩
  simp only [e_127_0, e_127_1, e_127_2, e_127_3, e_127_6, e_127_7, e_127_9, e_127_10, e_127_13, e_127_14, e_127_17, e_127_18, lg_n, lg_i, lg_r, wd_nil, am_wd_i, am_wd_r, am_wd_l, am_gk_s, am_fld_s, List.getElem?_cons_zero, List.getElem?_cons_succ, am_bk_v, am_bk_n, bo_0, bo_1, am_pk_s, List.length_cons, List.length_nil, Nat.zero_add, List.set_cons_zero, List.set_cons_succ, Nat.reduceAdd, Nat.reduceLeDiff, Nat.reduceLT, k1, k2]
  split <;> split <;> (try split) <;> first | rfl | (exfalso; omega)
theorem sh_ok : ∀ k, k < 31 → ((nI k &&& 31).toBitVec.smod 32).toNat = k := by decide +kernel
theorem has_bit {n k : Nat} (hn : n < 2 ^ 31) (hk : k < 31) : (nI n >>> (nI k &&& 31)) &&& 1 = if n.testBit k then 1 else 0 := by
  rw [pk_shrN hn _ k (sh_ok k hk), pk_andN (n := n / 2 ^ k) (by have := Nat.div_le_self n (2 ^ k); omega) 1 (by decide), Nat.testBit_eq_decide_div_mod_eq, show 2 ^ 1 = 2 from rfl]
  by_cases hb : n / 2 ^ k % 2 = 1
  · rw [hb]; rfl
  · have : n / 2 ^ k % 2 = 0 := by omega
    rw [this]; rfl
theorem m_has {d : Nat} {h : am_H} {n k : Nat} (hn : n < 2 ^ 31) (hk : k < 31) : am_cal (d + 1) 128 [.int (nI n), .int (nI k)] h = some (some (.int (if n.testBit k then 1 else 0)), h) := by
  refine (b_128 _ _ _).trans ?_; show am_ev _ 128 0 [some (.int (nI n)), some (.int (nI k))] [] _ = _
  simp only [e_128_0, e_128_1, e_128_2, e_128_3, e_128_4, e_128_5, e_128_6, e_128_9, e_128_10, e_128_13, e_128_14, lg_n, lg_i, lg_r, wd_nil, am_wd_i, am_wd_r, am_wd_l, am_gk_s, am_fld_s, List.getElem?_cons_zero, List.getElem?_cons_succ, am_bk_v, am_bk_n, bo_0, bo_1, am_pk_s, List.length_cons, List.length_nil, Nat.zero_add, List.set_cons_zero, List.set_cons_succ, Nat.reduceAdd, Nat.reduceLeDiff, Nat.reduceLT, has_bit hn hk]
  by_cases hb : n.testBit k = true <;> simp [hb]
theorem l_bits {d : Nat} {h : am_H} {n : Nat} (hn : n < 2 ^ 31) : ∀ j k, k + j = 14 → am_ev d 129 4 [some (.int (nI n)), some (.int (nI (cntN (fun i => n.testBit i) k))), some (.int (nI k))] [] h = some (some (.int (nI (cntN (fun i => n.testBit i) 14))), h) := by
  intro j
  have e14 : (14 : Int32) = nI 14 := by decide +kernel
  induction j with
  | zero =>
    intro k hk
    have : k = 14 := by omega
    subst this
    rw [e_129_4]
    simp only [e_129_5, e_129_7, e_129_24, e_129_25, lg_n, lg_i, lg_r, wd_nil, am_wd_i, am_wd_r, am_wd_l, am_gk_s, am_fld_s, List.getElem?_cons_zero, List.getElem?_cons_succ, am_bk_v, am_bk_n, bo_0, bo_1, am_pk_s, List.length_cons, List.length_nil, Nat.zero_add, List.set_cons_zero, List.set_cons_succ, Nat.reduceAdd, Nat.reduceLeDiff, Nat.reduceLT, e14, nI_leI (show 14 < 2 ^ 31 by decide) (show 14 < 2 ^ 31 by decide), Nat.le_refl, if_true]
  | succ j ih =>
    intro k hk
    have ih' := ih (k + 1) (by omega)
    rw [cntN] at ih'
    rw [e_129_4]
    simp only [e_129_5, e_129_7, e_129_10, e_129_11, e_129_12, e_129_13, e_129_14, e_129_15, e_129_16, e_129_17, e_129_18, e_129_21, lg_n, lg_i, lg_r, wd_nil, am_wd_i, am_wd_r, am_wd_l, am_gk_s, am_fld_s, List.getElem?_cons_zero, List.getElem?_cons_succ, am_bk_v, am_bk_n, bo_0, bo_1, am_pk_s, List.length_cons, List.length_nil, Nat.zero_add, List.set_cons_zero, List.set_cons_succ, Nat.reduceAdd, Nat.reduceLeDiff, Nat.reduceLT, e14, nI_leI (show 14 < 2 ^ 31 by decide) (show k < 2 ^ 31 by omega), if_neg (show ¬ 14 ≤ k by omega), has_bit hn (show k < 31 by omega), nI_1]
    by_cases hb : n.testBit k = true
    · rw [if_pos hb] at ih' ⊢
      rw [nI_1]
      exact ih'
    · rw [if_neg hb] at ih' ⊢
      rw [Int32.add_zero]
      exact ih'
theorem m_bits {d : Nat} {h : am_H} {n : Nat} (hn : n < 2 ^ 31) : am_cal (d + 1) 129 [.int (nI n)] h = some (some (.int (nI (cntN (fun i => n.testBit i) 14))), h) := by
  refine (b_129 _ _ _).trans ?_; show am_ev _ 129 0 [some (.int (nI n)), none, none] [] _ = _
  simp only [e_129_0, e_129_1, e_129_2, e_129_3, lg_n, lg_i, lg_r, wd_nil, am_wd_i, am_wd_r, am_wd_l, am_gk_s, am_fld_s, List.getElem?_cons_zero, List.getElem?_cons_succ, am_bk_v, am_bk_n, bo_0, bo_1, am_pk_s, List.length_cons, List.length_nil, Nat.zero_add, List.set_cons_zero, List.set_cons_succ, Nat.reduceAdd, Nat.reduceLeDiff, Nat.reduceLT]
  exact l_bits hn 14 0 (by omega)
def RowH (f : Nat → Int32) (b : Nat) (σ : Hn) : Prop := (∀ p, p < 8 → f (b + p) = sI (σ.2.2.1 p) ∧ f (b + 8 + p) = cI (σ.2.2.1 p) ∧ f (b + 16 + p) = nI (σ.2.2.2 p)) ∧ f (b + 24) = nI σ.2.1 ∧ f (b + 25) = nI σ.1
def RowP (f : Nat → Int32) (b : Nat) (P : Pn) : Prop := f (b + 26) = nI P.1 ∧ f (b + 27) = nI P.2.1 ∧ f (b + 28) = nI P.2.2.2.1 ∧ ∀ p, p < P.2.2.2.1 → f (b + 29 + p) = nI (P.2.2.2.2.1 p) ∧ f (b + 37 + p) = nI (P.2.2.2.2.2.1 p) ∧ f (b + 45 + p) = nI (P.2.2.2.2.2.2 p)
def MB (h : am_H) (f : Nat → Int32) (L : Nat → Nat) : Prop := am_fld (am_at h 87) 8 0 = some (.ref 88) ∧ am_fld (am_at h 87) 8 27 = some (.ref 106) ∧ am_is (am_at h 87) 8 = true ∧ am_at h 88 = some (AI 392 f) ∧ am_at h 106 = some (AI 8 (fun i => nI (L i)))
theorem MB.set {h : am_H} {f : Nat → Int32} {L : Nat → Nat} (hM : MB h f L) (f' : Nat → Int32) : MB (am_set h 88 (AI 392 f')) f' L := by
  obtain ⟨h1, h2, h3, h4, h5⟩ := hM
  exact ⟨by rw [at_set_ne (by decide)]; exact h1, by rw [at_set_ne (by decide)]; exact h2, by rw [at_set_ne (by decide)]; exact h3, at_set_eq, by rw [at_set_ne (by decide)]; exact h5⟩
theorem jrem {x y : Int32} (hx : -(2 ^ 30) ≤ x.toInt ∧ x.toInt ≤ 2 ^ 30) (hy : 0 < y.toInt ∧ y.toInt < 2 ^ 30) : (x - x / y * y).toInt = x.toInt.tmod y.toInt := by
  have h1 : (x / y).toInt = x.toInt.tdiv y.toInt := by
    rw [Int32.toInt_div_of_ne_right x y (by intro z; rw [z] at hy; revert hy; decide)]
  have h2 := Int.tmod_def x.toInt y.toInt
  have h3 := Int.tmod_lt_of_pos x.toInt hy.1
  have h4 : -y.toInt < x.toInt.tmod y.toInt := Int.lt_tmod_of_pos x.toInt hy.1
  rw [h2] at h3 h4 ⊢
  rw [Int32.toInt_sub, Int32.toInt_mul, h1, Int.mul_comm (x.toInt.tdiv y.toInt) y.toInt]
  generalize y.toInt * x.toInt.tdiv y.toInt = T at *
  rw [Int.bmod_def, Int.bmod_def]
  omega
theorem jmod {a s m : Nat} (ha : a < 2 ^ 29) (hs : s < 2 ^ 29) (hm : 0 < m ∧ m < 2 ^ 29) : (nI a - nI s - (nI a - nI s) / nI m * nI m + nI m) - (nI a - nI s - (nI a - nI s) / nI m * nI m + nI m) / nI m * nI m = nI ((a + m - s % m) % m) := by
  have hz : (nI a - nI s).toInt = (a : Int) - s := i_sub (by omega) (by omega)
  have hmt := nI_toInt (show m < 2 ^ 31 by omega)
  have r1 := jrem (x := nI a - nI s) (y := nI m) (by rw [hz]; omega) (by rw [hmt]; omega)
  rw [hz, hmt] at r1
  have b1 := Int.tmod_lt_of_pos ((a : Int) - s) (show (0 : Int) < m by omega)
  have b2 : -(m : Int) < ((a : Int) - s).tmod m := Int.lt_tmod_of_pos ((a : Int) - s) (show (0 : Int) < m by omega)
  have r2 : (nI a - nI s - (nI a - nI s) / nI m * nI m + nI m).toInt = ((a : Int) - s).tmod m + m := by
    rw [Int32.toInt_add, r1, hmt, Int.bmod_def]
    omega
  have r3 := jrem (x := nI a - nI s - (nI a - nI s) / nI m * nI m + nI m) (y := nI m) (by rw [r2]; omega) (by rw [hmt]; omega)
  rw [i_eq, r3, r2, hmt, nI_toInt (by have := Nat.mod_lt (a + m - s % m) hm.1; omega)]
  have e1 : (((a : Int) - s).tmod m + m).tmod m = ((a : Int) - s) % m := by
    rw [Int.tmod_eq_emod_of_nonneg (by omega), Int.add_emod_right]
    have := Int.tmod_def ((a : Int) - s) m
    rw [this, Int.sub_mul_emod_self_left]
  rw [e1]
  have hsm := Nat.mod_lt s hm.1
  have e2 : ((a + m - s % m : Nat) : Int) = ((a : Int) - s) + m * (1 + (s / m : Nat)) := by
    have := Nat.div_add_mod s m
    have h4 : ((m * (s / m) + s % m : Nat) : Int) = s := by rw [this]
    rw [Int.mul_add, Int.mul_one]
    push_cast at h4 ⊢
    omega
  rw [Int.natCast_emod, e2, Int.add_mul_emod_self_left]
section MO
variable {d : Nat} {h : am_H} {f : Nat → Int32} {L : Nat → Nat} {P : Pn} {σ : Hn} {b : Nat}
theorem m_places (hM : MB h f L) (hP : RowP f 0 P) : am_cal (d + 1) 149 [.ref 87] h = some (some (.int (nI (2 * P.1))), h) := by
  obtain ⟨m0, m1, m2, m3, m4⟩ := hM
  have hP1 := hP.1
  rw [Nat.zero_add] at hP1
  have e26 : (26 : Int32) = nI 26 := by decide +kernel
  have e2 : (2 : Int32) = nI 2 := by decide +kernel
  refine (b_149 _ _ _).trans ?_; show am_ev _ 149 0 [some (.ref 87)] [] _ = _
  simp only [e_149_0, e_149_1, e_149_2, e_149_5, e_149_7, e_149_8, e_149_9, lg_n, lg_i, lg_r, wd_nil, am_wd_i, am_wd_r, am_wd_l, am_gk_s, am_fld_s, List.getElem?_cons_zero, List.getElem?_cons_succ, am_bk_v, am_bk_n, bo_0, bo_1, am_pk_s, List.length_cons, List.length_nil, Nat.zero_add, List.set_cons_zero, List.set_cons_succ, Nat.reduceAdd, Nat.reduceLeDiff, Nat.reduceLT, m0, m3, e26, ak_AI (show 26 < 392 by decide) (show 392 < 2 ^ 31 by decide), hP1, e2, pk_mul]
end MO
