/-! the past -/
def AR (t n : Nat) (f : Nat → Nat) : va_E := .inl (t, n, .inr (.inr (.inr (.inr (fun k => if k < n then some (f k) else none)))))
theorem qk_AR {t n j : Nat} {f : Nat → Nat} {k : Value → Option am_R} (hj : j < n) (hn : n < 2 ^ 31) : am_qk (some (AR t n f)) (nI j) k = k (.ref (f j)) := by
  unfold AR
  rw [am_qk_s _ _ hj hn, if_pos hj]
  rfl
def AZ (n : Nat) (f : Nat → Bool) : va_E := .inl (1, n, .inl (fun k => if k < n ∧ f k = true then 1 else 0))
theorem ak_AZ {n j : Nat} {f : Nat → Bool} {k : Int32 → Option am_R} (hj : j < n) (hn : n < 2 ^ 31) : am_ak (some (AZ n f)) 1 11 (nI j) k = k (if f j = true then 1 else 0) := by
  unfold AZ
  rw [am_ak_s _ _ (Or.inl rfl) hj hn]
  simp only [hj, true_and]
theorem sk_AZ {n j : Nat} {f : Nat → Bool} {k : Nat → (Nat → Int32) → Option am_R} (hj : j < n) (hn : n < 2 ^ 31) : am_sk (some (AZ n f)) 1 (nI j) k = k n (fun k => if k < n ∧ f k = true then 1 else 0) := by
  unfold AZ
  rw [am_sk_s _ _ hj hn]
def updb (f : Nat → Bool) (k : Nat) (x : Bool) : Nat → Bool := fun j => if j = k then x else f j
theorem st_AZ {n j : Nat} {f : Nat → Bool} {x : Int32} {y : Bool} (hj : j < n) (hn : n < 2 ^ 31) (hx : x = if y = true then 1 else 0) : (Sum.inl (1, n, Sum.inl (upd (fun k => if k < n ∧ f k = true then 1 else 0) (nI j).toNatClampNeg x)) : va_E) = AZ n (updb f j y) := by
  unfold AZ
  rw [nI_clamp (by omega)]
  refine congrArg (fun z => (Sum.inl (1, n, Sum.inl z) : va_E)) (funext fun k => ?_)
  unfold upd updb
  by_cases hk : k = j
  · subst hk; simp [hj, hx]
  · simp [hk]
def pa0 (u nx : Nat) : va_E := .inr (3, [.ref 10, .ref 11, .ref 12, .int (nI u), .int (nI nx)])
def rix (nx u i : Nat) : Nat := 13 + 4 * ((nx + 8 - u + i) % 8)
def PS (h : am_H) (u nx : Nat) (pa : Nat → Hn) (kp : Nat → Bool) (ke : Nat → Hn) : Prop := am_at h 9 = some (pa0 u nx) ∧ am_at h 10 = some (AR 3 8 (fun i => 13 + 4 * i)) ∧ am_at h 11 = some (AR 3 2 (fun i => 45 + 4 * i)) ∧ am_at h 12 = some (AZ 2 kp) ∧ (∀ i, i < 8 → RawAt h (13 + 4 * i) 1) ∧ (∀ k, k < 2 → RawAt h (45 + 4 * k) 1) ∧ u ≤ 8 ∧ nx < 8 ∧ (∀ i, i < u → HouseAt h (rix nx u i) 1 (pa i)) ∧ (∀ k, k < 2 → kp k = true → HouseAt h (45 + 4 * k) 1 (ke k))
def pushN (u : Nat) (pa : Nat → Hn) (σ : Hn) : Nat → Hn := fun i => if i + 1 = min (u + 1) 8 then σ else pa (i + (u + 1 - min (u + 1) 8))
section PS
variable {d : Nat} {h : am_H} {u nx : Nat} {pa ke : Nat → Hn} {kp : Nat → Bool} {σ : Hn}
theorem PS.keep {h' : am_H} (hP : PS h u nx pa kp ke) (hk : ∀ k, 9 ≤ k → k ≤ 52 → am_at h' k = am_at h k) : PS h' u nx pa kp ke := by
  obtain ⟨h1, h2, h3, h4, h5, h6, h7, h8, h9, h10⟩ := hP
  refine ⟨by rw [hk 9 (by omega) (by omega)]; exact h1, by rw [hk 10 (by omega) (by omega)]; exact h2, by rw [hk 11 (by omega) (by omega)]; exact h3, by rw [hk 12 (by omega) (by omega)]; exact h4, fun i hi => (h5 i hi).keep (fun k _ _ => hk k (by omega) (by omega)), fun i hi => (h6 i hi).keep (fun k _ _ => hk k (by omega) (by omega)), h7, h8, fun i hi => (h9 i hi).keep (fun k a1 a2 => ?_), fun i hi hq => (h10 i hi hq).keep (fun k _ _ => hk k (by omega) (by omega))⟩
  unfold rix at a1 a2
  exact hk k (by omega) (by omega)
theorem PS.fl (hP : PS h u nx pa kp ke) : am_fld (am_at h 9) 3 0 = some (.ref 10) ∧ am_fld (am_at h 9) 3 1 = some (.ref 11) ∧ am_fld (am_at h 9) 3 2 = some (.ref 12) ∧ am_fld (am_at h 9) 3 3 = some (.int (nI u)) ∧ am_fld (am_at h 9) 3 4 = some (.int (nI nx)) ∧ am_is (am_at h 9) 3 = true := by
  rw [hP.1]; exact ⟨rfl, rfl, rfl, rfl, rfl, rfl⟩
theorem PS.obj (hP : PS h u nx pa kp ke) {u' nx' : Nat} {pa' : Nat → Hn} (h1 : u' ≤ 8) (h2 : nx' < 8) (h3 : ∀ i, i < u' → HouseAt h (rix nx' u' i) 1 (pa' i)) : PS (am_set h 9 (pa0 u' nx')) u' nx' pa' kp ke := by
  obtain ⟨p1, p2, p3, p4, p5, p6, p7, p8, p9, p10⟩ := hP
  refine ⟨at_set_eq, by rw [at_set_ne (by omega)]; exact p2, by rw [at_set_ne (by omega)]; exact p3, by rw [at_set_ne (by omega)]; exact p4, fun i hi => (p5 i hi).keep (fun k _ _ => at_set_ne (by omega)), fun i hi => (p6 i hi).keep (fun k _ _ => at_set_ne (by omega)), h1, h2, fun i hi => (h3 i hi).keep (fun k a1 a2 => at_set_ne (by unfold rix at a1; omega)), fun i hi hq => (p10 i hi hq).keep (fun k _ _ => at_set_ne (by omega))⟩
theorem m_push (hP : PS h u nx pa kp ke) (hh : HouseAt h 5 1 σ) : ∃ h' nx', am_cal (d + 3) 51 [.ref 9, .ref 5] h = some (none, h') ∧ PS h' (min (u + 1) 8) nx' (pushN u pa σ) kp ke ∧ h'.1 = h.1 ∧ h'.2.1 = h.2.1 ∧ ∀ k, (k < 9 ∨ 52 < k) → am_at h' k = am_at h k := by
  obtain ⟨p1, p2, p3, p4, p5, p6, p7, p8, p9, p10⟩ := id hP
  have e8 : (8 : Int32) = nI 8 := by decide +kernel
  have htk := m_takeR (d := d) (p5 nx p8) hh (by omega)
  have P1 : ∀ k, (k < 13 + 4 * nx ∨ 13 + 4 * nx + 3 < k) → am_at (pH h (13 + 4 * nx) 1 σ) k = am_at h k := fun k hk => at_pH_ne hk
  have HA := HouseAt_pH h (13 + 4 * nx) 1 σ
  obtain ⟨k0, k1, k2, k3, k4, k5⟩ := hP.fl
  have q9 : am_at (pH h (13 + 4 * nx) 1 σ) 9 = some (.inr (3, [.ref 10, .ref 11, .ref 12, .int (nI u), .int (nI nx)])) := by rw [P1 9 (by omega)]; exact p1
  obtain ⟨h1, hh1⟩ : ∃ h1, h1 = pH h (13 + 4 * nx) 1 σ := ⟨_, rfl⟩
  have hs1 : h1.1 = h.1 ∧ h1.2.1 = h.2.1 := by rw [hh1]; exact ⟨rfl, rfl⟩
  rw [← hh1] at P1 HA q9 htk
  obtain ⟨nx', hnx⟩ : ∃ nx', nx' = if nx + 1 < 8 then nx + 1 else 0 := ⟨_, rfl⟩
  have hnx8 : nx' < 8 := by rw [hnx]; split <;> omega
  have K : ∀ k, k ≠ 9 → am_at (am_set h1 9 (pa0 (min (u + 1) 8) nx')) k = am_at h1 k := fun k hk => at_set_ne hk
  refine ⟨am_set h1 9 (pa0 (min (u + 1) 8) nx'), nx', ?_, ⟨at_set_eq, by rw [K _ (by omega), P1 _ (by omega)]; exact p2, by rw [K _ (by omega), P1 _ (by omega)]; exact p3, by rw [K _ (by omega), P1 _ (by omega)]; exact p4, fun i hi => ?_, fun i hi => (p6 i hi).keep (fun k _ _ => by rw [K _ (by omega), P1 _ (by omega)]), by omega, hnx8, fun i hi => ?_, fun i hi hq => (p10 i hi hq).keep (fun k _ _ => by rw [K _ (by omega), P1 _ (by omega)])⟩, hs1.1, hs1.2, fun k hk => by rw [K _ (by omega), P1 _ (by omega)]⟩
  · refine (b_51 _ _ _).trans ?_; show am_ev _ 51 0 [some (.ref 9), some (.ref 5)] [] _ = _
    have hlt := nI_leI (show 8 < 2 ^ 31 by decide) (show nx + 1 < 2 ^ 31 by omega)
    have q9' : ∀ w, am_at (am_set h1 9 (.inr (3, [.ref 10, .ref 11, .ref 12, .int (nI u), .int w]))) 9 = some (.inr (3, [.ref 10, .ref 11, .ref 12, .int (nI u), .int w])) := fun w => at_set_eq
    have hmn := fun w : Int32 => m_min (d := d + 1) (h := am_set h1 9 (.inr (3, [.ref 10, .ref 11, .ref 12, .int (nI u), .int w]))) (show u + 1 < 2 ^ 31 by omega) (show 8 < 2 ^ 31 by decide)
    simp only [e_51_0, e_51_1, e_51_4, e_51_5, e_51_8, e_51_9, e_51_10, e_51_13, e_51_14, e_51_15, e_51_18, e_51_19, e_51_20, e_51_22, lg_n, lg_i, lg_r, wd_nil, am_wd_i, am_wd_r, am_wd_l, am_gk_s, am_fld_s, List.getElem?_cons_zero, List.getElem?_cons_succ, am_bk_v, am_bk_n, bo_0, bo_1, am_pk_s, List.length_cons, List.length_nil, Nat.zero_add, List.set_cons_zero, List.set_cons_succ, Nat.reduceAdd, Nat.reduceLeDiff, Nat.reduceLT, k0, k4, p2, qk_AR p8 (show 8 < 2 ^ 31 by decide), is_raw (p5 nx p8), htk, q9, e8, hlt, nI_1]
    by_cases hn : nx + 1 < 8
    · rw [if_pos hn] at hnx
      rw [if_neg (show ¬ 7 ≤ nx by omega)]
      simp only [e_51_25, e_51_26, e_51_29, e_51_30, e_51_31, e_51_34, e_51_35, e_51_38, e_51_39, e_51_40, e_51_43, e_51_44, e_51_45, e_51_47, e_51_50, e_51_53, lg_n, lg_i, lg_r, wd_nil, am_wd_i, am_wd_r, am_wd_l, am_gk_s, am_fld_s, List.getElem?_cons_zero, List.getElem?_cons_succ, am_bk_v, am_bk_n, bo_0, bo_1, am_pk_s, List.length_cons, List.length_nil, Nat.zero_add, List.set_cons_zero, List.set_cons_succ, Nat.reduceAdd, Nat.reduceLeDiff, Nat.reduceLT, q9, e8, nI_1, q9', hmn, set_set, hnx]
      rfl
    · rw [if_neg hn] at hnx
      rw [if_pos (show 7 ≤ nx by omega)]
      simp only [e_51_25, e_51_26, e_51_29, e_51_30, e_51_31, e_51_34, e_51_35, e_51_38, e_51_39, e_51_40, e_51_43, e_51_44, e_51_45, e_51_47, e_51_50, e_51_53, lg_n, lg_i, lg_r, wd_nil, am_wd_i, am_wd_r, am_wd_l, am_gk_s, am_fld_s, List.getElem?_cons_zero, List.getElem?_cons_succ, am_bk_v, am_bk_n, bo_0, bo_1, am_pk_s, List.length_cons, List.length_nil, Nat.zero_add, List.set_cons_zero, List.set_cons_succ, Nat.reduceAdd, Nat.reduceLeDiff, Nat.reduceLT, q9, e8, nI_1, q9', hmn, set_set, hnx]
      rfl
  · by_cases hin : i = nx
    · subst hin
      exact HA.raw.keep (fun k _ _ => K _ (by omega))
    · exact (p5 i hi).keep (fun k _ _ => by rw [K _ (by omega), P1 _ (by omega)])
  · unfold pushN
    by_cases hl : i + 1 = min (u + 1) 8
    · rw [if_pos hl]
      have : rix nx' (min (u + 1) 8) i = 13 + 4 * nx := by
        unfold rix
        rw [hnx]
        split <;> omega
      rw [this]
      exact HA.keep (fun k _ _ => K _ (by omega))
    · rw [if_neg hl]
      have hix : rix nx' (min (u + 1) 8) i = rix nx u (i + (u + 1 - min (u + 1) 8)) := by
        unfold rix
        rw [hnx]
        split <;> omega
      have hne : rix nx u (i + (u + 1 - min (u + 1) 8)) + 3 < 13 + 4 * nx ∨ 13 + 4 * nx + 3 < rix nx u (i + (u + 1 - min (u + 1) 8)) := by
        unfold rix
        omega
      have h13 : 13 ≤ rix nx u (i + (u + 1 - min (u + 1) 8)) := by unfold rix; omega
      rw [hix]
      exact (p9 (i + (u + 1 - min (u + 1) 8)) (by omega)).keep (fun k _ _ => by rw [K _ (by omega), P1 _ (by omega)])
theorem m_takeBack0 (hP : PS h 0 nx pa kp ke) : am_cal (d + 1) 52 [.ref 9, .ref 5] h = some (some (.int 0), h) := by
  refine (b_52 _ _ _).trans ?_; show am_ev _ 52 0 [some (.ref 9), some (.ref 5)] [] _ = _
  obtain ⟨k0, k1, k2, k3, k4, k5⟩ := hP.fl
  have : ¬ (1 : Int32) ≤ nI 0 := by decide +kernel
  simp only [e_52_0, e_52_1, e_52_4, e_52_5, e_52_8, e_52_9, lg_n, lg_i, lg_r, wd_nil, am_wd_i, am_wd_r, am_wd_l, am_gk_s, am_fld_s, List.getElem?_cons_zero, List.getElem?_cons_succ, am_bk_v, am_bk_n, bo_0, bo_1, am_pk_s, List.length_cons, List.length_nil, Nat.zero_add, List.set_cons_zero, List.set_cons_succ, Nat.reduceAdd, Nat.reduceLeDiff, Nat.reduceLT, k3, if_neg this]
theorem m_takeBack (hP : PS h (u + 1) nx pa kp ke) (hh : HouseAt h 5 1 σ) : ∃ h' nx', am_cal (d + 3) 52 [.ref 9, .ref 5] h = some (some (.int 1), h') ∧ PS h' u nx' pa kp ke ∧ HouseAt h' 5 1 (pa u) ∧ h'.1 = h.1 ∧ h'.2.1 = h.2.1 ∧ ∀ k, (k < 5 ∨ k = 9 ∨ 52 < k) → k ≠ 9 → am_at h' k = am_at h k := by
  obtain ⟨p1, p2, p3, p4, p5, p6, p7, p8, p9, p10⟩ := id hP
  obtain ⟨k0, k1, k2, k3, k4, k5⟩ := hP.fl
  obtain ⟨nx', hnx⟩ : ∃ nx', nx' = if 0 < nx then nx - 1 else 7 := ⟨_, rfl⟩
  have hnx8 : nx' < 8 := by rw [hnx]; split <;> omega
  have hP1 : PS (am_set h 9 (pa0 u nx')) u nx' pa kp ke := hP.obj (by omega) hnx8 (fun i hi => by
    have : rix nx' u i = rix nx (u + 1) i := by
      unfold rix
      rw [hnx]
      split <;> omega
    rw [this]
    exact p9 i (by omega))
  have hh1 : HouseAt (am_set h 9 (pa0 u nx')) 5 1 σ := hh.keep (fun k _ _ => at_set_ne (by omega))
  have hlast : HouseAt (am_set h 9 (pa0 u nx')) (13 + 4 * nx') 1 (pa u) := by
    have := p9 u (by omega)
    have e : rix nx (u + 1) u = 13 + 4 * nx' := by
      unfold rix
      rw [hnx]
      split <;> omega
    rw [e] at this
    exact this.keep (fun k _ _ => at_set_ne (by omega))
  have htk := m_takeH (d := d) hh1 hlast (by omega)
  refine ⟨pH (am_set h 9 (pa0 u nx')) 5 1 (pa u), nx', ?_, hP1.keep (fun k _ _ => at_pH_ne (by omega)), HouseAt_pH _ _ _ _, rfl, rfl, fun k hk hk9 => by rw [at_pH_ne (by omega), at_set_ne hk9]⟩
  refine (b_52 _ _ _).trans ?_; show am_ev _ 52 0 [some (.ref 9), some (.ref 5)] [] _ = _
  have e1 : ¬ nI nx ≤ 0 ↔ 0 < nx := by rw [i_le, nI_toInt (by omega), i_0]; omega
  have e7 : (7 : Int32) = nI 7 := by decide +kernel
  have hle : (1 : Int32) ≤ nI (u + 1) := by rw [i_le, nI_toInt (by omega), i_1]; omega
  have p1' := p1
  unfold pa0 at p1'
  have q9' : ∀ w, am_at (am_set h 9 (.inr (3, [.ref 10, .ref 11, .ref 12, .int (nI (u + 1)), .int w]))) 9 = some (.inr (3, [.ref 10, .ref 11, .ref 12, .int (nI (u + 1)), .int w])) := fun w => at_set_eq
  obtain ⟨r0, r1, r2, r3, r4, r5⟩ := hP1.fl
  have fin : am_ev (d + 2) 52 42 [some (.ref 9), some (.ref 5)] [] (am_set h 9 (pa0 u nx')) = some (some (.int 1), pH (am_set h 9 (pa0 u nx')) 5 1 (pa u)) := by
    simp only [e_52_42, e_52_43, e_52_44, e_52_47, e_52_48, e_52_51, e_52_52, e_52_55, e_52_56, lg_n, lg_i, lg_r, wd_nil, am_wd_i, am_wd_r, am_wd_l, am_gk_s, am_fld_s, List.getElem?_cons_zero, List.getElem?_cons_succ, am_bk_v, am_bk_n, bo_0, bo_1, am_pk_s, List.length_cons, List.length_nil, Nat.zero_add, List.set_cons_zero, List.set_cons_succ, Nat.reduceAdd, Nat.reduceLeDiff, Nat.reduceLT, r0, r4, hP1.2.1, qk_AR hnx8 (show 8 < 2 ^ 31 by decide), is_house hh1, htk]
  simp only [e_52_0, e_52_1, e_52_4, e_52_5, e_52_8, e_52_9, e_52_10, e_52_11, e_52_12, e_52_15, lg_n, lg_i, lg_r, wd_nil, am_wd_i, am_wd_r, am_wd_l, am_gk_s, am_fld_s, List.getElem?_cons_zero, List.getElem?_cons_succ, am_bk_v, am_bk_n, bo_0, bo_1, am_pk_s, List.length_cons, List.length_nil, Nat.zero_add, List.set_cons_zero, List.set_cons_succ, Nat.reduceAdd, Nat.reduceLeDiff, Nat.reduceLT, k3, k4, if_pos hle, p1']
  by_cases hn : 0 < nx
  · rw [if_pos hn] at hnx
    rw [if_neg (e1.2 hn)]
    obtain ⟨m, rfl⟩ : ∃ m, nx = m + 1 := ⟨nx - 1, by omega⟩
    simp only [e_52_18, e_52_19, e_52_22, e_52_23, e_52_24, e_52_27, e_52_29, e_52_32, e_52_33, e_52_34, e_52_37, e_52_38, e_52_39, lg_n, lg_i, lg_r, wd_nil, am_wd_i, am_wd_r, am_wd_l, am_gk_s, am_fld_s, List.getElem?_cons_zero, List.getElem?_cons_succ, am_bk_v, am_bk_n, bo_0, bo_1, am_pk_s, List.length_cons, List.length_nil, Nat.zero_add, List.set_cons_zero, List.set_cons_succ, Nat.reduceAdd, Nat.reduceLeDiff, Nat.reduceLT, p1', nI_pred, q9', set_set]
    rw [← fin, hnx]
    rfl
  · rw [if_neg hn] at hnx
    rw [if_pos (by rw [i_le, nI_toInt (by omega), i_0]; omega)]
    simp only [e_52_18, e_52_19, e_52_22, e_52_23, e_52_24, e_52_27, e_52_29, e_52_32, e_52_33, e_52_34, e_52_37, e_52_38, e_52_39, lg_n, lg_i, lg_r, wd_nil, am_wd_i, am_wd_r, am_wd_l, am_gk_s, am_fld_s, List.getElem?_cons_zero, List.getElem?_cons_succ, am_bk_v, am_bk_n, bo_0, bo_1, am_pk_s, List.length_cons, List.length_nil, Nat.zero_add, List.set_cons_zero, List.set_cons_succ, Nat.reduceAdd, Nat.reduceLeDiff, Nat.reduceLT, p1', e7, nI_pred, q9', set_set]
    rw [← fin, hnx]
    rfl
theorem m_clearPast (hP : PS h u nx pa kp ke) : ∃ h' kp', am_cal (d + 1) 50 [.ref 9] h = some (none, h') ∧ PS h' 0 nx pa kp' ke ∧ (∀ k, k < 2 → kp' k = false) ∧ h'.1 = h.1 ∧ h'.2.1 = h.2.1 ∧ ∀ k, (k < 9 ∨ 12 < k) → am_at h' k = am_at h k := by
  obtain ⟨p1, p2, p3, p4, p5, p6, p7, p8, p9, p10⟩ := id hP
  have hP1 : PS (am_set h 9 (pa0 0 nx)) 0 nx pa kp ke := hP.obj (by omega) p8 (fun i hi => absurd hi (Nat.not_lt_zero i))
  refine ⟨am_set (am_set h 9 (pa0 0 nx)) 12 (AZ 2 (updb (updb kp 0 false) 1 false)), updb (updb kp 0 false) 1 false, ?_, ?_, ?_, rfl, rfl, fun k hk => by rw [at_set_ne (by omega), at_set_ne (by omega)]⟩
  · refine (b_50 _ _ _).trans ?_; show am_ev _ 50 0 [some (.ref 9), none] [] _ = _
    have p1' := p1
    unfold pa0 at p1'
    have e2 : (2 : Int32) = nI 2 := by decide +kernel
    obtain ⟨k0, k1, k2, k3, k4, k5⟩ := hP1.fl
    have h12 := hP1.2.2.2.1
    have z0 : (0 : Int32) = if (false = true) then 1 else 0 := by decide +kernel
    have go1 : am_ev d 50 7 [some (.ref 9), some (.int (nI 0))] [] (am_set h 9 (pa0 0 nx)) = am_ev d 50 7 [some (.ref 9), some (.int (nI 1))] [] (am_set (am_set h 9 (pa0 0 nx)) 12 (AZ 2 (updb kp 0 false))) := by
      rw [e_50_7]
      simp only [e_50_8, e_50_9, e_50_12, e_50_13, e_50_16, e_50_17, e_50_18, e_50_19, e_50_22, lg_n, lg_i, lg_r, wd_nil, am_wd_i, am_wd_r, am_wd_l, am_gk_s, am_fld_s, List.getElem?_cons_zero, List.getElem?_cons_succ, am_bk_v, am_bk_n, bo_0, bo_1, am_pk_s, List.length_cons, List.length_nil, Nat.zero_add, List.set_cons_zero, List.set_cons_succ, Nat.reduceAdd, Nat.reduceLeDiff, Nat.reduceLT, e2, nI_leI (show 2 < 2 ^ 31 by decide) (show 0 < 2 ^ 31 by decide), if_false, k2, h12, sk_AZ (show 0 < 2 by decide) (show 2 < 2 ^ 31 by decide), st_AZ (show 0 < 2 by decide) (show 2 < 2 ^ 31 by decide) z0, nI_1]
    have k2' : am_fld (am_at (am_set (am_set h 9 (pa0 0 nx)) 12 (AZ 2 (updb kp 0 false))) 9) 3 2 = some (.ref 12) := by rw [at_set_ne (by decide)]; exact k2
    have go2 : am_ev d 50 7 [some (.ref 9), some (.int (nI 1))] [] (am_set (am_set h 9 (pa0 0 nx)) 12 (AZ 2 (updb kp 0 false))) = am_ev d 50 7 [some (.ref 9), some (.int (nI 2))] [] (am_set (am_set h 9 (pa0 0 nx)) 12 (AZ 2 (updb (updb kp 0 false) 1 false))) := by
      rw [e_50_7]
      simp only [e_50_8, e_50_9, e_50_12, e_50_13, e_50_16, e_50_17, e_50_18, e_50_19, e_50_22, lg_n, lg_i, lg_r, wd_nil, am_wd_i, am_wd_r, am_wd_l, am_gk_s, am_fld_s, List.getElem?_cons_zero, List.getElem?_cons_succ, am_bk_v, am_bk_n, bo_0, bo_1, am_pk_s, List.length_cons, List.length_nil, Nat.zero_add, List.set_cons_zero, List.set_cons_succ, Nat.reduceAdd, Nat.reduceLeDiff, Nat.reduceLT, e2, nI_leI (show 2 < 2 ^ 31 by decide) (show 1 < 2 ^ 31 by decide), if_false, k2', at_set_eq, sk_AZ (show 1 < 2 by decide) (show 2 < 2 ^ 31 by decide), st_AZ (show 1 < 2 by decide) (show 2 < 2 ^ 31 by decide) z0, nI_1, set_set]
    simp only [e_50_0, e_50_1, e_50_2, e_50_5, e_50_6, lg_n, lg_i, lg_r, wd_nil, am_wd_i, am_wd_r, am_wd_l, am_gk_s, am_fld_s, List.getElem?_cons_zero, List.getElem?_cons_succ, am_bk_v, am_bk_n, bo_0, bo_1, am_pk_s, List.length_cons, List.length_nil, Nat.zero_add, List.set_cons_zero, List.set_cons_succ, Nat.reduceAdd, Nat.reduceLeDiff, Nat.reduceLT, p1']
    refine Eq.trans go1 (Eq.trans go2 ?_)
    rw [e_50_7]
    simp only [e_50_8, e_50_9, e_50_25, lg_n, lg_i, lg_r, wd_nil, am_wd_i, am_wd_r, am_wd_l, am_gk_s, am_fld_s, List.getElem?_cons_zero, List.getElem?_cons_succ, am_bk_v, am_bk_n, bo_0, bo_1, am_pk_s, List.length_cons, List.length_nil, Nat.zero_add, List.set_cons_zero, List.set_cons_succ, Nat.reduceAdd, Nat.reduceLeDiff, Nat.reduceLT, e2, nI_leI (show 2 < 2 ^ 31 by decide) (show 2 < 2 ^ 31 by decide), Nat.le_refl, if_true]
  · obtain ⟨q1, q2, q3, q4, q5, q6, q7, q8, q9, q10⟩ := hP1
    refine ⟨by rw [at_set_ne (by decide)]; exact q1, by rw [at_set_ne (by decide)]; exact q2, by rw [at_set_ne (by decide)]; exact q3, at_set_eq, fun i hi => (q5 i hi).keep (fun k _ _ => at_set_ne (by omega)), fun i hi => (q6 i hi).keep (fun k _ _ => at_set_ne (by omega)), q7, q8, fun i hi => absurd hi (Nat.not_lt_zero i), fun k hk hq => ?_⟩
    exfalso
    rcases (show k = 0 ∨ k = 1 by omega) with rfl | rfl <;> simp [updb] at hq
  · intro k hk
    rcases (show k = 0 ∨ k = 1 by omega) with rfl | rfl <;> simp [updb]
end PS
