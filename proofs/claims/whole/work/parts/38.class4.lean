/-! the class's calls: what is foretold -/
def sonI (x : Nat) : Int32 := if x ≤ 60 then nI x else -1
def cdN : Nat → Nat → Nat → Nat
  | 0, l, _ => l
  | j + 1, l, s => if 0 < s then cdN j s (l % s) else l
theorem cdN_lt {B : Nat} : ∀ j l s, l < B → s < B → cdN j l s < B
  | 0, l, s, hl, _ => hl
  | j + 1, l, s, hl, hs => by
    unfold cdN
    split
    · rename_i h0
      have := Nat.mod_lt l h0
      exact cdN_lt j s (l % s) hs (by omega)
    · exact hl
theorem FO.lb {h h' : am_H} {P : Pn} {σ : Hn} {Φ : Fo} (hF : FO h P σ Φ) (hl : LB h h' 62 1) : FO h' P σ Φ := by
  rcases hl with rfl | ⟨τ, rfl⟩
  · exact hF
  · obtain ⟨h1, h2, h3, h4, h5, h6⟩ := hF
    exact ⟨by rw [at_pH_ne (by decide)]; exact h1, by rw [at_pH_ne (by decide)]; exact h2, by rw [at_pH_ne (by decide)]; exact h3, (HouseAt_pH _ _ _ _).raw, h5, h6⟩
theorem LB.at {h h' : am_H} {l b k : Nat} (hl : LB h h' l b) (hk : k < l ∨ l + 3 < k) : am_at h' k = am_at h k := by
  rcases hl with rfl | ⟨τ, rfl⟩
  · rfl
  · exact at_pH_ne hk
theorem LB.sz {h h' : am_H} {l b : Nat} (hl : LB h h' l b) : h'.1 = h.1 ∧ h'.2.1 = h.2.1 := by
  rcases hl with rfl | ⟨τ, rfl⟩ <;> exact ⟨rfl, rfl⟩
section CL
variable {d : Nat} {h : am_H} {P : Pn} {σ : Hn} {u : Nat} {pa : Nat → Hn} {kp : Nat → Bool} {ke : Nat → Hn} {t : Nat → Nat} {n sn : Nat} {sF sT sK : Nat → Nat} {nz : Nat → Nat} {nt : Nat → Nat → Nat}
theorem CI.lb (hC : CI h P σ u pa kp ke t n sn sF sT sK nz nt) {h' : am_H} (hl : LB h h' 62 1) : CI h' P σ u pa kp ke t n sn sF sT sK nz nt ∧ FC h h' := by
  obtain ⟨Φ, hF⟩ := hC.2.2.2.2.2.2.1
  exact ⟨hC.fo ⟨Φ, hF.lb hl⟩ (fun k hk => hl.at (by omega)), hl.sz.1, hl.sz.2, fun k hk => hl.at (by omega)⟩
theorem m_son {x : Nat} (hx : x < 2 ^ 31) : am_cal (d + 1) 118 [.int (nI x)] h = some (some (.int (sonI x)), h) := by
  refine (b_118 _ _ _).trans ?_; show am_ev _ 118 0 [some (.int (nI x))] [] _ = _
  simp only [e_118_0, e_118_1, e_118_3, e_118_6, e_118_7, e_118_10, e_118_11, lg_n, lg_i, lg_r, wd_nil, am_wd_i, am_wd_r, am_wd_l, am_gk_s, am_fld_s, List.getElem?_cons_zero, List.getElem?_cons_succ, am_bk_v, am_bk_n, bo_0, bo_1, am_pk_s, List.length_cons, List.length_nil, Nat.zero_add, List.set_cons_zero, List.set_cons_succ, Nat.reduceAdd, Nat.reduceLeDiff, Nat.reduceLT, i60, nI_leI hx (show 60 < 2 ^ 31 by decide)]
  unfold sonI
  by_cases h6 : x ≤ 60
  · rw [if_pos h6, if_pos h6]
  · rw [if_neg h6, if_neg h6]
theorem c_behind (hC : CI h P σ u pa kp ke t n sn sF sT sK nz nt) (hD : OKD P) (hO : HOK P σ) (p m w : Int32) : ∃ h', am_cal (d + 8) 96 [.ref 0, .int p, .int m, .int w] h = some (some (.int (if 0 ≤ p.toInt ∧ p.toInt < P.2.2.2.1 then (if (0 ≤ m.toInt ∧ m.toInt ≤ 60) ∧ (3 ≤ w.toInt ∧ w.toInt ≤ 5) then (if w = 3 then sI ((behN P σ m.toInt.toNat).2.2.1 p.toInt.toNat) else if w = 4 then cI ((behN P σ m.toInt.toNat).2.2.1 p.toInt.toNat) else nI ((behN P σ m.toInt.toNat).2.2.2 p.toInt.toNat)) else -3) else -2)), h') ∧ CI h' P σ u pa kp ke t n sn sF sT sK nz nt ∧ FC h h' := by
  obtain ⟨f0, f1, f2, f3, f4, f5, f6, f7, f8⟩ := hC.fl
  obtain ⟨oP, q1, q2, -⟩ := hD
  have hn := oP.2.2.2.1
  have hp := hC.2.2.1
  have hhp := m_hasPerson (d := d + 6) hp (show P.2.2.2.1 < 2 ^ 31 by omega) p
  have hw1 := m_within (d := d + 6) (h := h) m 0 60
  have hw2 := m_within (d := d + 6) (h := h) w 3 5
  have hi1 : ((0 : Int32) ≤ m ∧ m ≤ 60) ↔ (0 ≤ m.toInt ∧ m.toInt ≤ 60) := by rw [i_le, i_le]; exact Iff.rfl
  have hi2 : ((3 : Int32) ≤ w ∧ w ≤ 5) ↔ (3 ≤ w.toInt ∧ w.toInt ≤ 5) := by rw [i_le, i_le]; exact Iff.rfl
  by_cases hin : 0 ≤ p.toInt ∧ p.toInt < P.2.2.2.1
  · rw [if_pos hin] at hhp ⊢
    by_cases hm : 0 ≤ m.toInt ∧ m.toInt ≤ 60
    · rw [if_pos (hi1.2 hm)] at hw1
      by_cases hw : 3 ≤ w.toInt ∧ w.toInt ≤ 5
      · rw [if_pos (hi2.2 hw)] at hw2
        rw [if_pos ⟨hm, hw⟩]
        obtain ⟨Φ, hF⟩ := hC.2.2.2.2.2.2.1
        have hS := hC.fs hF
        obtain ⟨N, rfl, hN⟩ : ∃ N : Nat, m = nI N ∧ N ≤ 60 := ⟨m.toInt.toNat, i_of m hm.1, by omega⟩
        rw [nI_toInt (show N < 2 ^ 31 by omega), Int.toNat_natCast]
        have hb := m_houseBehind (d := d + 2) hS oP hO.1 (by omega) (N := N) (by have := hO.2.1; omega)
        have hl : LB h (pH h 62 1 (behN P σ N)) 62 1 := LB.mk _
        obtain ⟨C1, F1⟩ := hC.lb hl
        have hto := m_toldOf (d := d + 5) (C1.2.2.1) (HouseAt_pH h 62 1 (behN P σ N)) hn p w
        rw [if_pos hin] at hto
        have k7 := (hS.fl).2.2.2.2.2.2.2
        refine ⟨_, ?_, C1, F1⟩
        refine (b_96 _ _ _).trans ?_; show am_ev _ 96 0 [some (.ref 0), some (.int p), some (.int (nI N)), some (.int w)] [] _ = _
        simp only [e_96_0, e_96_1, e_96_4, e_96_5, e_96_8, e_96_11, e_96_13, e_96_14, e_96_15, e_96_16, e_96_18, e_96_21, e_96_24, e_96_25, e_96_26, e_96_27, e_96_30, e_96_33, e_96_35, e_96_36, e_96_37, e_96_40, e_96_41, e_96_44, e_96_45, e_96_46, e_96_49, lg_n, lg_i, lg_r, wd_nil, am_wd_i, am_wd_r, am_wd_l, am_gk_s, am_fld_s, List.getElem?_cons_zero, List.getElem?_cons_succ, am_bk_v, am_bk_n, bo_0, bo_1, am_pk_s, List.length_cons, List.length_nil, Nat.zero_add, List.set_cons_zero, List.set_cons_succ, Nat.reduceAdd, Nat.reduceLeDiff, Nat.reduceLT, f0, f4, is_plan hp, hhp, hw1, hw2, one_ne, not_false_eq_true, if_true, if_false, k7, hb, is_house (HouseAt_pH h 62 1 (behN P σ N)), hto]
        by_cases w3 : w = 3
        · simp [w3]
        · by_cases w4 : w = 4
          · simp [w4]
          · have w5 : w = 5 := by
              rw [i_eq] at w3 w4 ⊢
              have a3 : (3 : Int32).toInt = 3 := rfl
              have a4 : (4 : Int32).toInt = 4 := rfl
              have a5 : (5 : Int32).toInt = 5 := rfl
              omega
            simp [w5]
      · rw [if_neg (fun z => hw (hi2.1 z))] at hw2
        rw [if_neg (fun z => hw z.2)]
        refine ⟨h, ?_, hC, FC.rf⟩
        refine (b_96 _ _ _).trans ?_; show am_ev _ 96 0 [some (.ref 0), some (.int p), some (.int m), some (.int w)] [] _ = _
        simp only [e_96_0, e_96_1, e_96_4, e_96_5, e_96_8, e_96_11, e_96_13, e_96_14, e_96_15, e_96_16, e_96_18, e_96_21, e_96_24, e_96_25, e_96_26, e_96_27, e_96_30, e_96_33, e_96_35, lg_n, lg_i, lg_r, wd_nil, am_wd_i, am_wd_r, am_wd_l, am_gk_s, am_fld_s, List.getElem?_cons_zero, List.getElem?_cons_succ, am_bk_v, am_bk_n, bo_0, bo_1, am_pk_s, List.length_cons, List.length_nil, Nat.zero_add, List.set_cons_zero, List.set_cons_succ, Nat.reduceAdd, Nat.reduceLeDiff, Nat.reduceLT, f0, is_plan hp, hhp, hw1, hw2, one_ne, not_false_eq_true, not_true_eq_false, if_true, if_false]
    · rw [if_neg (fun z => hm (hi1.1 z))] at hw1
      rw [if_neg (fun z => hm z.1)]
      refine ⟨h, ?_, hC, FC.rf⟩
      refine (b_96 _ _ _).trans ?_; show am_ev _ 96 0 [some (.ref 0), some (.int p), some (.int m), some (.int w)] [] _ = _
      simp only [e_96_0, e_96_1, e_96_4, e_96_5, e_96_8, e_96_11, e_96_13, e_96_14, e_96_15, e_96_16, e_96_18, e_96_21, e_96_24, e_96_25, e_96_26, e_96_27, e_96_30, e_96_33, e_96_35, lg_n, lg_i, lg_r, wd_nil, am_wd_i, am_wd_r, am_wd_l, am_gk_s, am_fld_s, List.getElem?_cons_zero, List.getElem?_cons_succ, am_bk_v, am_bk_n, bo_0, bo_1, am_pk_s, List.length_cons, List.length_nil, Nat.zero_add, List.set_cons_zero, List.set_cons_succ, Nat.reduceAdd, Nat.reduceLeDiff, Nat.reduceLT, f0, is_plan hp, hhp, hw1, one_ne, not_false_eq_true, not_true_eq_false, if_true, if_false]
  · rw [if_neg hin] at hhp ⊢
    refine ⟨h, ?_, hC, FC.rf⟩
    refine (b_96 _ _ _).trans ?_; show am_ev _ 96 0 [some (.ref 0), some (.int p), some (.int m), some (.int w)] [] _ = _
    simp only [e_96_0, e_96_1, e_96_4, e_96_5, e_96_8, e_96_11, e_96_13, lg_n, lg_i, lg_r, wd_nil, am_wd_i, am_wd_r, am_wd_l, am_gk_s, am_fld_s, List.getElem?_cons_zero, List.getElem?_cons_succ, am_bk_v, am_bk_n, bo_0, bo_1, am_pk_s, List.length_cons, List.length_nil, Nat.zero_add, List.set_cons_zero, List.set_cons_succ, Nat.reduceAdd, Nat.reduceLeDiff, Nat.reduceLT, f0, is_plan hp, hhp, not_true_eq_false, if_true, if_false]
theorem c_arrives (hC : CI h P σ u pa kp ke t n sn sF sT sK nz nt) (hD : OKD P) (hO : HOK P σ) (p : Int32) : ∃ h', am_cal (d + 8) 97 [.ref 0, .int p] h = some (some (.int (if 0 ≤ p.toInt ∧ p.toInt < P.2.2.2.1 then sonI (srchN (fun t => (behN P σ t).2.2.1 p.toInt.toNat == 1) 61 0) else -2)), h') ∧ CI h' P σ u pa kp ke t n sn sF sT sK nz nt ∧ FC h h' := by
  obtain ⟨f0, f1, f2, f3, f4, f5, f6, f7, f8⟩ := hC.fl
  obtain ⟨oP, q1, q2, -⟩ := hD
  have hn := oP.2.2.2.1
  have hp := hC.2.2.1
  have hhp := m_hasPerson (d := d + 6) hp (show P.2.2.2.1 < 2 ^ 31 by omega) p
  by_cases hin : 0 ≤ p.toInt ∧ p.toInt < P.2.2.2.1
  · rw [if_pos hin] at hhp ⊢
    obtain ⟨q, rfl, hq⟩ : ∃ q : Nat, p = nI q ∧ q < P.2.2.2.1 := ⟨p.toInt.toNat, i_of p hin.1, by omega⟩
    rw [nI_toInt (show q < 2 ^ 31 by omega), Int.toNat_natCast]
    obtain ⟨Φ, hF⟩ := hC.2.2.2.2.2.2.1
    have hS := hC.fs hF
    have k7 := (hS.fl).2.2.2.2.2.2.2
    obtain ⟨τ', ha⟩ := m_arrivalOf (d := d + 2) hS oP hO.1 (by omega) (by have := hO.2.1; omega) hq
    obtain ⟨C1, F1⟩ := hC.lb (LB.mk (h := h) (l := 62) (b := 1) τ')
    have hle := srchN_le (fun t => (behN P σ t).2.2.1 q == 1) 61 0 (by omega)
    refine ⟨_, ?_, C1, F1⟩
    refine (b_97 _ _ _).trans ?_; show am_ev _ 97 0 [some (.ref 0), some (.int (nI q))] [] _ = _
    simp only [e_97_0, e_97_1, e_97_4, e_97_5, e_97_8, e_97_11, e_97_12, e_97_15, e_97_16, e_97_19, e_97_22, e_97_25, e_97_27, lg_n, lg_i, lg_r, wd_nil, am_wd_i, am_wd_r, am_wd_l, am_gk_s, am_fld_s, List.getElem?_cons_zero, List.getElem?_cons_succ, am_bk_v, am_bk_n, bo_0, bo_1, am_pk_s, List.length_cons, List.length_nil, Nat.zero_add, List.set_cons_zero, List.set_cons_succ, Nat.reduceAdd, Nat.reduceLeDiff, Nat.reduceLT, f0, f4, is_plan hp, hhp, one_ne, if_false, k7, ha, m_son (show srchN (fun t => (behN P σ t).2.2.1 q == 1) 61 0 < 2 ^ 31 by omega)]
  · rw [if_neg hin] at hhp ⊢
    refine ⟨h, ?_, hC, FC.rf⟩
    refine (b_97 _ _ _).trans ?_; show am_ev _ 97 0 [some (.ref 0), some (.int p)] [] _ = _
    simp only [e_97_0, e_97_1, e_97_4, e_97_5, e_97_8, e_97_11, e_97_12, e_97_15, e_97_16, e_97_19, e_97_22, e_97_25, e_97_27, lg_n, lg_i, lg_r, wd_nil, am_wd_i, am_wd_r, am_wd_l, am_gk_s, am_fld_s, List.getElem?_cons_zero, List.getElem?_cons_succ, am_bk_v, am_bk_n, bo_0, bo_1, am_pk_s, List.length_cons, List.length_nil, Nat.zero_add, List.set_cons_zero, List.set_cons_succ, Nat.reduceAdd, Nat.reduceLeDiff, Nat.reduceLT, f0, is_plan hp, hhp, if_true]
theorem c_all (hC : CI h P σ u pa kp ke t n sn sF sT sK nz nt) (hD : OKD P) (hO : HOK P σ) : ∃ h', am_cal (d + 8) 98 [.ref 0] h = some (some (.int (sonI (lastN P σ σ.2.1))), h') ∧ CI h' P σ u pa kp ke t n sn sF sT sK nz nt ∧ FC h h' := by
  obtain ⟨f0, f1, f2, f3, f4, f5, f6, f7, f8⟩ := hC.fl
  obtain ⟨oP, q1, q2, -⟩ := hD
  obtain ⟨Φ, hF⟩ := hC.2.2.2.2.2.2.1
  have hS := hC.fs hF
  have k7 := (hS.fl).2.2.2.2.2.2.2
  obtain ⟨τ', ha⟩ := m_lastArrival (d := d + 2) hS oP hO.1 (by omega) (by have := hO.2.1; omega) σ.2.1
  obtain ⟨C1, F1⟩ := hC.lb (LB.mk (h := h) (l := 62) (b := 1) τ')
  have hle := srchN_le (fun t => missN P (behN P (σ.1, σ.2.1, σ.2.2) t) == 0) 61 0 (by omega)
  obtain ⟨g0, g1, g2, -⟩ := fl_house hC.2.2.2.1
  refine ⟨_, ?_, C1, F1⟩
  refine (b_98 _ _ _).trans ?_; show am_ev _ 98 0 [some (.ref 0)] [] _ = _
  simp only [e_98_0, e_98_1, e_98_4, e_98_5, e_98_8, e_98_11, e_98_14, e_98_17, lg_n, lg_i, lg_r, wd_nil, am_wd_i, am_wd_r, am_wd_l, am_gk_s, am_fld_s, List.getElem?_cons_zero, List.getElem?_cons_succ, am_bk_v, am_bk_n, bo_0, bo_1, am_pk_s, List.length_cons, List.length_nil, Nat.zero_add, List.set_cons_zero, List.set_cons_succ, Nat.reduceAdd, Nat.reduceLeDiff, Nat.reduceLT, f1, f4, g2, k7, ha, m_son (show srchN (fun t => missN P (behN P (σ.1, σ.2.1, σ.2.2) t) == 0) 61 0 < 2 ^ 31 by omega)]
  rfl
theorem c_meet (hC : CI h P σ u pa kp ke t n sn sF sT sK nz nt) (hD : OKD P) (hO : HOK P σ) (p q : Int32) : ∃ h', am_cal (d + 8) 99 [.ref 0, .int p, .int q] h = some (some (.int (if (0 ≤ p.toInt ∧ p.toInt < P.2.2.2.1) ∧ (0 ≤ q.toInt ∧ q.toInt < P.2.2.2.1) ∧ p ≠ q then sonI (srchN (fun t => decide (2 ≤ (behN P σ t).2.2.1 p.toInt.toNat ∧ (behN P σ t).2.2.1 p.toInt.toNat = (behN P σ t).2.2.1 q.toInt.toNat)) 61 0) else -2)), h') ∧ CI h' P σ u pa kp ke t n sn sF sT sK nz nt ∧ FC h h' := by
  obtain ⟨f0, f1, f2, f3, f4, f5, f6, f7, f8⟩ := hC.fl
  obtain ⟨oP, q1, q2, -⟩ := hD
  have hn := oP.2.2.2.1
  have hp := hC.2.2.1
  have hhp := m_hasPerson (d := d + 6) hp (show P.2.2.2.1 < 2 ^ 31 by omega) p
  have hhq := m_hasPerson (d := d + 6) hp (show P.2.2.2.1 < 2 ^ 31 by omega) q
  by_cases hin : 0 ≤ p.toInt ∧ p.toInt < P.2.2.2.1
  · rw [if_pos hin] at hhp
    by_cases hiq : 0 ≤ q.toInt ∧ q.toInt < P.2.2.2.1
    · rw [if_pos hiq] at hhq
      by_cases hpq : p = q
      · rw [if_neg (fun z => z.2.2 hpq)]
        refine ⟨h, ?_, hC, FC.rf⟩
        refine (b_99 _ _ _).trans ?_; show am_ev _ 99 0 [some (.ref 0), some (.int p), some (.int q)] [] _ = _
        simp only [e_99_0, e_99_1, e_99_4, e_99_5, e_99_8, e_99_11, e_99_12, e_99_15, e_99_16, e_99_19, e_99_22, e_99_23, e_99_24, e_99_27, e_99_29, lg_n, lg_i, lg_r, wd_nil, am_wd_i, am_wd_r, am_wd_l, am_gk_s, am_fld_s, List.getElem?_cons_zero, List.getElem?_cons_succ, am_bk_v, am_bk_n, bo_0, bo_1, am_pk_s, List.length_cons, List.length_nil, Nat.zero_add, List.set_cons_zero, List.set_cons_succ, Nat.reduceAdd, Nat.reduceLeDiff, Nat.reduceLT, f0, is_plan hp, hhp, hhq, one_ne, if_false, hpq, not_true_eq_false, if_true]
      · rw [if_pos ⟨hin, hiq, hpq⟩]
        obtain ⟨a, rfl, ha⟩ : ∃ a : Nat, p = nI a ∧ a < P.2.2.2.1 := ⟨p.toInt.toNat, i_of p hin.1, by omega⟩
        obtain ⟨b, rfl, hb⟩ : ∃ b : Nat, q = nI b ∧ b < P.2.2.2.1 := ⟨q.toInt.toNat, i_of q hiq.1, by omega⟩
        rw [nI_toInt (show a < 2 ^ 31 by omega), nI_toInt (show b < 2 ^ 31 by omega), Int.toNat_natCast, Int.toNat_natCast]
        obtain ⟨Φ, hF⟩ := hC.2.2.2.2.2.2.1
        have hS := hC.fs hF
        have k7 := (hS.fl).2.2.2.2.2.2.2
        obtain ⟨τ', hm⟩ := m_firstMeeting (d := d + 2) hS oP hO.1 (by omega) (by have := hO.2.1; omega) ha hb
        obtain ⟨C1, F1⟩ := hC.lb (LB.mk (h := h) (l := 62) (b := 1) τ')
        have hle := srchN_le (fun t => decide (2 ≤ (behN P σ t).2.2.1 a ∧ (behN P σ t).2.2.1 a = (behN P σ t).2.2.1 b)) 61 0 (by omega)
        refine ⟨_, ?_, C1, F1⟩
        refine (b_99 _ _ _).trans ?_; show am_ev _ 99 0 [some (.ref 0), some (.int (nI a)), some (.int (nI b))] [] _ = _
        simp only [e_99_0, e_99_1, e_99_4, e_99_5, e_99_8, e_99_11, e_99_12, e_99_15, e_99_16, e_99_19, e_99_22, e_99_23, e_99_24, e_99_27, e_99_29, e_99_30, e_99_31, e_99_34, e_99_35, e_99_36, e_99_39, e_99_42, lg_n, lg_i, lg_r, wd_nil, am_wd_i, am_wd_r, am_wd_l, am_gk_s, am_fld_s, List.getElem?_cons_zero, List.getElem?_cons_succ, am_bk_v, am_bk_n, bo_0, bo_1, am_pk_s, List.length_cons, List.length_nil, Nat.zero_add, List.set_cons_zero, List.set_cons_succ, Nat.reduceAdd, Nat.reduceLeDiff, Nat.reduceLT, f0, f4, is_plan hp, hhp, hhq, one_ne, if_false, hpq, not_false_eq_true, if_true, k7, hm, m_son (show srchN (fun t => decide (2 ≤ (behN P σ t).2.2.1 a ∧ (behN P σ t).2.2.1 a = (behN P σ t).2.2.1 b)) 61 0 < 2 ^ 31 by omega)]
    · rw [if_neg hiq] at hhq
      rw [if_neg (fun z => hiq z.2.1)]
      refine ⟨h, ?_, hC, FC.rf⟩
      refine (b_99 _ _ _).trans ?_; show am_ev _ 99 0 [some (.ref 0), some (.int p), some (.int q)] [] _ = _
      simp only [e_99_0, e_99_1, e_99_4, e_99_5, e_99_8, e_99_11, e_99_12, e_99_15, e_99_16, e_99_19, e_99_22, e_99_23, e_99_24, e_99_27, e_99_29, lg_n, lg_i, lg_r, wd_nil, am_wd_i, am_wd_r, am_wd_l, am_gk_s, am_fld_s, List.getElem?_cons_zero, List.getElem?_cons_succ, am_bk_v, am_bk_n, bo_0, bo_1, am_pk_s, List.length_cons, List.length_nil, Nat.zero_add, List.set_cons_zero, List.set_cons_succ, Nat.reduceAdd, Nat.reduceLeDiff, Nat.reduceLT, f0, is_plan hp, hhp, hhq, one_ne, if_false, if_true]
  · rw [if_neg hin] at hhp
    rw [if_neg (fun z => hin z.1)]
    refine ⟨h, ?_, hC, FC.rf⟩
    refine (b_99 _ _ _).trans ?_; show am_ev _ 99 0 [some (.ref 0), some (.int p), some (.int q)] [] _ = _
    simp only [e_99_0, e_99_1, e_99_4, e_99_5, e_99_8, e_99_11, e_99_12, e_99_15, e_99_16, e_99_19, e_99_22, e_99_23, e_99_24, e_99_27, e_99_29, lg_n, lg_i, lg_r, wd_nil, am_wd_i, am_wd_r, am_wd_l, am_gk_s, am_fld_s, List.getElem?_cons_zero, List.getElem?_cons_succ, am_bk_v, am_bk_n, bo_0, bo_1, am_pk_s, List.length_cons, List.length_nil, Nat.zero_add, List.set_cons_zero, List.set_cons_succ, Nat.reduceAdd, Nat.reduceLeDiff, Nat.reduceLT, f0, is_plan hp, hhp, if_true]
theorem c_jam (hC : CI h P σ u pa kp ke t n sn sF sT sK nz nt) (hD : OKD P) (hO : HOK P σ) (w : Int32) : ∃ h', am_cal (d + 8) 100 [.ref 0, .int w] h = some (some (.int (if 0 ≤ w.toInt ∧ w.toInt ≤ 1 then (if (wrstN P σ (2 * P.1)).1 = 0 ∨ w = 0 then cI ((wrstN P σ (2 * P.1)).1 + 1) else sonI (lastN P σ (σ.2.1 ||| 2 ^ ((wrstN P σ (2 * P.1)).1 - 1)))) else -3)), h') ∧ CI h' P σ u pa kp ke t n sn sF sT sK nz nt ∧ FC h h' := by
  obtain ⟨f0, f1, f2, f3, f4, f5, f6, f7, f8⟩ := hC.fl
  obtain ⟨oP, q1, q2, -⟩ := hD
  have hw1 := m_within (d := d + 6) (h := h) w 0 1
  have hi1 : ((0 : Int32) ≤ w ∧ w ≤ 1) ↔ (0 ≤ w.toInt ∧ w.toInt ≤ 1) := by rw [i_le, i_le]; exact Iff.rfl
  by_cases hw : 0 ≤ w.toInt ∧ w.toInt ≤ 1
  · rw [if_pos (hi1.2 hw)] at hw1
    rw [if_pos hw]
    obtain ⟨Φ, hF⟩ := hC.2.2.2.2.2.2.1
    have hS := hC.fs hF
    have k7 := (hS.fl).2.2.2.2.2.2.2
    obtain ⟨h1, e1, l1⟩ := m_worst (d := d + 1) hS oP hO.1 (by omega) (by have := hO.2.1; omega)
    have hle := wrstN_le P σ (2 * P.1)
    obtain ⟨C1, F1⟩ := hC.lb l1
    generalize (wrstN P σ (2 * P.1)).1 = W at *
    by_cases hc : W = 0 ∨ w = 0
    · rw [if_pos hc]
      refine ⟨h1, ?_, C1, F1⟩
      refine (b_100 _ _ _).trans ?_; show am_ev _ 100 0 [some (.ref 0), some (.int w), none] [] _ = _
      simp only [e_100_0, e_100_1, e_100_2, e_100_3, e_100_6, e_100_9, e_100_11, e_100_12, e_100_13, e_100_16, e_100_19, e_100_20, e_100_21, e_100_22, e_100_25, e_100_26, e_100_29, e_100_30, lg_n, lg_i, lg_r, wd_nil, am_wd_i, am_wd_r, am_wd_l, am_gk_s, am_fld_s, List.getElem?_cons_zero, List.getElem?_cons_succ, am_bk_v, am_bk_n, bo_0, bo_1, am_pk_s, List.length_cons, List.length_nil, Nat.zero_add, List.set_cons_zero, List.set_cons_succ, Nat.reduceAdd, Nat.reduceLeDiff, Nat.reduceLT, hw1, one_ne, not_false_eq_true, if_true, if_false, f4, k7, e1, cI_m1 (show W < 2 ^ 30 by omega)]
      by_cases hW : W = 0
      · simp [hW]
      · have : w = 0 := by rcases hc with hc | hc; exact absurd hc hW; exact hc
        simp [hW, this]
    · rw [if_neg hc]
      obtain ⟨V, rfl⟩ : ∃ V, W = V + 1 := ⟨W - 1, by omega⟩
      rw [Nat.add_sub_cancel]
      obtain ⟨Φ1, hF1⟩ := C1.2.2.2.2.2.2.1
      have hS1 := C1.fs hF1
      have k71 := (hS1.fl).2.2.2.2.2.2.2
      obtain ⟨τ', ha⟩ := m_lastArrival (d := d + 2) hS1 oP hO.1 (by omega) (by have := hO.2.1; omega) (σ.2.1 ||| 2 ^ V)
      obtain ⟨C2, F2⟩ := C1.lb (LB.mk (h := h1) (l := 62) (b := 1) τ')
      have hle2 := srchN_le (fun t => missN P (behN P (σ.1, σ.2.1 ||| 2 ^ V, σ.2.2) t) == 0) 61 0 (by omega)
      obtain ⟨g0, g1, g2, -⟩ := fl_house C1.2.2.2.1
      obtain ⟨v0, v1, v2, v3, v4, -⟩ := C1.fl
      refine ⟨_, ?_, C2, F1.tr F2⟩
      have w0 : ¬ w = 0 := fun z => hc (Or.inr z)
      refine (b_100 _ _ _).trans ?_; show am_ev _ 100 0 [some (.ref 0), some (.int w), none] [] _ = _
      simp only [e_100_0, e_100_1, e_100_2, e_100_3, e_100_6, e_100_9, e_100_11, e_100_12, e_100_13, e_100_16, e_100_19, e_100_20, e_100_21, e_100_22, e_100_25, e_100_26, e_100_29, e_100_30, e_100_31, e_100_32, e_100_35, e_100_36, e_100_39, e_100_42, e_100_43, e_100_44, e_100_45, e_100_46, e_100_49, e_100_52, lg_n, lg_i, lg_r, wd_nil, am_wd_i, am_wd_r, am_wd_l, am_gk_s, am_fld_s, List.getElem?_cons_zero, List.getElem?_cons_succ, am_bk_v, am_bk_n, bo_0, bo_1, am_pk_s, List.length_cons, List.length_nil, Nat.zero_add, List.set_cons_zero, List.set_cons_succ, Nat.reduceAdd, Nat.reduceLeDiff, Nat.reduceLT, hw1, one_ne, not_false_eq_true, if_true, if_false, f4, k7, e1, cI_s, if_neg (nm1 (show V < 2 ^ 31 by omega)), w0, v1, v4, g2, sh1 V (by omega), fa_or, k71, ha, m_son (show srchN (fun t => missN P (behN P (σ.1, σ.2.1 ||| 2 ^ V, σ.2.2) t) == 0) 61 0 < 2 ^ 31 by omega)]
      rfl
  · rw [if_neg (fun z => hw (hi1.1 z))] at hw1
    rw [if_neg hw]
    refine ⟨h, ?_, hC, FC.rf⟩
    refine (b_100 _ _ _).trans ?_; show am_ev _ 100 0 [some (.ref 0), some (.int w), none] [] _ = _
    simp only [e_100_0, e_100_1, e_100_2, e_100_3, e_100_6, e_100_9, e_100_11, lg_n, lg_i, lg_r, wd_nil, am_wd_i, am_wd_r, am_wd_l, am_gk_s, am_fld_s, List.getElem?_cons_zero, List.getElem?_cons_succ, am_bk_v, am_bk_n, bo_0, bo_1, am_pk_s, List.length_cons, List.length_nil, Nat.zero_add, List.set_cons_zero, List.set_cons_succ, Nat.reduceAdd, Nat.reduceLeDiff, Nat.reduceLT, hw1, not_true_eq_false, if_true, if_false]
end CL
