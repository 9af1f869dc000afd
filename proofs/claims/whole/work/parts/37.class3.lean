/-! the class's calls: stairs, undo, keep, back, hall -/
theorem cnt_bits (g : Nat → Bool) {n : Nat} (hn : n ≤ 8) : cntN (fun i => (bitsN g n).testBit i) 8 = cntN g n := by
  have key : ∀ m, cntN (fun i => (bitsN g n).testBit i) (n + m) = cntN g n := by
    intro m
    induction m with
    | zero =>
      apply cntN_cong
      intro k hk
      rw [bitsN_bit, decide_eq_true (show k < n from hk), Bool.true_and]
    | succ m ih =>
      rw [← Nat.add_assoc, cntN, ih, bitsN_bit, decide_eq_false (show ¬ n + m < n by omega)]
      rfl
  have := key (8 - n)
  rwa [show n + (8 - n) = 8 by omega] at this
theorem sI_b (x : Nat) : (sI x == 0) = (x == 0) ∧ (sI x == 1) = decide (2 ≤ x) ∧ (sI x == 2) = (x == 1) := by
  refine ⟨?_, ?_, ?_⟩
  · rw [Bool.eq_iff_iff, beq_iff_eq, beq_iff_eq]; exact sI_0 x
  · rw [Bool.eq_iff_iff, beq_iff_eq, decide_eq_true_eq]; exact sI_1 x
  · rw [Bool.eq_iff_iff, beq_iff_eq, beq_iff_eq]; exact sI_2 x
theorem FO.any2 {h : am_H} {P Q : Pn} {σ τ : Hn} {Φ : Fo} (hF : FO h P σ Φ) (h0 : Φ.2.2.1 = 0) : FO h Q τ Φ := ⟨hF.1, hF.2.1, hF.2.2.1, hF.2.2.2.1, hF.2.2.2.2.1, Or.inl h0⟩
theorem NS.cong {h : am_H} {nz nz' : Nat → Nat} {nt : Nat → Nat → Nat} (hN : NS h nz nt) (he : ∀ i, i < 3 → nz' i = nz i) : NS h nz' nt := by
  obtain ⟨h1, h2, h3⟩ := hN
  refine ⟨h1, h2, fun i hi => ?_⟩
  rw [he i hi]
  exact h3 i hi
section CL
variable {d : Nat} {h : am_H} {P : Pn} {σ : Hn} {u : Nat} {pa : Nat → Hn} {kp : Nat → Bool} {ke : Nat → Hn} {t : Nat → Nat} {n sn : Nat} {sF sT sK : Nat → Nat} {nz : Nat → Nat} {nt : Nat → Nat → Nat}
theorem c_stairs (hC : CI h P σ u pa kp ke t n sn sF sT sK nz nt) (oP : OKP P) (p : Int32) : (¬ (0 ≤ p.toInt ∧ p.toInt < P.2.2.2.1) → am_cal (d + 8) 92 [.ref 0, .int p] h = some (some (.int (-2)), h)) ∧ (0 ≤ p.toInt ∧ p.toInt < P.2.2.2.1 → σ.2.2.1 p.toInt.toNat ≠ 0 → am_cal (d + 8) 92 [.ref 0, .int p] h = some (some (.int (-4)), h)) ∧ (0 ≤ p.toInt ∧ p.toInt < P.2.2.2.1 → σ.2.2.1 p.toInt.toNat = 0 → ∃ h', am_cal (d + 8) 92 [.ref 0, .int p] h = some (some (.int (nI (cntN (fun q => updn σ.2.2.1 p.toInt.toNat 1 q == 0) P.2.2.2.1))), h') ∧ CI h' P (σ.1, σ.2.1, updn σ.2.2.1 p.toInt.toNat 1, σ.2.2.2) (min (u + 1) 8) (pushN u pa σ) kp ke t n sn sF sT sK nz nt ∧ FC h h') := by
  obtain ⟨f0, f1, f2, f3, f4, f5, f6, f7, f8⟩ := hC.fl
  have hn := oP.2.2.2.1
  have hp := hC.2.2.1
  have hh := hC.2.2.2.1
  have hhp := m_hasPerson (d := d + 6) hp (show P.2.2.2.1 < 2 ^ 31 by omega) p
  refine ⟨fun hno => ?_, fun hin hx => ?_, fun hin hx => ?_⟩
  · rw [if_neg hno] at hhp
    refine (b_92 _ _ _).trans ?_; show am_ev _ 92 0 [some (.ref 0), some (.int p)] [] _ = _
    simp only [e_92_0, e_92_1, e_92_4, e_92_5, e_92_8, e_92_11, e_92_13, lg_n, lg_i, lg_r, wd_nil, am_wd_i, am_wd_r, am_wd_l, am_gk_s, am_fld_s, List.getElem?_cons_zero, List.getElem?_cons_succ, am_bk_v, am_bk_n, bo_0, bo_1, am_pk_s, List.length_cons, List.length_nil, Nat.zero_add, List.set_cons_zero, List.set_cons_succ, Nat.reduceAdd, Nat.reduceLeDiff, Nat.reduceLT, f0, is_plan hp, hhp, not_true_eq_false, if_true, if_false]
  · rw [if_pos hin] at hhp
    obtain ⟨q, rfl, hq⟩ : ∃ q : Nat, p = nI q ∧ q < P.2.2.2.1 := ⟨p.toInt.toNat, i_of p hin.1, by omega⟩
    rw [nI_toInt (show q < 2 ^ 31 by omega), Int.toNat_natCast] at hx
    have hwt := m_isWaiting (d := d + 6) hp hh hn (show q < 2 ^ 20 by omega)
    rw [if_neg (fun z => hx z.2)] at hwt
    refine (b_92 _ _ _).trans ?_; show am_ev _ 92 0 [some (.ref 0), some (.int (nI q))] [] _ = _
    simp only [e_92_0, e_92_1, e_92_4, e_92_5, e_92_8, e_92_11, e_92_13, e_92_14, e_92_15, e_92_18, e_92_19, e_92_22, e_92_25, e_92_27, lg_n, lg_i, lg_r, wd_nil, am_wd_i, am_wd_r, am_wd_l, am_gk_s, am_fld_s, List.getElem?_cons_zero, List.getElem?_cons_succ, am_bk_v, am_bk_n, bo_0, bo_1, am_pk_s, List.length_cons, List.length_nil, Nat.zero_add, List.set_cons_zero, List.set_cons_succ, Nat.reduceAdd, Nat.reduceLeDiff, Nat.reduceLT, f0, f1, is_plan hp, is_house hh, hhp, hwt, one_ne, not_false_eq_true, not_true_eq_false, if_true, if_false]
  · rw [if_pos hin] at hhp
    obtain ⟨q, rfl, hq⟩ : ∃ q : Nat, p = nI q ∧ q < P.2.2.2.1 := ⟨p.toInt.toNat, i_of p hin.1, by omega⟩
    rw [nI_toInt (show q < 2 ^ 31 by omega), Int.toNat_natCast] at hx ⊢
    have hwt := m_isWaiting (d := d + 6) hp hh hn (show q < 2 ^ 20 by omega)
    rw [if_pos ⟨hq, hx⟩] at hwt
    obtain ⟨h1, Φ, e1, C1, F1, O1, O2⟩ := m_remember (d := d) hC
    obtain ⟨g0, g1, g2, g3, g4, g5, g6, g7, g8⟩ := C1.fl
    obtain ⟨nx, P1⟩ := C1.2.2.2.2.1
    have hh1 := C1.2.2.2.1
    obtain ⟨k0, k1, k2, k3, k4, k5⟩ := fl_house hh1
    have hset : am_set h1 6 (AI 8 (fun r => sI (updn σ.2.2.1 q 1 r))) = pH h1 5 1 (σ.1, σ.2.1, updn σ.2.2.1 q 1, σ.2.2.2) := by
      have h2 : am_set (pH h1 5 1 σ) 6 (AI 8 (fun r => sI (updn σ.2.2.1 q 1 r))) = pH h1 5 1 (σ.1, σ.2.1, updn σ.2.2.1 q 1, σ.2.2.2) := by
        rw [pH_rH, show (6 : Nat) = 5 + 1 from rfl, rH_s1]
        unfold pH rH house0
        rw [AI_cong (f := fun r => cI (σ.2.2.1 r)) (g := fun r => cI (updn σ.2.2.1 q 1 r)) (fun r hr => by
          unfold updn
          split
          · rename_i e; rw [e, hx]; rfl
          · rfl)]
      rw [pH_self hh1] at h2
      exact h2
    have C2 : CI (pH h1 5 1 (σ.1, σ.2.1, updn σ.2.2.1 q 1, σ.2.2.2)) P (σ.1, σ.2.1, updn σ.2.2.1 q 1, σ.2.2.2) (min (u + 1) 8) (pushN u pa σ) kp ke t n sn sF sT sK nz nt := C1.hp (HouseAt_pH h1 5 1 _) ⟨nx, P1.keep (fun k _ _ => at_pH_ne (by omega))⟩ ⟨Φ, (O1.any O2).keep (fun k _ _ => at_pH_ne (by omega))⟩ (fun k hk => at_pH_ne (by omega))
    refine ⟨_, ?_, C2, F1.tr (FC.pH (by decide))⟩
    obtain ⟨w0, w1, -⟩ := C2.fl
    have hpw := m_peopleWho (d := d + 6) C2.2.2.1 C2.2.2.2.1 hn 0
    have hb := bitsN_lt (fun r => sI (updn σ.2.2.1 q 1 r) == 0) P.2.2.2.1
    have hb2 : 2 ^ P.2.2.2.1 ≤ 2 ^ 8 := Nat.pow_le_pow_right (by decide) hn
    have hcn : cntN (fun i => (bitsN (fun r => sI (updn σ.2.2.1 q 1 r) == 0) P.2.2.2.1).testBit i) 8 = cntN (fun r => updn σ.2.2.1 q 1 r == 0) P.2.2.2.1 := by
      rw [cnt_bits _ hn]
      exact cntN_cong (fun k _ => (sI_b _).1)
    have e2 : (2 : Int32) = sI 1 := rfl
    refine (b_92 _ _ _).trans ?_; show am_ev _ 92 0 [some (.ref 0), some (.int (nI q))] [] _ = _
    simp only [e_92_0, e_92_1, e_92_4, e_92_5, e_92_8, e_92_11, e_92_13, e_92_14, e_92_15, e_92_18, e_92_19, e_92_22, e_92_25, e_92_27, e_92_28, e_92_29, e_92_32, e_92_33, e_92_36, e_92_39, e_92_40, e_92_41, e_92_42, e_92_43, e_92_46, e_92_47, e_92_50, e_92_53, lg_n, lg_i, lg_r, wd_nil, am_wd_i, am_wd_r, am_wd_l, am_gk_s, am_fld_s, List.getElem?_cons_zero, List.getElem?_cons_succ, am_bk_v, am_bk_n, bo_0, bo_1, am_pk_s, List.length_cons, List.length_nil, Nat.zero_add, List.set_cons_zero, List.set_cons_succ, Nat.reduceAdd, Nat.reduceLeDiff, Nat.reduceLT, f0, f1, f8, is_plan hp, is_house hh, hhp, hwt, one_ne, not_false_eq_true, if_true, if_false, e1, g1, k3, hh1.2.1, sk_AI (show q < 8 by omega) (show 8 < 2 ^ 31 by decide), st_AI (show q < 8 by omega) (show 8 < 2 ^ 31 by decide), e2, updn_map sI, hset, w1, is_house C2.2.2.2.1, hpw, m_bitCount (show bitsN (fun r => sI (updn σ.2.2.1 q 1 r) == 0) P.2.2.2.1 < 256 by omega), hcn]
theorem c_undo0 (hC : CI h P σ 0 pa kp ke t n sn sF sT sK nz nt) : am_cal (d + 8) 93 [.ref 0] h = some (some (.int (-4)), h) := by
  obtain ⟨f0, f1, f2, f3, f4, f5, f6, f7, f8⟩ := hC.fl
  obtain ⟨nx, hP⟩ := hC.2.2.2.2.1
  obtain ⟨k0, k1, k2, k3, k4, k5⟩ := hP.fl
  refine (b_93 _ _ _).trans ?_; show am_ev _ 93 0 [some (.ref 0)] [] _ = _
  simp only [e_93_0, e_93_1, e_93_4, e_93_5, e_93_8, e_93_11, e_93_14, e_93_16, lg_n, lg_i, lg_r, wd_nil, am_wd_i, am_wd_r, am_wd_l, am_gk_s, am_fld_s, List.getElem?_cons_zero, List.getElem?_cons_succ, am_bk_v, am_bk_n, bo_0, bo_1, am_pk_s, List.length_cons, List.length_nil, Nat.zero_add, List.set_cons_zero, List.set_cons_succ, Nat.reduceAdd, Nat.reduceLeDiff, Nat.reduceLT, f1, f2, k5, m_takeBack0 hP, not_true_eq_false, if_true, if_false]
theorem c_undo (hC : CI h P σ (u + 1) pa kp ke t n sn sF sT sK nz nt) : ∃ h', am_cal (d + 8) 93 [.ref 0] h = some (some (.int (nI u)), h') ∧ CI h' P (pa u) u pa kp ke t n sn sF sT sK nz nt ∧ FC h h' := by
  obtain ⟨f0, f1, f2, f3, f4, f5, f6, f7, f8⟩ := hC.fl
  obtain ⟨nx, hP⟩ := hC.2.2.2.2.1
  obtain ⟨Φ, hF⟩ := hC.2.2.2.2.2.2.1
  obtain ⟨k0, k1, k2, k3, k4, k5⟩ := hP.fl
  obtain ⟨h1, nx', e1, P1, H1, s1, s2, K1⟩ := m_takeBack (d := d + 4) hP hC.2.2.2.1
  have hF1 : FO h1 P σ Φ := hF.keep (fun k _ _ => K1 k (by omega) (by omega))
  have hF2 := fo_unknown hF1
  have K2 : ∀ k, k ≠ 59 → am_at (am_set h1 59 (fore0 59 5 62 (Φ.1, Φ.2.1, 0, Φ.2.2.2))) k = am_at h1 k := fun k hk => at_set_ne hk
  have P2 : PS (am_set h1 59 (fore0 59 5 62 (Φ.1, Φ.2.1, 0, Φ.2.2.2))) u nx' pa kp ke := P1.keep (fun k _ _ => K2 k (by omega))
  refine ⟨_, ?_, hC.hp (H1.keep (fun k _ _ => K2 k (by omega))) ⟨nx', P2⟩ ⟨_, hF2.any rfl⟩ (fun k hk => by rw [K2 k (by omega), K1 k (by omega) (by omega)]), FC.tr ⟨s1, s2, fun k hk => K1 k (by omega) (by omega)⟩ (FC.set (by decide))⟩
  have h59 := hF1.1
  unfold fore0 at h59
  have z0 : am_at h1 0 = am_at h 0 := K1 0 (by omega) (by omega)
  have z1 : ∀ c, am_at (am_set h1 59 c) 0 = am_at h 0 := fun c => by rw [at_set_ne (by decide)]; exact z0
  obtain ⟨r0, r1, r2, r3, r4, r5⟩ := P2.fl
  have fin : am_ev (d + 7) 93 29 [some (.ref 0)] [.ref 9] (am_set h1 59 (fore0 59 5 62 (Φ.1, Φ.2.1, 0, Φ.2.2.2))) = some (some (.int (nI u)), am_set h1 59 (fore0 59 5 62 (Φ.1, Φ.2.1, 0, Φ.2.2.2))) := by
    simp only [e_93_29, e_93_32, lg_n, lg_i, lg_r, wd_nil, am_wd_i, am_wd_r, am_wd_l, am_gk_s, am_fld_s, List.getElem?_cons_zero, List.getElem?_cons_succ, am_bk_v, am_bk_n, bo_0, bo_1, am_pk_s, List.length_cons, List.length_nil, Nat.zero_add, List.set_cons_zero, List.set_cons_succ, Nat.reduceAdd, Nat.reduceLeDiff, Nat.reduceLT, r3]
  refine (b_93 _ _ _).trans ?_; show am_ev _ 93 0 [some (.ref 0)] [] _ = _
  simp only [e_93_0, e_93_1, e_93_4, e_93_5, e_93_8, e_93_11, e_93_14, e_93_16, e_93_17, e_93_18, e_93_21, e_93_22, e_93_25, e_93_26, lg_n, lg_i, lg_r, wd_nil, am_wd_i, am_wd_r, am_wd_l, am_gk_s, am_fld_s, List.getElem?_cons_zero, List.getElem?_cons_succ, am_bk_v, am_bk_n, bo_0, bo_1, am_pk_s, List.length_cons, List.length_nil, Nat.zero_add, List.set_cons_zero, List.set_cons_succ, Nat.reduceAdd, Nat.reduceLeDiff, Nat.reduceLT, f1, f2, k5, e1, one_ne, not_false_eq_true, if_true, if_false, z0, f4, h59, true_or, eq_self, z1]
  exact fin
theorem c_keep (hC : CI h P σ u pa kp ke t n sn sF sT sK nz nt) (k : Int32) : (¬ (0 ≤ k.toInt ∧ k.toInt ≤ 1) → am_cal (d + 8) 94 [.ref 0, .int k] h = some (some (.int (-2)), h)) ∧ (0 ≤ k.toInt ∧ k.toInt ≤ 1 → ∃ h', am_cal (d + 8) 94 [.ref 0, .int k] h = some (some (.int (nI σ.1)), h') ∧ CI h' P σ u pa (updb kp k.toInt.toNat true) (fun j => if j = k.toInt.toNat then σ else ke j) t n sn sF sT sK nz nt ∧ FC h h') := by
  obtain ⟨f0, f1, f2, f3, f4, f5, f6, f7, f8⟩ := hC.fl
  obtain ⟨nx, hP⟩ := hC.2.2.2.2.1
  obtain ⟨Φ, hF⟩ := hC.2.2.2.2.2.2.1
  obtain ⟨k0, k1, k2, k3, k4, k5⟩ := hP.fl
  have hw := m_within (d := d + 6) (h := h) k 0 1
  have hiff : ((0 : Int32) ≤ k ∧ k ≤ 1) ↔ (0 ≤ k.toInt ∧ k.toInt ≤ 1) := by rw [i_le, i_le]; exact Iff.rfl
  refine ⟨fun hno => ?_, fun hin => ?_⟩
  · rw [if_neg (fun z => hno (hiff.1 z))] at hw
    refine (b_94 _ _ _).trans ?_; show am_ev _ 94 0 [some (.ref 0), some (.int k)] [] _ = _
    simp only [e_94_0, e_94_1, e_94_2, e_94_3, e_94_6, e_94_9, e_94_11, lg_n, lg_i, lg_r, wd_nil, am_wd_i, am_wd_r, am_wd_l, am_gk_s, am_fld_s, List.getElem?_cons_zero, List.getElem?_cons_succ, am_bk_v, am_bk_n, bo_0, bo_1, am_pk_s, List.length_cons, List.length_nil, Nat.zero_add, List.set_cons_zero, List.set_cons_succ, Nat.reduceAdd, Nat.reduceLeDiff, Nat.reduceLT, hw, not_true_eq_false, if_true, if_false]
  · rw [if_pos (hiff.2 hin)] at hw
    obtain ⟨q, rfl, hq⟩ : ∃ q : Nat, k = nI q ∧ q < 2 := ⟨k.toInt.toNat, i_of k hin.1, by omega⟩
    rw [nI_toInt (show q < 2 ^ 31 by omega), Int.toNat_natCast]
    obtain ⟨p1, p2, p3, p4, p5, p6, p7, p8, p9, p10⟩ := id hP
    have hh := hC.2.2.2.1
    have htk := m_takeR (d := d + 5) (p6 q hq) hh (by omega)
    have K1 : ∀ k, (k < 45 + 4 * q ∨ 45 + 4 * q + 3 < k) → am_at (pH h (45 + 4 * q) 1 σ) k = am_at h k := fun k hk => at_pH_ne hk
    have K : ∀ k, k ≠ 12 → (k < 45 + 4 * q ∨ 45 + 4 * q + 3 < k) → am_at (am_set (pH h (45 + 4 * q) 1 σ) 12 (AZ 2 (updb kp q true))) k = am_at h k := fun k h1 h2 => by rw [at_set_ne h1, K1 k h2]
    have hnew : PS (am_set (pH h (45 + 4 * q) 1 σ) 12 (AZ 2 (updb kp q true))) u nx pa (updb kp q true) (fun j => if j = q then σ else ke j) := by
      have HA : HouseAt (am_set (pH h (45 + 4 * q) 1 σ) 12 (AZ 2 (updb kp q true))) (45 + 4 * q) 1 σ := (HouseAt_pH h (45 + 4 * q) 1 σ).keep (fun k _ _ => at_set_ne (by omega))
      refine ⟨by rw [K _ (by omega) (by omega)]; exact p1, by rw [K _ (by omega) (by omega)]; exact p2, by rw [K _ (by omega) (by omega)]; exact p3, at_set_eq, fun i hi => (p5 i hi).keep (fun k _ _ => K _ (by omega) (by omega)), fun i hi => ?_, p7, p8, fun i hi => (p9 i hi).keep (fun k a1 a2 => by unfold rix at a1 a2; exact K _ (by omega) (by omega)), fun i hi hq' => ?_⟩
      · by_cases e : i = q
        · subst e; exact HA.raw
        · exact (p6 i hi).keep (fun k _ _ => K _ (by omega) (by omega))
      · by_cases e : i = q
        · subst e
          simp only [if_true]
          exact HA
        · simp only [if_neg e]
          unfold updb at hq'
          rw [if_neg e] at hq'
          exact (p10 i hi hq').keep (fun k _ _ => K _ (by omega) (by omega))
    refine ⟨_, ?_, hC.hp (hh.keep (fun k _ _ => K _ (by omega) (by omega))) ⟨nx, hnew⟩ ⟨Φ, hF.keep (fun k _ _ => K _ (by omega) (by omega))⟩ (fun k hk => K _ (by omega) (by omega)), (FC.pH (by omega)).tr (FC.set (by decide))⟩
    have z0 : am_at (pH h (45 + 4 * q) 1 σ) 0 = am_at h 0 := K1 0 (by omega)
    have z9 : am_at (pH h (45 + 4 * q) 1 σ) 9 = am_at h 9 := K1 9 (by omega)
    have z12 : am_at (pH h (45 + 4 * q) 1 σ) 12 = some (AZ 2 kp) := by rw [K1 12 (by omega)]; exact p4
    have y0 : ∀ c, am_at (am_set (pH h (45 + 4 * q) 1 σ) 12 c) 0 = am_at h 0 := fun c => by rw [at_set_ne (by decide)]; exact z0
    have y5 : ∀ c, am_at (am_set (pH h (45 + 4 * q) 1 σ) 12 c) 5 = am_at h 5 := fun c => by rw [at_set_ne (by decide)]; exact K1 5 (by omega)
    obtain ⟨g0, g1, -⟩ := fl_house hh
    have z1 : (1 : Int32) = if (true = true) then 1 else 0 := by decide +kernel
    refine (b_94 _ _ _).trans ?_; show am_ev _ 94 0 [some (.ref 0), some (.int (nI q))] [] _ = _
    simp only [e_94_0, e_94_1, e_94_2, e_94_3, e_94_6, e_94_9, e_94_11, e_94_12, e_94_13, e_94_16, e_94_19, e_94_20, e_94_21, e_94_22, e_94_25, e_94_28, e_94_29, e_94_32, e_94_35, e_94_36, e_94_37, e_94_38, e_94_39, e_94_42, e_94_45, lg_n, lg_i, lg_r, wd_nil, am_wd_i, am_wd_r, am_wd_l, am_gk_s, am_fld_s, List.getElem?_cons_zero, List.getElem?_cons_succ, am_bk_v, am_bk_n, bo_0, bo_1, am_pk_s, List.length_cons, List.length_nil, Nat.zero_add, List.set_cons_zero, List.set_cons_succ, Nat.reduceAdd, Nat.reduceLeDiff, Nat.reduceLT, hw, one_ne, not_false_eq_true, if_true, if_false, f1, f2, k1, k2, p3, qk_AR hq (show 2 < 2 ^ 31 by decide), is_raw (p6 q hq), htk, z0, z9, z12, sk_AZ hq (show 2 < 2 ^ 31 by decide), st_AZ hq (show 2 < 2 ^ 31 by decide) z1, y0, y5, g1]
theorem c_back (hC : CI h P σ u pa kp ke t n sn sF sT sK nz nt) (k : Int32) : (¬ (0 ≤ k.toInt ∧ k.toInt ≤ 1) → am_cal (d + 8) 95 [.ref 0, .int k] h = some (some (.int (-2)), h)) ∧ (0 ≤ k.toInt ∧ k.toInt ≤ 1 → kp k.toInt.toNat = false → am_cal (d + 8) 95 [.ref 0, .int k] h = some (some (.int (-4)), h)) ∧ (0 ≤ k.toInt ∧ k.toInt ≤ 1 → kp k.toInt.toNat = true → ∃ h', am_cal (d + 8) 95 [.ref 0, .int k] h = some (some (.int (nI (ke k.toInt.toNat).1)), h') ∧ CI h' P (ke k.toInt.toNat) 0 pa kp ke t n sn sF sT sK nz nt ∧ FC h h') := by
  obtain ⟨f0, f1, f2, f3, f4, f5, f6, f7, f8⟩ := hC.fl
  obtain ⟨nx, hP⟩ := hC.2.2.2.2.1
  obtain ⟨Φ, hF⟩ := hC.2.2.2.2.2.2.1
  obtain ⟨k0, k1, k2, k3, k4, k5⟩ := hP.fl
  obtain ⟨p1, p2, p3, p4, p5, p6, p7, p8, p9, p10⟩ := id hP
  have hw := m_within (d := d + 6) (h := h) k 0 1
  have hiff : ((0 : Int32) ≤ k ∧ k ≤ 1) ↔ (0 ≤ k.toInt ∧ k.toInt ≤ 1) := by rw [i_le, i_le]; exact Iff.rfl
  refine ⟨fun hno => ?_, fun hin hkp => ?_, fun hin hkp => ?_⟩
  · rw [if_neg (fun z => hno (hiff.1 z))] at hw
    refine (b_95 _ _ _).trans ?_; show am_ev _ 95 0 [some (.ref 0), some (.int k)] [] _ = _
    simp only [e_95_0, e_95_1, e_95_2, e_95_3, e_95_6, e_95_9, e_95_11, lg_n, lg_i, lg_r, wd_nil, am_wd_i, am_wd_r, am_wd_l, am_gk_s, am_fld_s, List.getElem?_cons_zero, List.getElem?_cons_succ, am_bk_v, am_bk_n, bo_0, bo_1, am_pk_s, List.length_cons, List.length_nil, Nat.zero_add, List.set_cons_zero, List.set_cons_succ, Nat.reduceAdd, Nat.reduceLeDiff, Nat.reduceLT, hw, not_true_eq_false, if_true, if_false]
  · rw [if_pos (hiff.2 hin)] at hw
    obtain ⟨q, rfl, hq⟩ : ∃ q : Nat, k = nI q ∧ q < 2 := ⟨k.toInt.toNat, i_of k hin.1, by omega⟩
    rw [nI_toInt (show q < 2 ^ 31 by omega), Int.toNat_natCast] at hkp
    refine (b_95 _ _ _).trans ?_; show am_ev _ 95 0 [some (.ref 0), some (.int (nI q))] [] _ = _
    simp only [e_95_0, e_95_1, e_95_2, e_95_3, e_95_6, e_95_9, e_95_11, e_95_12, e_95_13, e_95_16, e_95_19, e_95_20, e_95_21, e_95_24, e_95_26, lg_n, lg_i, lg_r, wd_nil, am_wd_i, am_wd_r, am_wd_l, am_gk_s, am_fld_s, List.getElem?_cons_zero, List.getElem?_cons_succ, am_bk_v, am_bk_n, bo_0, bo_1, am_pk_s, List.length_cons, List.length_nil, Nat.zero_add, List.set_cons_zero, List.set_cons_succ, Nat.reduceAdd, Nat.reduceLeDiff, Nat.reduceLT, hw, one_ne, not_false_eq_true, if_true, if_false, f2, k2, p4, ak_AZ hq (show 2 < 2 ^ 31 by decide), hkp, Bool.false_eq_true, not_true_eq_false]
  · rw [if_pos (hiff.2 hin)] at hw
    obtain ⟨q, rfl, hq⟩ : ∃ q : Nat, k = nI q ∧ q < 2 := ⟨k.toInt.toNat, i_of k hin.1, by omega⟩
    rw [nI_toInt (show q < 2 ^ 31 by omega), Int.toNat_natCast] at hkp ⊢
    have hh := hC.2.2.2.1
    have hk := p10 q hq hkp
    have htk := m_takeH (d := d + 5) hh hk (by omega)
    have K1 : ∀ k, (k < 5 ∨ 8 < k) → am_at (pH h 5 1 (ke q)) k = am_at h k := fun k hk => at_pH_ne (by omega)
    have P1 : PS (pH h 5 1 (ke q)) u nx pa kp ke := hP.keep (fun k _ _ => K1 k (by omega))
    have P2 := P1.obj (u' := 0) (nx' := nx) (pa' := pa) (by omega) p8 (fun i hi => absurd hi (Nat.not_lt_zero i))
    have hF1 : FO (am_set (pH h 5 1 (ke q)) 9 (pa0 0 nx)) P σ Φ := hF.keep (fun k _ _ => by rw [at_set_ne (by omega), K1 k (by omega)])
    have hF2 := fo_unknown hF1
    have K : ∀ k, k ≠ 59 → k ≠ 9 → (k < 5 ∨ 8 < k) → am_at (am_set (am_set (pH h 5 1 (ke q)) 9 (pa0 0 nx)) 59 (fore0 59 5 62 (Φ.1, Φ.2.1, 0, Φ.2.2.2))) k = am_at h k := fun k h1 h2 h3 => by rw [at_set_ne h1, at_set_ne h2, K1 k h3]
    have H2 : HouseAt (am_set (am_set (pH h 5 1 (ke q)) 9 (pa0 0 nx)) 59 (fore0 59 5 62 (Φ.1, Φ.2.1, 0, Φ.2.2.2))) 5 1 (ke q) := (HouseAt_pH h 5 1 (ke q)).keep (fun k _ _ => by rw [at_set_ne (by omega), at_set_ne (by omega)])
    refine ⟨_, ?_, hC.hp H2 ⟨nx, P2.keep (fun k _ _ => at_set_ne (by omega))⟩ ⟨_, hF2.any rfl⟩ (fun k hk => K k (by omega) (by omega) (by omega)), ((FC.pH (by decide)).tr (FC.set (by decide))).tr (FC.set (by decide))⟩
    have q9 : am_at (pH h 5 1 (ke q)) 9 = some (.inr (3, [.ref 10, .ref 11, .ref 12, .int (nI u), .int (nI nx)])) := P1.1
    have q0 : am_at (pH h 5 1 (ke q)) 0 = am_at h 0 := K1 0 (by omega)
    have y0 : ∀ c, am_at (am_set (pH h 5 1 (ke q)) 9 c) 0 = am_at h 0 := fun c => by rw [at_set_ne (by decide)]; exact q0
    have h59 : ∀ c, am_at (am_set (pH h 5 1 (ke q)) 9 c) 59 = some (.inr (0, [.ref 5, .ref 62, .ref 60, .ref 61, .int (nI Φ.1), .int (nI Φ.2.1), .int Φ.2.2.1])) := fun c => by rw [at_set_ne (by decide), K1 59 (by omega)]; exact hF.1
    have x0 : ∀ c c', am_at (am_set (am_set (pH h 5 1 (ke q)) 9 c) 59 c') 0 = am_at h 0 := fun c c' => by rw [at_set_ne (by decide)]; exact y0 c
    have x5 : ∀ c c', am_at (am_set (am_set (pH h 5 1 (ke q)) 9 c) 59 c') 5 = am_at (pH h 5 1 (ke q)) 5 := fun c c' => by rw [at_set_ne (by decide), at_set_ne (by decide)]
    obtain ⟨g0, g1, -⟩ := fl_house (HouseAt_pH h 5 1 (ke q))
    refine (b_95 _ _ _).trans ?_; show am_ev _ 95 0 [some (.ref 0), some (.int (nI q))] [] _ = _
    simp only [e_95_0, e_95_1, e_95_2, e_95_3, e_95_6, e_95_9, e_95_11, e_95_12, e_95_13, e_95_16, e_95_19, e_95_20, e_95_21, e_95_24, e_95_26, e_95_27, e_95_28, e_95_31, e_95_32, e_95_35, e_95_38, e_95_39, e_95_40, e_95_43, e_95_44, e_95_47, e_95_48, e_95_51, e_95_52, e_95_55, e_95_56, e_95_59, e_95_60, e_95_63, e_95_66, lg_n, lg_i, lg_r, wd_nil, am_wd_i, am_wd_r, am_wd_l, am_gk_s, am_fld_s, List.getElem?_cons_zero, List.getElem?_cons_succ, am_bk_v, am_bk_n, bo_0, bo_1, am_pk_s, List.length_cons, List.length_nil, Nat.zero_add, List.set_cons_zero, List.set_cons_succ, Nat.reduceAdd, Nat.reduceLeDiff, Nat.reduceLT, hw, one_ne, not_false_eq_true, if_true, if_false, f1, f2, k1, k2, p3, p4, ak_AZ hq (show 2 < 2 ^ 31 by decide), hkp, qk_AR hq (show 2 < 2 ^ 31 by decide), is_house hh, htk, q0, q9, y0, f4, h59, true_or, eq_self, x0, x5, g1]
    rfl
theorem l_hallRows : ∀ j i (h : am_H), i + j = 3 → am_at h 0 = some ride0 → NS h nz nt → ∃ h', am_ev (d + 7) 86 64 [some (.ref 0), some (.int (nI i))] [] h = am_ev (d + 7) 86 85 [some (.ref 0), some (.int (nI 3))] [] h' ∧ NS h' (fun k => if k < i then nz k else if k < 3 then 0 else nz k) nt ∧ h'.1 = h.1 ∧ h'.2.1 = h.2.1 ∧ ∀ k, (k < 79 ∨ 86 < k) → am_at h' k = am_at h k := by
  intro j
  have e3 : (3 : Int32) = nI 3 := by decide +kernel
  induction j generalizing nz with
  | zero =>
    intro i h hi h0 hN
    have : i = 3 := by omega
    subst this
    refine ⟨h, ?_, ?_, rfl, rfl, fun _ _ => rfl⟩
    · rw [e_86_64]
      simp only [e_86_65, e_86_66, lg_n, lg_i, lg_r, wd_nil, am_wd_i, am_wd_r, am_wd_l, am_gk_s, am_fld_s, List.getElem?_cons_zero, List.getElem?_cons_succ, am_bk_v, am_bk_n, bo_0, bo_1, am_pk_s, List.length_cons, List.length_nil, Nat.zero_add, List.set_cons_zero, List.set_cons_succ, Nat.reduceAdd, Nat.reduceLeDiff, Nat.reduceLT, e3, nI_leI (show 3 < 2 ^ 31 by decide) (show 3 < 2 ^ 31 by decide), Nat.le_refl, if_true]
    · obtain ⟨n1, n2, n3⟩ := hN
      refine ⟨n1, n2, fun i hi => ?_⟩
      simp only [if_pos hi]
      exact n3 i hi
  | succ j ih =>
    intro i h hi h0 hN
    have hi3 : i < 3 := by omega
    have f6 : am_fld (am_at h 0) 7 6 = some (.ref 79) := by rw [h0]; rfl
    obtain ⟨n1, ⟨g, n2⟩, n3⟩ := hN
    obtain ⟨s, f, a1, a2⟩ := n3 i hi3
    have hn0 := a1.1
    unfold note0 at hn0
    have K : ∀ k, k ≠ 81 + 2 * i → am_at (am_set h (81 + 2 * i) (note0 (81 + 2 * i) 1 s)) k = am_at h k := fun k hk => at_set_ne hk
    have hN1 : NS (am_set h (81 + 2 * i) (note0 (81 + 2 * i) 1 s)) (updn nz i 0) nt := by
      refine ⟨by rw [K _ (by omega)]; exact n1, ⟨g, by rw [K _ (by omega)]; exact n2⟩, fun k hk => ?_⟩
      by_cases e : k = i
      · subst e
        refine ⟨s, f, ⟨?_, by rw [K _ (by omega)]; exact a1.2⟩, fun z => absurd (by simp [updn]) z⟩
        rw [at_set_eq, show (if updn nz k 0 k = 0 then (1 : Int32) else 0) = 1 by simp [updn]]
      · obtain ⟨s', f', b1, b2⟩ := n3 k hk
        have hu : updn nz i 0 k = nz k := by simp [updn, e]
        rw [hu]
        exact ⟨s', f', b1.keep (fun q _ _ => K q (by omega)), b2⟩
    obtain ⟨h', e', N', s1, s2, K'⟩ := ih (i + 1) (am_set h (81 + 2 * i) (note0 (81 + 2 * i) 1 s)) (by omega) (by rw [K _ (by omega)]; exact h0) hN1
    refine ⟨h', ?_, ?_, s1, s2, fun k hk => by rw [K' k hk, K k (by omega)]⟩
    · rw [e_86_64]
      simp only [e_86_65, e_86_66, e_86_69, e_86_70, e_86_73, e_86_74, e_86_75, e_86_76, e_86_79, e_86_82, lg_n, lg_i, lg_r, wd_nil, am_wd_i, am_wd_r, am_wd_l, am_gk_s, am_fld_s, List.getElem?_cons_zero, List.getElem?_cons_succ, am_bk_v, am_bk_n, bo_0, bo_1, am_pk_s, List.length_cons, List.length_nil, Nat.zero_add, List.set_cons_zero, List.set_cons_succ, Nat.reduceAdd, Nat.reduceLeDiff, Nat.reduceLT, e3, nI_leI (show 3 < 2 ^ 31 by decide) (show i < 2 ^ 31 by omega), if_neg (show ¬ 3 ≤ i by omega), f6, n1, qk_AR hi3 (show 3 < 2 ^ 31 by decide), hn0, or_true, eq_self, nI_1]
      exact e'
    · obtain ⟨m1, m2, m3⟩ := N'
      refine ⟨m1, m2, fun k hk => ?_⟩
      obtain ⟨s', f', b1, b2⟩ := m3 k hk
      have : (if k < i + 1 then updn nz i 0 k else if k < 3 then 0 else updn nz i 0 k) = (if k < i then nz k else if k < 3 then 0 else nz k) := by
        unfold updn
        by_cases e1 : k < i
        · simp [e1, show k < i + 1 by omega, show ¬ k = i by omega]
        · by_cases e2 : k = i
          · simp [e2, hi3]
          · simp [e1, hk, show ¬ k < i + 1 by omega]
      simp only [this] at b1 b2
      exact ⟨s', f', b1, b2⟩
theorem c_hall (hC : CI h P σ u pa kp ke t n sn sF sT sK nz nt) (hP : OKD P) : ((txN t n P).1 ≠ 0 → ∃ h', am_cal (d + 8) 86 [.ref 0] h = some (some (.int (-4)), h') ∧ CI h' P σ u pa kp ke t n sn sF sT sK nz nt ∧ FC h h') ∧ ((txN t n P).1 = 0 → ∃ h' kp', am_cal (d + 8) 86 [.ref 0] h = some (some (.int (nI (txN t n P).2.1)), h') ∧ CI h' (txN t n P).2.2 (0, (txN t n P).2.2.2.2.1, (fun _ => 0), (fun _ => 0)) 0 pa kp' ke t 0 0 sF sT sK (fun _ => 0) nt ∧ (∀ k, k < 2 → kp' k = false) ∧ FC h h') := by
  obtain ⟨f0, f1, f2, f3, f4, f5, f6, f7, f8⟩ := hC.fl
  obtain ⟨c, b, e, D, hX, hD⟩ := hC.2.2.2.2.2.1
  obtain ⟨k0, k1, k2, k3, k4, k5, k6⟩ := hX.1.fl
  obtain ⟨h1, b', e', D', a1, a2, a3, a4, a5, a6, a7⟩ := m_readText (d := d) hX hC.2.2.1 (by decide) hP
  have C1 : CI h1 P σ u pa kp ke t n sn sF sT sK nz nt := hC.rd ⟨_, _, _, _, a2, a4⟩ (fun k hk => a5.2.2 k (by omega))
  have F1 : FC h h1 := ⟨a5.1, a5.2.1, fun k hk => a5.2.2 k (by omega)⟩
  refine ⟨fun hne => ?_, fun h0 => ?_⟩
  · refine ⟨h1, ?_, C1, F1⟩
    refine (b_86 _ _ _).trans ?_; show am_ev _ 86 0 [some (.ref 0), none] [] _ = _
    simp only [e_86_0, e_86_1, e_86_4, e_86_5, e_86_8, e_86_11, e_86_12, e_86_15, e_86_17, lg_n, lg_i, lg_r, wd_nil, am_wd_i, am_wd_r, am_wd_l, am_gk_s, am_fld_s, List.getElem?_cons_zero, List.getElem?_cons_succ, am_bk_v, am_bk_n, bo_0, bo_1, am_pk_s, List.length_cons, List.length_nil, Nat.zero_add, List.set_cons_zero, List.set_cons_succ, Nat.reduceAdd, Nat.reduceLeDiff, Nat.reduceLT, f0, f3, k6, a1, cI_m1 (show (txN t n P).1 < 2 ^ 30 by omega), if_neg hne]
  · have hQ := a3 h0
    subst hQ
    obtain ⟨c0, c1, c2, c3, ⟨nx, c5⟩, -, ⟨Φ, c7⟩, ⟨g, c8⟩, c9⟩ := C1
    have htk := m_planTake (d := d + 6) c0 c2 a2.2 (by decide) (by decide) a4.1.2.2.2.2.1
    generalize (txN t n P).2.2 = Q at *
    obtain ⟨h2, hh2⟩ : ∃ h2, h2 = pP h1 1 Q := ⟨_, rfl⟩
    have K2 : ∀ k, (k < 1 ∨ 4 < k) → am_at h2 k = am_at h1 k := fun k hk => by rw [hh2]; exact at_pP_ne (by omega)
    have p2 : PlanAt h2 1 Q := by rw [hh2]; exact PlanAt_pP _ _ _
    have hs2 : h2.1 = h1.1 ∧ h2.2.1 = h1.2.1 := by rw [hh2]; exact ⟨rfl, rfl⟩
    rw [← hh2] at htk
    have H2 : HouseAt h2 5 1 σ := c3.keep (fun k _ _ => K2 k (by omega))
    have hbg := m_begin (d := d + 5) p2 H2 (by decide)
    obtain ⟨h3, hh3⟩ : ∃ h3, h3 = pH h2 5 1 (0, Q.2.2.1, (fun _ => 0), (fun _ => 0)) := ⟨_, rfl⟩
    have K3 : ∀ k, (k < 5 ∨ 8 < k) → am_at h3 k = am_at h2 k := fun k hk => by rw [hh3]; exact at_pH_ne (by omega)
    have H3 : HouseAt h3 5 1 (0, Q.2.2.1, (fun _ => 0), (fun _ => 0)) := by rw [hh3]; exact HouseAt_pH _ _ _ _
    have hs3 : h3.1 = h2.1 ∧ h3.2.1 = h2.2.1 := by rw [hh3]; exact ⟨rfl, rfl⟩
    rw [← hh3] at hbg
    have P3 : PS h3 u nx pa kp ke := c5.keep (fun k _ _ => by rw [K3 k (by omega), K2 k (by omega)])
    obtain ⟨h4, kp', e4, P4, hk0, s41, s42, K4⟩ := m_clearPast (d := d + 6) P3
    have F4 : FO h4 P σ Φ := c7.keep (fun k _ _ => by rw [K4 k (by omega), K3 k (by omega), K2 k (by omega)])
    have F5 := fo_unknown F4
    obtain ⟨h5, hh5⟩ : ∃ h5, h5 = am_set h4 59 (fore0 59 5 62 (Φ.1, Φ.2.1, 0, Φ.2.2.2)) := ⟨_, rfl⟩
    rw [← hh5] at F5
    have K5 : ∀ k, k ≠ 59 → am_at h5 k = am_at h4 k := fun k hk => by rw [hh5]; exact at_set_ne hk
    have S5 : SG h5 66 sn sF sT sK g := c8.keep (fun k hk => by rw [K5 k (by omega), K4 k (by omega), K3 k (by omega), K2 k (by omega)])
    obtain ⟨h6, hh6⟩ : ∃ h6, h6 = am_set h5 66 (sg0 66 0) := ⟨_, rfl⟩
    have K6 : ∀ k, k ≠ 66 → am_at h6 k = am_at h5 k := fun k hk => by rw [hh6]; exact at_set_ne hk
    have S6 : SG h6 66 0 sF sT sK g := by
      obtain ⟨z1, z2, z3, z4, z5, ⟨E, z6, z6'⟩, z7, z8, z9⟩ := S5
      exact ⟨z1.keep (fun k _ => K6 k (by omega)), by rw [hh6]; exact at_set_eq, by rw [K6 _ (by decide)]; exact z3, by rw [K6 _ (by decide)]; exact z4, by rw [K6 _ (by decide)]; exact z5, ⟨E, z6.keep (fun k _ _ => K6 k (by omega)), z6'⟩, z7.keep (fun k _ _ => K6 k (by omega)), by rw [K6 _ (by decide)]; exact z8, z9⟩
    have K61 : ∀ k, (k = 0 ∨ (52 < k ∧ k < 59) ∨ (59 < k ∧ k < 66) ∨ 66 < k) → am_at h6 k = am_at h1 k := fun k hk => by rw [K6 k (by omega), K5 k (by omega), K4 k (by omega), K3 k (by omega), K2 k (by omega)]
    have N6 : NS h6 nz nt := c9.keep (fun k _ _ => K61 k (by omega))
    have o6 : am_at h6 0 = some ride0 := by rw [K61 0 (by omega)]; exact c1
    obtain ⟨h7, e7, N7, s71, s72, K7⟩ := l_hallRows (d := d) 3 0 h6 (by omega) o6 N6
    have o7 : am_at h7 0 = some ride0 := by rw [K7 0 (by omega)]; exact o6
    have X7 : RX h7 53 t n (txN t n P).2.1 b' e' Q := a2.keep (fun k hk => by rw [K7 k (by omega), K61 k (by omega)])
    have K8 : ∀ k, k ≠ 53 → am_at (am_set h7 53 (rd0 53 0 (txN t n P).2.1 b' e')) k = am_at h7 k := fun k hk => at_set_ne hk
    have X8 : RX (am_set h7 53 (rd0 53 0 (txN t n P).2.1 b' e')) 53 t 0 (txN t n P).2.1 b' e' Q := by
      obtain ⟨⟨z1, z2, z3, z4, z5, z6⟩, zp⟩ := X7
      exact ⟨⟨z1.keep (fun k _ => K8 k (by omega)), at_set_eq, by rw [K8 _ (by decide)]; exact z3, by omega, z5, z6⟩, zp.keep (fun k _ _ => K8 k (by omega))⟩
    have fin : CI (am_set h7 53 (rd0 53 0 (txN t n P).2.1 b' e')) Q (0, Q.2.2.1, (fun _ => 0), (fun _ => 0)) 0 pa kp' ke t 0 0 sF sT sK (fun _ => 0) nt := by
      refine ⟨X8.1.1, by rw [K8 _ (by decide)]; exact o7, p2.keep (fun k _ _ => by rw [K8 k (by omega), K7 k (by omega), K6 k (by omega), K5 k (by omega), K4 k (by omega), K3 k (by omega)]), H3.keep (fun k _ _ => by rw [K8 k (by omega), K7 k (by omega), K6 k (by omega), K5 k (by omega), K4 k (by omega)]), ⟨nx, P4.keep (fun k _ _ => by rw [K8 k (by omega), K7 k (by omega), K6 k (by omega), K5 k (by omega)])⟩, ⟨_, _, _, _, X8, a4⟩, ⟨_, FO.any2 (F5.keep (fun k _ _ => by rw [K8 k (by omega), K7 k (by omega), K6 k (by omega)])) rfl⟩, ⟨g, S6.keep (fun k hk => by rw [K8 k (by omega), K7 k (by omega)])⟩, NS.cong (N7.keep (fun k _ _ => K8 k (by omega))) (fun i hi => by simp [hi])⟩
    refine ⟨_, kp', ?_, fin, hk0, ?_⟩
    · obtain ⟨q0, q1, q2, q3, q4, q5⟩ := P3.fl
      have ha1 : am_at h1 0 = am_at h 0 := a5.2.2 0 (by omega)
      have ha2 : am_at h2 0 = am_at h 0 := by rw [K2 0 (by omega), ha1]
      have ha3 : am_at h3 0 = am_at h 0 := by rw [K3 0 (by omega), ha2]
      have ha4 : am_at h4 0 = am_at h 0 := by rw [K4 0 (by omega), ha3]
      have ha5 : am_at h5 0 = am_at h 0 := by rw [K5 0 (by omega), ha4]
      have ha7 : am_at h7 0 = am_at h 0 := by rw [o7, hC.2.1]
      have ha8 : ∀ c, am_at (am_set h7 53 c) 0 = am_at h 0 := fun c => by rw [at_set_ne (by decide), ha7]
      obtain ⟨r0, r1, r2, r3, r4, r5, r6⟩ := a2.1.fl
      have h59 := F4.1
      unfold fore0 at h59
      have h66 := S5.2.1
      unfold sg0 at h66
      have h53 := X7.1.2.1
      unfold rd0 at h53
      obtain ⟨w0, w1, w2, w3, w4, w5, w6⟩ := X8.1.fl
      have fin2 : am_ev (d + 7) 86 97 [some (.ref 0), some (.int (nI 3))] [.ref 53] (am_set h7 53 (rd0 53 0 (txN t n P).2.1 b' e')) = some (some (.int (nI (txN t n P).2.1)), am_set h7 53 (rd0 53 0 (txN t n P).2.1 b' e')) := by
        simp only [e_86_97, e_86_100, lg_n, lg_i, lg_r, wd_nil, am_wd_i, am_wd_r, am_wd_l, am_gk_s, am_fld_s, List.getElem?_cons_zero, List.getElem?_cons_succ, am_bk_v, am_bk_n, bo_0, bo_1, am_pk_s, List.length_cons, List.length_nil, Nat.zero_add, List.set_cons_zero, List.set_cons_succ, Nat.reduceAdd, Nat.reduceLeDiff, Nat.reduceLT, w3]
      refine (b_86 _ _ _).trans ?_; show am_ev _ 86 0 [some (.ref 0), none] [] _ = _
      simp only [e_86_0, e_86_1, e_86_4, e_86_5, e_86_8, e_86_11, e_86_12, e_86_15, e_86_17, e_86_18, e_86_19, e_86_22, e_86_23, e_86_26, e_86_29, e_86_32, e_86_33, e_86_36, e_86_39, e_86_40, e_86_43, e_86_46, e_86_47, e_86_50, e_86_51, lg_n, lg_i, lg_r, wd_nil, am_wd_i, am_wd_r, am_wd_l, am_gk_s, am_fld_s, List.getElem?_cons_zero, List.getElem?_cons_succ, am_bk_v, am_bk_n, bo_0, bo_1, am_pk_s, List.length_cons, List.length_nil, Nat.zero_add, List.set_cons_zero, List.set_cons_succ, Nat.reduceAdd, Nat.reduceLeDiff, Nat.reduceLT, f0, f1, f2, f3, f4, k6, a1, h0, show cI (0 + 1) = -1 from rfl, eq_self, if_true, ha1, r2, is_plan c2, htk, ha2, is_house H2, hbg, ha3, q5, e4, ha4, h59, true_or]
      change am_ev (d + 7) 86 54 _ _ (am_set h4 59 (fore0 59 5 62 (Φ.1, Φ.2.1, 0, Φ.2.2.2))) = _
      rw [← hh5]
      simp only [e_86_54, e_86_55, e_86_58, e_86_59, e_86_62, e_86_63, lg_n, lg_i, lg_r, wd_nil, am_wd_i, am_wd_r, am_wd_l, am_gk_s, am_fld_s, List.getElem?_cons_zero, List.getElem?_cons_succ, am_bk_v, am_bk_n, bo_0, bo_1, am_pk_s, List.length_cons, List.length_nil, Nat.zero_add, List.set_cons_zero, List.set_cons_succ, Nat.reduceAdd, Nat.reduceLeDiff, Nat.reduceLT, ha5, f5, h66]
      change am_ev (d + 7) 86 64 _ _ (am_set h5 66 (sg0 66 0)) = _
      rw [← hh6]
      refine Eq.trans e7 ?_
      simp only [e_86_85, e_86_86, e_86_89, e_86_90, e_86_93, e_86_94, lg_n, lg_i, lg_r, wd_nil, am_wd_i, am_wd_r, am_wd_l, am_gk_s, am_fld_s, List.getElem?_cons_zero, List.getElem?_cons_succ, am_bk_v, am_bk_n, bo_0, bo_1, am_pk_s, List.length_cons, List.length_nil, Nat.zero_add, List.set_cons_zero, List.set_cons_succ, Nat.reduceAdd, Nat.reduceLeDiff, Nat.reduceLT, ha7, f3, h53, ha8]
      exact fin2
    · refine F1.tr ⟨?_, ?_, fun k hk => by rw [K8 k (by omega), K7 k (by omega), K61 k (by omega)]⟩
      · show h7.1 = h1.1
        rw [s71, hh6]
        show h5.1 = h1.1
        rw [hh5]
        show h4.1 = h1.1
        rw [s41, hs3.1, hs2.1]
      · show h7.2.1 = h1.2.1
        rw [s72, hh6]
        show h5.2.1 = h1.2.1
        rw [hh5]
        show h4.2.1 = h1.2.1
        rw [s42, hs3.2, hs2.2]
end CL
