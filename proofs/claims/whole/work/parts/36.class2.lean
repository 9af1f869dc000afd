/-! the class's calls: what is done -/
theorem lookN_1 (P : Pn) (l : Nat → Nat) : ∀ n σ, (lookN P l n σ).1 = σ.1 ∧ (lookN P l n σ).2.1 = σ.2.1
  | 0, _ => ⟨rfl, rfl⟩
  | n + 1, σ => by
    have ih := lookN_1 P l n σ
    unfold lookN lookN1
    split
    · exact ih
    · exact ih
theorem advN_1 (P : Pn) (l : Nat → Nat) (n : Nat) (σ : Hn) : (advN P l n σ).1 = σ.1 + 1 ∧ (advN P l n σ).2.1 = σ.2.1 := by
  have := lookN_1 P l n (letOutN P (σ.1 + 1, σ.2))
  exact this
theorem behN_1 (P : Pn) (σ : Hn) : ∀ t, (behN P σ t).1 = σ.1 + t ∧ (behN P σ t).2.1 = σ.2.1
  | 0 => ⟨rfl, rfl⟩
  | t + 1 => by
    have ih := behN_1 P σ t
    have := advN_1 P (fun i => i) 8 (behN P σ t)
    unfold behN
    omega
theorem FO.any {h : am_H} {P : Pn} {σ σ' : Hn} {Φ : Fo} (hF : FO h P σ Φ) (h0 : Φ.2.2.1 = 0) : FO h P σ' Φ := ⟨hF.1, hF.2.1, hF.2.2.1, hF.2.2.2.1, hF.2.2.2.2.1, Or.inl h0⟩
section CL
variable {d : Nat} {h : am_H} {P : Pn} {σ : Hn} {u : Nat} {pa : Nat → Hn} {kp : Nat → Bool} {ke : Nat → Hn} {t : Nat → Nat} {n sn : Nat} {sF sT sK : Nat → Nat} {nz : Nat → Nat} {nt : Nat → Nat → Nat}
theorem fo_unknown {Φ : Fo} (hF : FO h P σ Φ) : FO (am_set h 59 (fore0 59 5 62 (Φ.1, Φ.2.1, 0, Φ.2.2.2))) P σ (Φ.1, Φ.2.1, 0, Φ.2.2.2) := by
  obtain ⟨h1, h2, h3, h4, h5, h6⟩ := hF
  exact ⟨at_set_eq, by rw [at_set_ne (by decide)]; exact h2, by rw [at_set_ne (by decide)]; exact h3, h4.keep (fun k _ _ => at_set_ne (by omega)), h5, Or.inl rfl⟩
theorem m_remember (hC : CI h P σ u pa kp ke t n sn sF sT sK nz nt) : ∃ h' Φ, am_cal (d + 7) 121 [.ref 0] h = some (none, h') ∧ CI h' P σ (min (u + 1) 8) (pushN u pa σ) kp ke t n sn sF sT sK nz nt ∧ FC h h' ∧ FO h' P σ Φ ∧ Φ.2.2.1 = 0 := by
  obtain ⟨f0, f1, f2, f3, f4, f5, f6, f7, f8⟩ := hC.fl
  obtain ⟨nx, hP⟩ := hC.2.2.2.2.1
  obtain ⟨Φ, hF⟩ := hC.2.2.2.2.2.2.1
  obtain ⟨h1, nx', e1, P1, s1, s2, K1⟩ := m_push (d := d + 3) hP hC.2.2.2.1
  have hF1 : FO h1 P σ Φ := hF.keep (fun k _ _ => K1 k (by omega))
  have C1 : CI h1 P σ (min (u + 1) 8) (pushN u pa σ) kp ke t n sn sF sT sK nz nt := hC.hp (hC.2.2.2.1.keep (fun k _ _ => K1 k (by omega))) ⟨nx', P1⟩ ⟨Φ, hF1⟩ (fun k hk => K1 k (by omega))
  have hF2 := fo_unknown hF1
  refine ⟨_, _, ?_, C1.fo ⟨_, hF2⟩ (fun k hk => at_set_ne (by omega)), FC.tr ⟨s1, s2, fun k hk => K1 k (by omega)⟩ (FC.set (by decide)), hF2, rfl⟩
  refine (b_121 _ _ _).trans ?_; show am_ev _ 121 0 [some (.ref 0)] [] _ = _
  obtain ⟨k0, k1, k2, k3, k4, k5⟩ := hP.fl
  obtain ⟨g0, g1, g2, g3, g4, g5, g6, g7, g8⟩ := C1.fl
  have h59 := hF1.1
  unfold fore0 at h59
  simp only [e_121_0, e_121_1, e_121_4, e_121_5, e_121_8, e_121_11, e_121_12, e_121_15, e_121_16, e_121_19, lg_n, lg_i, lg_r, wd_nil, am_wd_i, am_wd_r, am_wd_l, am_gk_s, am_fld_s, List.getElem?_cons_zero, List.getElem?_cons_succ, am_bk_v, am_bk_n, bo_0, bo_1, am_pk_s, List.length_cons, List.length_nil, Nat.zero_add, List.set_cons_zero, List.set_cons_succ, Nat.reduceAdd, Nat.reduceLeDiff, Nat.reduceLT, f1, f2, k5, e1, g4, h59, true_or, eq_self]
  rfl
theorem l_step (oP : OKP P) (hf : P.1 ≤ 15) {m0 : Nat} (oR : OKR P σ m0) {N : Nat} (hN : m0 + N < 2 ^ 27) : ∀ j i (h : am_H), i + j = N → Stt h → am_at h 0 = some ride0 → PlanAt h 1 P → HouseAt h 5 1 (behN P σ i) → am_ev (d + 4) 90 37 [some (.ref 0), some (.int (nI N)), some (.int (nI i))] [] h = some (some (.int (nI (σ.1 + N))), pH h 5 1 (behN P σ N)) := by
  intro j
  induction j with
  | zero =>
    intro i h hi hS h0 hp hh
    have : i = N := by omega
    subst this
    have f1 : am_fld (am_at h 0) 7 1 = some (.ref 5) := by rw [h0]; rfl
    obtain ⟨g0, g1, -⟩ := fl_house hh
    rw [e_90_37, pH_self hh]
    simp only [e_90_38, e_90_39, e_90_60, e_90_61, e_90_64, e_90_67, lg_n, lg_i, lg_r, wd_nil, am_wd_i, am_wd_r, am_wd_l, am_gk_s, am_fld_s, List.getElem?_cons_zero, List.getElem?_cons_succ, am_bk_v, am_bk_n, bo_0, bo_1, am_pk_s, List.length_cons, List.length_nil, Nat.zero_add, List.set_cons_zero, List.set_cons_succ, Nat.reduceAdd, Nat.reduceLeDiff, Nat.reduceLT, nI_leI (show i < 2 ^ 31 by omega) (show i < 2 ^ 31 by omega), Nat.le_refl, if_true, f1, g1, (behN_1 P σ i).1]
  | succ j ih =>
    intro i h hi hS h0 hp hh
    have f1 : am_fld (am_at h 0) 7 1 = some (.ref 5) := by rw [h0]; rfl
    have hr : am_at h 1000001 = some (.inl (10, 8, .inl (fun i => nI i))) := hS 1 (by decide) (by decide)
    have ha := m_advance (d := d) (n := 8) (m := 8) (L := fun i => i) hS hp hh oP (oR.beh oP.1 i) (by omega) (by decide) (by decide) hf (Or.inr rfl) hr (fun _ _ => rfl) (by omega) (fun i hi => Nat.lt_trans hi (by decide)) (by decide) (by decide)
    have ih' := ih (i + 1) (pH h 5 1 (behN P σ (i + 1))) (by omega) (hS.pH (by decide)) (by rw [at_pH_ne (by decide)]; exact h0) (hp.pH (by decide)) (HouseAt_pH _ _ _ _)
    rw [pH_pH] at ih'
    have e8 : (8 : Int32) = nI 8 := by decide +kernel
    rw [e_90_37]
    simp only [e_90_38, e_90_39, e_90_42, e_90_43, e_90_46, e_90_49, e_90_51, e_90_54, e_90_57, lg_n, lg_i, lg_r, wd_nil, am_wd_i, am_wd_r, am_wd_l, am_gk_s, am_fld_s, List.getElem?_cons_zero, List.getElem?_cons_succ, am_bk_v, am_bk_n, bo_0, bo_1, am_pk_s, List.length_cons, List.length_nil, Nat.zero_add, List.set_cons_zero, List.set_cons_succ, Nat.reduceAdd, Nat.reduceLeDiff, Nat.reduceLT, nI_leI (show N < 2 ^ 31 by omega) (show i < 2 ^ 31 by omega), if_neg (show ¬ N ≤ i by omega), f1, is_house hh, e8, ha, nI_1]
    exact ih'
theorem c_step (hC : CI h P σ u pa kp ke t n sn sF sT sK nz nt) (hD : OKD P) (hO : HOK P σ) (x : Int32) : (¬ (1 ≤ x.toInt ∧ x.toInt ≤ 12) → am_cal (d + 8) 90 [.ref 0, .int x] h = some (some (.int (-3)), h)) ∧ (1 ≤ x.toInt ∧ x.toInt ≤ 12 → 999 < σ.1 + x.toInt.toNat → am_cal (d + 8) 90 [.ref 0, .int x] h = some (some (.int (-5)), h)) ∧ (1 ≤ x.toInt ∧ x.toInt ≤ 12 → σ.1 + x.toInt.toNat ≤ 999 → ∃ h', am_cal (d + 8) 90 [.ref 0, .int x] h = some (some (.int (nI (σ.1 + x.toInt.toNat))), h') ∧ CI h' P (behN P σ x.toInt.toNat) (min (u + 1) 8) (pushN u pa σ) kp ke t n sn sF sT sK nz nt ∧ FC h h') := by
  obtain ⟨f0, f1, f2, f3, f4, f5, f6, f7, f8⟩ := hC.fl
  obtain ⟨oP, q1, q2, q3⟩ := hD
  have hw := m_within (d := d + 6) (h := h) x 1 12
  have hiff : ((1 : Int32) ≤ x ∧ x ≤ 12) ↔ (1 ≤ x.toInt ∧ x.toInt ≤ 12) := by rw [i_le, i_le]; exact Iff.rfl
  have e999 : (999 : Int32) = nI 999 := by decide +kernel
  obtain ⟨g0, g1, -⟩ := fl_house hC.2.2.2.1
  have h9 := hO.2.1
  refine ⟨fun hno => ?_, fun hin hbig => ?_, fun hin hle => ?_⟩
  · rw [if_neg (fun z => hno (hiff.1 z))] at hw
    refine (b_90 _ _ _).trans ?_; show am_ev _ 90 0 [some (.ref 0), some (.int x), none] [] _ = _
    simp only [e_90_0, e_90_1, e_90_2, e_90_4, e_90_7, e_90_10, e_90_12, lg_n, lg_i, lg_r, wd_nil, am_wd_i, am_wd_r, am_wd_l, am_gk_s, am_fld_s, List.getElem?_cons_zero, List.getElem?_cons_succ, am_bk_v, am_bk_n, bo_0, bo_1, am_pk_s, List.length_cons, List.length_nil, Nat.zero_add, List.set_cons_zero, List.set_cons_succ, Nat.reduceAdd, Nat.reduceLeDiff, Nat.reduceLT, hw, not_true_eq_false, if_true, if_false]
  · rw [if_pos (hiff.2 hin)] at hw
    obtain ⟨q, rfl, hq⟩ : ∃ q : Nat, x = nI q ∧ q ≤ 12 := ⟨x.toInt.toNat, i_of x (by omega), by omega⟩
    rw [nI_toInt (show q < 2 ^ 31 by omega), Int.toNat_natCast] at hbig
    refine (b_90 _ _ _).trans ?_; show am_ev _ 90 0 [some (.ref 0), some (.int (nI q)), none] [] _ = _
    simp only [e_90_0, e_90_1, e_90_2, e_90_4, e_90_7, e_90_10, e_90_12, e_90_13, e_90_14, e_90_17, e_90_20, e_90_21, e_90_22, e_90_25, e_90_28, e_90_30, lg_n, lg_i, lg_r, wd_nil, am_wd_i, am_wd_r, am_wd_l, am_gk_s, am_fld_s, List.getElem?_cons_zero, List.getElem?_cons_succ, am_bk_v, am_bk_n, bo_0, bo_1, am_pk_s, List.length_cons, List.length_nil, Nat.zero_add, List.set_cons_zero, List.set_cons_succ, Nat.reduceAdd, Nat.reduceLeDiff, Nat.reduceLT, hw, one_ne, not_false_eq_true, if_true, if_false, f1, g1, nI_add, e999, nI_leI (show σ.1 + q < 2 ^ 31 by omega) (show 999 < 2 ^ 31 by decide), if_neg (show ¬ σ.1 + q ≤ 999 by omega)]
  · rw [if_pos (hiff.2 hin)] at hw
    obtain ⟨q, rfl, hq⟩ : ∃ q : Nat, x = nI q ∧ q ≤ 12 := ⟨x.toInt.toNat, i_of x (by omega), by omega⟩
    rw [nI_toInt (show q < 2 ^ 31 by omega), Int.toNat_natCast] at hle ⊢
    obtain ⟨h1, Φ, e1, C1, F1, O1, O2⟩ := m_remember (d := d) hC
    have hl := l_step (d := d + 3) (P := P) (σ := σ) oP (by omega) hO.1 (N := q) (by omega) q 0 h1 (by omega) C1.1 C1.2.1 C1.2.2.1 C1.2.2.2.1
    obtain ⟨nx, P1⟩ := C1.2.2.2.2.1
    refine ⟨_, ?_, C1.hp (HouseAt_pH h1 5 1 _) ⟨nx, P1.keep (fun k _ _ => at_pH_ne (by omega))⟩ ⟨Φ, (O1.any O2).keep (fun k _ _ => at_pH_ne (by omega))⟩ (fun k hk => at_pH_ne (by omega)), F1.tr (FC.pH (by decide))⟩
    refine (b_90 _ _ _).trans ?_; show am_ev _ 90 0 [some (.ref 0), some (.int (nI q)), none] [] _ = _
    simp only [e_90_0, e_90_1, e_90_2, e_90_4, e_90_7, e_90_10, e_90_12, e_90_13, e_90_14, e_90_17, e_90_20, e_90_21, e_90_22, e_90_25, e_90_28, e_90_30, e_90_31, e_90_32, e_90_35, e_90_36, lg_n, lg_i, lg_r, wd_nil, am_wd_i, am_wd_r, am_wd_l, am_gk_s, am_fld_s, List.getElem?_cons_zero, List.getElem?_cons_succ, am_bk_v, am_bk_n, bo_0, bo_1, am_pk_s, List.length_cons, List.length_nil, Nat.zero_add, List.set_cons_zero, List.set_cons_succ, Nat.reduceAdd, Nat.reduceLeDiff, Nat.reduceLT, hw, one_ne, not_false_eq_true, if_true, if_false, f1, f8, g1, nI_add, e999, nI_leI (show σ.1 + q < 2 ^ 31 by omega) (show 999 < 2 ^ 31 by decide), if_pos hle, e1]
    exact hl
theorem c_shut (hC : CI h P σ u pa kp ke t n sn sF sT sK nz nt) (hD : OKD P) (c : Int32) : (¬ (0 ≤ c.toInt ∧ c.toInt < (2 * P.1 : Nat)) → am_cal (d + 8) 91 [.ref 0, .int c] h = some (some (.int (-2)), h)) ∧ (0 ≤ c.toInt ∧ c.toInt < (2 * P.1 : Nat) → ∃ h', am_cal (d + 8) 91 [.ref 0, .int c] h = some (some (.int (if (σ.2.1 ^^^ 2 ^ c.toInt.toNat).testBit c.toInt.toNat then 1 else 0)), h') ∧ CI h' P (σ.1, σ.2.1 ^^^ 2 ^ c.toInt.toNat, σ.2.2) (min (u + 1) 8) (pushN u pa σ) kp ke t n sn sF sT sK nz nt ∧ FC h h') := by
  obtain ⟨f0, f1, f2, f3, f4, f5, f6, f7, f8⟩ := hC.fl
  obtain ⟨oP, q1, q2, q3⟩ := hD
  have hp := hC.2.2.1
  have hhc := m_hasCabin (d := d + 5) hp (show P.1 < 2 ^ 30 by omega) c
  refine ⟨fun hno => ?_, fun hin => ?_⟩
  · rw [if_neg hno] at hhc
    refine (b_91 _ _ _).trans ?_; show am_ev _ 91 0 [some (.ref 0), some (.int c)] [] _ = _
    simp only [e_91_0, e_91_1, e_91_4, e_91_5, e_91_8, e_91_11, e_91_13, lg_n, lg_i, lg_r, wd_nil, am_wd_i, am_wd_r, am_wd_l, am_gk_s, am_fld_s, List.getElem?_cons_zero, List.getElem?_cons_succ, am_bk_v, am_bk_n, bo_0, bo_1, am_pk_s, List.length_cons, List.length_nil, Nat.zero_add, List.set_cons_zero, List.set_cons_succ, Nat.reduceAdd, Nat.reduceLeDiff, Nat.reduceLT, f0, is_plan hp, hhc, not_true_eq_false, if_true, if_false]
  · rw [if_pos hin] at hhc
    obtain ⟨q, rfl, hq⟩ : ∃ q : Nat, c = nI q ∧ q < 2 * P.1 := ⟨c.toInt.toNat, i_of c hin.1, by omega⟩
    rw [nI_toInt (show q < 2 ^ 31 by omega), Int.toNat_natCast]
    obtain ⟨h1, Φ, e1, C1, F1, O1, O2⟩ := m_remember (d := d) hC
    obtain ⟨g0, g1, g2, g3, g4, g5, g6, g7, g8⟩ := C1.fl
    obtain ⟨nx, P1⟩ := C1.2.2.2.2.1
    have h5 := C1.2.2.2.1.1
    unfold house0 at h5
    have hset := set_hd C1.2.2.2.1 σ.1 (σ.2.1 ^^^ 2 ^ q)
    have C2 : CI (pH h1 5 1 (σ.1, σ.2.1 ^^^ 2 ^ q, σ.2.2)) P (σ.1, σ.2.1 ^^^ 2 ^ q, σ.2.2) (min (u + 1) 8) (pushN u pa σ) kp ke t n sn sF sT sK nz nt := C1.hp (HouseAt_pH h1 5 1 _) ⟨nx, P1.keep (fun k _ _ => at_pH_ne (by omega))⟩ ⟨Φ, (O1.any O2).keep (fun k _ _ => at_pH_ne (by omega))⟩ (fun k hk => at_pH_ne (by omega))
    refine ⟨_, ?_, C2, F1.tr (FC.pH (by decide))⟩
    have hsh := m_isShut (d := d + 6) C2.2.2.2.1 (show q < 31 by omega)
    obtain ⟨w0, w1, -⟩ := C2.fl
    refine (b_91 _ _ _).trans ?_; show am_ev _ 91 0 [some (.ref 0), some (.int (nI q))] [] _ = _
    simp only [e_91_0, e_91_1, e_91_4, e_91_5, e_91_8, e_91_11, e_91_13, e_91_14, e_91_15, e_91_18, e_91_19, e_91_22, e_91_23, e_91_26, e_91_27, e_91_28, e_91_29, e_91_30, e_91_33, e_91_34, e_91_37, e_91_38, e_91_41, e_91_44, e_91_45, e_91_48, e_91_49, lg_n, lg_i, lg_r, wd_nil, am_wd_i, am_wd_r, am_wd_l, am_gk_s, am_fld_s, List.getElem?_cons_zero, List.getElem?_cons_succ, am_bk_v, am_bk_n, bo_0, bo_1, am_pk_s, List.length_cons, List.length_nil, Nat.zero_add, List.set_cons_zero, List.set_cons_succ, Nat.reduceAdd, Nat.reduceLeDiff, Nat.reduceLT, f0, f8, is_plan hp, hhc, one_ne, not_false_eq_true, if_true, if_false, e1, g1, h5, sh1 q (show q < 31 by omega), fb_xorI, hset, w1, is_house C2.2.2.2.1, hsh, z_if]
    by_cases hb : (σ.2.1 ^^^ 2 ^ q).testBit q = true <;> simp [hb]
end CL
