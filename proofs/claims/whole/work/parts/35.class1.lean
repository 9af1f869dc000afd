/-! the class's calls: what is told -/
section CL
variable {d : Nat} {h : am_H} {P : Pn} {σ : Hn} {u : Nat} {pa : Nat → Hn} {kp : Nat → Bool} {ke : Nat → Hn} {t : Nat → Nat} {n sn : Nat} {sF sT sK : Nat → Nat} {nz : Nat → Nat} {nt : Nat → Nat → Nat}
theorem i_of (x : Int32) (h0 : 0 ≤ x.toInt) : x = nI x.toInt.toNat := by
  have := x.toInt_lt
  rw [i_eq, nI_toInt (by omega)]; omega
theorem wi_i {x : Int32} {a b : Nat} (ha : a < 2 ^ 31) (hb : b < 2 ^ 31) : (nI a ≤ x ∧ x ≤ nI b) ↔ ((a : Int) ≤ x.toInt ∧ x.toInt ≤ b) := by
  rw [i_le, i_le, nI_toInt ha, nI_toInt hb]
theorem c_write (hC : CI h P σ u pa kp ke t n sn sF sT sK nz nt) (x : Int32) : ∃ h' t' n', am_cal (d + 8) 83 [.ref 0, .int x] h = some (some (.int (if 0 ≤ x.toInt ∧ x.toInt ≤ 255 then (if n < 200 then nI (n + 1) else -5) else -3)), h') ∧ CI h' P σ u pa kp ke t' n' sn sF sT sK nz nt ∧ FC h h' ∧ t' = (if (0 ≤ x.toInt ∧ x.toInt ≤ 255) ∧ n < 200 then updn t n x.toInt.toNat else t) ∧ n' = (if (0 ≤ x.toInt ∧ x.toInt ≤ 255) ∧ n < 200 then n + 1 else n) := by
  obtain ⟨f0, f1, f2, f3, f4, f5, f6, f7, f8⟩ := hC.fl
  obtain ⟨c, b, e, D, hX, hD⟩ := hC.2.2.2.2.2.1
  obtain ⟨k0, k1, k2, k3, k4, k5, k6⟩ := hX.1.fl
  have hw := m_within (d := d + 6) (h := h) x 0 255
  have hiff : ((0 : Int32) ≤ x ∧ x ≤ 255) ↔ (0 ≤ x.toInt ∧ x.toInt ≤ 255) := by rw [i_le, i_le]; exact Iff.rfl
  have e200 : (200 : Int32) = nI 200 := by decide +kernel
  have hn := hX.1.2.2.2.1
  by_cases hin : 0 ≤ x.toInt ∧ x.toInt ≤ 255
  · rw [if_pos (hiff.2 hin)] at hw
    rw [if_pos hin]
    by_cases hn2 : n < 200
    · rw [if_pos hn2]
      have hx := i_of x hin.1
      have hX' : RX (am_set (am_set h 54 (AI 200 (fun k => nI (updn t n x.toInt.toNat k)))) 53 (rd0 53 (n + 1) c b e)) 53 (updn t n x.toInt.toNat) (n + 1) c b e D := by
        obtain ⟨⟨h1, h2, h3, h4, h5, h6⟩, hp⟩ := hX
        refine ⟨⟨h1.keep (fun k _ => by rw [at_set_ne (by omega), at_set_ne (by omega)]), at_set_eq, by rw [at_set_ne (by decide), at_set_eq], by omega, h5, fun k => ?_⟩, hp.keep (fun k _ _ => by rw [at_set_ne (by omega), at_set_ne (by omega)])⟩
        unfold updn
        split
        · omega
        · exact h6 k
      have hap : am_cal (d + 7) 63 [.ref 53, .int x] h = some (some (.int 1), am_set (am_set h 54 (AI 200 (fun k => nI (updn t n x.toInt.toNat k)))) 53 (rd0 53 (n + 1) c b e)) := by
        refine (b_63 _ _ _).trans ?_; show am_ev _ 63 0 [some (.ref 53), some (.int x)] [] _ = _
        have hv := hX.1.2.1
        unfold rd0 at hv
        rw [hx]
        simp only [e_63_0, e_63_1, e_63_4, e_63_7, e_63_10, e_63_11, e_63_12, e_63_13, e_63_16, e_63_17, e_63_20, e_63_21, e_63_22, e_63_23, e_63_24, e_63_27, e_63_28, e_63_29, e_63_32, e_63_33, lg_n, lg_i, lg_r, wd_nil, am_wd_i, am_wd_r, am_wd_l, am_gk_s, am_fld_s, List.getElem?_cons_zero, List.getElem?_cons_succ, am_bk_v, am_bk_n, bo_0, bo_1, am_pk_s, List.length_cons, List.length_nil, Nat.zero_add, List.set_cons_zero, List.set_cons_succ, Nat.reduceAdd, Nat.reduceLeDiff, Nat.reduceLT, hv, e200, nI_ltI (show n < 2 ^ 31 by omega) (show 200 < 2 ^ 31 by decide), if_pos hn2, hX.1.2.2.1, sk_AI (show n < 200 by omega) (show 200 < 2 ^ 31 by decide), st_AI (show n < 200 by omega) (show 200 < 2 ^ 31 by decide), updn_map nI, at_set_ne (show 53 ≠ 54 by decide), nI_1, nI_toInt (show x.toInt.toNat < 2 ^ 31 by omega), Int.toNat_natCast]
        rfl
      obtain ⟨r0, r1, -⟩ := hX'.1.fl
      refine ⟨_, _, _, ?_, hC.rd ⟨c, b, e, D, hX', hD⟩ (fun k hk => by rw [at_set_ne (by omega), at_set_ne (by omega)]), (FC.set (by decide)).tr (FC.set (by decide)), by rw [if_pos ⟨hin, hn2⟩], by rw [if_pos ⟨hin, hn2⟩]⟩
      refine (b_83 _ _ _).trans ?_; show am_ev _ 83 0 [some (.ref 0), some (.int x)] [] _ = _
      have f3' : am_fld (am_at (am_set (am_set h 54 (AI 200 (fun k => nI (updn t n x.toInt.toNat k)))) 53 (rd0 53 (n + 1) c b e)) 0) 7 3 = some (.ref 53) := by rw [at_set_ne (by decide), at_set_ne (by decide)]; exact f3
      simp only [e_83_0, e_83_1, e_83_2, e_83_5, e_83_8, e_83_11, e_83_13, e_83_14, e_83_15, e_83_18, e_83_19, e_83_22, e_83_25, e_83_26, e_83_29, e_83_32, e_83_35, e_83_37, lg_n, lg_i, lg_r, wd_nil, am_wd_i, am_wd_r, am_wd_l, am_gk_s, am_fld_s, List.getElem?_cons_zero, List.getElem?_cons_succ, am_bk_v, am_bk_n, bo_0, bo_1, am_pk_s, List.length_cons, List.length_nil, Nat.zero_add, List.set_cons_zero, List.set_cons_succ, Nat.reduceAdd, Nat.reduceLeDiff, Nat.reduceLT, hw, one_ne, not_false_eq_true, if_true, if_false, f3, k6, hap, f3', r1]
    · rw [if_neg hn2]
      have hap : am_cal (d + 7) 63 [.ref 53, .int x] h = some (some (.int 0), h) := by
        refine (b_63 _ _ _).trans ?_; show am_ev _ 63 0 [some (.ref 53), some (.int x)] [] _ = _
        simp only [e_63_0, e_63_1, e_63_4, e_63_7, e_63_10, e_63_11, lg_n, lg_i, lg_r, wd_nil, am_wd_i, am_wd_r, am_wd_l, am_gk_s, am_fld_s, List.getElem?_cons_zero, List.getElem?_cons_succ, am_bk_v, am_bk_n, bo_0, bo_1, am_pk_s, List.length_cons, List.length_nil, Nat.zero_add, List.set_cons_zero, List.set_cons_succ, Nat.reduceAdd, Nat.reduceLeDiff, Nat.reduceLT, k1, e200, nI_ltI (show n < 2 ^ 31 by omega) (show 200 < 2 ^ 31 by decide), if_neg hn2]
      refine ⟨h, t, n, ?_, hC, FC.rf, by rw [if_neg (fun z => hn2 z.2)], by rw [if_neg (fun z => hn2 z.2)]⟩
      refine (b_83 _ _ _).trans ?_; show am_ev _ 83 0 [some (.ref 0), some (.int x)] [] _ = _
      simp only [e_83_0, e_83_1, e_83_2, e_83_5, e_83_8, e_83_11, e_83_13, e_83_14, e_83_15, e_83_18, e_83_19, e_83_22, e_83_25, e_83_26, e_83_29, e_83_32, e_83_35, e_83_37, lg_n, lg_i, lg_r, wd_nil, am_wd_i, am_wd_r, am_wd_l, am_gk_s, am_fld_s, List.getElem?_cons_zero, List.getElem?_cons_succ, am_bk_v, am_bk_n, bo_0, bo_1, am_pk_s, List.length_cons, List.length_nil, Nat.zero_add, List.set_cons_zero, List.set_cons_succ, Nat.reduceAdd, Nat.reduceLeDiff, Nat.reduceLT, hw, one_ne, not_false_eq_true, if_true, if_false, f3, k6, hap]
  · rw [if_neg (fun z => hin (hiff.1 z))] at hw
    rw [if_neg hin]
    refine ⟨h, t, n, ?_, hC, FC.rf, by rw [if_neg (fun z => hin z.1)], by rw [if_neg (fun z => hin z.1)]⟩
    refine (b_83 _ _ _).trans ?_; show am_ev _ 83 0 [some (.ref 0), some (.int x)] [] _ = _
    simp only [e_83_0, e_83_1, e_83_2, e_83_5, e_83_8, e_83_11, e_83_13, e_83_14, e_83_15, e_83_18, e_83_19, e_83_22, e_83_25, e_83_26, e_83_29, e_83_32, e_83_35, e_83_37, lg_n, lg_i, lg_r, wd_nil, am_wd_i, am_wd_r, am_wd_l, am_gk_s, am_fld_s, List.getElem?_cons_zero, List.getElem?_cons_succ, am_bk_v, am_bk_n, bo_0, bo_1, am_pk_s, List.length_cons, List.length_nil, Nat.zero_add, List.set_cons_zero, List.set_cons_succ, Nat.reduceAdd, Nat.reduceLeDiff, Nat.reduceLT, hw, not_true_eq_false, if_true, if_false]
theorem c_erase (hC : CI h P σ u pa kp ke t n sn sF sT sK nz nt) : ∃ h', am_cal (d + 8) 84 [.ref 0] h = some (some (.int (nI n)), h') ∧ CI h' P σ u pa kp ke t 0 sn sF sT sK nz nt ∧ FC h h' := by
  obtain ⟨f0, f1, f2, f3, f4, f5, f6, f7, f8⟩ := hC.fl
  obtain ⟨c, b, e, D, hX, hD⟩ := hC.2.2.2.2.2.1
  have hv := hX.1.2.1
  unfold rd0 at hv
  refine ⟨am_set h 53 (rd0 53 0 c b e), ?_, hC.rd ⟨c, b, e, D, ?_, hD⟩ (fun k hk => at_set_ne (by omega)), FC.set (by decide)⟩
  · refine (b_84 _ _ _).trans ?_; show am_ev _ 84 0 [some (.ref 0), none] [] _ = _
    simp only [e_84_0, e_84_1, e_84_4, e_84_7, e_84_8, e_84_9, e_84_12, e_84_13, e_84_16, e_84_17, lg_n, lg_i, lg_r, wd_nil, am_wd_i, am_wd_r, am_wd_l, am_gk_s, am_fld_s, List.getElem?_cons_zero, List.getElem?_cons_succ, am_bk_v, am_bk_n, bo_0, bo_1, am_pk_s, List.length_cons, List.length_nil, Nat.zero_add, List.set_cons_zero, List.set_cons_succ, Nat.reduceAdd, Nat.reduceLeDiff, Nat.reduceLT, f3, hv]
    rfl
  · obtain ⟨⟨h1, h2, h3, h4, h5, h6⟩, hp⟩ := hX
    exact ⟨⟨h1.keep (fun k _ => at_set_ne (by omega)), at_set_eq, by rw [at_set_ne (by decide)]; exact h3, by omega, h5, h6⟩, hp.keep (fun k _ _ => at_set_ne (by omega))⟩
theorem c_fault (hC : CI h P σ u pa kp ke t n sn sF sT sK nz nt) (hP : OKD P) : ∃ h', am_cal (d + 8) 85 [.ref 0] h = some (some (.int (cI ((txN t n P).1 + 1))), h') ∧ CI h' P σ u pa kp ke t n sn sF sT sK nz nt ∧ FC h h' := by
  obtain ⟨f0, f1, f2, f3, f4, f5, f6, f7, f8⟩ := hC.fl
  obtain ⟨c, b, e, D, hX, hD⟩ := hC.2.2.2.2.2.1
  obtain ⟨k0, k1, k2, k3, k4, k5, k6⟩ := hX.1.fl
  obtain ⟨h', b', e', D', a1, a2, a3, a4, a5, a6⟩ := m_readText (d := d) hX hC.2.2.1 (by decide) hP
  refine ⟨h', ?_, hC.rd ⟨_, _, _, _, a2, a4⟩ (fun k hk => a5.2.2 k (by omega)), a5.1, a5.2.1, fun k hk => a5.2.2 k (by omega)⟩
  refine (b_85 _ _ _).trans ?_; show am_ev _ 85 0 [some (.ref 0)] [] _ = _
  simp only [e_85_0, e_85_1, e_85_4, e_85_5, e_85_8, e_85_11, lg_n, lg_i, lg_r, wd_nil, am_wd_i, am_wd_r, am_wd_l, am_gk_s, am_fld_s, List.getElem?_cons_zero, List.getElem?_cons_succ, am_bk_v, am_bk_n, bo_0, bo_1, am_pk_s, List.length_cons, List.length_nil, Nat.zero_add, List.set_cons_zero, List.set_cons_succ, Nat.reduceAdd, Nat.reduceLeDiff, Nat.reduceLT, f0, f3, k6, a1]
theorem c_person (hC : CI h P σ u pa kp ke t n sn sF sT sK nz nt) (oP : OKP P) (p w : Int32) : am_cal (d + 8) 87 [.ref 0, .int p, .int w] h = some (some (.int (if 0 ≤ p.toInt ∧ p.toInt < P.2.2.2.1 then (if w = 0 then nI (P.2.2.2.2.1 p.toInt.toNat) else if w = 1 then nI (P.2.2.2.2.2.1 p.toInt.toNat) else if w = 2 then nI (P.2.2.2.2.2.2 p.toInt.toNat) else if w = 3 then sI (σ.2.2.1 p.toInt.toNat) else if w = 4 then cI (σ.2.2.1 p.toInt.toNat) else if w = 5 then nI (σ.2.2.2 p.toInt.toNat) else if w = 6 then nI (ktak (P.2.2.2.2.1 p.toInt.toNat)) else -3) else -2)), h) := by
  obtain ⟨f0, f1, f2, f3, f4, f5, f6, f7, f8⟩ := hC.fl
  have hn := oP.2.2.2.1
  have hp := hC.2.2.1
  have hh := hC.2.2.2.1
  have hhp := m_hasPerson (d := d + 6) hp (show P.2.2.2.1 < 2 ^ 31 by omega) p
  refine (b_87 _ _ _).trans ?_; show am_ev _ 87 0 [some (.ref 0), some (.int p), some (.int w)] [] _ = _
  by_cases hin : 0 ≤ p.toInt ∧ p.toInt < P.2.2.2.1
  · rw [if_pos hin] at hhp ⊢
    obtain ⟨q, rfl, hq⟩ : ∃ q : Nat, p = nI q ∧ q < P.2.2.2.1 := ⟨p.toInt.toNat, i_of p hin.1, by omega⟩
    have hq8 : q < 8 := by omega
    have hqi := nI_toInt (show q < 2 ^ 31 by omega)
    rw [hqi, Int.toNat_natCast]
    have hto := m_toldOf (d := d + 5) hp hh hn (nI q) w
    rw [hqi, if_pos (by omega), Int.toNat_natCast] at hto
    obtain ⟨g0, g1, g2, g3, g4, g5, g6⟩ := fl_plan hp
    obtain ⟨q0, q1, q2, q3, q4⟩ := fl_kind hC.1 (oP.2.2.2.2.1 q hq8)
    have ew : ∀ k : Nat, k < 7 → (w = nI k ↔ w.toInt = k) := fun k hk => by rw [i_eq, nI_toInt (by omega)]
    simp only [e_87_0, e_87_1, e_87_4, e_87_5, e_87_8, e_87_11, e_87_13, e_87_14, e_87_15, e_87_56, e_87_57, e_87_60, e_87_63, e_87_64, e_87_65, e_87_68, e_87_69, e_87_70, e_87_73, e_87_76, e_87_77, e_87_78, e_87_79, e_87_80, e_87_83, e_87_86, e_87_87, e_87_88, e_87_89, e_87_90, e_87_93, e_87_94, e_87_95, e_87_98, e_87_99, e_87_100, e_87_103, e_87_106, e_87_107, e_87_108, e_87_111, e_87_112, e_87_114, lg_n, lg_i, lg_r, wd_nil, am_wd_i, am_wd_r, am_wd_l, am_gk_s, am_fld_s, List.getElem?_cons_zero, List.getElem?_cons_succ, am_bk_v, am_bk_n, bo_0, bo_1, am_pk_s, List.length_cons, List.length_nil, Nat.zero_add, List.set_cons_zero, List.set_cons_succ, Nat.reduceAdd, Nat.reduceLeDiff, Nat.reduceLT, f0, f1, is_plan hp, is_house hh, hhp, one_ne, not_false_eq_true, if_true, if_false, g4, g5, g6, hp.2.1, hp.2.2.1, hp.2.2.2, qk_AK hq8, ak_AI hq8 (show 8 < 2 ^ 31 by decide), q0, q3, hto]
    by_cases w0 : w = 0
    · simp [w0]
    · by_cases w1 : w = 1
      · simp [w1]
      · by_cases w2 : w = 2
        · simp [w2]
        · by_cases w3 : w = 3
          · simp [w3]
          · by_cases w4 : w = 4
            · simp [w4]
            · by_cases w5 : w = 5
              · simp [w5]
              · by_cases w6 : w = 6
                · simp [w6]
                · simp [w0, w1, w2, w3, w4, w5, w6]
  · rw [if_neg hin] at hhp ⊢
    simp only [e_87_0, e_87_1, e_87_4, e_87_5, e_87_8, e_87_11, e_87_13, lg_n, lg_i, lg_r, wd_nil, am_wd_i, am_wd_r, am_wd_l, am_gk_s, am_fld_s, List.getElem?_cons_zero, List.getElem?_cons_succ, am_bk_v, am_bk_n, bo_0, bo_1, am_pk_s, List.length_cons, List.length_nil, Nat.zero_add, List.set_cons_zero, List.set_cons_succ, Nat.reduceAdd, Nat.reduceLeDiff, Nat.reduceLT, f0, is_plan hp, hhp, not_true_eq_false, if_true, if_false]
theorem c_cabin (hC : CI h P σ u pa kp ke t n sn sF sT sK nz nt) (oP : OKP P) (oH : OKH P σ) (hf : P.1 ≤ 15) (c w : Int32) : am_cal (d + 8) 88 [.ref 0, .int c, .int w] h = some (some (.int (if 0 ≤ c.toInt ∧ c.toInt < (2 * P.1 : Nat) then (if w = 0 then (if σ.2.1.testBit c.toInt.toNat then 1 else 0) else if w = 1 then nI (plc P.1 σ.1 c.toInt.toNat) else if w = 2 then nI (flr P.1 (plc P.1 σ.1 c.toInt.toNat)) else if w = 3 then nI (bitsN (fun q => σ.2.2.1 q == c.toInt.toNat + 2) P.2.2.2.1) else if w = 4 then nI P.2.1 - nI (usedN P.2.2.2.2.1 σ.2.2.1 c.toInt.toNat P.2.2.2.1) else -3) else -2)), h) := by
  obtain ⟨f0, f1, f2, f3, f4, f5, f6, f7, f8⟩ := hC.fl
  have hn := oP.2.2.2.1
  have hp := hC.2.2.1
  have hh := hC.2.2.2.1
  have hP : 1 ≤ P.1 ∧ P.1 < 2 ^ 20 := ⟨oP.1, oP.2.1⟩
  have hhc := m_hasCabin (d := d + 5) hp (show P.1 < 2 ^ 30 by omega) c
  refine (b_88 _ _ _).trans ?_; show am_ev _ 88 0 [some (.ref 0), some (.int c), some (.int w)] [] _ = _
  by_cases hin : 0 ≤ c.toInt ∧ c.toInt < (2 * P.1 : Nat)
  · rw [if_pos hin] at hhc ⊢
    obtain ⟨q, rfl, hq⟩ : ∃ q : Nat, c = nI q ∧ q < 2 * P.1 := ⟨c.toInt.toNat, i_of c hin.1, by omega⟩
    have hqi := nI_toInt (show q < 2 ^ 31 by omega)
    rw [hqi, Int.toNat_natCast]
    have hpl : plc P.1 σ.1 q < 2 * P.1 := Nat.mod_lt _ (by omega)
    simp only [e_88_0, e_88_1, e_88_4, e_88_5, e_88_8, e_88_11, e_88_13, e_88_14, e_88_15, e_88_48, e_88_49, e_88_52, e_88_53, e_88_56, e_88_59, e_88_60, e_88_63, e_88_64, e_88_65, e_88_66, e_88_69, e_88_70, e_88_73, e_88_74, e_88_75, e_88_78, e_88_79, e_88_82, e_88_83, e_88_86, e_88_89, e_88_90, e_88_91, e_88_94, e_88_95, e_88_98, e_88_99, e_88_100, e_88_103, e_88_104, e_88_107, e_88_108, e_88_110, lg_n, lg_i, lg_r, wd_nil, am_wd_i, am_wd_r, am_wd_l, am_gk_s, am_fld_s, List.getElem?_cons_zero, List.getElem?_cons_succ, am_bk_v, am_bk_n, bo_0, bo_1, am_pk_s, List.length_cons, List.length_nil, Nat.zero_add, List.set_cons_zero, List.set_cons_succ, Nat.reduceAdd, Nat.reduceLeDiff, Nat.reduceLT, f0, f1, is_plan hp, is_house hh, hhc, one_ne, not_false_eq_true, if_true, if_false, m_isShut hh (show q < 31 by omega), z_if, m_placeOf hp hh hP oH.1 (show q < 2 ^ 28 by omega), m_floorAt hp hh hP hpl, m_ridersIn hp hh oP oH (show q < 2 ^ 28 by omega), m_roomLeft hC.1 hp hh oP oH (show q < 2 ^ 28 by omega)]
    by_cases w0 : w = 0
    · by_cases hb : σ.2.1.testBit q = true <;> simp [w0, hb]
    · by_cases w1 : w = 1
      · simp [w1]
      · by_cases w2 : w = 2
        · simp [w2]
        · by_cases w3 : w = 3
          · simp [w3]
          · by_cases w4 : w = 4
            · simp [w4]
            · simp [w0, w1, w2, w3, w4]
  · rw [if_neg hin] at hhc ⊢
    simp only [e_88_0, e_88_1, e_88_4, e_88_5, e_88_8, e_88_11, e_88_13, lg_n, lg_i, lg_r, wd_nil, am_wd_i, am_wd_r, am_wd_l, am_gk_s, am_fld_s, List.getElem?_cons_zero, List.getElem?_cons_succ, am_bk_v, am_bk_n, bo_0, bo_1, am_pk_s, List.length_cons, List.length_nil, Nat.zero_add, List.set_cons_zero, List.set_cons_succ, Nat.reduceAdd, Nat.reduceLeDiff, Nat.reduceLT, f0, is_plan hp, hhc, not_true_eq_false, if_true, if_false]
theorem c_as (hC : CI h P σ u pa kp ke t n sn sF sT sK nz nt) (oP : OKP P) (p k : Int32) : am_cal (d + 8) 89 [.ref 0, .int p, .int k] h = some (some (.int (if 0 ≤ p.toInt ∧ p.toInt < P.2.2.2.1 then (if 0 ≤ k.toInt ∧ k.toInt ≤ 5 then (if k.toInt.toNat = 0 ∨ k.toInt.toNat = P.2.2.2.2.1 p.toInt.toNat + 1 ∨ k.toInt.toNat = kpar (P.2.2.2.2.1 p.toInt.toNat) then nI (ktak (P.2.2.2.2.1 p.toInt.toNat)) else -4) else -3) else -2)), h) := by
  obtain ⟨f0, f1, f2, f3, f4, f5, f6, f7, f8⟩ := hC.fl
  have hn := oP.2.2.2.1
  have hp := hC.2.2.1
  have hhp := m_hasPerson (d := d + 6) hp (show P.2.2.2.1 < 2 ^ 31 by omega) p
  have hw := m_within (d := d + 6) (h := h) k 0 5
  have hiff : ((0 : Int32) ≤ k ∧ k ≤ 5) ↔ (0 ≤ k.toInt ∧ k.toInt ≤ 5) := by rw [i_le, i_le]; exact Iff.rfl
  refine (b_89 _ _ _).trans ?_; show am_ev _ 89 0 [some (.ref 0), some (.int p), some (.int k), none] [] _ = _
  by_cases hin : 0 ≤ p.toInt ∧ p.toInt < P.2.2.2.1
  · rw [if_pos hin] at hhp ⊢
    by_cases hk : 0 ≤ k.toInt ∧ k.toInt ≤ 5
    · rw [if_pos (hiff.2 hk)] at hw
      rw [if_pos hk]
      obtain ⟨q, rfl, hq⟩ : ∃ q : Nat, p = nI q ∧ q < P.2.2.2.1 := ⟨p.toInt.toNat, i_of p hin.1, by omega⟩
      obtain ⟨x, rfl, hx⟩ : ∃ x : Nat, k = nI x ∧ x ≤ 5 := ⟨k.toInt.toNat, i_of k hk.1, by omega⟩
      have hq8 : q < 8 := by omega
      rw [nI_toInt (show q < 2 ^ 31 by omega), nI_toInt (show x < 2 ^ 31 by omega), Int.toNat_natCast, Int.toNat_natCast]
      obtain ⟨g0, g1, g2, g3, g4, g5, g6⟩ := fl_plan hp
      have hkq := oP.2.2.2.2.1 q hq8
      obtain ⟨q0, q1, q2, q3, q4⟩ := fl_kind hC.1 hkq
      simp only [e_89_0, e_89_1, e_89_4, e_89_5, e_89_8, e_89_11, e_89_13, e_89_14, e_89_15, e_89_16, e_89_17, e_89_20, e_89_23, e_89_25, e_89_26, e_89_27, e_89_30, e_89_33, e_89_34, e_89_35, e_89_36, e_89_37, e_89_38, e_89_41, e_89_44, e_89_45, e_89_48, e_89_51, e_89_53, lg_n, lg_i, lg_r, wd_nil, am_wd_i, am_wd_r, am_wd_l, am_gk_s, am_fld_s, List.getElem?_cons_zero, List.getElem?_cons_succ, am_bk_v, am_bk_n, bo_0, bo_1, am_pk_s, List.length_cons, List.length_nil, Nat.zero_add, List.set_cons_zero, List.set_cons_succ, Nat.reduceAdd, Nat.reduceLeDiff, Nat.reduceLT, f0, is_plan hp, hhp, hw, one_ne, not_false_eq_true, if_true, if_false, g4, hp.2.1, qk_AK hq8, q4, m_isUnder hC.1 hkq x (show x < 2 ^ 31 by omega), z_if, q3]
      by_cases hu : x = 0 ∨ x = P.2.2.2.2.1 q + 1 ∨ x = kpar (P.2.2.2.2.1 q)
      · rw [if_pos hu, if_neg (not_not_intro hu)]
      · rw [if_neg hu, if_pos hu]
    · rw [if_neg (fun z => hk (hiff.1 z))] at hw
      rw [if_neg hk]
      simp only [e_89_0, e_89_1, e_89_4, e_89_5, e_89_8, e_89_11, e_89_13, e_89_14, e_89_15, e_89_16, e_89_17, e_89_20, e_89_23, e_89_25, lg_n, lg_i, lg_r, wd_nil, am_wd_i, am_wd_r, am_wd_l, am_gk_s, am_fld_s, List.getElem?_cons_zero, List.getElem?_cons_succ, am_bk_v, am_bk_n, bo_0, bo_1, am_pk_s, List.length_cons, List.length_nil, Nat.zero_add, List.set_cons_zero, List.set_cons_succ, Nat.reduceAdd, Nat.reduceLeDiff, Nat.reduceLT, f0, is_plan hp, hhp, hw, one_ne, not_false_eq_true, not_true_eq_false, if_true, if_false]
  · rw [if_neg hin] at hhp ⊢
    simp only [e_89_0, e_89_1, e_89_4, e_89_5, e_89_8, e_89_11, e_89_13, lg_n, lg_i, lg_r, wd_nil, am_wd_i, am_wd_r, am_wd_l, am_gk_s, am_fld_s, List.getElem?_cons_zero, List.getElem?_cons_succ, am_bk_v, am_bk_n, bo_0, bo_1, am_pk_s, List.length_cons, List.length_nil, Nat.zero_add, List.set_cons_zero, List.set_cons_succ, Nat.reduceAdd, Nat.reduceLeDiff, Nat.reduceLT, f0, is_plan hp, hhp, not_true_eq_false, if_true, if_false]
end CL
