/-! the model's calls: what is told and done -/
section MI
variable {d : Nat} {h : am_H} {P : Pn} {σ : Hn} {u : Nat} {pa : Nat → Hn} {kp : Nat → Bool} {ke : Nat → Hn} {t : Nat → Nat} {n sn : Nat} {sF sT sK : Nat → Nat} {nz : Nat → Nat} {nt : Nat → Nat → Nat}
theorem n_write (hM : MI h P σ u pa kp ke t n sn sF sT sK nz nt) (hn : n ≤ 200) (x : Int32) : ∃ h' t' n', am_cal (d + 8) 131 [.ref 87, .int x] h = some (some (.int (if 0 ≤ x.toInt ∧ x.toInt ≤ 255 then (if n < 200 then nI (n + 1) else -5) else -3)), h') ∧ MI h' P σ u pa kp ke t' n' sn sF sT sK nz nt ∧ FM h h' ∧ t' = (if (0 ≤ x.toInt ∧ x.toInt ≤ 255) ∧ n < 200 then updn t n x.toInt.toNat else t) ∧ n' = (if (0 ≤ x.toInt ∧ x.toInt ≤ 255) ∧ n < 200 then n + 1 else n) := by
  obtain ⟨⟨fi, be, rF, rP, cl, dg, h1⟩, h2, h3, h4, h5, h6⟩ := id hM
  have h1' := h1
  unfold md0 at h1'
  have hin := m_in (d := d + 6) (h := h) x.toInt64 0 255
  rw [l_in32, show (0 : Int64).toInt = 0 from rfl, show (255 : Int64).toInt = 255 from rfl] at hin
  have e200 : (200 : Int32) = nI 200 := by decide +kernel
  by_cases c1 : 0 ≤ x.toInt ∧ x.toInt ≤ 255
  · rw [if_pos c1] at hin ⊢
    by_cases c2 : n < 200
    · rw [if_pos c2, if_pos ⟨c1, c2⟩, if_pos ⟨c1, c2⟩]
      obtain ⟨y, rfl, hy⟩ : ∃ y : Nat, x = nI y ∧ y ≤ 255 := ⟨x.toInt.toNat, i_of x c1.1, by omega⟩
      rw [nI_toInt (show y < 2 ^ 31 by omega), Int.toNat_natCast]
      refine ⟨am_set (am_set h 90 (AI 200 (fun k => nI (updn t n y k)))) 87 (md0 (nI u) (nI (n + 1)) (nI sn) fi be rF rP cl dg), _, _, ?_, ⟨⟨fi, be, rF, rP, cl, dg, at_set_eq⟩, ?_, by rw [at_set_ne (by decide), at_set_ne (by decide)]; exact h3, ⟨by rw [at_set_ne (by decide)]; exact at_set_eq, by rw [at_set_ne (by decide), at_set_ne (by decide)]; exact h4.2.1, by rw [at_set_ne (by decide), at_set_ne (by decide)]; exact h4.2.2.1, by rw [at_set_ne (by decide), at_set_ne (by decide)]; exact h4.2.2.2⟩, h5.keep (fun k _ => by rw [at_set_ne (by omega), at_set_ne (by omega)]), h6.keep (fun k _ _ => by rw [at_set_ne (by omega), at_set_ne (by omega)])⟩, (FM.set (by decide) (by decide)).tr (FM.set (by decide) (by decide)), rfl, rfl⟩
      · have y87 : ∀ c, am_at (am_set h 90 c) 87 = am_at h 87 := fun c => at_set_ne (by decide)
        refine (b_131 _ _ _).trans ?_; show am_ev _ 131 0 [some (.ref 87), some (.int (nI y))] [] _ = _
        simp only [e_131_0, e_131_1, e_131_2, e_131_3, e_131_6, e_131_9, e_131_12, e_131_14, e_131_15, e_131_16, e_131_19, e_131_22, e_131_25, e_131_27, e_131_28, e_131_29, e_131_32, e_131_33, e_131_36, e_131_37, e_131_38, e_131_39, e_131_40, e_131_43, e_131_44, e_131_45, e_131_48, e_131_49, e_131_52, lg_n, lg_i, lg_r, wd_nil, am_wd_i, am_wd_r, am_wd_l, am_gk_s, am_fld_s, List.getElem?_cons_zero, List.getElem?_cons_succ, am_bk_v, am_bk_n, bo_0, bo_1, am_pk_s, List.length_cons, List.length_nil, Nat.zero_add, List.set_cons_zero, List.set_cons_succ, Nat.reduceAdd, Nat.reduceLeDiff, Nat.reduceLT, hin, one_ne, not_false_eq_true, if_true, if_false, h1', e200, nI_eq (show n < 2 ^ 31 by omega) (show 200 < 2 ^ 31 by decide), if_neg (show ¬ n = 200 by omega), h4.1, sk_AI c2 (show 200 < 2 ^ 31 by decide), st_AI c2 (show 200 < 2 ^ 31 by decide), updn_map nI, y87, nI_1, at_set_eq]
        rfl
      · obtain ⟨f, h2, h2'⟩ := h2
        exact ⟨f, by rw [at_set_ne (by decide), at_set_ne (by decide)]; exact h2, h2'⟩
    · rw [if_neg c2, if_neg (fun z => c2 z.2), if_neg (fun z => c2 z.2)]
      refine ⟨h, _, _, ?_, hM, FM.rf, rfl, rfl⟩
      refine (b_131 _ _ _).trans ?_; show am_ev _ 131 0 [some (.ref 87), some (.int x)] [] _ = _
      simp only [e_131_0, e_131_1, e_131_2, e_131_3, e_131_6, e_131_9, e_131_12, e_131_14, e_131_15, e_131_16, e_131_19, e_131_22, e_131_25, e_131_27, e_131_28, e_131_29, e_131_32, e_131_33, e_131_36, e_131_37, e_131_38, e_131_39, e_131_40, e_131_43, e_131_44, e_131_45, e_131_48, e_131_49, e_131_52, lg_n, lg_i, lg_r, wd_nil, am_wd_i, am_wd_r, am_wd_l, am_gk_s, am_fld_s, List.getElem?_cons_zero, List.getElem?_cons_succ, am_bk_v, am_bk_n, bo_0, bo_1, am_pk_s, List.length_cons, List.length_nil, Nat.zero_add, List.set_cons_zero, List.set_cons_succ, Nat.reduceAdd, Nat.reduceLeDiff, Nat.reduceLT, hin, one_ne, not_false_eq_true, if_true, if_false, h1', e200, nI_eq (show n < 2 ^ 31 by omega) (show 200 < 2 ^ 31 by decide), if_pos (show n = 200 by omega)]
  · rw [if_neg c1] at hin ⊢
    rw [if_neg (fun z => c1 z.1), if_neg (fun z => c1 z.1)]
    refine ⟨h, _, _, ?_, hM, FM.rf, rfl, rfl⟩
    refine (b_131 _ _ _).trans ?_; show am_ev _ 131 0 [some (.ref 87), some (.int x)] [] _ = _
    simp only [e_131_0, e_131_1, e_131_2, e_131_3, e_131_6, e_131_9, e_131_12, e_131_14, e_131_15, e_131_16, e_131_19, e_131_22, e_131_25, e_131_27, e_131_28, e_131_29, e_131_32, e_131_33, e_131_36, e_131_37, e_131_38, e_131_39, e_131_40, e_131_43, e_131_44, e_131_45, e_131_48, e_131_49, e_131_52, lg_n, lg_i, lg_r, wd_nil, am_wd_i, am_wd_r, am_wd_l, am_gk_s, am_fld_s, List.getElem?_cons_zero, List.getElem?_cons_succ, am_bk_v, am_bk_n, bo_0, bo_1, am_pk_s, List.length_cons, List.length_nil, Nat.zero_add, List.set_cons_zero, List.set_cons_succ, Nat.reduceAdd, Nat.reduceLeDiff, Nat.reduceLT, hin, not_true_eq_false, if_true, if_false]
theorem n_erase (hM : MI h P σ u pa kp ke t n sn sF sT sK nz nt) : ∃ h', am_cal (d + 8) 132 [.ref 87] h = some (some (.int (nI n)), h') ∧ MI h' P σ u pa kp ke t 0 sn sF sT sK nz nt ∧ FM h h' := by
  obtain ⟨⟨fi, be, rF, rP, cl, dg, h1⟩, ⟨f, h2, h2'⟩, h3, h4, h5, h6⟩ := id hM
  have h1' := h1
  unfold md0 at h1'
  refine ⟨am_set h 87 (md0 (nI u) (nI 0) (nI sn) fi be rF rP cl dg), ?_, ⟨⟨fi, be, rF, rP, cl, dg, at_set_eq⟩, ⟨f, by rw [at_set_ne (by decide)]; exact h2, h2'⟩, by rw [at_set_ne (by decide)]; exact h3, h4.keep (fun k _ _ => at_set_ne (by omega)), h5.keep (fun k _ => at_set_ne (by omega)), h6.keep (fun k _ _ => at_set_ne (by omega))⟩, FM.set (by decide) (by decide)⟩
  refine (b_132 _ _ _).trans ?_; show am_ev _ 132 0 [some (.ref 87), none] [] _ = _
  simp only [e_132_0, e_132_1, e_132_4, e_132_5, e_132_6, e_132_7, e_132_10, e_132_11, lg_n, lg_i, lg_r, wd_nil, am_wd_i, am_wd_r, am_wd_l, am_gk_s, am_fld_s, List.getElem?_cons_zero, List.getElem?_cons_succ, am_bk_v, am_bk_n, bo_0, bo_1, am_pk_s, List.length_cons, List.length_nil, Nat.zero_add, List.set_cons_zero, List.set_cons_succ, Nat.reduceAdd, Nat.reduceLeDiff, Nat.reduceLT, h1']
  rfl
theorem n_person (hM : MI h P σ u pa kp ke t n sn sF sT sK nz nt) (oP : OKP P) (p w : Int32) : am_cal (d + 8) 161 [.ref 87, .int p, .int w] h = some (some (.int (if 0 ≤ p.toInt ∧ p.toInt < P.2.2.2.1 then (if w = 0 then nI (P.2.2.2.2.1 p.toInt.toNat) else if w = 1 then nI (P.2.2.2.2.2.1 p.toInt.toNat) else if w = 2 then nI (P.2.2.2.2.2.2 p.toInt.toNat) else if w = 3 then sI (σ.2.2.1 p.toInt.toNat) else if w = 4 then cI (σ.2.2.1 p.toInt.toNat) else if w = 5 then nI (σ.2.2.2 p.toInt.toNat) else if w = 6 then nI (ktak (P.2.2.2.2.1 p.toInt.toNat)) else -3) else -2)), h) := by
  obtain ⟨f, h88, hR⟩ := hM.2.1
  have hB := hM.mb h88
  have hn := oP.2.2.2.1
  have hip := m_isPerson (d := d + 5) hB hR.1 hn p
  obtain ⟨m0, m1, m2, m3, m4⟩ := hB
  refine (b_161 _ _ _).trans ?_; show am_ev _ 161 0 [some (.ref 87), some (.int p), some (.int w)] [] _ = _
  by_cases hin : 0 ≤ p.toInt ∧ p.toInt < P.2.2.2.1
  · rw [if_pos hin] at hip ⊢
    obtain ⟨q, rfl, hq⟩ : ∃ q : Nat, p = nI q ∧ q < P.2.2.2.1 := ⟨p.toInt.toNat, i_of p hin.1, by omega⟩
    rw [nI_toInt (show q < 2 ^ 31 by omega), Int.toNat_natCast]
    obtain ⟨c1, c2, c3⟩ := hR.1.2.2.2 q hq
    obtain ⟨a1, a2, a3⟩ := hR.2.1.1 q (by omega)
    rw [Nat.zero_add] at c1 c2 c3 a1 a2 a3
    have hk := oP.2.2.2.2.1 q (by omega)
    have z0 : ∀ x : Int32, 0 + x = x := Int32.zero_add
    simp only [e_161_0, e_161_1, e_161_2, e_161_5, e_161_8, e_161_10, e_161_11, e_161_12, e_161_56, e_161_57, e_161_60, e_161_62, e_161_63, e_161_64, e_161_65, e_161_66, e_161_67, e_161_70, e_161_72, e_161_73, e_161_74, e_161_75, e_161_76, e_161_77, e_161_80, e_161_82, e_161_83, e_161_84, e_161_85, e_161_86, e_161_87, e_161_90, e_161_91, e_161_92, e_161_93, e_161_94, e_161_95, e_161_96, e_161_99, e_161_101, e_161_102, e_161_103, e_161_104, e_161_105, e_161_106, e_161_109, e_161_111, e_161_112, e_161_113, e_161_114, e_161_115, e_161_116, e_161_119, e_161_121, e_161_122, e_161_123, e_161_124, e_161_127, e_161_128, e_161_130, lg_n, lg_i, lg_r, wd_nil, am_wd_i, am_wd_r, am_wd_l, am_gk_s, am_fld_s, List.getElem?_cons_zero, List.getElem?_cons_succ, am_bk_v, am_bk_n, bo_0, bo_1, am_pk_s, List.length_cons, List.length_nil, Nat.zero_add, List.set_cons_zero, List.set_cons_succ, Nat.reduceAdd, Nat.reduceLeDiff, Nat.reduceLT, m0, m2, m3, hip, one_ne, not_false_eq_true, if_true, if_false, z0, show (29 : Int32) = nI 29 by decide +kernel, show (37 : Int32) = nI 37 by decide +kernel, show (45 : Int32) = nI 45 by decide +kernel, show (8 : Int32) = nI 8 by decide +kernel, show (16 : Int32) = nI 16 by decide +kernel, nI_add, ak_AI (show 29 + q < 392 by omega) (show 392 < 2 ^ 31 by decide), ak_AI (show 37 + q < 392 by omega) (show 392 < 2 ^ 31 by decide), ak_AI (show 45 + q < 392 by omega) (show 392 < 2 ^ 31 by decide), ak_AI (show q < 392 by omega) (show 392 < 2 ^ 31 by decide), ak_AI (show 8 + q < 392 by omega) (show 392 < 2 ^ 31 by decide), ak_AI (show 16 + q < 392 by omega) (show 392 < 2 ^ 31 by decide), c1, c2, c3, a1, a2, a3, m_takes hk]
    by_cases w0 : w = 0
    · simp [w0]
    · by_cases w1 : w = 1
      · simp [w1]
      · by_cases w2 : w = 2
        · simp [w2]
        · by_cases w3 : w = 3
          · simp [w3]
          · by_cases w4 : w = 4
            · simp [w4]
            · by_cases w5 : w = 5
              · simp [w5]
              · by_cases w6 : w = 6
                · simp [w6]
                · simp [w0, w1, w2, w3, w4, w5, w6]
  · rw [if_neg hin] at hip ⊢
    simp only [e_161_0, e_161_1, e_161_2, e_161_5, e_161_8, e_161_10, e_161_11, e_161_12, lg_n, lg_i, lg_r, wd_nil, am_wd_i, am_wd_r, am_wd_l, am_gk_s, am_fld_s, List.getElem?_cons_zero, List.getElem?_cons_succ, am_bk_v, am_bk_n, bo_0, bo_1, am_pk_s, List.length_cons, List.length_nil, Nat.zero_add, List.set_cons_zero, List.set_cons_succ, Nat.reduceAdd, Nat.reduceLeDiff, Nat.reduceLT, m2, hip, not_true_eq_false, if_true, if_false]
theorem m_isCabin {f : Nat → Int32} {L : Nat → Nat} (hB : MB h f L) (hP : RowP f 0 P) (hf : P.1 < 2 ^ 20) (x : Int32) : am_cal (d + 2) 162 [.ref 87, .int x] h = some (some (.int (if 0 ≤ x.toInt ∧ x.toInt < (2 * P.1 : Nat) then 1 else 0)), h) := by
  have hpl := m_places (d := d) hB hP
  obtain ⟨m0, m1, m2, m3, m4⟩ := hB
  have e1 : (nI (2 * P.1) - 1).toInt = ((2 * P.1 : Nat) : Int) - 1 := by rw [show (1 : Int32) = nI 1 by decide +kernel, i_sub (by omega) (by omega)]; rfl
  refine (b_162 _ _ _).trans ?_; show am_ev _ 162 0 [some (.ref 87), some (.int x)] [] _ = _
  simp only [e_162_0, e_162_1, e_162_2, e_162_3, e_162_4, e_162_7, e_162_8, e_162_9, e_162_10, lg_n, lg_i, lg_r, wd_nil, am_wd_i, am_wd_r, am_wd_l, am_gk_s, am_fld_s, List.getElem?_cons_zero, List.getElem?_cons_succ, am_bk_v, am_bk_n, bo_0, bo_1, am_pk_s, List.length_cons, List.length_nil, Nat.zero_add, List.set_cons_zero, List.set_cons_succ, Nat.reduceAdd, Nat.reduceLeDiff, Nat.reduceLT, m2, hpl, m_in, l_in32, e1, show (0 : Int64).toInt = 0 from rfl]
  by_cases hc : 0 ≤ x.toInt ∧ x.toInt ≤ ((2 * P.1 : Nat) : Int) - 1
  · rw [if_pos hc, if_pos (show 0 ≤ x.toInt ∧ x.toInt < (2 * P.1 : Nat) by omega)]
    exact e_162_13 bo_1
  · rw [if_neg hc, if_neg (show ¬ (0 ≤ x.toInt ∧ x.toInt < (2 * P.1 : Nat)) by omega)]
    exact e_162_13 bo_0
theorem n_cabin (hM : MI h P σ u pa kp ke t n sn sF sT sK nz nt) (oP : OKP P) (oH : OKH P σ) (hf : P.1 ≤ 15) (hS : σ.2.1 < 2 ^ 31) (c w : Int32) : am_cal (d + 8) 163 [.ref 87, .int c, .int w] h = some (some (.int (if 0 ≤ c.toInt ∧ c.toInt < (2 * P.1 : Nat) then (if w = 0 then (if σ.2.1.testBit c.toInt.toNat then 1 else 0) else if w = 1 then nI (plc P.1 σ.1 c.toInt.toNat) else if w = 2 then nI (flr P.1 (plc P.1 σ.1 c.toInt.toNat)) else if w = 3 then nI (bitsN (fun q => σ.2.2.1 q == c.toInt.toNat + 2) P.2.2.2.1) else if w = 4 then nI P.2.1 - nI (usedN P.2.2.2.2.1 σ.2.2.1 c.toInt.toNat P.2.2.2.1) else -3) else -2)), h) := by
  obtain ⟨f, h88, hR⟩ := hM.2.1
  have hB := hM.mb h88
  have hic := m_isCabin (d := d + 5) hB hR.1 oP.2.1 c
  have hPf : 1 ≤ P.1 ∧ P.1 < 2 ^ 20 := ⟨oP.1, oP.2.1⟩
  refine (b_163 _ _ _).trans ?_; show am_ev _ 163 0 [some (.ref 87), some (.int c), some (.int w)] [] _ = _
  by_cases hin : 0 ≤ c.toInt ∧ c.toInt < (2 * P.1 : Nat)
  · rw [if_pos hin] at hic ⊢
    obtain ⟨q, rfl, hq⟩ : ∃ q : Nat, c = nI q ∧ q < 2 * P.1 := ⟨c.toInt.toNat, i_of c hin.1, by omega⟩
    rw [nI_toInt (show q < 2 ^ 31 by omega), Int.toNat_natCast]
    have r1 := m_placeOfM (d := d + 5) hB hR.1 hR.2.1 (by omega) hPf oH.1 (show q < 2 ^ 28 by omega)
    have r2 := m_floorOfM (d := d + 4) hB hR.1 hR.2.1 (by omega) hPf oH.1 (show q < 2 ^ 28 by omega)
    have r3 := m_ridersM (d := d + 6) hB hR.1 hR.2.1 (by omega) oP oH (show q < 2 ^ 28 by omega)
    have r4 := m_roomM (d := d + 5) hB hR.1 hR.2.1 (by omega) oP oH (show q < 2 ^ 28 by omega)
    rw [nI_0] at r1 r2 r3 r4
    obtain ⟨m0, m1, m2, m3, m4⟩ := hB
    have h24 := hR.2.1.2.1
    rw [Nat.zero_add] at h24
    simp only [e_163_0, e_163_1, e_163_2, e_163_5, e_163_8, e_163_10, e_163_11, e_163_12, e_163_48, e_163_49, e_163_52, e_163_54, e_163_55, e_163_56, e_163_57, e_163_58, e_163_59, e_163_60, e_163_61, e_163_62, e_163_63, e_163_66, e_163_67, e_163_68, e_163_69, e_163_70, e_163_73, e_163_74, e_163_75, e_163_76, e_163_77, e_163_80, e_163_81, e_163_82, e_163_83, e_163_84, e_163_87, e_163_88, e_163_90, lg_n, lg_i, lg_r, wd_nil, am_wd_i, am_wd_r, am_wd_l, am_gk_s, am_fld_s, List.getElem?_cons_zero, List.getElem?_cons_succ, am_bk_v, am_bk_n, bo_0, bo_1, am_pk_s, List.length_cons, List.length_nil, Nat.zero_add, List.set_cons_zero, List.set_cons_succ, Nat.reduceAdd, Nat.reduceLeDiff, Nat.reduceLT, m0, m2, m3, hic, one_ne, not_false_eq_true, if_true, if_false, show (24 : Int32) = nI 24 by decide +kernel, ak_AI (show 24 < 392 by decide) (show 392 < 2 ^ 31 by decide), h24, has_bit hS (show q < 31 by omega), r1, r2, r3, r4]
    by_cases w0 : w = 0
    · by_cases hb : σ.2.1.testBit q = true <;> simp [w0, hb]
    · by_cases w1 : w = 1
      · simp [w1]
      · by_cases w2 : w = 2
        · simp [w2]
        · by_cases w3 : w = 3
          · simp [w3]
          · by_cases w4 : w = 4
            · simp [w4]
            · simp [w0, w1, w2, w3, w4]
  · rw [if_neg hin] at hic ⊢
    obtain ⟨m0, m1, m2, m3, m4⟩ := hB
    simp only [e_163_0, e_163_1, e_163_2, e_163_5, e_163_8, e_163_10, e_163_11, e_163_12, lg_n, lg_i, lg_r, wd_nil, am_wd_i, am_wd_r, am_wd_l, am_gk_s, am_fld_s, List.getElem?_cons_zero, List.getElem?_cons_succ, am_bk_v, am_bk_n, bo_0, bo_1, am_pk_s, List.length_cons, List.length_nil, Nat.zero_add, List.set_cons_zero, List.set_cons_succ, Nat.reduceAdd, Nat.reduceLeDiff, Nat.reduceLT, m2, hic, not_true_eq_false, if_true, if_false]
theorem n_as (hM : MI h P σ u pa kp ke t n sn sF sT sK nz nt) (oP : OKP P) (p k : Int32) : am_cal (d + 8) 164 [.ref 87, .int p, .int k] h = some (some (.int (if 0 ≤ p.toInt ∧ p.toInt < P.2.2.2.1 then (if 0 ≤ k.toInt ∧ k.toInt ≤ 5 then (if k.toInt.toNat = 0 ∨ k.toInt.toNat = P.2.2.2.2.1 p.toInt.toNat + 1 ∨ k.toInt.toNat = kpar (P.2.2.2.2.1 p.toInt.toNat) then nI (ktak (P.2.2.2.2.1 p.toInt.toNat)) else -4) else -3) else -2)), h) := by
  obtain ⟨f, h88, hR⟩ := hM.2.1
  have hB := hM.mb h88
  have hn := oP.2.2.2.1
  have hip := m_isPerson (d := d + 5) hB hR.1 hn p
  obtain ⟨m0, m1, m2, m3, m4⟩ := hB
  have hin := m_in (d := d + 6) (h := h) k.toInt64 0 5
  rw [l_in32, show (0 : Int64).toInt = 0 from rfl, show (5 : Int64).toInt = 5 from rfl] at hin
  refine (b_164 _ _ _).trans ?_; show am_ev _ 164 0 [some (.ref 87), some (.int p), some (.int k), none, none] [] _ = _
  by_cases c1 : 0 ≤ p.toInt ∧ p.toInt < P.2.2.2.1
  · rw [if_pos c1] at hip ⊢
    by_cases c2 : 0 ≤ k.toInt ∧ k.toInt ≤ 5
    · rw [if_pos c2] at hin ⊢
      obtain ⟨q, rfl, hq⟩ : ∃ q : Nat, p = nI q ∧ q < P.2.2.2.1 := ⟨p.toInt.toNat, i_of p c1.1, by omega⟩
      obtain ⟨x, rfl, hx⟩ : ∃ x : Nat, k = nI x ∧ x ≤ 5 := ⟨k.toInt.toNat, i_of k c2.1, by omega⟩
      rw [nI_toInt (show q < 2 ^ 31 by omega), nI_toInt (show x < 2 ^ 31 by omega), Int.toNat_natCast, Int.toNat_natCast]
      obtain ⟨d1, d2, d3⟩ := hR.1.2.2.2 q hq
      rw [Nat.zero_add] at d1
      have hk := oP.2.2.2.2.1 q (by omega)
      simp only [e_164_0, e_164_1, e_164_2, e_164_5, e_164_8, e_164_10, e_164_11, e_164_12, e_164_13, e_164_14, e_164_17, e_164_20, e_164_23, e_164_25, e_164_26, e_164_27, e_164_30, e_164_32, e_164_33, e_164_34, e_164_35, e_164_36, e_164_37, e_164_40, e_164_41, e_164_42, e_164_43, e_164_44, e_164_47, e_164_48, e_164_49, e_164_52, e_164_53, e_164_54, e_164_57, e_164_58, e_164_59, e_164_62, e_164_63, e_164_64, e_164_67, e_164_68, e_164_71, e_164_72, e_164_74, e_164_76, e_164_79, e_164_80, e_164_83, e_164_86, e_164_88, lg_n, lg_i, lg_r, wd_nil, am_wd_i, am_wd_r, am_wd_l, am_gk_s, am_fld_s, List.getElem?_cons_zero, List.getElem?_cons_succ, am_bk_v, am_bk_n, bo_0, bo_1, am_pk_s, List.length_cons, List.length_nil, Nat.zero_add, List.set_cons_zero, List.set_cons_succ, Nat.reduceAdd, Nat.reduceLeDiff, Nat.reduceLT, m0, m2, m3, hip, hin, one_ne, not_false_eq_true, if_true, if_false, show (29 : Int32) = nI 29 by decide +kernel, nI_add, ak_AI (show 29 + q < 392 by omega) (show 392 < 2 ^ 31 by decide), d1, m_takes hk]
      generalize P.2.2.2.2.1 q = y at *
      rcases (show y = 0 ∨ y = 1 ∨ y = 2 ∨ y = 3 ∨ y = 4 by omega) with rfl | rfl | rfl | rfl | rfl <;> rcases (show x = 0 ∨ x = 1 ∨ x = 2 ∨ x = 3 ∨ x = 4 ∨ x = 5 by omega) with rfl | rfl | rfl | rfl | rfl | rfl <;> rfl
    · rw [if_neg c2] at hin ⊢
      simp only [e_164_0, e_164_1, e_164_2, e_164_5, e_164_8, e_164_10, e_164_11, e_164_12, e_164_13, e_164_14, e_164_17, e_164_20, e_164_23, e_164_25, e_164_26, e_164_27, lg_n, lg_i, lg_r, wd_nil, am_wd_i, am_wd_r, am_wd_l, am_gk_s, am_fld_s, List.getElem?_cons_zero, List.getElem?_cons_succ, am_bk_v, am_bk_n, bo_0, bo_1, am_pk_s, List.length_cons, List.length_nil, Nat.zero_add, List.set_cons_zero, List.set_cons_succ, Nat.reduceAdd, Nat.reduceLeDiff, Nat.reduceLT, m2, hip, hin, one_ne, not_false_eq_true, not_true_eq_false, if_true, if_false]
  · rw [if_neg c1] at hip ⊢
    simp only [e_164_0, e_164_1, e_164_2, e_164_5, e_164_8, e_164_10, e_164_11, e_164_12, lg_n, lg_i, lg_r, wd_nil, am_wd_i, am_wd_r, am_wd_l, am_gk_s, am_fld_s, List.getElem?_cons_zero, List.getElem?_cons_succ, am_bk_v, am_bk_n, bo_0, bo_1, am_pk_s, List.length_cons, List.length_nil, Nat.zero_add, List.set_cons_zero, List.set_cons_succ, Nat.reduceAdd, Nat.reduceLeDiff, Nat.reduceLT, m2, hip, not_true_eq_false, if_true, if_false]
theorem l_those {f : Nat → Int32} {L : Nat → Nat} (hB : MB h f L) (hP : RowP f 0 P) (hR : RowH f 0 σ) (hn : P.2.2.2.1 ≤ 8) (w : Int32) : ∀ j p, p + j = P.2.2.2.1 → am_ev d 168 4 [some (.ref 87), some (.int w), some (.int (nI (bitsN (fun q => sI (σ.2.2.1 q) == w) p))), some (.int (nI p))] [] h = some (some (.int (nI (bitsN (fun q => sI (σ.2.2.1 q) == w) P.2.2.2.1))), h) := by
  obtain ⟨m0, m1, m2, m3, m4⟩ := hB
  have h28 := hP.2.2.1
  rw [Nat.zero_add] at h28
  have e28 : (28 : Int32) = nI 28 := by decide +kernel
  intro j
  induction j with
  | zero =>
    intro p hp
    have : p = P.2.2.2.1 := by omega
    subst this
    rw [e_168_4]
    simp only [e_168_5, e_168_6, e_168_9, e_168_11, e_168_12, e_168_43, e_168_44, lg_n, lg_i, lg_r, wd_nil, am_wd_i, am_wd_r, am_wd_l, am_gk_s, am_fld_s, List.getElem?_cons_zero, List.getElem?_cons_succ, am_bk_v, am_bk_n, bo_0, bo_1, am_pk_s, List.length_cons, List.length_nil, Nat.zero_add, List.set_cons_zero, List.set_cons_succ, Nat.reduceAdd, Nat.reduceLeDiff, Nat.reduceLT, m0, m3, e28, ak_AI (show 28 < 392 by decide) (show 392 < 2 ^ 31 by decide), h28, nI_leI (show P.2.2.2.1 < 2 ^ 31 by omega) (show P.2.2.2.1 < 2 ^ 31 by omega), Nat.le_refl, if_true]
  | succ j ih =>
    intro p hp
    obtain ⟨a1, a2, a3⟩ := hR.1 p (by omega)
    rw [Nat.zero_add] at a1
    have this := ih (p + 1) (by omega)
    rw [bitsN] at this
    rw [← this, e_168_4]
    simp only [e_168_5, e_168_6, e_168_9, e_168_11, e_168_12, e_168_15, e_168_16, e_168_17, e_168_20, e_168_21, e_168_22, e_168_23, e_168_24, e_168_25, e_168_28, e_168_29, e_168_30, e_168_31, e_168_34, e_168_35, e_168_36, e_168_37, e_168_40, lg_n, lg_i, lg_r, wd_nil, am_wd_i, am_wd_r, am_wd_l, am_gk_s, am_fld_s, List.getElem?_cons_zero, List.getElem?_cons_succ, am_bk_v, am_bk_n, bo_0, bo_1, am_pk_s, List.length_cons, List.length_nil, Nat.zero_add, List.set_cons_zero, List.set_cons_succ, Nat.reduceAdd, Nat.reduceLeDiff, Nat.reduceLT, m0, m3, e28, Int32.zero_add, ak_AI (show 28 < 392 by decide) (show 392 < 2 ^ 31 by decide), ak_AI (show p < 392 by omega) (show 392 < 2 ^ 31 by decide), h28, a1, nI_leI (show P.2.2.2.1 < 2 ^ 31 by omega) (show p < 2 ^ 31 by omega), if_neg (show ¬ P.2.2.2.1 ≤ p by omega), sh1 p (by omega), Int32.or_zero, fa_or, nI_1]
    by_cases hw : sI (σ.2.2.1 p) = w
    · simp [hw]
    · simp [hw]
theorem m_those {f : Nat → Int32} {L : Nat → Nat} (hB : MB h f L) (hP : RowP f 0 P) (hR : RowH f 0 σ) (hn : P.2.2.2.1 ≤ 8) (w : Int32) : am_cal (d + 1) 168 [.ref 87, .int w] h = some (some (.int (nI (bitsN (fun q => sI (σ.2.2.1 q) == w) P.2.2.2.1))), h) := by
  refine (b_168 _ _ _).trans ?_; show am_ev _ 168 0 [some (.ref 87), some (.int w), none, none] [] _ = _
  simp only [e_168_0, e_168_1, e_168_2, e_168_3, lg_n, lg_i, lg_r, wd_nil, am_wd_i, am_wd_r, am_wd_l, am_gk_s, am_fld_s, List.getElem?_cons_zero, List.getElem?_cons_succ, am_bk_v, am_bk_n, bo_0, bo_1, am_pk_s, List.length_cons, List.length_nil, Nat.zero_add, List.set_cons_zero, List.set_cons_succ, Nat.reduceAdd, Nat.reduceLeDiff, Nat.reduceLT]
  exact l_those hB hP hR hn w P.2.2.2.1 0 (by omega)
theorem cnt_bits14 (g : Nat → Bool) {n : Nat} (hn : n ≤ 14) : cntN (fun i => (bitsN g n).testBit i) 14 = cntN g n := by
  have key : ∀ m, cntN (fun i => (bitsN g n).testBit i) (n + m) = cntN g n := by
    intro m
    induction m with
    | zero =>
      apply cntN_cong
      intro k hk
      rw [bitsN_bit, decide_eq_true (show k < n from hk), Bool.true_and]
    | succ m ih =>
      rw [← Nat.add_assoc, cntN, ih, bitsN_bit, decide_eq_false (show ¬ n + m < n by omega)]
      rfl
  have := key (14 - n)
  rwa [show n + (14 - n) = 14 by omega] at this
theorem n_step (hM : MI h P σ u pa kp ke t n sn sF sT sK nz nt) (hD : OKD P) (hO : HOK P σ) (hu : u ≤ 8) (x : Int32) : (¬ (1 ≤ x.toInt ∧ x.toInt ≤ 12) → am_cal (d + 8) 166 [.ref 87, .int x] h = some (some (.int (-3)), h)) ∧ (1 ≤ x.toInt ∧ x.toInt ≤ 12 → 999 < σ.1 + x.toInt.toNat → am_cal (d + 8) 166 [.ref 87, .int x] h = some (some (.int (-5)), h)) ∧ (1 ≤ x.toInt ∧ x.toInt ≤ 12 → σ.1 + x.toInt.toNat ≤ 999 → ∃ h', am_cal (d + 8) 166 [.ref 87, .int x] h = some (some (.int (nI (σ.1 + x.toInt.toNat))), h') ∧ MI h' P (behN P σ x.toInt.toNat) (min (u + 1) 8) (pushN u pa σ) kp ke t n sn sF sT sK nz nt ∧ FM h h') := by
  obtain ⟨f, h88, hR⟩ := hM.2.1
  have hB := hM.mb h88
  obtain ⟨oP, q1, q2, q3⟩ := hD
  have hn := oP.2.2.2.1
  have h9 := hO.2.1
  have hin := m_in (d := d + 6) (h := h) x.toInt64 1 12
  rw [l_in32, show (1 : Int64).toInt = 1 from rfl, show (12 : Int64).toInt = 12 from rfl] at hin
  have e25 : (25 : Int32) = nI 25 := by decide +kernel
  have e999 : (999 : Int32) = nI 999 := by decide +kernel
  have h25 := hR.2.1.2.2
  rw [Nat.zero_add] at h25
  obtain ⟨m0, m1, m2, m3, m4⟩ := id hB
  refine ⟨fun hno => ?_, fun hc hbig => ?_, fun hc hle => ?_⟩
  · rw [if_neg hno] at hin
    refine (b_166 _ _ _).trans ?_; show am_ev _ 166 0 [some (.ref 87), some (.int x)] [] _ = _
    simp only [e_166_0, e_166_1, e_166_2, e_166_3, e_166_6, e_166_9, e_166_12, e_166_14, e_166_15, e_166_16, e_166_19, e_166_21, e_166_22, e_166_23, e_166_24, e_166_27, e_166_30, e_166_32, e_166_33, e_166_34, e_166_37, e_166_38, e_166_39, e_166_40, e_166_43, e_166_44, e_166_47, e_166_49, e_166_50, lg_n, lg_i, lg_r, wd_nil, am_wd_i, am_wd_r, am_wd_l, am_gk_s, am_fld_s, List.getElem?_cons_zero, List.getElem?_cons_succ, am_bk_v, am_bk_n, bo_0, bo_1, am_pk_s, List.length_cons, List.length_nil, Nat.zero_add, List.set_cons_zero, List.set_cons_succ, Nat.reduceAdd, Nat.reduceLeDiff, Nat.reduceLT, hin, not_true_eq_false, if_true, if_false]
  · rw [if_pos hc] at hin
    obtain ⟨q, rfl, hq⟩ : ∃ q : Nat, x = nI q ∧ q ≤ 12 := ⟨x.toInt.toNat, i_of x (by omega), by omega⟩
    rw [nI_toInt (show q < 2 ^ 31 by omega), Int.toNat_natCast] at hbig
    refine (b_166 _ _ _).trans ?_; show am_ev _ 166 0 [some (.ref 87), some (.int (nI q))] [] _ = _
    simp only [e_166_0, e_166_1, e_166_2, e_166_3, e_166_6, e_166_9, e_166_12, e_166_14, e_166_15, e_166_16, e_166_19, e_166_21, e_166_22, e_166_23, e_166_24, e_166_27, e_166_30, e_166_32, e_166_33, lg_n, lg_i, lg_r, wd_nil, am_wd_i, am_wd_r, am_wd_l, am_gk_s, am_fld_s, List.getElem?_cons_zero, List.getElem?_cons_succ, am_bk_v, am_bk_n, bo_0, bo_1, am_pk_s, List.length_cons, List.length_nil, Nat.zero_add, List.set_cons_zero, List.set_cons_succ, Nat.reduceAdd, Nat.reduceLeDiff, Nat.reduceLT, hin, one_ne, not_false_eq_true, if_true, if_false, m0, m3, e25, ak_AI (show 25 < 392 by decide) (show 392 < 2 ^ 31 by decide), h25, nI_add, e999, nI_leI (show σ.1 + q < 2 ^ 31 by omega) (show 999 < 2 ^ 31 by decide), if_neg (show ¬ σ.1 + q ≤ 999 by omega)]
  · rw [if_pos hc] at hin
    obtain ⟨q, rfl, hq⟩ : ∃ q : Nat, x = nI q ∧ q ≤ 12 := ⟨x.toInt.toNat, i_of x (by omega), by omega⟩
    rw [nI_toInt (show q < 2 ^ 31 by omega), Int.toNat_natCast] at hle ⊢
    obtain ⟨h1, e1, M1, F1⟩ := m_keepPast (d := d + 5) hM hn hu
    obtain ⟨f1, h881, hR1⟩ := M1.2.1
    have hB1 := M1.mb h881
    obtain ⟨f', e', R', S'⟩ := m_stepsM (d := d + 2) hB1 hR1.1 hR1.2.1 oP hO.1 (N := q) (by omega) (Or.inl rfl) (by omega) (by have := hO.2.2; omega) (fun i hi => hi)
    rw [stp_beh hn] at R'
    rw [nI_0] at e'
    have M2 := M1.row (hR1.now hn (by omega) R' S')
    refine ⟨_, ?_, M2, F1.tr (FM.set (by decide) (by decide))⟩
    have hB2 := hB1.set f'
    obtain ⟨w0, w1, w2, w3, w4⟩ := hB1
    obtain ⟨v0, v1, v2, v3, v4⟩ := hB2
    have h25' := R'.2.2
    rw [Nat.zero_add, (behN_1 P σ q).1] at h25'
    refine (b_166 _ _ _).trans ?_; show am_ev _ 166 0 [some (.ref 87), some (.int (nI q))] [] _ = _
    simp only [e_166_0, e_166_1, e_166_2, e_166_3, e_166_6, e_166_9, e_166_12, e_166_14, e_166_15, e_166_16, e_166_19, e_166_21, e_166_22, e_166_23, e_166_24, e_166_27, e_166_30, e_166_32, e_166_33, e_166_34, e_166_37, e_166_38, e_166_39, e_166_40, e_166_43, e_166_44, e_166_47, e_166_49, e_166_50, lg_n, lg_i, lg_r, wd_nil, am_wd_i, am_wd_r, am_wd_l, am_gk_s, am_fld_s, List.getElem?_cons_zero, List.getElem?_cons_succ, am_bk_v, am_bk_n, bo_0, bo_1, am_pk_s, List.length_cons, List.length_nil, Nat.zero_add, List.set_cons_zero, List.set_cons_succ, Nat.reduceAdd, Nat.reduceLeDiff, Nat.reduceLT, hin, one_ne, not_false_eq_true, if_true, if_false, m0, m2, m3, e25, ak_AI (show 25 < 392 by decide) (show 392 < 2 ^ 31 by decide), h25, nI_add, e999, nI_leI (show σ.1 + q < 2 ^ 31 by omega) (show 999 < 2 ^ 31 by decide), if_pos hle, e1, w2, e', v0, at_set_eq, h25']
theorem n_shut (hM : MI h P σ u pa kp ke t n sn sF sT sK nz nt) (hD : OKD P) (hO : HOK P σ) (hu : u ≤ 8) (c : Int32) : (¬ (0 ≤ c.toInt ∧ c.toInt < (2 * P.1 : Nat)) → am_cal (d + 8) 167 [.ref 87, .int c] h = some (some (.int (-2)), h)) ∧ (0 ≤ c.toInt ∧ c.toInt < (2 * P.1 : Nat) → ∃ h', am_cal (d + 8) 167 [.ref 87, .int c] h = some (some (.int (if (σ.2.1 ^^^ 2 ^ c.toInt.toNat).testBit c.toInt.toNat then 1 else 0)), h') ∧ MI h' P (σ.1, σ.2.1 ^^^ 2 ^ c.toInt.toNat, σ.2.2) (min (u + 1) 8) (pushN u pa σ) kp ke t n sn sF sT sK nz nt ∧ FM h h') := by
  obtain ⟨f, h88, hR⟩ := hM.2.1
  have hB := hM.mb h88
  obtain ⟨oP, q1, q2, q3⟩ := hD
  have hn := oP.2.2.2.1
  have hic := m_isCabin (d := d + 5) hB hR.1 oP.2.1 c
  obtain ⟨m0, m1, m2, m3, m4⟩ := id hB
  refine ⟨fun hno => ?_, fun hc => ?_⟩
  · rw [if_neg hno] at hic
    refine (b_167 _ _ _).trans ?_; show am_ev _ 167 0 [some (.ref 87), some (.int c)] [] _ = _
    simp only [e_167_0, e_167_1, e_167_2, e_167_5, e_167_8, e_167_10, e_167_11, e_167_12, lg_n, lg_i, lg_r, wd_nil, am_wd_i, am_wd_r, am_wd_l, am_gk_s, am_fld_s, List.getElem?_cons_zero, List.getElem?_cons_succ, am_bk_v, am_bk_n, bo_0, bo_1, am_pk_s, List.length_cons, List.length_nil, Nat.zero_add, List.set_cons_zero, List.set_cons_succ, Nat.reduceAdd, Nat.reduceLeDiff, Nat.reduceLT, m2, hic, not_true_eq_false, if_true, if_false]
  · rw [if_pos hc] at hic
    obtain ⟨q, rfl, hq⟩ : ∃ q : Nat, c = nI q ∧ q < 2 * P.1 := ⟨c.toInt.toNat, i_of c hc.1, by omega⟩
    rw [nI_toInt (show q < 2 ^ 31 by omega), Int.toNat_natCast]
    obtain ⟨h1, e1, M1, F1⟩ := m_keepPast (d := d + 5) hM hn hu
    obtain ⟨f1, h881, hR1⟩ := M1.2.1
    have hB1 := M1.mb h881
    obtain ⟨f', hf'⟩ : ∃ f', f' = upd f1 24 (nI (σ.2.1 ^^^ 2 ^ q)) := ⟨_, rfl⟩
    have R' : RowH f' 0 (σ.1, σ.2.1 ^^^ 2 ^ q, σ.2.2) := by
      refine ⟨fun p hp => ?_, by rw [hf']; exact pk_us, by rw [hf', pk_un (by omega)]; exact hR1.2.1.2.2⟩
      obtain ⟨a1, a2, a3⟩ := hR1.2.1.1 p hp
      exact ⟨by rw [hf', pk_un (by omega)]; exact a1, by rw [hf', pk_un (by omega)]; exact a2, by rw [hf', pk_un (by omega)]; exact a3⟩
    have S' : RS f1 f' 0 := fun k hk => by rw [hf', pk_un (by omega)]
    have M2 := M1.row (hR1.now hn (by omega) R' S')
    refine ⟨_, ?_, M2, F1.tr (FM.set (by decide) (by decide))⟩
    obtain ⟨w0, w1, w2, w3, w4⟩ := id hB1
    obtain ⟨v0, v1, v2, v3, v4⟩ := hB1.set f'
    have h24 := hR1.2.1.2.1
    have h24' := R'.2.1
    rw [Nat.zero_add] at h24 h24'
    have hxl : σ.2.1 ^^^ 2 ^ q < 2 ^ 14 := Nat.xor_lt_two_pow hO.2.2 (Nat.pow_lt_pow_right (by decide) (by omega))
    refine (b_167 _ _ _).trans ?_; show am_ev _ 167 0 [some (.ref 87), some (.int (nI q))] [] _ = _
    simp only [e_167_0, e_167_1, e_167_2, e_167_5, e_167_8, e_167_10, e_167_11, e_167_12, e_167_15, e_167_16, e_167_19, e_167_21, e_167_22, e_167_23, e_167_24, e_167_25, e_167_26, e_167_27, e_167_28, lg_n, lg_i, lg_r, wd_nil, am_wd_i, am_wd_r, am_wd_l, am_gk_s, am_fld_s, List.getElem?_cons_zero, List.getElem?_cons_succ, am_bk_v, am_bk_n, bo_0, bo_1, am_pk_s, List.length_cons, List.length_nil, Nat.zero_add, List.set_cons_zero, List.set_cons_succ, Nat.reduceAdd, Nat.reduceLeDiff, Nat.reduceLT, m2, hic, one_ne, not_false_eq_true, if_true, if_false, e1, w0, w3, show (24 : Int32) = nI 24 by decide +kernel, ak_AI (show 24 < 392 by decide) (show 392 < 2 ^ 31 by decide), h24, sh1 q (show q < 31 by omega), fb_xorI, sk_AI (show 24 < 392 by decide) (show 392 < 2 ^ 31 by decide), st_AI (show 24 < 392 by decide) (show 392 < 2 ^ 31 by decide)]
    rw [← hf']
    simp only [e_167_29, e_167_32, e_167_34, e_167_35, e_167_36, e_167_37, e_167_38, e_167_39, lg_n, lg_i, lg_r, wd_nil, am_wd_i, am_wd_r, am_wd_l, am_gk_s, am_fld_s, List.getElem?_cons_zero, List.getElem?_cons_succ, am_bk_v, am_bk_n, bo_0, bo_1, am_pk_s, List.length_cons, List.length_nil, Nat.zero_add, List.set_cons_zero, List.set_cons_succ, Nat.reduceAdd, Nat.reduceLeDiff, Nat.reduceLT, v0, at_set_eq, show (24 : Int32) = nI 24 by decide +kernel, ak_AI (show 24 < 392 by decide) (show 392 < 2 ^ 31 by decide), h24', has_bit (show σ.2.1 ^^^ 2 ^ q < 2 ^ 31 by omega) (show q < 31 by omega)]
end MI
