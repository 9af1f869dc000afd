/-! the class's calls: spans, counts -/
theorem rfS_0 {nz : Nat → Nat} {x i j : Int32} (hz : ∀ i, i < 3 → nz i ≤ 13) (h0 : rfS nz x i j = 0) : ∃ q a b : Nat, x = nI q ∧ q < 3 ∧ i = nI a ∧ j = nI b ∧ a ≤ b ∧ b + 1 ≤ nz q := by
  unfold rfS at h0
  by_cases c1 : ¬ (0 ≤ x.toInt ∧ x.toInt ≤ 2)
  · rw [if_pos c1] at h0; exact absurd h0 (by decide)
  · rw [if_neg c1] at h0
    have c1 : 0 ≤ x.toInt ∧ x.toInt ≤ 2 := Classical.byContradiction c1
    by_cases c2 : nz x.toInt.toNat = 0
    · rw [if_pos c2] at h0; exact absurd h0 (by decide)
    · rw [if_neg c2] at h0
      by_cases c3 : i.toInt < 0 ∨ (nz x.toInt.toNat : Int) - 1 < j.toInt
      · rw [if_pos c3] at h0; exact absurd h0 (by decide)
      · rw [if_neg c3] at h0
        by_cases c4 : j.toInt < i.toInt
        · rw [if_pos c4] at h0; exact absurd h0 (by decide)
        · exact ⟨x.toInt.toNat, i.toInt.toNat, j.toInt.toNat, i_of x c1.1, by omega, i_of i (by omega), i_of j (by omega), by omega, by omega⟩
section CL
variable {d : Nat} {h : am_H} {P : Pn} {σ : Hn} {u : Nat} {pa : Nat → Hn} {kp : Nat → Bool} {ke : Nat → Hn} {t : Nat → Nat} {n sn : Nat} {sF sT sK : Nat → Nat} {nz : Nat → Nat} {nt : Nat → Nat → Nat}
theorem c_look (hC : CI h P σ u pa kp ke t n sn sF sT sK nz nt) (hz : ∀ i, i < 3 → nz i ≤ 13 ∧ ∀ k, k + 1 < nz i → okT (nt i k)) (x i w : Int32) : am_cal (d + 8) 109 [.ref 0, .int x, .int i, .int w] h = some (some (.int (if ¬ (0 ≤ x.toInt ∧ x.toInt ≤ 2) then -2 else if ¬ (0 ≤ w.toInt ∧ w.toInt ≤ 2) then -3 else if nz x.toInt.toNat = 0 then -11 else if ¬ (0 ≤ i.toInt ∧ i.toInt ≤ (nz x.toInt.toNat : Int) - 2) then -12 else if nt x.toInt.toNat i.toInt.toNat / 100000 = w.toInt.toNat then nI (nt x.toInt.toNat i.toInt.toNat % 100000) - 50000 + (if w = 0 then 50000 else 0) else -14)), h) := by
  obtain ⟨f0, f1, f2, f3, f4, f5, f6, f7, f8⟩ := hC.fl
  have hhn := m_hasNotes (d := d + 5) (h := h) x
  have hw1 := m_within (d := d + 6) (h := h) w 0 2
  have hi1 : ((0 : Int32) ≤ w ∧ w ≤ 2) ↔ (0 ≤ w.toInt ∧ w.toInt ≤ 2) := by rw [i_le, i_le]; exact Iff.rfl
  refine (b_109 _ _ _).trans ?_; show am_ev _ 109 0 [some (.ref 0), some (.int x), some (.int i), some (.int w), none] [] _ = _
  by_cases hA : 0 ≤ x.toInt ∧ x.toInt ≤ 2
  · rw [if_pos hA] at hhn
    rw [if_neg (not_not_intro hA)]
    by_cases hW : 0 ≤ w.toInt ∧ w.toInt ≤ 2
    · rw [if_pos (hi1.2 hW)] at hw1
      rw [if_neg (not_not_intro hW)]
      obtain ⟨q, rfl, hq⟩ : ∃ q : Nat, x = nI q ∧ q < 3 := ⟨x.toInt.toNat, i_of x hA.1, by omega⟩
      rw [nI_toInt (show q < 2 ^ 31 by omega), Int.toNat_natCast]
      obtain ⟨n1, n2, n3⟩ := hC.2.2.2.2.2.2.2.2
      obtain ⟨s, f, b1, b2⟩ := n3 q hq
      obtain ⟨k0, k1, k2, k3⟩ := fl_note b1
      obtain ⟨hzq, hok⟩ := hz q hq
      by_cases hm : nz q = 0
      · rw [if_pos hm] at k0 ⊢
        simp only [e_109_0, e_109_1, e_109_2, e_109_5, e_109_8, e_109_10, e_109_11, e_109_12, e_109_13, e_109_14, e_109_17, e_109_20, e_109_22, e_109_23, e_109_24, e_109_27, e_109_28, e_109_29, e_109_31, e_109_33, e_109_36, e_109_39, e_109_41, lg_n, lg_i, lg_r, wd_nil, am_wd_i, am_wd_r, am_wd_l, am_gk_s, am_fld_s, List.getElem?_cons_zero, List.getElem?_cons_succ, am_bk_v, am_bk_n, bo_0, bo_1, am_pk_s, List.length_cons, List.length_nil, Nat.zero_add, List.set_cons_zero, List.set_cons_succ, Nat.reduceAdd, Nat.reduceLeDiff, Nat.reduceLT, f6, f8, hhn, hw1, one_ne, not_false_eq_true, if_true, if_false, n1, qk_AR hq (show 3 < 2 ^ 31 by decide), k0]
      · rw [if_neg hm] at k0 ⊢
        obtain ⟨hs, hfe⟩ := b2 hm
        have hwi := m_within (d := d + 6) (h := h) i 0 (nI s - 1)
        have hs1 : (nI s - 1).toInt = (s : Int) - 1 := by rw [show (1 : Int32) = nI 1 by decide +kernel, i_sub (by omega) (by omega)]; rfl
        have hiff : ((0 : Int32) ≤ i ∧ i ≤ nI s - 1) ↔ (0 ≤ i.toInt ∧ i.toInt ≤ (nz q : Int) - 2) := by rw [i_le, i_le, hs1, i_0]; omega
        by_cases hi : 0 ≤ i.toInt ∧ i.toInt ≤ (nz q : Int) - 2
        · rw [if_pos (hiff.2 hi)] at hwi
          rw [if_neg (not_not_intro hi)]
          obtain ⟨y, rfl, hy⟩ : ∃ y : Nat, i = nI y ∧ y < s := ⟨i.toInt.toNat, i_of i hi.1, by omega⟩
          rw [nI_toInt (show y < 2 ^ 31 by omega), Int.toNat_natCast, ← hfe y hy]
          have hokc := hok y (by omega)
          rw [← hfe y hy] at hokc
          obtain ⟨o1, o2, o3⟩ := hokc
          obtain ⟨z, rfl, hz3⟩ : ∃ z : Nat, w = nI z ∧ z < 3 := ⟨w.toInt.toNat, i_of w hW.1, by omega⟩
          rw [nI_toInt (show z < 2 ^ 31 by omega), Int.toNat_natCast]
          have hdv : f y / 100000 < 2 ^ 31 := by omega
          simp only [e_109_0, e_109_1, e_109_2, e_109_5, e_109_8, e_109_10, e_109_11, e_109_12, e_109_13, e_109_14, e_109_17, e_109_20, e_109_22, e_109_23, e_109_24, e_109_27, e_109_28, e_109_29, e_109_31, e_109_33, e_109_36, e_109_39, e_109_41, e_109_42, e_109_43, e_109_44, e_109_46, e_109_49, e_109_50, e_109_51, e_109_54, e_109_57, e_109_59, e_109_60, e_109_62, e_109_65, e_109_66, e_109_67, e_109_70, e_109_71, e_109_74, e_109_76, e_109_77, e_109_79, e_109_82, e_109_83, e_109_84, e_109_87, e_109_88, e_109_91, e_109_94, e_109_97, e_109_98, e_109_99, lg_n, lg_i, lg_r, wd_nil, am_wd_i, am_wd_r, am_wd_l, am_gk_s, am_fld_s, List.getElem?_cons_zero, List.getElem?_cons_succ, am_bk_v, am_bk_n, bo_0, bo_1, am_pk_s, List.length_cons, List.length_nil, Nat.zero_add, List.set_cons_zero, List.set_cons_succ, Nat.reduceAdd, Nat.reduceLeDiff, Nat.reduceLT, f6, f8, hhn, hw1, one_ne, not_false_eq_true, if_true, if_false, n1, qk_AR hq (show 3 < 2 ^ 31 by decide), k0, k1, k2, hwi, b1.2, ak_AI (show y < 12 by omega) (show 12 < 2 ^ 31 by decide), m_sortOf (show f y < 2 ^ 31 by omega), m_valueOf (show f y < 2 ^ 31 by omega), nI_eq hdv (show z < 2 ^ 31 by omega)]
          by_cases hsz : f y / 100000 = z
          · rw [if_pos hsz, if_pos hsz]
            by_cases z0 : nI z = 0
            · simp [z0]
            · simp [z0]
          · rw [if_neg hsz, if_neg hsz]
        · rw [if_neg (fun z => hi (hiff.1 z))] at hwi
          rw [if_pos hi]
          simp only [e_109_0, e_109_1, e_109_2, e_109_5, e_109_8, e_109_10, e_109_11, e_109_12, e_109_13, e_109_14, e_109_17, e_109_20, e_109_22, e_109_23, e_109_24, e_109_27, e_109_28, e_109_29, e_109_31, e_109_33, e_109_36, e_109_39, e_109_41, e_109_42, e_109_43, e_109_44, e_109_46, e_109_49, e_109_50, e_109_51, e_109_54, e_109_57, e_109_59, lg_n, lg_i, lg_r, wd_nil, am_wd_i, am_wd_r, am_wd_l, am_gk_s, am_fld_s, List.getElem?_cons_zero, List.getElem?_cons_succ, am_bk_v, am_bk_n, bo_0, bo_1, am_pk_s, List.length_cons, List.length_nil, Nat.zero_add, List.set_cons_zero, List.set_cons_succ, Nat.reduceAdd, Nat.reduceLeDiff, Nat.reduceLT, f6, f8, hhn, hw1, one_ne, not_false_eq_true, if_true, if_false, n1, qk_AR hq (show 3 < 2 ^ 31 by decide), k0, k1, hwi, not_true_eq_false]
    · rw [if_neg (fun z => hW (hi1.1 z))] at hw1
      rw [if_pos hW]
      simp only [e_109_0, e_109_1, e_109_2, e_109_5, e_109_8, e_109_10, e_109_11, e_109_12, e_109_13, e_109_14, e_109_17, e_109_20, e_109_22, lg_n, lg_i, lg_r, wd_nil, am_wd_i, am_wd_r, am_wd_l, am_gk_s, am_fld_s, List.getElem?_cons_zero, List.getElem?_cons_succ, am_bk_v, am_bk_n, bo_0, bo_1, am_pk_s, List.length_cons, List.length_nil, Nat.zero_add, List.set_cons_zero, List.set_cons_succ, Nat.reduceAdd, Nat.reduceLeDiff, Nat.reduceLT, f8, hhn, hw1, one_ne, not_false_eq_true, not_true_eq_false, if_true, if_false]
  · rw [if_neg hA] at hhn
    rw [if_pos hA]
    simp only [e_109_0, e_109_1, e_109_2, e_109_5, e_109_8, e_109_10, lg_n, lg_i, lg_r, wd_nil, am_wd_i, am_wd_r, am_wd_l, am_gk_s, am_fld_s, List.getElem?_cons_zero, List.getElem?_cons_succ, am_bk_v, am_bk_n, bo_0, bo_1, am_pk_s, List.length_cons, List.length_nil, Nat.zero_add, List.set_cons_zero, List.set_cons_succ, Nat.reduceAdd, Nat.reduceLeDiff, Nat.reduceLT, f8, hhn, not_true_eq_false, if_true, if_false]
theorem c_cut (hC : CI h P σ u pa kp ke t n sn sF sT sK nz nt) (hz : ∀ i, i < 3 → nz i ≤ 13) (x i j : Int32) : (rfS nz x i j ≠ 0 → am_cal (d + 8) 110 [.ref 0, .int x, .int i, .int j] h = some (some (.int (rfS nz x i j)), h)) ∧ (rfS nz x i j = 0 → ∃ h', am_cal (d + 8) 110 [.ref 0, .int x, .int i, .int j] h = some (some (.int (nI (nz x.toInt.toNat - 1 - (j.toInt.toNat - i.toInt.toNat)))), h') ∧ CI h' P σ u pa kp ke t n sn sF sT sK (updn nz x.toInt.toNat (nz x.toInt.toNat - (j.toInt.toNat - i.toInt.toNat))) (thn nt x.toInt.toNat (cutN (nt x.toInt.toNat) i.toInt.toNat j.toInt.toNat)) ∧ FC h h') := by
  obtain ⟨f0, f1, f2, f3, f4, f5, f6, f7, f8⟩ := hC.fl
  have hrf := m_refS (d := d + 4) hC hz x i j
  refine ⟨fun hne => ?_, fun h0 => ?_⟩
  · refine (b_110 _ _ _).trans ?_; show am_ev _ 110 0 [some (.ref 0), some (.int x), some (.int i), some (.int j), none] [] _ = _
    simp only [e_110_0, e_110_1, e_110_2, e_110_3, e_110_4, e_110_7, e_110_9, e_110_11, e_110_14, e_110_16, lg_n, lg_i, lg_r, wd_nil, am_wd_i, am_wd_r, am_wd_l, am_gk_s, am_fld_s, List.getElem?_cons_zero, List.getElem?_cons_succ, am_bk_v, am_bk_n, bo_0, bo_1, am_pk_s, List.length_cons, List.length_nil, Nat.zero_add, List.set_cons_zero, List.set_cons_succ, Nat.reduceAdd, Nat.reduceLeDiff, Nat.reduceLT, f8, hrf, if_neg hne]
  · rw [h0] at hrf
    obtain ⟨q, a, b, rfl, hq, rfl, rfl, hab, hb⟩ := rfS_0 hz h0
    have hzq := hz q hq
    rw [nI_toInt (show q < 2 ^ 31 by omega), nI_toInt (show a < 2 ^ 31 by omega), nI_toInt (show b < 2 ^ 31 by omega), Int.toNat_natCast, Int.toNat_natCast, Int.toNat_natCast]
    have hN := hC.2.2.2.2.2.2.2.2
    obtain ⟨n1, n2, n3⟩ := id hN
    obtain ⟨s, f, b1, b2⟩ := n3 q hq
    have hm : ¬ nz q = 0 := by omega
    rw [if_neg hm] at b1
    obtain ⟨hs, hfe⟩ := b2 hm
    obtain ⟨k0, k1, k2, k3⟩ := fl_note b1
    have hto := m_takeOut (d := d + 5) b1 hab (show b ≤ s by omega) (show s ≤ 12 by omega)
    have N2 := ns_put hN hq (z := nz q - (b - a)) (s := s - (b - a)) (f := cpN f f b a (s - b)) (th := cutN (nt q) a b) (mi := 0) (by rw [if_neg (by omega)]) (fun _ => ⟨by omega, fun k hk => by
      unfold cpN cutN
      by_cases c1 : k < a
      · rw [if_pos c1, if_neg (by omega), hfe k (by omega)]
      · rw [if_neg c1, if_pos (by omega), show b + (k - a) = k + (b - a) by omega, hfe _ (by omega)]⟩)
    obtain ⟨r0, r1, r2, r3⟩ := fl_note (NoteAt_pN h (81 + 2 * q) 0 (s - (b - a)) (cpN f f b a (s - b)))
    have C2 := hC.ns N2 (fun k hk => at_pN_ne (by omega))
    obtain ⟨v0, v1, v2, v3, v4, v5, v6, v7, v8⟩ := C2.fl
    refine ⟨_, ?_, C2, FC.pN (by omega)⟩
    refine (b_110 _ _ _).trans ?_; show am_ev _ 110 0 [some (.ref 0), some (.int (nI q)), some (.int (nI a)), some (.int (nI b)), none] [] _ = _
    simp only [e_110_0, e_110_1, e_110_2, e_110_3, e_110_4, e_110_7, e_110_9, e_110_11, e_110_14, e_110_16, e_110_17, e_110_18, e_110_21, e_110_22, e_110_23, e_110_24, e_110_25, e_110_28, e_110_29, e_110_32, e_110_33, e_110_34, e_110_37, lg_n, lg_i, lg_r, wd_nil, am_wd_i, am_wd_r, am_wd_l, am_gk_s, am_fld_s, List.getElem?_cons_zero, List.getElem?_cons_succ, am_bk_v, am_bk_n, bo_0, bo_1, am_pk_s, List.length_cons, List.length_nil, Nat.zero_add, List.set_cons_zero, List.set_cons_succ, Nat.reduceAdd, Nat.reduceLeDiff, Nat.reduceLT, f6, f8, hrf, if_true, n1, qk_AR hq (show 3 < 2 ^ 31 by decide), k3, hto, v6, N2.1, r1]
    rw [show nz q - 1 = s by omega]
theorem c_reverse (hC : CI h P σ u pa kp ke t n sn sF sT sK nz nt) (hz : ∀ i, i < 3 → nz i ≤ 13) (x i j : Int32) : (rfS nz x i j ≠ 0 → am_cal (d + 8) 112 [.ref 0, .int x, .int i, .int j] h = some (some (.int (rfS nz x i j)), h)) ∧ (rfS nz x i j = 0 → ∃ h', am_cal (d + 8) 112 [.ref 0, .int x, .int i, .int j] h = some (some (.int (nI (j.toInt.toNat - i.toInt.toNat))), h') ∧ CI h' P σ u pa kp ke t n sn sF sT sK nz (thn nt x.toInt.toNat (flpN (nt x.toInt.toNat) i.toInt.toNat j.toInt.toNat)) ∧ FC h h') := by
  obtain ⟨f0, f1, f2, f3, f4, f5, f6, f7, f8⟩ := hC.fl
  have hrf := m_refS (d := d + 4) hC hz x i j
  refine ⟨fun hne => ?_, fun h0 => ?_⟩
  · refine (b_112 _ _ _).trans ?_; show am_ev _ 112 0 [some (.ref 0), some (.int x), some (.int i), some (.int j), none] [] _ = _
    simp only [e_112_0, e_112_1, e_112_2, e_112_3, e_112_4, e_112_7, e_112_9, e_112_11, e_112_14, e_112_16, lg_n, lg_i, lg_r, wd_nil, am_wd_i, am_wd_r, am_wd_l, am_gk_s, am_fld_s, List.getElem?_cons_zero, List.getElem?_cons_succ, am_bk_v, am_bk_n, bo_0, bo_1, am_pk_s, List.length_cons, List.length_nil, Nat.zero_add, List.set_cons_zero, List.set_cons_succ, Nat.reduceAdd, Nat.reduceLeDiff, Nat.reduceLT, f8, hrf, if_neg hne]
  · rw [h0] at hrf
    obtain ⟨q, a, b, rfl, hq, rfl, rfl, hab, hb⟩ := rfS_0 hz h0
    have hzq := hz q hq
    rw [nI_toInt (show q < 2 ^ 31 by omega), nI_toInt (show a < 2 ^ 31 by omega), nI_toInt (show b < 2 ^ 31 by omega), Int.toNat_natCast, Int.toNat_natCast, Int.toNat_natCast]
    have hN := hC.2.2.2.2.2.2.2.2
    obtain ⟨n1, n2, n3⟩ := id hN
    obtain ⟨s, f, b1, b2⟩ := n3 q hq
    have hm : ¬ nz q = 0 := by omega
    rw [if_neg hm] at b1
    obtain ⟨hs, hfe⟩ := b2 hm
    obtain ⟨k0, k1, k2, k3⟩ := fl_note b1
    have hto := m_flip (d := d + 6) b1 hab (show b ≤ 12 by omega)
    have N2 := ns_put hN hq (z := nz q) (s := s) (f := flpN f a b) (th := flpN (nt q) a b) (mi := 0) (by rw [if_neg hm]) (fun _ => ⟨hs, fun k hk => by
      unfold flpN
      by_cases c1 : a ≤ k ∧ k < b
      · rw [if_pos c1, if_pos c1, hfe _ (by omega)]
      · rw [if_neg c1, if_neg c1, hfe k hk]⟩)
    have hnz : updn nz q (nz q) = nz := by funext k; unfold updn; split; (rename_i e; rw [e]); rfl
    rw [hnz] at N2
    refine ⟨_, ?_, hC.ns N2 (fun k hk => at_pN_ne (by omega)), FC.pN (by omega)⟩
    refine (b_112 _ _ _).trans ?_; show am_ev _ 112 0 [some (.ref 0), some (.int (nI q)), some (.int (nI a)), some (.int (nI b)), none] [] _ = _
    simp only [e_112_0, e_112_1, e_112_2, e_112_3, e_112_4, e_112_7, e_112_9, e_112_11, e_112_14, e_112_16, e_112_17, e_112_18, e_112_21, e_112_22, e_112_23, e_112_24, e_112_25, e_112_28, e_112_29, e_112_30, e_112_31, lg_n, lg_i, lg_r, wd_nil, am_wd_i, am_wd_r, am_wd_l, am_gk_s, am_fld_s, List.getElem?_cons_zero, List.getElem?_cons_succ, am_bk_v, am_bk_n, bo_0, bo_1, am_pk_s, List.length_cons, List.length_nil, Nat.zero_add, List.set_cons_zero, List.set_cons_succ, Nat.reduceAdd, Nat.reduceLeDiff, Nat.reduceLT, f6, f8, hrf, if_true, n1, qk_AR hq (show 3 < 2 ^ 31 by decide), k3, hto, pk_sub hab]
theorem c_turn (hC : CI h P σ u pa kp ke t n sn sF sT sK nz nt) (hz : ∀ i, i < 3 → nz i ≤ 13) (x i j r : Int32) : (¬ (0 ≤ x.toInt ∧ x.toInt ≤ 2) → am_cal (d + 8) 111 [.ref 0, .int x, .int i, .int j, .int r] h = some (some (.int (-2)), h)) ∧ (0 ≤ x.toInt ∧ x.toInt ≤ 2 → ¬ (-20 ≤ r.toInt ∧ r.toInt ≤ 20) → am_cal (d + 8) 111 [.ref 0, .int x, .int i, .int j, .int r] h = some (some (.int (-3)), h)) ∧ (0 ≤ x.toInt ∧ x.toInt ≤ 2 → -20 ≤ r.toInt ∧ r.toInt ≤ 20 → rfS nz x i j ≠ 0 → am_cal (d + 8) 111 [.ref 0, .int x, .int i, .int j, .int r] h = some (some (.int (rfS nz x i j)), h)) ∧ (-20 ≤ r.toInt ∧ r.toInt ≤ 20 → rfS nz x i j = 0 → ∃ h', am_cal (d + 8) 111 [.ref 0, .int x, .int i, .int j, .int r] h = some (some (.int (nI (j.toInt.toNat - i.toInt.toNat))), h') ∧ CI h' P σ u pa kp ke t n sn sF sT sK nz (thn nt x.toInt.toNat (rotT (nt x.toInt.toNat) i.toInt.toNat j.toInt.toNat (r.toInt % ((j.toInt.toNat - i.toInt.toNat : Nat) : Int)).toNat)) ∧ FC h h') := by
  obtain ⟨f0, f1, f2, f3, f4, f5, f6, f7, f8⟩ := hC.fl
  have hhn := m_hasNotes (d := d + 5) (h := h) x
  have hrf := m_refS (d := d + 4) hC hz x i j
  have hw1 := m_within (d := d + 6) (h := h) r (-20) 20
  have hi1 : ((-20 : Int32) ≤ r ∧ r ≤ 20) ↔ (-20 ≤ r.toInt ∧ r.toInt ≤ 20) := by rw [i_le, i_le]; exact Iff.rfl
  refine ⟨fun hA => ?_, fun hA hr => ?_, fun hA hr hne => ?_, fun hr h0 => ?_⟩
  · rw [if_neg hA] at hhn
    refine (b_111 _ _ _).trans ?_; show am_ev _ 111 0 [some (.ref 0), some (.int x), some (.int i), some (.int j), some (.int r), none] [] _ = _
    simp only [e_111_0, e_111_1, e_111_2, e_111_5, e_111_8, e_111_10, lg_n, lg_i, lg_r, wd_nil, am_wd_i, am_wd_r, am_wd_l, am_gk_s, am_fld_s, List.getElem?_cons_zero, List.getElem?_cons_succ, am_bk_v, am_bk_n, bo_0, bo_1, am_pk_s, List.length_cons, List.length_nil, Nat.zero_add, List.set_cons_zero, List.set_cons_succ, Nat.reduceAdd, Nat.reduceLeDiff, Nat.reduceLT, f8, hhn, not_true_eq_false, if_true, if_false]
  · rw [if_pos hA] at hhn
    rw [if_neg (fun z => hr (hi1.1 z))] at hw1
    refine (b_111 _ _ _).trans ?_; show am_ev _ 111 0 [some (.ref 0), some (.int x), some (.int i), some (.int j), some (.int r), none] [] _ = _
    simp only [e_111_0, e_111_1, e_111_2, e_111_5, e_111_8, e_111_10, e_111_11, e_111_13, e_111_15, e_111_17, e_111_20, e_111_23, e_111_25, lg_n, lg_i, lg_r, wd_nil, am_wd_i, am_wd_r, am_wd_l, am_gk_s, am_fld_s, List.getElem?_cons_zero, List.getElem?_cons_succ, am_bk_v, am_bk_n, bo_0, bo_1, am_pk_s, List.length_cons, List.length_nil, Nat.zero_add, List.set_cons_zero, List.set_cons_succ, Nat.reduceAdd, Nat.reduceLeDiff, Nat.reduceLT, f8, hhn, hw1, one_ne, not_false_eq_true, not_true_eq_false, if_true, if_false]
  · rw [if_pos hA] at hhn
    rw [if_pos (hi1.2 hr)] at hw1
    refine (b_111 _ _ _).trans ?_; show am_ev _ 111 0 [some (.ref 0), some (.int x), some (.int i), some (.int j), some (.int r), none] [] _ = _
    simp only [e_111_0, e_111_1, e_111_2, e_111_5, e_111_8, e_111_10, e_111_11, e_111_13, e_111_15, e_111_17, e_111_20, e_111_23, e_111_25, e_111_26, e_111_27, e_111_28, e_111_29, e_111_30, e_111_33, e_111_35, e_111_37, e_111_40, e_111_42, lg_n, lg_i, lg_r, wd_nil, am_wd_i, am_wd_r, am_wd_l, am_gk_s, am_fld_s, List.getElem?_cons_zero, List.getElem?_cons_succ, am_bk_v, am_bk_n, bo_0, bo_1, am_pk_s, List.length_cons, List.length_nil, Nat.zero_add, List.set_cons_zero, List.set_cons_succ, Nat.reduceAdd, Nat.reduceLeDiff, Nat.reduceLT, f8, hhn, hw1, one_ne, not_false_eq_true, if_true, if_false, hrf, if_neg hne]
  · rw [h0] at hrf
    rw [if_pos (hi1.2 hr)] at hw1
    obtain ⟨q, a, b, rfl, hq, rfl, rfl, hab, hb⟩ := rfS_0 hz h0
    have hzq := hz q hq
    have hqi := nI_toInt (show q < 2 ^ 31 by omega)
    rw [if_pos (by rw [hqi]; omega)] at hhn
    rw [hqi, nI_toInt (show a < 2 ^ 31 by omega), nI_toInt (show b < 2 ^ 31 by omega), Int.toNat_natCast, Int.toNat_natCast, Int.toNat_natCast]
    have hN := hC.2.2.2.2.2.2.2.2
    obtain ⟨n1, n2, n3⟩ := id hN
    obtain ⟨s, f, b1, b2⟩ := n3 q hq
    have hm : ¬ nz q = 0 := by omega
    rw [if_neg hm] at b1
    obtain ⟨hs, hfe⟩ := b2 hm
    obtain ⟨k0, k1, k2, k3⟩ := fl_note b1
    have hto := m_rotate (d := d + 5) b1 hr hab (show b ≤ 12 by omega)
    have hnz : updn nz q (nz q) = nz := by funext k; unfold updn; split; (rename_i e; rw [e]); rfl
    by_cases hee : a = b
    · rw [if_pos hee] at hto
      have hN' : NS h nz (thn nt q (rotT (nt q) a b (r.toInt % ((b - a : Nat) : Int)).toNat)) := by
        refine ⟨n1, n2, fun k hk => ?_⟩
        obtain ⟨s', f', c1, c2⟩ := n3 k hk
        refine ⟨s', f', c1, fun hk0 => ⟨(c2 hk0).1, fun r' hr' => ?_⟩⟩
        unfold thn
        by_cases ek : k = q
        · rw [if_pos ek]
          unfold rotT
          rw [if_neg (by omega), (c2 hk0).2 r' hr', ek]
        · rw [if_neg ek]; exact (c2 hk0).2 r' hr'
      refine ⟨h, ?_, hC.ns hN' (fun k hk => rfl), FC.rf⟩
      refine (b_111 _ _ _).trans ?_; show am_ev _ 111 0 [some (.ref 0), some (.int (nI q)), some (.int (nI a)), some (.int (nI b)), some (.int r), none] [] _ = _
      simp only [e_111_0, e_111_1, e_111_2, e_111_5, e_111_8, e_111_10, e_111_11, e_111_13, e_111_15, e_111_17, e_111_20, e_111_23, e_111_25, e_111_26, e_111_27, e_111_28, e_111_29, e_111_30, e_111_33, e_111_35, e_111_37, e_111_40, e_111_42, e_111_43, e_111_44, e_111_47, e_111_48, e_111_49, e_111_50, e_111_51, e_111_53, e_111_56, e_111_57, e_111_58, e_111_59, lg_n, lg_i, lg_r, wd_nil, am_wd_i, am_wd_r, am_wd_l, am_gk_s, am_fld_s, List.getElem?_cons_zero, List.getElem?_cons_succ, am_bk_v, am_bk_n, bo_0, bo_1, am_pk_s, List.length_cons, List.length_nil, Nat.zero_add, List.set_cons_zero, List.set_cons_succ, Nat.reduceAdd, Nat.reduceLeDiff, Nat.reduceLT, f6, f8, hhn, hw1, one_ne, not_false_eq_true, if_true, if_false, hrf, n1, qk_AR hq (show 3 < 2 ^ 31 by decide), k3, hto, pk_sub hab]
    · rw [if_neg hee] at hto
      have hpos : (0 : Int) < ((b - a : Nat) : Int) := by omega
      have m1 := Int.emod_lt_of_pos r.toInt hpos
      have m2 := Int.emod_nonneg r.toInt (show ((b - a : Nat) : Int) ≠ 0 by omega)
      generalize hoo : (r.toInt % ((b - a : Nat) : Int)).toNat = o at *
      have ho : o ≤ b - a := by omega
      rw [rotN_eq f hab ho] at hto
      have N2 := ns_put hN hq (z := nz q) (s := s) (f := rotT f a b o) (th := rotT (nt q) a b o) (mi := 0) (by rw [if_neg hm]) (fun _ => ⟨hs, fun k hk => by
        unfold rotT
        by_cases c1 : a ≤ k ∧ k < b
        · rw [if_pos c1, if_pos c1]
          by_cases c2 : k < a + o
          · rw [if_pos c2, if_pos c2, hfe _ (by omega)]
          · rw [if_neg c2, if_neg c2, hfe _ (by omega)]
        · rw [if_neg c1, if_neg c1, hfe k hk]⟩)
      rw [hnz] at N2
      refine ⟨_, ?_, hC.ns N2 (fun k hk => at_pN_ne (by omega)), FC.pN (by omega)⟩
      refine (b_111 _ _ _).trans ?_; show am_ev _ 111 0 [some (.ref 0), some (.int (nI q)), some (.int (nI a)), some (.int (nI b)), some (.int r), none] [] _ = _
      simp only [e_111_0, e_111_1, e_111_2, e_111_5, e_111_8, e_111_10, e_111_11, e_111_13, e_111_15, e_111_17, e_111_20, e_111_23, e_111_25, e_111_26, e_111_27, e_111_28, e_111_29, e_111_30, e_111_33, e_111_35, e_111_37, e_111_40, e_111_42, e_111_43, e_111_44, e_111_47, e_111_48, e_111_49, e_111_50, e_111_51, e_111_53, e_111_56, e_111_57, e_111_58, e_111_59, lg_n, lg_i, lg_r, wd_nil, am_wd_i, am_wd_r, am_wd_l, am_gk_s, am_fld_s, List.getElem?_cons_zero, List.getElem?_cons_succ, am_bk_v, am_bk_n, bo_0, bo_1, am_pk_s, List.length_cons, List.length_nil, Nat.zero_add, List.set_cons_zero, List.set_cons_succ, Nat.reduceAdd, Nat.reduceLeDiff, Nat.reduceLT, f6, f8, hhn, hw1, one_ne, not_false_eq_true, if_true, if_false, hrf, n1, qk_AR hq (show 3 < 2 ^ 31 by decide), k3, hto, pk_sub hab]
theorem c_often (hC : CI h P σ u pa kp ke t n sn sF sT sK nz nt) (oP : OKP P) (hz : ∀ i, i < 3 → nz i ≤ 13 ∧ ∀ k, k + 1 < nz i → okT (nt i k)) (x w v : Int32) : am_cal (d + 8) 114 [.ref 0, .int x, .int w, .int v] h = some (some (.int (if rfT P x w v ≠ 0 then rfT P x w v else if nz x.toInt.toNat = 0 then -11 else nI (cntN (fun k => nt x.toInt.toNat k == thc w v) (nz x.toInt.toNat - 1)))), h) := by
  obtain ⟨f0, f1, f2, f3, f4, f5, f6, f7, f8⟩ := hC.fl
  have hrf := m_refT (d := d + 4) hC oP x w v
  by_cases h0 : rfT P x w v = 0
  · rw [if_neg (not_not_intro h0)]
    rw [h0] at hrf
    obtain ⟨hx, hw, hv, -, -⟩ := rfT_0 oP.2.2.2.1 h0
    obtain ⟨ok, hth, -, -⟩ := thc_ok hw hv
    obtain ⟨q, rfl, hq⟩ : ∃ q : Nat, x = nI q ∧ q < 3 := ⟨x.toInt.toNat, i_of x hx.1, by omega⟩
    rw [nI_toInt (show q < 2 ^ 31 by omega), Int.toNat_natCast]
    obtain ⟨n1, n2, n3⟩ := hC.2.2.2.2.2.2.2.2
    obtain ⟨s, f, b1, b2⟩ := n3 q hq
    obtain ⟨k0, k1, k2, k3⟩ := fl_note b1
    obtain ⟨hzq, hok⟩ := hz q hq
    by_cases hm : nz q = 0
    · rw [if_pos hm] at k0 ⊢
      refine (b_114 _ _ _).trans ?_; show am_ev _ 114 0 [some (.ref 0), some (.int (nI q)), some (.int w), some (.int v), none] [] _ = _
      simp only [e_114_0, e_114_1, e_114_2, e_114_3, e_114_4, e_114_7, e_114_9, e_114_11, e_114_14, e_114_16, e_114_17, e_114_18, e_114_21, e_114_22, e_114_23, e_114_26, e_114_29, e_114_31, e_114_34, e_114_35, e_114_38, e_114_39, e_114_40, e_114_41, e_114_42, e_114_45, e_114_48, lg_n, lg_i, lg_r, wd_nil, am_wd_i, am_wd_r, am_wd_l, am_gk_s, am_fld_s, List.getElem?_cons_zero, List.getElem?_cons_succ, am_bk_v, am_bk_n, bo_0, bo_1, am_pk_s, List.length_cons, List.length_nil, Nat.zero_add, List.set_cons_zero, List.set_cons_succ, Nat.reduceAdd, Nat.reduceLeDiff, Nat.reduceLT, f6, f8, hrf, if_true, n1, qk_AR hq (show 3 < 2 ^ 31 by decide), k0, one_ne, if_false]
    · rw [if_neg hm] at k0 ⊢
      obtain ⟨hs, hfe⟩ := b2 hm
      have hhm := m_howMany (d := d + 6) b1 (show s ≤ 12 by omega) (t := thc w v) (by have := ok.1; omega) (fun k hk => by
        have := hok k (by omega)
        rw [← hfe k hk] at this
        have := this.1
        omega)
      refine (b_114 _ _ _).trans ?_; show am_ev _ 114 0 [some (.ref 0), some (.int (nI q)), some (.int w), some (.int v), none] [] _ = _
      simp only [e_114_0, e_114_1, e_114_2, e_114_3, e_114_4, e_114_7, e_114_9, e_114_11, e_114_14, e_114_16, e_114_17, e_114_18, e_114_21, e_114_22, e_114_23, e_114_26, e_114_29, e_114_31, e_114_34, e_114_35, e_114_38, e_114_39, e_114_40, e_114_41, e_114_42, e_114_45, e_114_48, lg_n, lg_i, lg_r, wd_nil, am_wd_i, am_wd_r, am_wd_l, am_gk_s, am_fld_s, List.getElem?_cons_zero, List.getElem?_cons_succ, am_bk_v, am_bk_n, bo_0, bo_1, am_pk_s, List.length_cons, List.length_nil, Nat.zero_add, List.set_cons_zero, List.set_cons_succ, Nat.reduceAdd, Nat.reduceLeDiff, Nat.reduceLT, f6, f8, hrf, if_true, n1, qk_AR hq (show 3 < 2 ^ 31 by decide), k0, k3, if_false, m_thing, hth, hhm]
      rw [show nz q - 1 = s by omega, cntN_cong (fun k hk => by rw [hfe k hk])]
  · rw [if_pos h0]
    refine (b_114 _ _ _).trans ?_; show am_ev _ 114 0 [some (.ref 0), some (.int x), some (.int w), some (.int v), none] [] _ = _
    simp only [e_114_0, e_114_1, e_114_2, e_114_3, e_114_4, e_114_7, e_114_9, e_114_11, e_114_14, e_114_16, lg_n, lg_i, lg_r, wd_nil, am_wd_i, am_wd_r, am_wd_l, am_gk_s, am_fld_s, List.getElem?_cons_zero, List.getElem?_cons_succ, am_bk_v, am_bk_n, bo_0, bo_1, am_pk_s, List.length_cons, List.length_nil, Nat.zero_add, List.set_cons_zero, List.set_cons_succ, Nat.reduceAdd, Nat.reduceLeDiff, Nat.reduceLT, f8, hrf, if_neg h0]
end CL
