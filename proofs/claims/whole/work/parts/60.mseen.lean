/-! the model's calls: counted, seen -/
section MI
variable {d : Nat} {h : am_H} {P : Pn} {σ : Hn} {u : Nat} {pa : Nat → Hn} {kp : Nat → Bool} {ke : Nat → Hn} {t : Nat → Nat} {n sn : Nat} {sF sT sK : Nat → Nat} {nz : Nat → Nat} {nt : Nat → Nat → Nat}
theorem l_often {Z S V TS TV : Nat → Int32} (hQ : MQn h Z S V TS TV) {q s : Nat} (hq : q < 3) (hs : s ≤ 12) (hZ : Z q = nI s) {w v : Int32} {g : Nat → Nat} {c : Nat} (hg : ∀ k, k < s → (S (12 * q + k) = w ∧ V (12 * q + k) = v ↔ g k = c)) {x4 : Option Value} (l4 : am_lg x4 = false) : ∀ j k, k + j = s → am_ev d 208 26 [some (.ref 87), some (.int (nI q)), some (.int w), some (.int v), x4, some (.int (nI (cntN (fun k => g k == c) k))), some (.int (nI (12 * q + k)))] [] h = some (some (.int (nI (cntN (fun k => g k == c) s))), h) := by
  obtain ⟨⟨f9, f10, f11, f30, f31, fis⟩, q1, q2, q3, q4, q5⟩ := hQ
  have e12 : (12 : Int32) = nI 12 := by decide +kernel
  intro j
  induction j with
  | zero =>
    intro k hk
    have : k = s := by omega
    subst this
    rw [e_208_26]
    simp only [e_208_28, e_208_30, e_208_31, e_208_32, e_208_33, e_208_36, e_208_37, e_208_38, e_208_39, e_208_80, e_208_82, lg_n, lg_i, lg_r, wd_nil, am_wd_i, am_wd_r, am_wd_l, am_gk_s, am_fld_s, List.getElem?_cons_zero, List.getElem?_cons_succ, am_bk_v, am_bk_n, bo_0, bo_1, am_pk_s, List.length_cons, List.length_nil, Nat.zero_add, List.set_cons_zero, List.set_cons_succ, Nat.reduceAdd, Nat.reduceLeDiff, Nat.reduceLT, e12, pk_mul, nI_add, f9, q1, ak_AI hq (show 3 < 2 ^ 31 by decide), hZ, nI_leI (show 12 * q + k < 2 ^ 31 by omega) (show 12 * q + k < 2 ^ 31 by omega), Nat.le_refl, if_true]
  | succ j ih =>
    intro k hk
    have ih' := ih (k + 1) (by omega)
    rw [cntN, ← Nat.add_assoc] at ih'
    have hgk := hg k (by omega)
    rw [e_208_26]
    simp only [e_208_28, e_208_30, e_208_31, e_208_32, e_208_33, e_208_36, e_208_37, e_208_38, e_208_39, e_208_42, e_208_44, e_208_45, e_208_48, e_208_50, e_208_51, e_208_52, e_208_55, e_208_56, e_208_59, e_208_61, e_208_62, e_208_63, e_208_66, e_208_67, e_208_70, e_208_71, e_208_72, e_208_74, e_208_77, lg_n, lg_i, lg_r, wd_nil, am_wd_i, am_wd_r, am_wd_l, am_gk_s, am_fld_s, List.getElem?_cons_zero, List.getElem?_cons_succ, am_bk_v, am_bk_n, bo_0, bo_1, am_pk_s, List.length_cons, List.length_nil, Nat.zero_add, List.set_cons_zero, List.set_cons_succ, Nat.reduceAdd, Nat.reduceLeDiff, Nat.reduceLT, e12, pk_mul, nI_add, f9, f10, f11, q1, q2, q3, ak_AI hq (show 3 < 2 ^ 31 by decide), hZ, nI_leI (show 12 * q + s < 2 ^ 31 by omega) (show 12 * q + k < 2 ^ 31 by omega), if_neg (show ¬ 12 * q + s ≤ 12 * q + k by omega), ak_AI (show 12 * q + k < 36 by omega) (show 36 < 2 ^ 31 by decide), l4, lg_i, Int32.add_zero, nI_1]
    by_cases hc : g k = c
    · obtain ⟨z1, z2⟩ := hgk.2 hc
      rw [if_pos (show (g k == c) = true by simp [hc])] at ih'
      simp only [z1, z2, if_true]
      exact ih'
    · rw [if_neg (show ¬ (g k == c) = true by simp [hc])] at ih'
      by_cases z1 : S (12 * q + k) = w
      · have z2 : ¬ V (12 * q + k) = v := fun z => hc (hgk.1 ⟨z1, z⟩)
        simp only [z1, z2, if_true, if_false]
        exact ih'
      · simp only [z1, if_false]
        exact ih'
theorem n_often (hM : MI h P σ u pa kp ke t n sn sF sT sK nz nt) (oP : OKP P) (hz : ∀ i, i < 3 → nz i ≤ 13 ∧ ∀ k, k + 1 < nz i → okT (nt i k)) (x w v : Int32) : am_cal (d + 8) 208 [.ref 87, .int x, .int w, .int v] h = some (some (.int (if rfT P x w v ≠ 0 then rfT P x w v else if nz x.toInt.toNat = 0 then -11 else nI (cntN (fun k => nt x.toInt.toNat k == thc w v) (nz x.toInt.toNat - 1)))), h) := by
  have hns := m_noSuch (d := d + 4) hM oP (fun i hi => (hz i hi).1) x w v
  obtain ⟨S, V, TS, TV, hQ, hS⟩ := hM.mq
  have fis := hQ.1.2.2.2.2.2
  by_cases h0 : rfT P x w v = 0
  · rw [if_neg (not_not_intro h0)] at hns ⊢
    obtain ⟨hx, hw, hv, -, -⟩ := rfT_0 oP.2.2.2.1 h0
    obtain ⟨ok, -, t1, t2⟩ := thc_ok hw hv
    obtain ⟨q, rfl, hq⟩ : ∃ q : Nat, x = nI q ∧ q < 3 := ⟨x.toInt.toNat, i_of x hx.1, by omega⟩
    rw [nI_toInt (show q < 2 ^ 31 by omega), Int.toNat_natCast] at hns ⊢
    obtain ⟨hzq, hok⟩ := hz q hq
    by_cases hm : nz q = 0
    · rw [if_pos hm] at hns ⊢
      refine (b_208 _ _ _).trans ?_; show am_ev _ 208 0 [some (.ref 87), some (.int (nI q)), some (.int w), some (.int v), none, none, none] [] _ = _
      simp only [e_208_0, e_208_1, e_208_2, e_208_3, e_208_4, e_208_7, e_208_9, e_208_11, e_208_14, e_208_16, lg_n, lg_i, lg_r, wd_nil, am_wd_i, am_wd_r, am_wd_l, am_gk_s, am_fld_s, List.getElem?_cons_zero, List.getElem?_cons_succ, am_bk_v, am_bk_n, bo_0, bo_1, am_pk_s, List.length_cons, List.length_nil, Nat.zero_add, List.set_cons_zero, List.set_cons_succ, Nat.reduceAdd, Nat.reduceLeDiff, Nat.reduceLT, fis, hns, show ((-11 : Int32) = 0) = False by decide, if_false]
    · rw [if_neg hm] at hns ⊢
      obtain ⟨s, hs⟩ : ∃ s, nz q = s + 1 := ⟨nz q - 1, by omega⟩
      have hc2 : cI (nz q + 1) = nI s := by rw [hs, cI_s]
      have hl := l_often (d := d + 7) hQ hq (show s ≤ 12 by omega) hc2 (w := w) (v := v) (g := nt q) (c := thc w v) (fun k hk => by
        obtain ⟨s1, s2⟩ := hS q hq k (by omega)
        obtain ⟨o1, o2, o3⟩ := hok k (by omega)
        rw [s1, s2, i_eq, i_eq, nI_toInt (by omega), show (50000 : Int32) = nI 50000 by decide +kernel, i_sub (by omega) (by decide)]
        constructor
        · rintro ⟨z1, z2⟩
          omega
        · intro z
          rw [z]
          omega) (x4 := some (.int 0)) (lg_i _) s 0 (by omega)
      rw [hs, Nat.add_sub_cancel]
      refine (b_208 _ _ _).trans ?_; show am_ev _ 208 0 [some (.ref 87), some (.int (nI q)), some (.int w), some (.int v), none, none, none] [] _ = _
      simp only [e_208_0, e_208_1, e_208_2, e_208_3, e_208_4, e_208_7, e_208_9, e_208_11, e_208_14, e_208_16, e_208_17, e_208_18, e_208_20, e_208_22, e_208_23, e_208_24, lg_n, lg_i, lg_r, wd_nil, am_wd_i, am_wd_r, am_wd_l, am_gk_s, am_fld_s, List.getElem?_cons_zero, List.getElem?_cons_succ, am_bk_v, am_bk_n, bo_0, bo_1, am_pk_s, List.length_cons, List.length_nil, Nat.zero_add, List.set_cons_zero, List.set_cons_succ, Nat.reduceAdd, Nat.reduceLeDiff, Nat.reduceLT, fis, hns, if_true, show (12 : Int32) = nI 12 by decide +kernel, pk_mul]
      exact hl
  · rw [if_pos h0] at hns ⊢
    refine (b_208 _ _ _).trans ?_; show am_ev _ 208 0 [some (.ref 87), some (.int x), some (.int w), some (.int v), none, none, none] [] _ = _
    simp only [e_208_0, e_208_1, e_208_2, e_208_3, e_208_4, e_208_7, e_208_9, e_208_11, e_208_14, e_208_16, lg_n, lg_i, lg_r, wd_nil, am_wd_i, am_wd_r, am_wd_l, am_gk_s, am_fld_s, List.getElem?_cons_zero, List.getElem?_cons_succ, am_bk_v, am_bk_n, bo_0, bo_1, am_pk_s, List.length_cons, List.length_nil, Nat.zero_add, List.set_cons_zero, List.set_cons_succ, Nat.reduceAdd, Nat.reduceLeDiff, Nat.reduceLT, fis, hns, if_neg h0]
theorem n_seen (hM : MI h P σ u pa kp ke t n sn sF sT sK nz nt) (hD : OKD P) (hsn : sn ≤ 6) (a b m : Int32) : (¬ ((0 ≤ a.toInt ∧ a.toInt < P.1) ∧ (0 ≤ b.toInt ∧ b.toInt < P.1) ∧ a ≠ b ∧ (1 ≤ m.toInt ∧ m.toInt ≤ 60)) → am_cal (d + 8) 189 [.ref 87, .int a, .int b, .int m] h = some (some (.int (-3)), h)) ∧ ((0 ≤ a.toInt ∧ a.toInt < P.1) ∧ (0 ≤ b.toInt ∧ b.toInt < P.1) ∧ a ≠ b ∧ (1 ≤ m.toInt ∧ m.toInt ≤ 60) → sn = 6 → am_cal (d + 8) 189 [.ref 87, .int a, .int b, .int m] h = some (some (.int (-5)), h)) ∧ ((0 ≤ a.toInt ∧ a.toInt < P.1) ∧ (0 ≤ b.toInt ∧ b.toInt < P.1) ∧ a ≠ b ∧ (1 ≤ m.toInt ∧ m.toInt ≤ 60) → sn < 6 → ∃ h', am_cal (d + 8) 189 [.ref 87, .int a, .int b, .int m] h = some (some (.int (nI (sn + 1))), h') ∧ MI h' P σ u pa kp ke t n (sn + 1) (updn sF sn a.toInt.toNat) (updn sT sn b.toInt.toNat) (updn sK sn m.toInt.toNat) nz nt ∧ FM h h') := by
  obtain ⟨⟨fi, be, rF, rP, cl, dg, h1⟩, ⟨f, h2, h2'⟩, h3, h4, h5, h6⟩ := id hM
  obtain ⟨oP, q1, q2, -⟩ := hD
  have hB := hM.mb h2
  obtain ⟨m0, m1, m2, m3, m4⟩ := id hB
  have e1 : (nI P.1 - 1).toInt = (P.1 : Int) - 1 := by rw [show (1 : Int32) = nI 1 by decide +kernel, i_sub (by omega) (by omega)]; rfl
  have ha := m_in (d := d + 6) (h := h) a.toInt64 0 (nI P.1 - 1).toInt64
  have hb := m_in (d := d + 6) (h := h) b.toInt64 0 (nI P.1 - 1).toInt64
  have hm := m_in (d := d + 6) (h := h) m.toInt64 1 60
  rw [l_in32, l_in32, e1, show (0 : Int64).toInt = 0 from rfl] at ha hb
  rw [l_in32, show (1 : Int64).toInt = 1 from rfl, show (60 : Int64).toInt = 60 from rfl] at hm
  have h26 := h2'.1.1
  rw [Nat.zero_add] at h26
  have e26 : (26 : Int32) = nI 26 := by decide +kernel
  have e6 : (6 : Int32) = nI 6 := by decide +kernel
  refine ⟨fun hno => ?_, fun hin hs6 => ?_, fun hin hs6 => ?_⟩
  · refine (b_189 _ _ _).trans ?_; show am_ev _ 189 0 [some (.ref 87), some (.int a), some (.int b), some (.int m)] [] _ = _
    by_cases c1 : 0 ≤ a.toInt ∧ a.toInt < P.1
    · rw [if_pos (by omega)] at ha
      by_cases c2 : 0 ≤ b.toInt ∧ b.toInt < P.1
      · rw [if_pos (by omega)] at hb
        by_cases c3 : a = b
        · subst c3
          simp only [e_189_0, e_189_1, e_189_2, e_189_3, e_189_4, e_189_7, e_189_9, e_189_10, e_189_11, e_189_12, e_189_13, e_189_16, e_189_19, e_189_20, e_189_21, e_189_22, e_189_23, e_189_26, e_189_28, e_189_29, e_189_30, e_189_31, e_189_32, e_189_35, e_189_38, e_189_39, e_189_40, e_189_43, e_189_44, e_189_45, e_189_46, e_189_49, e_189_52, e_189_55, e_189_57, e_189_58, e_189_59, lg_n, lg_i, lg_r, wd_nil, am_wd_i, am_wd_r, am_wd_l, am_gk_s, am_fld_s, List.getElem?_cons_zero, List.getElem?_cons_succ, am_bk_v, am_bk_n, bo_0, bo_1, am_pk_s, List.length_cons, List.length_nil, Nat.zero_add, List.set_cons_zero, List.set_cons_succ, Nat.reduceAdd, Nat.reduceLeDiff, Nat.reduceLT, m0, m3, e26, ak_AI (show 26 < 392 by decide) (show 392 < 2 ^ 31 by decide), h26, ha, one_ne, if_false, if_true, eq_self]
        · have c4 : ¬ (1 ≤ m.toInt ∧ m.toInt ≤ 60) := fun z => hno ⟨c1, c2, c3, z⟩
          rw [if_neg c4] at hm
          simp only [e_189_0, e_189_1, e_189_2, e_189_3, e_189_4, e_189_7, e_189_9, e_189_10, e_189_11, e_189_12, e_189_13, e_189_16, e_189_19, e_189_20, e_189_21, e_189_22, e_189_23, e_189_26, e_189_28, e_189_29, e_189_30, e_189_31, e_189_32, e_189_35, e_189_38, e_189_39, e_189_40, e_189_43, e_189_44, e_189_45, e_189_46, e_189_49, e_189_52, e_189_55, e_189_57, e_189_58, e_189_59, lg_n, lg_i, lg_r, wd_nil, am_wd_i, am_wd_r, am_wd_l, am_gk_s, am_fld_s, List.getElem?_cons_zero, List.getElem?_cons_succ, am_bk_v, am_bk_n, bo_0, bo_1, am_pk_s, List.length_cons, List.length_nil, Nat.zero_add, List.set_cons_zero, List.set_cons_succ, Nat.reduceAdd, Nat.reduceLeDiff, Nat.reduceLT, m0, m3, e26, ak_AI (show 26 < 392 by decide) (show 392 < 2 ^ 31 by decide), h26, ha, hb, hm, one_ne, if_false, if_true, c3, not_true_eq_false]
      · rw [if_neg (by omega)] at hb
        simp only [e_189_0, e_189_1, e_189_2, e_189_3, e_189_4, e_189_7, e_189_9, e_189_10, e_189_11, e_189_12, e_189_13, e_189_16, e_189_19, e_189_20, e_189_21, e_189_22, e_189_23, e_189_26, e_189_28, e_189_29, e_189_30, e_189_31, e_189_32, e_189_35, e_189_38, e_189_39, e_189_40, e_189_43, e_189_44, e_189_45, e_189_46, e_189_49, e_189_52, e_189_55, e_189_57, e_189_58, e_189_59, lg_n, lg_i, lg_r, wd_nil, am_wd_i, am_wd_r, am_wd_l, am_gk_s, am_fld_s, List.getElem?_cons_zero, List.getElem?_cons_succ, am_bk_v, am_bk_n, bo_0, bo_1, am_pk_s, List.length_cons, List.length_nil, Nat.zero_add, List.set_cons_zero, List.set_cons_succ, Nat.reduceAdd, Nat.reduceLeDiff, Nat.reduceLT, m0, m3, e26, ak_AI (show 26 < 392 by decide) (show 392 < 2 ^ 31 by decide), h26, ha, hb, one_ne, if_false, if_true]
    · rw [if_neg (by omega)] at ha
      simp only [e_189_0, e_189_1, e_189_2, e_189_3, e_189_4, e_189_7, e_189_9, e_189_10, e_189_11, e_189_12, e_189_13, e_189_16, e_189_19, e_189_20, e_189_21, e_189_22, e_189_23, e_189_26, e_189_28, e_189_29, e_189_30, e_189_31, e_189_32, e_189_35, e_189_38, e_189_39, e_189_40, e_189_43, e_189_44, e_189_45, e_189_46, e_189_49, e_189_52, e_189_55, e_189_57, e_189_58, e_189_59, lg_n, lg_i, lg_r, wd_nil, am_wd_i, am_wd_r, am_wd_l, am_gk_s, am_fld_s, List.getElem?_cons_zero, List.getElem?_cons_succ, am_bk_v, am_bk_n, bo_0, bo_1, am_pk_s, List.length_cons, List.length_nil, Nat.zero_add, List.set_cons_zero, List.set_cons_succ, Nat.reduceAdd, Nat.reduceLeDiff, Nat.reduceLT, m0, m3, e26, ak_AI (show 26 < 392 by decide) (show 392 < 2 ^ 31 by decide), h26, ha, if_true]
  · obtain ⟨c1, c2, c3, c4⟩ := hin
    rw [if_pos (by omega)] at ha hb
    rw [if_pos c4] at hm
    obtain ⟨k0, k1, k2, k3, k4, k5, k6, k7, k8, -⟩ := md_fl h1
    refine (b_189 _ _ _).trans ?_; show am_ev _ 189 0 [some (.ref 87), some (.int a), some (.int b), some (.int m)] [] _ = _
    simp only [e_189_0, e_189_1, e_189_2, e_189_3, e_189_4, e_189_7, e_189_9, e_189_10, e_189_11, e_189_12, e_189_13, e_189_16, e_189_19, e_189_20, e_189_21, e_189_22, e_189_23, e_189_26, e_189_28, e_189_29, e_189_30, e_189_31, e_189_32, e_189_35, e_189_38, e_189_39, e_189_40, e_189_43, e_189_44, e_189_45, e_189_46, e_189_49, e_189_52, e_189_55, e_189_57, e_189_58, e_189_59, e_189_62, e_189_64, e_189_67, e_189_69, e_189_70, e_189_71, e_189_74, e_189_75, e_189_78, e_189_79, e_189_80, e_189_81, e_189_84, e_189_85, e_189_88, e_189_89, e_189_90, e_189_91, e_189_94, e_189_95, e_189_98, e_189_99, e_189_100, e_189_101, e_189_102, e_189_105, e_189_106, e_189_107, e_189_110, e_189_111, e_189_114, lg_n, lg_i, lg_r, wd_nil, am_wd_i, am_wd_r, am_wd_l, am_gk_s, am_fld_s, List.getElem?_cons_zero, List.getElem?_cons_succ, am_bk_v, am_bk_n, bo_0, bo_1, am_pk_s, List.length_cons, List.length_nil, Nat.zero_add, List.set_cons_zero, List.set_cons_succ, Nat.reduceAdd, Nat.reduceLeDiff, Nat.reduceLT, m0, m3, e26, ak_AI (show 26 < 392 by decide) (show 392 < 2 ^ 31 by decide), h26, ha, hb, hm, one_ne, not_false_eq_true, if_false, if_true, c3, k5, e6, hs6, eq_self]
  · obtain ⟨c1, c2, c3, c4⟩ := hin
    rw [if_pos (by omega)] at ha hb
    rw [if_pos c4] at hm
    obtain ⟨x, rfl, hx⟩ : ∃ x : Nat, a = nI x ∧ x < 8 := ⟨a.toInt.toNat, i_of a c1.1, by omega⟩
    obtain ⟨y, rfl, hy⟩ : ∃ y : Nat, b = nI y ∧ y < 8 := ⟨b.toInt.toNat, i_of b c2.1, by omega⟩
    obtain ⟨w, rfl, hw8⟩ : ∃ w : Nat, m = nI w ∧ w < 61 := ⟨m.toInt.toNat, i_of m (by omega), by omega⟩
    rw [nI_toInt (show x < 2 ^ 31 by omega), nI_toInt (show y < 2 ^ 31 by omega), nI_toInt (show w < 2 ^ 31 by omega), Int.toNat_natCast, Int.toNat_natCast, Int.toNat_natCast]
    have K : ∀ k, (k < 87 ∨ 87 < k) → (k < 91 ∨ 93 < k) → am_at (am_set (am_set (am_set (am_set h 91 (AI 6 (fun k => nI (updn sF sn x k)))) 92 (AI 6 (fun k => nI (updn sT sn y k)))) 93 (AI 6 (fun k => nI (updn sK sn w k)))) 87 (md0 (nI u) (nI n) (nI (sn + 1)) fi be rF rP cl dg)) k = am_at h k := fun k z1 z2 => by rw [at_set_ne (by omega), at_set_ne (by omega), at_set_ne (by omega), at_set_ne (by omega)]
    refine ⟨_, ?_, ⟨⟨fi, be, rF, rP, cl, dg, at_set_eq⟩, ⟨f, by rw [K _ (by omega) (by omega)]; exact h2, h2'⟩, by rw [K _ (by omega) (by omega)]; exact h3, ⟨by rw [K _ (by omega) (by omega)]; exact h4.1, by rw [at_set_ne (by decide), at_set_ne (by decide), at_set_ne (by decide), at_set_eq], by rw [at_set_ne (by decide), at_set_ne (by decide), at_set_eq], by rw [at_set_ne (by decide), at_set_eq]⟩, h5.keep (fun k _ => K k (by omega) (by omega)), h6.keep (fun k _ _ => K k (by omega) (by omega))⟩, ⟨rfl, rfl, fun k hk => K k (by omega) (by omega)⟩⟩
    have h1' := h1
    unfold md0 at h1'
    have y1 : ∀ c, am_at (am_set h 91 c) 87 = am_at h 87 := fun c => at_set_ne (by decide)
    have y2 : ∀ c c', am_at (am_set (am_set h 91 c) 92 c') 87 = am_at h 87 := fun c c' => by rw [at_set_ne (by decide), at_set_ne (by decide)]
    have y3 : ∀ c c' c'', am_at (am_set (am_set (am_set h 91 c) 92 c') 93 c'') 87 = am_at h 87 := fun c c' c'' => by rw [at_set_ne (by decide), at_set_ne (by decide), at_set_ne (by decide)]
    have z2 : ∀ c, am_at (am_set h 91 c) 92 = am_at h 92 := fun c => at_set_ne (by decide)
    have z3 : ∀ c c', am_at (am_set (am_set h 91 c) 92 c') 93 = am_at h 93 := fun c c' => by rw [at_set_ne (by decide), at_set_ne (by decide)]
    refine (b_189 _ _ _).trans ?_; show am_ev _ 189 0 [some (.ref 87), some (.int (nI x)), some (.int (nI y)), some (.int (nI w))] [] _ = _
    simp only [e_189_0, e_189_1, e_189_2, e_189_3, e_189_4, e_189_7, e_189_9, e_189_10, e_189_11, e_189_12, e_189_13, e_189_16, e_189_19, e_189_20, e_189_21, e_189_22, e_189_23, e_189_26, e_189_28, e_189_29, e_189_30, e_189_31, e_189_32, e_189_35, e_189_38, e_189_39, e_189_40, e_189_43, e_189_44, e_189_45, e_189_46, e_189_49, e_189_52, e_189_55, e_189_57, e_189_58, e_189_59, e_189_62, e_189_64, e_189_67, e_189_69, e_189_70, e_189_71, e_189_74, e_189_75, e_189_78, e_189_79, e_189_80, e_189_81, e_189_84, e_189_85, e_189_88, e_189_89, e_189_90, e_189_91, e_189_94, e_189_95, e_189_98, e_189_99, e_189_100, e_189_101, e_189_102, e_189_105, e_189_106, e_189_107, e_189_110, e_189_111, e_189_114, lg_n, lg_i, lg_r, wd_nil, am_wd_i, am_wd_r, am_wd_l, am_gk_s, am_fld_s, List.getElem?_cons_zero, List.getElem?_cons_succ, am_bk_v, am_bk_n, bo_0, bo_1, am_pk_s, List.length_cons, List.length_nil, Nat.zero_add, List.set_cons_zero, List.set_cons_succ, Nat.reduceAdd, Nat.reduceLeDiff, Nat.reduceLT, y1, y2, y3, z2, z3, h1', h2, e26, ak_AI (show 26 < 392 by decide) (show 392 < 2 ^ 31 by decide), h26, ha, hb, hm, one_ne, not_false_eq_true, if_false, if_true, c3, e6, nI_eq (show sn < 2 ^ 31 by omega) (show 6 < 2 ^ 31 by decide), if_neg (show ¬ sn = 6 by omega), h4.2.1, h4.2.2.1, h4.2.2.2, sk_AI hs6 (show 6 < 2 ^ 31 by decide), st_AI hs6 (show 6 < 2 ^ 31 by decide), updn_map nI, nI_1, at_set_eq]
    rfl
theorem n_forget (hM : MI h P σ u pa kp ke t n sn sF sT sK nz nt) : ∃ h', am_cal (d + 8) 190 [.ref 87] h = some (some (.int (nI sn)), h') ∧ MI h' P σ u pa kp ke t n 0 sF sT sK nz nt ∧ FM h h' := by
  obtain ⟨⟨fi, be, rF, rP, cl, dg, h1⟩, ⟨f, h2, h2'⟩, h3, h4, h5, h6⟩ := id hM
  have h1' := h1
  unfold md0 at h1'
  refine ⟨am_set h 87 (md0 (nI u) (nI n) (nI 0) fi be rF rP cl dg), ?_, ⟨⟨fi, be, rF, rP, cl, dg, at_set_eq⟩, ⟨f, by rw [at_set_ne (by decide)]; exact h2, h2'⟩, by rw [at_set_ne (by decide)]; exact h3, h4.keep (fun k _ _ => at_set_ne (by omega)), h5.keep (fun k _ => at_set_ne (by omega)), h6.keep (fun k _ _ => at_set_ne (by omega))⟩, FM.set (by decide) (by decide)⟩
  refine (b_190 _ _ _).trans ?_; show am_ev _ 190 0 [some (.ref 87), none] [] _ = _
  simp only [e_190_0, e_190_1, e_190_4, e_190_5, e_190_6, e_190_7, e_190_10, e_190_11, lg_n, lg_i, lg_r, wd_nil, am_wd_i, am_wd_r, am_wd_l, am_gk_s, am_fld_s, List.getElem?_cons_zero, List.getElem?_cons_succ, am_bk_v, am_bk_n, bo_0, bo_1, am_pk_s, List.length_cons, List.length_nil, Nat.zero_add, List.set_cons_zero, List.set_cons_succ, Nat.reduceAdd, Nat.reduceLeDiff, Nat.reduceLT, h1']
  rfl
end MI
