/-! the model's calls: notes changed -/
theorem thc_wv {w v : Int32} (hw : 0 ≤ w.toInt ∧ w.toInt ≤ 2) (hv : -9999 ≤ v.toInt ∧ v.toInt ≤ 9999) : nI (thc w v / 100000) = w ∧ nI (thc w v % 100000) - 50000 = v := by
  obtain ⟨ok, -, h1, h2⟩ := thc_ok hw hv
  refine ⟨by rw [h1]; exact (i_of w hw.1).symm, ?_⟩
  rw [i_eq, show (50000 : Int32) = nI 50000 by decide +kernel, i_sub (by have := ok.2.2; omega) (by decide), h2]
  omega
section MI
variable {d : Nat} {h : am_H} {P : Pn} {σ : Hn} {u : Nat} {pa : Nat → Hn} {kp : Nat → Bool} {ke : Nat → Hn} {t : Nat → Nat} {n sn : Nat} {sF sT sK : Nat → Nat} {nz : Nat → Nat} {nt : Nat → Nat → Nat}
theorem n_insert (hM : MI h P σ u pa kp ke t n sn sF sT sK nz nt) (oP : OKP P) (hz : ∀ i, i < 3 → nz i ≤ 13) (x i w v : Int32) : (rfT P x w v ≠ 0 → am_cal (d + 8) 199 [.ref 87, .int x, .int i, .int w, .int v] h = some (some (.int (rfT P x w v)), h)) ∧ (rfT P x w v = 0 → nz x.toInt.toNat = 0 → am_cal (d + 8) 199 [.ref 87, .int x, .int i, .int w, .int v] h = some (some (.int (-11)), h)) ∧ (rfT P x w v = 0 → nz x.toInt.toNat ≠ 0 → ¬ (0 ≤ i.toInt ∧ i.toInt ≤ (nz x.toInt.toNat : Int) - 1) → am_cal (d + 8) 199 [.ref 87, .int x, .int i, .int w, .int v] h = some (some (.int (-12)), h)) ∧ (rfT P x w v = 0 → 0 ≤ i.toInt ∧ i.toInt ≤ (nz x.toInt.toNat : Int) - 1 → nz x.toInt.toNat = 13 → am_cal (d + 8) 199 [.ref 87, .int x, .int i, .int w, .int v] h = some (some (.int (-15)), h)) ∧ (rfT P x w v = 0 → 0 ≤ i.toInt ∧ i.toInt ≤ (nz x.toInt.toNat : Int) - 1 → nz x.toInt.toNat < 13 → ∃ h', am_cal (d + 8) 199 [.ref 87, .int x, .int i, .int w, .int v] h = some (some (.int (nI (nz x.toInt.toNat))), h') ∧ MI h' P σ u pa kp ke t n sn sF sT sK (updn nz x.toInt.toNat (nz x.toInt.toNat + 1)) (thn nt x.toInt.toNat (insN (nt x.toInt.toNat) i.toInt.toNat (thc w v))) ∧ FM h h') := by
  have hns := m_noSuch (d := d + 4) hM oP hz x w v
  refine ⟨fun hne => ?_, ?_⟩
  · rw [if_pos hne] at hns
    obtain ⟨S, V, TS, TV, ⟨⟨f9, f10, f11, f30, f31, fis⟩, q1, q2, q3, q4, q5⟩, hS⟩ := hM.mq
    refine (b_199 _ _ _).trans ?_; show am_ev _ 199 0 [some (.ref 87), some (.int x), some (.int i), some (.int w), some (.int v), none] [] _ = _
    simp only [e_199_0, e_199_1, e_199_2, e_199_3, e_199_5, e_199_8, e_199_10, e_199_12, e_199_15, e_199_17, lg_n, lg_i, lg_r, wd_nil, am_wd_i, am_wd_r, am_wd_l, am_gk_s, am_fld_s, List.getElem?_cons_zero, List.getElem?_cons_succ, am_bk_v, am_bk_n, bo_0, bo_1, am_pk_s, List.length_cons, List.length_nil, Nat.zero_add, List.set_cons_zero, List.set_cons_succ, Nat.reduceAdd, Nat.reduceLeDiff, Nat.reduceLT, fis, hns, if_neg hne]
  · have main : rfT P x w v = 0 → (nz x.toInt.toNat = 0 → am_cal (d + 8) 199 [.ref 87, .int x, .int i, .int w, .int v] h = some (some (.int (-11)), h)) ∧ (nz x.toInt.toNat ≠ 0 → ¬ (0 ≤ i.toInt ∧ i.toInt ≤ (nz x.toInt.toNat : Int) - 1) → am_cal (d + 8) 199 [.ref 87, .int x, .int i, .int w, .int v] h = some (some (.int (-12)), h)) ∧ (0 ≤ i.toInt ∧ i.toInt ≤ (nz x.toInt.toNat : Int) - 1 → nz x.toInt.toNat = 13 → am_cal (d + 8) 199 [.ref 87, .int x, .int i, .int w, .int v] h = some (some (.int (-15)), h)) ∧ (0 ≤ i.toInt ∧ i.toInt ≤ (nz x.toInt.toNat : Int) - 1 → nz x.toInt.toNat < 13 → ∃ h', am_cal (d + 8) 199 [.ref 87, .int x, .int i, .int w, .int v] h = some (some (.int (nI (nz x.toInt.toNat))), h') ∧ MI h' P σ u pa kp ke t n sn sF sT sK (updn nz x.toInt.toNat (nz x.toInt.toNat + 1)) (thn nt x.toInt.toNat (insN (nt x.toInt.toNat) i.toInt.toNat (thc w v))) ∧ FM h h') := by
      intro h0
      obtain ⟨hx, hw, hv, -, -⟩ := rfT_0 oP.2.2.2.1 h0
      obtain ⟨t1, t2⟩ := thc_wv hw hv
      rw [if_neg (not_not_intro h0)] at hns
      obtain ⟨q, rfl, hq⟩ : ∃ q : Nat, x = nI q ∧ q < 3 := ⟨x.toInt.toNat, i_of x hx.1, by omega⟩
      rw [nI_toInt (show q < 2 ^ 31 by omega), Int.toNat_natCast] at hns ⊢
      have hzq := hz q hq
      obtain ⟨S, V, TS, TV, hQ, hS⟩ := hM.mq
      obtain ⟨⟨f9, f10, f11, f30, f31, fis⟩, q1, q2, q3, q4, q5⟩ := id hQ
      refine ⟨fun hm => ?_, fun hm hi => ?_, fun hi h13 => ?_, fun hi h13 => ?_⟩
      · rw [if_pos hm] at hns
        refine (b_199 _ _ _).trans ?_; show am_ev _ 199 0 [some (.ref 87), some (.int (nI q)), some (.int i), some (.int w), some (.int v), none] [] _ = _
        simp only [e_199_0, e_199_1, e_199_2, e_199_3, e_199_5, e_199_8, e_199_10, e_199_12, e_199_15, e_199_17, lg_n, lg_i, lg_r, wd_nil, am_wd_i, am_wd_r, am_wd_l, am_gk_s, am_fld_s, List.getElem?_cons_zero, List.getElem?_cons_succ, am_bk_v, am_bk_n, bo_0, bo_1, am_pk_s, List.length_cons, List.length_nil, Nat.zero_add, List.set_cons_zero, List.set_cons_succ, Nat.reduceAdd, Nat.reduceLeDiff, Nat.reduceLT, fis, hns, show ((-11 : Int32) = 0) = False by decide, if_false]
      · rw [if_neg hm] at hns
        obtain ⟨s, hs⟩ : ∃ s, nz q = s + 1 := ⟨nz q - 1, by omega⟩
        have hc2 : cI (nz q + 1) = nI s := by rw [hs, cI_s]
        have hin := m_in (d := d + 6) (h := h) i.toInt64 0 (nI s).toInt64
        rw [l_in32, l_in32, show (0 : Int64).toInt = 0 from rfl, nI_toInt (show s < 2 ^ 31 by omega), if_neg (by omega)] at hin
        refine (b_199 _ _ _).trans ?_; show am_ev _ 199 0 [some (.ref 87), some (.int (nI q)), some (.int i), some (.int w), some (.int v), none] [] _ = _
        simp only [e_199_0, e_199_1, e_199_2, e_199_3, e_199_5, e_199_8, e_199_10, e_199_12, e_199_15, e_199_17, e_199_18, e_199_19, e_199_20, e_199_21, e_199_22, e_199_25, e_199_26, e_199_27, e_199_28, e_199_31, e_199_34, e_199_36, e_199_37, e_199_38, e_199_41, e_199_42, e_199_43, e_199_45, e_199_48, e_199_50, e_199_51, e_199_52, e_199_53, e_199_54, e_199_55, e_199_58, e_199_59, e_199_62, e_199_64, e_199_65, e_199_66, e_199_67, e_199_68, e_199_69, e_199_70, e_199_71, e_199_74, e_199_76, e_199_77, e_199_78, e_199_79, e_199_80, e_199_82, e_199_83, e_199_84, e_199_87, e_199_88, e_199_89, lg_n, lg_i, lg_r, wd_nil, am_wd_i, am_wd_r, am_wd_l, am_gk_s, am_fld_s, List.getElem?_cons_zero, List.getElem?_cons_succ, am_bk_v, am_bk_n, bo_0, bo_1, am_pk_s, List.length_cons, List.length_nil, Nat.zero_add, List.set_cons_zero, List.set_cons_succ, Nat.reduceAdd, Nat.reduceLeDiff, Nat.reduceLT, fis, hns, if_true, f9, q1, ak_AI hq (show 3 < 2 ^ 31 by decide), hc2, hin, not_true_eq_false, if_false]
      · have hm : ¬ nz q = 0 := by omega
        rw [if_neg hm] at hns
        obtain ⟨s, hs⟩ : ∃ s, nz q = s + 1 := ⟨nz q - 1, by omega⟩
        have hc2 : cI (nz q + 1) = nI s := by rw [hs, cI_s]
        have hin := m_in (d := d + 6) (h := h) i.toInt64 0 (nI s).toInt64
        rw [l_in32, l_in32, show (0 : Int64).toInt = 0 from rfl, nI_toInt (show s < 2 ^ 31 by omega), if_pos (by omega)] at hin
        refine (b_199 _ _ _).trans ?_; show am_ev _ 199 0 [some (.ref 87), some (.int (nI q)), some (.int i), some (.int w), some (.int v), none] [] _ = _
        simp only [e_199_0, e_199_1, e_199_2, e_199_3, e_199_5, e_199_8, e_199_10, e_199_12, e_199_15, e_199_17, e_199_18, e_199_19, e_199_20, e_199_21, e_199_22, e_199_25, e_199_26, e_199_27, e_199_28, e_199_31, e_199_34, e_199_36, e_199_37, e_199_38, e_199_41, e_199_42, e_199_43, e_199_45, e_199_48, e_199_50, e_199_51, e_199_52, e_199_53, e_199_54, e_199_55, e_199_58, e_199_59, e_199_62, e_199_64, e_199_65, e_199_66, e_199_67, e_199_68, e_199_69, e_199_70, e_199_71, e_199_74, e_199_76, e_199_77, e_199_78, e_199_79, e_199_80, e_199_82, e_199_83, e_199_84, e_199_87, e_199_88, e_199_89, lg_n, lg_i, lg_r, wd_nil, am_wd_i, am_wd_r, am_wd_l, am_gk_s, am_fld_s, List.getElem?_cons_zero, List.getElem?_cons_succ, am_bk_v, am_bk_n, bo_0, bo_1, am_pk_s, List.length_cons, List.length_nil, Nat.zero_add, List.set_cons_zero, List.set_cons_succ, Nat.reduceAdd, Nat.reduceLeDiff, Nat.reduceLT, fis, hns, if_true, f9, q1, ak_AI hq (show 3 < 2 ^ 31 by decide), hc2, hin, one_ne, not_false_eq_true, if_false, show (12 : Int32) = nI 12 by decide +kernel, nI_eq (show s < 2 ^ 31 by omega) (show 12 < 2 ^ 31 by decide), if_pos (show s = 12 by omega)]
      · have hm : ¬ nz q = 0 := by omega
        rw [if_neg hm] at hns
        obtain ⟨s, hs⟩ : ∃ s, nz q = s + 1 := ⟨nz q - 1, by omega⟩
        have hc2 : cI (nz q + 1) = nI s := by rw [hs, cI_s]
        have hin := m_in (d := d + 6) (h := h) i.toInt64 0 (nI s).toInt64
        rw [l_in32, l_in32, show (0 : Int64).toInt = 0 from rfl, nI_toInt (show s < 2 ^ 31 by omega), if_pos (by omega)] at hin
        obtain ⟨y, rfl, hy⟩ : ∃ y : Nat, i = nI y ∧ y ≤ s := ⟨i.toInt.toNat, i_of i hi.1, by omega⟩
        rw [nI_toInt (show y < 2 ^ 31 by omega), Int.toNat_natCast]
        obtain ⟨h1, e1, Q1, F1⟩ := m_makeRoom (d := d + 6) hQ hq hy (show s + 1 ≤ 12 by omega) hc2
        rw [show nI 1 = 1 by decide +kernel] at e1
        have Q2 := Q1.sv (upd (mvI S (12 * q + s) 1 (12 * q + y)) (12 * q + y) w) (upd (mvI V (12 * q + s) 1 (12 * q + y)) (12 * q + y) v)
        refine ⟨_, ?_, hM.no (F1.tr ((FN.set (by omega)).tr (FN.set (by omega)))) Q2 (fun j hj => ?_) (fun j hj k hk => ?_), (F1.tr ((FN.set (by omega)).tr (FN.set (by omega)))).fm⟩
        · obtain ⟨⟨g9, g10, g11, g30, g31, gis⟩, r1, r2, r3, r4, r5⟩ := Q1
          have y87 : ∀ c, am_at (am_set h1 95 c) 87 = am_at h1 87 := fun c => at_set_ne (by decide)
          have y96 : ∀ c, am_at (am_set h1 95 c) 96 = am_at h1 96 := fun c => at_set_ne (by decide)
          have z87 : ∀ c c', am_at (am_set (am_set h1 95 c) 96 c') 87 = am_at h1 87 := fun c c' => by rw [at_set_ne (by decide), at_set_ne (by decide)]
          have z94 : ∀ c c', am_at (am_set (am_set h1 95 c) 96 c') 94 = am_at h1 94 := fun c c' => by rw [at_set_ne (by decide), at_set_ne (by decide)]
          have hup : upd (fun i => cI (nz i + 1)) q (nI (s + 1)) q = nI (s + 1) := pk_us
          refine (b_199 _ _ _).trans ?_; show am_ev _ 199 0 [some (.ref 87), some (.int (nI q)), some (.int (nI y)), some (.int w), some (.int v), none] [] _ = _
          simp only [e_199_0, e_199_1, e_199_2, e_199_3, e_199_5, e_199_8, e_199_10, e_199_12, e_199_15, e_199_17, e_199_18, e_199_19, e_199_20, e_199_21, e_199_22, e_199_25, e_199_26, e_199_27, e_199_28, e_199_31, e_199_34, e_199_36, e_199_37, e_199_38, e_199_41, e_199_42, e_199_43, e_199_45, e_199_48, e_199_50, e_199_51, e_199_52, e_199_53, e_199_54, e_199_55, e_199_58, e_199_59, e_199_62, e_199_64, e_199_65, e_199_66, e_199_67, e_199_68, e_199_69, e_199_70, e_199_71, e_199_74, e_199_76, e_199_77, e_199_78, e_199_79, e_199_80, e_199_82, e_199_83, e_199_84, e_199_87, e_199_88, e_199_89, lg_n, lg_i, lg_r, wd_nil, am_wd_i, am_wd_r, am_wd_l, am_gk_s, am_fld_s, List.getElem?_cons_zero, List.getElem?_cons_succ, am_bk_v, am_bk_n, bo_0, bo_1, am_pk_s, List.length_cons, List.length_nil, Nat.zero_add, List.set_cons_zero, List.set_cons_succ, Nat.reduceAdd, Nat.reduceLeDiff, Nat.reduceLT, fis, hns, if_true, f9, q1, ak_AI hq (show 3 < 2 ^ 31 by decide), hc2, hin, one_ne, not_false_eq_true, if_false, show (12 : Int32) = nI 12 by decide +kernel, nI_eq (show s < 2 ^ 31 by omega) (show 12 < 2 ^ 31 by decide), if_neg (show ¬ s = 12 by omega), e1, g10, g11, g9, r1, r2, r3, y87, y96, z87, z94, pk_mul, nI_add, sk_AI (show 12 * q + y < 36 by omega) (show 36 < 2 ^ 31 by decide), st_AI (show 12 * q + y < 36 by omega) (show 36 < 2 ^ 31 by decide), hup]
          rw [hs]
        · unfold upd updn
          by_cases e : j = q
          · rw [if_pos e, if_pos e, hs, cI_s]
          · rw [if_neg e, if_neg e]
        · unfold updn at hk
          unfold thn
          by_cases e : j = q
          · subst e
            rw [if_pos rfl] at hk ⊢
            unfold insN
            by_cases k1 : k < y
            · rw [if_pos k1, pk_un (by omega), pk_un (by omega)]
              unfold mvI
              rw [if_neg (by omega), if_neg (by omega)]
              exact hS j hj k (by omega)
            · rw [if_neg k1]
              by_cases k2 : k = y
              · rw [if_pos k2, k2, pk_us, pk_us]
                exact ⟨t1.symm, t2.symm⟩
              · rw [if_neg k2, pk_un (by omega), pk_un (by omega)]
                unfold mvI
                rw [if_pos (by omega), if_pos (by omega), show 12 * j + k - 1 = 12 * j + (k - 1) by omega]
                exact hS j hj (k - 1) (by omega)
          · rw [if_neg e] at hk ⊢
            have h1 := hS j hj k hk
            have := hz j hj
            rw [pk_un (by omega), pk_un (by omega)]
            unfold mvI
            rw [if_neg (by omega), if_neg (by omega)]
            exact h1
    exact ⟨fun h0 => (main h0).1, fun h0 => (main h0).2.1, fun h0 => (main h0).2.2.1, fun h0 => (main h0).2.2.2⟩
theorem n_look (hM : MI h P σ u pa kp ke t n sn sF sT sK nz nt) (hz : ∀ i, i < 3 → nz i ≤ 13 ∧ ∀ k, k + 1 < nz i → okT (nt i k)) (x i w : Int32) : am_cal (d + 8) 200 [.ref 87, .int x, .int i, .int w] h = some (some (.int (if ¬ (0 ≤ x.toInt ∧ x.toInt ≤ 2) then -2 else if ¬ (0 ≤ w.toInt ∧ w.toInt ≤ 2) then -3 else if nz x.toInt.toNat = 0 then -11 else if ¬ (0 ≤ i.toInt ∧ i.toInt ≤ (nz x.toInt.toNat : Int) - 2) then -12 else if nt x.toInt.toNat i.toInt.toNat / 100000 = w.toInt.toNat then nI (nt x.toInt.toNat i.toInt.toNat % 100000) - 50000 + (if w = 0 then 50000 else 0) else -14)), h) := by
  have hinn := m_isNotes (d := d + 5) (h := h) x
  have w1 := m_in (d := d + 6) (h := h) w.toInt64 0 2
  rw [l_in32, show (0 : Int64).toInt = 0 from rfl, show (2 : Int64).toInt = 2 from rfl] at w1
  obtain ⟨S, V, TS, TV, ⟨⟨f9, f10, f11, f30, f31, fis⟩, q1, q2, q3, q4, q5⟩, hS⟩ := hM.mq
  refine (b_200 _ _ _).trans ?_; show am_ev _ 200 0 [some (.ref 87), some (.int x), some (.int i), some (.int w), none] [] _ = _
  by_cases hA : 0 ≤ x.toInt ∧ x.toInt ≤ 2
  · rw [if_pos hA] at hinn
    rw [if_neg (not_not_intro hA)]
    by_cases hW : 0 ≤ w.toInt ∧ w.toInt ≤ 2
    · rw [if_pos hW] at w1
      rw [if_neg (not_not_intro hW)]
      obtain ⟨q, rfl, hq⟩ : ∃ q : Nat, x = nI q ∧ q < 3 := ⟨x.toInt.toNat, i_of x hA.1, by omega⟩
      rw [nI_toInt (show q < 2 ^ 31 by omega), Int.toNat_natCast]
      obtain ⟨hzq, hok⟩ := hz q hq
      by_cases hm : nz q = 0
      · rw [if_pos hm]
        have hc2 : cI (nz q + 1) = -1 := by rw [hm]; rfl
        simp only [e_200_0, e_200_1, e_200_4, e_200_7, e_200_9, e_200_10, e_200_11, e_200_12, e_200_13, e_200_16, e_200_19, e_200_22, e_200_24, e_200_25, e_200_26, e_200_29, e_200_30, e_200_31, e_200_34, e_200_36, e_200_37, e_200_38, e_200_39, e_200_40, e_200_41, e_200_44, e_200_45, e_200_46, e_200_47, e_200_48, e_200_49, e_200_52, e_200_55, e_200_57, e_200_58, e_200_60, e_200_61, e_200_62, e_200_63, e_200_64, e_200_66, e_200_67, e_200_70, e_200_72, e_200_73, e_200_74, e_200_77, e_200_79, e_200_82, e_200_83, e_200_86, e_200_87, e_200_90, e_200_92, e_200_93, e_200_96, e_200_97, e_200_100, e_200_101, e_200_104, e_200_106, e_200_107, lg_n, lg_i, lg_r, wd_nil, am_wd_i, am_wd_r, am_wd_l, am_gk_s, am_fld_s, List.getElem?_cons_zero, List.getElem?_cons_succ, am_bk_v, am_bk_n, bo_0, bo_1, am_pk_s, List.length_cons, List.length_nil, Nat.zero_add, List.set_cons_zero, List.set_cons_succ, Nat.reduceAdd, Nat.reduceLeDiff, Nat.reduceLT, hinn, w1, one_ne, not_false_eq_true, if_true, if_false, f9, q1, ak_AI hq (show 3 < 2 ^ 31 by decide), hc2, show ((0 : Int32) ≤ -1) = False by decide]
      · rw [if_neg hm]
        obtain ⟨s, hs⟩ : ∃ s, nz q = s + 1 := ⟨nz q - 1, by omega⟩
        have hc2 : cI (nz q + 1) = nI s := by rw [hs, cI_s]
        have hs1 : (nI s - 1).toInt = (s : Int) - 1 := by rw [show (1 : Int32) = nI 1 by decide +kernel, i_sub (by omega) (by omega)]; rfl
        have hin := m_in (d := d + 6) (h := h) i.toInt64 0 (nI s - 1).toInt64
        rw [l_in32, l_in32, show (0 : Int64).toInt = 0 from rfl, hs1] at hin
        by_cases hi : 0 ≤ i.toInt ∧ i.toInt ≤ (nz q : Int) - 2
        · rw [if_pos (by omega)] at hin
          rw [if_neg (not_not_intro hi)]
          obtain ⟨y, rfl, hy⟩ : ∃ y : Nat, i = nI y ∧ y < s := ⟨i.toInt.toNat, i_of i hi.1, by omega⟩
          rw [nI_toInt (show y < 2 ^ 31 by omega), Int.toNat_natCast]
          obtain ⟨s1, s2⟩ := hS q hq y (by omega)
          obtain ⟨o1, o2, o3⟩ := hok y (by omega)
          obtain ⟨z, rfl, hz3⟩ : ∃ z : Nat, w = nI z ∧ z < 3 := ⟨w.toInt.toNat, i_of w hW.1, by omega⟩
          rw [nI_toInt (show z < 2 ^ 31 by omega), Int.toNat_natCast]
          simp only [e_200_0, e_200_1, e_200_4, e_200_7, e_200_9, e_200_10, e_200_11, e_200_12, e_200_13, e_200_16, e_200_19, e_200_22, e_200_24, e_200_25, e_200_26, e_200_29, e_200_30, e_200_31, e_200_34, e_200_36, e_200_37, e_200_38, e_200_39, e_200_40, e_200_41, e_200_44, e_200_45, e_200_46, e_200_47, e_200_48, e_200_49, e_200_52, e_200_55, e_200_57, e_200_58, e_200_60, e_200_61, e_200_62, e_200_63, e_200_64, e_200_66, e_200_67, e_200_70, e_200_72, e_200_73, e_200_74, e_200_77, e_200_79, e_200_82, e_200_83, e_200_86, e_200_87, e_200_90, e_200_92, e_200_93, e_200_96, e_200_97, e_200_100, e_200_101, e_200_104, e_200_106, e_200_107, lg_n, lg_i, lg_r, wd_nil, am_wd_i, am_wd_r, am_wd_l, am_gk_s, am_fld_s, List.getElem?_cons_zero, List.getElem?_cons_succ, am_bk_v, am_bk_n, bo_0, bo_1, am_pk_s, List.length_cons, List.length_nil, Nat.zero_add, List.set_cons_zero, List.set_cons_succ, Nat.reduceAdd, Nat.reduceLeDiff, Nat.reduceLT, hinn, w1, one_ne, not_false_eq_true, if_true, if_false, f9, f10, f11, q1, q2, q3, ak_AI hq (show 3 < 2 ^ 31 by decide), hc2, nI_pos' (show s < 2 ^ 31 by omega), hin, show (12 : Int32) = nI 12 by decide +kernel, pk_mul, nI_add, ak_AI (show 12 * q + y < 36 by omega) (show 36 < 2 ^ 31 by decide), s1, s2, nI_eq (show nt q y / 100000 < 2 ^ 31 by omega) (show z < 2 ^ 31 by omega)]
          by_cases hsz : nt q y / 100000 = z
          · by_cases z0 : nI z = 0
            · simp [hsz, z0]
            · simp [hsz, z0]
          · simp [hsz]
        · rw [if_neg (by omega)] at hin
          rw [if_pos hi]
          simp only [e_200_0, e_200_1, e_200_4, e_200_7, e_200_9, e_200_10, e_200_11, e_200_12, e_200_13, e_200_16, e_200_19, e_200_22, e_200_24, e_200_25, e_200_26, e_200_29, e_200_30, e_200_31, e_200_34, e_200_36, e_200_37, e_200_38, e_200_39, e_200_40, e_200_41, e_200_44, e_200_45, e_200_46, e_200_47, e_200_48, e_200_49, e_200_52, e_200_55, e_200_57, e_200_58, e_200_60, e_200_61, e_200_62, e_200_63, e_200_64, e_200_66, e_200_67, e_200_70, e_200_72, e_200_73, e_200_74, e_200_77, e_200_79, e_200_82, e_200_83, e_200_86, e_200_87, e_200_90, e_200_92, e_200_93, e_200_96, e_200_97, e_200_100, e_200_101, e_200_104, e_200_106, e_200_107, lg_n, lg_i, lg_r, wd_nil, am_wd_i, am_wd_r, am_wd_l, am_gk_s, am_fld_s, List.getElem?_cons_zero, List.getElem?_cons_succ, am_bk_v, am_bk_n, bo_0, bo_1, am_pk_s, List.length_cons, List.length_nil, Nat.zero_add, List.set_cons_zero, List.set_cons_succ, Nat.reduceAdd, Nat.reduceLeDiff, Nat.reduceLT, hinn, w1, one_ne, not_false_eq_true, if_true, if_false, f9, q1, ak_AI hq (show 3 < 2 ^ 31 by decide), hc2, nI_pos' (show s < 2 ^ 31 by omega), hin, not_true_eq_false]
    · rw [if_neg hW] at w1
      rw [if_pos hW]
      simp only [e_200_0, e_200_1, e_200_4, e_200_7, e_200_9, e_200_10, e_200_11, e_200_12, e_200_13, e_200_16, e_200_19, e_200_22, e_200_24, e_200_25, e_200_26, e_200_29, e_200_30, e_200_31, e_200_34, e_200_36, e_200_37, e_200_38, e_200_39, e_200_40, e_200_41, e_200_44, e_200_45, e_200_46, e_200_47, e_200_48, e_200_49, e_200_52, e_200_55, e_200_57, e_200_58, e_200_60, e_200_61, e_200_62, e_200_63, e_200_64, e_200_66, e_200_67, e_200_70, e_200_72, e_200_73, e_200_74, e_200_77, e_200_79, e_200_82, e_200_83, e_200_86, e_200_87, e_200_90, e_200_92, e_200_93, e_200_96, e_200_97, e_200_100, e_200_101, e_200_104, e_200_106, e_200_107, lg_n, lg_i, lg_r, wd_nil, am_wd_i, am_wd_r, am_wd_l, am_gk_s, am_fld_s, List.getElem?_cons_zero, List.getElem?_cons_succ, am_bk_v, am_bk_n, bo_0, bo_1, am_pk_s, List.length_cons, List.length_nil, Nat.zero_add, List.set_cons_zero, List.set_cons_succ, Nat.reduceAdd, Nat.reduceLeDiff, Nat.reduceLT, hinn, w1, one_ne, not_false_eq_true, not_true_eq_false, if_true, if_false]
  · rw [if_neg hA] at hinn
    rw [if_pos hA]
    simp only [e_200_0, e_200_1, e_200_4, e_200_7, e_200_9, e_200_10, e_200_11, e_200_12, e_200_13, e_200_16, e_200_19, e_200_22, e_200_24, e_200_25, e_200_26, e_200_29, e_200_30, e_200_31, e_200_34, e_200_36, e_200_37, e_200_38, e_200_39, e_200_40, e_200_41, e_200_44, e_200_45, e_200_46, e_200_47, e_200_48, e_200_49, e_200_52, e_200_55, e_200_57, e_200_58, e_200_60, e_200_61, e_200_62, e_200_63, e_200_64, e_200_66, e_200_67, e_200_70, e_200_72, e_200_73, e_200_74, e_200_77, e_200_79, e_200_82, e_200_83, e_200_86, e_200_87, e_200_90, e_200_92, e_200_93, e_200_96, e_200_97, e_200_100, e_200_101, e_200_104, e_200_106, e_200_107, lg_n, lg_i, lg_r, wd_nil, am_wd_i, am_wd_r, am_wd_l, am_gk_s, am_fld_s, List.getElem?_cons_zero, List.getElem?_cons_succ, am_bk_v, am_bk_n, bo_0, bo_1, am_pk_s, List.length_cons, List.length_nil, Nat.zero_add, List.set_cons_zero, List.set_cons_succ, Nat.reduceAdd, Nat.reduceLeDiff, Nat.reduceLT, hinn, not_true_eq_false, if_true, if_false]
end MI
