/-! the model's calls: notes -/
section MI
variable {d : Nat} {h : am_H} {P : Pn} {σ : Hn} {u : Nat} {pa : Nat → Hn} {kp : Nat → Bool} {ke : Nat → Hn} {t : Nat → Nat} {n sn : Nat} {sF sT sK : Nat → Nat} {nz : Nat → Nat} {nt : Nat → Nat → Nat}
theorem MI.mq (hM : MI h P σ u pa kp ke t n sn sF sT sK nz nt) : ∃ S V TS TV : Nat → Int32, MQn h (fun i => cI (nz i + 1)) S V TS TV ∧ ∀ i, i < 3 → ∀ k, k + 1 < nz i → S (12 * i + k) = nI (nt i k / 100000) ∧ V (12 * i + k) = nI (nt i k % 100000) - 50000 := by
  obtain ⟨⟨fi, be, rF, rP, cl, dg, h1⟩, h2, h3, h4, ⟨h5, ⟨g1, g2, h6, h7, h8⟩, g3, g4, h9, h10⟩, h11⟩ := hM
  obtain ⟨k0, k1, k2, k3, k4, k5, k6, k7, k8, k9, k10, k11, k12⟩ := md_fl h1
  obtain ⟨r0, r1, r2, r3, r4, r5, r6, r7, r8, r9, r10, r11⟩ := md_fl2 h1
  exact ⟨g1, g2, g3, g4, ⟨⟨k9, k10, k11, r10, r11, k12⟩, h5, h6, h7, h9, h10⟩, h8⟩
/-- only the notes were written -/
theorem MI.no (hM : MI h P σ u pa kp ke t n sn sF sT sK nz nt) {h' : am_H} {nz' : Nat → Nat} {nt' : Nat → Nat → Nat} {Z S V TS TV : Nat → Int32} (hF : FN h h') (hQ : MQn h' Z S V TS TV) (hZ : ∀ i, i < 3 → Z i = cI (nz' i + 1)) (hS : ∀ i, i < 3 → ∀ k, k + 1 < nz' i → S (12 * i + k) = nI (nt' i k / 100000) ∧ V (12 * i + k) = nI (nt' i k % 100000) - 50000) : MI h' P σ u pa kp ke t n sn sF sT sK nz' nt' := by
  obtain ⟨⟨fi, be, rF, rP, cl, dg, h1⟩, ⟨f, h2, h2'⟩, h3, h4, h5, h6⟩ := hM
  have K := hF.2.2
  exact ⟨⟨fi, be, rF, rP, cl, dg, by rw [K _ (by omega)]; exact h1⟩, ⟨f, by rw [K _ (by omega)]; exact h2, h2'⟩, by rw [K _ (by omega)]; exact h3, h4.keep (fun k _ _ => K k (by omega)), ⟨by rw [hQ.2.1, AI_cong hZ], ⟨S, V, hQ.2.2.1, hQ.2.2.2.1, hS⟩, TS, TV, hQ.2.2.2.2.1, hQ.2.2.2.2.2⟩, h6.keep (fun k _ _ => K k (by omega))⟩
theorem m_isNotes (x : Int32) : am_cal (d + 2) 195 [.int x] h = some (some (.int (if 0 ≤ x.toInt ∧ x.toInt ≤ 2 then 1 else 0)), h) := by
  have hin := m_in (d := d) (h := h) x.toInt64 0 2
  rw [l_in32, show (0 : Int64).toInt = 0 from rfl, show (2 : Int64).toInt = 2 from rfl] at hin
  refine (b_195 _ _ _).trans ?_; show am_ev _ 195 0 [some (.int x)] [] _ = _
  by_cases c : 0 ≤ x.toInt ∧ x.toInt ≤ 2
  · rw [if_pos c] at hin ⊢
    simp only [e_195_0, e_195_1, e_195_2, e_195_3, e_195_6, e_195_9, lg_n, lg_i, lg_r, wd_nil, am_wd_i, am_wd_r, am_wd_l, am_gk_s, am_fld_s, List.getElem?_cons_zero, List.getElem?_cons_succ, am_bk_v, am_bk_n, bo_0, bo_1, am_pk_s, List.length_cons, List.length_nil, Nat.zero_add, List.set_cons_zero, List.set_cons_succ, Nat.reduceAdd, Nat.reduceLeDiff, Nat.reduceLT, hin]
  · rw [if_neg c] at hin ⊢
    simp only [e_195_0, e_195_1, e_195_2, e_195_3, e_195_6, e_195_9, lg_n, lg_i, lg_r, wd_nil, am_wd_i, am_wd_r, am_wd_l, am_gk_s, am_fld_s, List.getElem?_cons_zero, List.getElem?_cons_succ, am_bk_v, am_bk_n, bo_0, bo_1, am_pk_s, List.length_cons, List.length_nil, Nat.zero_add, List.set_cons_zero, List.set_cons_succ, Nat.reduceAdd, Nat.reduceLeDiff, Nat.reduceLT, hin]
theorem n_notes (hM : MI h P σ u pa kp ke t n sn sF sT sK nz nt) (x : Int32) : (¬ (0 ≤ x.toInt ∧ x.toInt ≤ 2) → am_cal (d + 8) 196 [.ref 87, .int x] h = some (some (.int (-2)), h)) ∧ (0 ≤ x.toInt ∧ x.toInt ≤ 2 → ∀ nt' : Nat → Nat → Nat, (∀ i, i ≠ x.toInt.toNat → nt' i = nt i) → ∃ h', am_cal (d + 8) 196 [.ref 87, .int x] h = some (some (.int 0), h') ∧ MI h' P σ u pa kp ke t n sn sF sT sK (updn nz x.toInt.toNat 1) nt' ∧ FM h h') := by
  have hin := m_isNotes (d := d + 5) (h := h) x
  refine ⟨fun hno => ?_, fun hc nt' hnt => ?_⟩
  · rw [if_neg hno] at hin
    refine (b_196 _ _ _).trans ?_; show am_ev _ 196 0 [some (.ref 87), some (.int x)] [] _ = _
    simp only [e_196_0, e_196_1, e_196_4, e_196_7, e_196_9, e_196_10, e_196_11, e_196_14, e_196_15, e_196_16, e_196_17, e_196_18, lg_n, lg_i, lg_r, wd_nil, am_wd_i, am_wd_r, am_wd_l, am_gk_s, am_fld_s, List.getElem?_cons_zero, List.getElem?_cons_succ, am_bk_v, am_bk_n, bo_0, bo_1, am_pk_s, List.length_cons, List.length_nil, Nat.zero_add, List.set_cons_zero, List.set_cons_succ, Nat.reduceAdd, Nat.reduceLeDiff, Nat.reduceLT, hin, not_true_eq_false, if_true, if_false]
  · rw [if_pos hc] at hin
    obtain ⟨q, rfl, hq⟩ : ∃ q : Nat, x = nI q ∧ q < 3 := ⟨x.toInt.toNat, i_of x hc.1, by omega⟩
    rw [nI_toInt (show q < 2 ^ 31 by omega), Int.toNat_natCast] at hnt ⊢
    obtain ⟨S, V, TS, TV, hQ, hS⟩ := hM.mq
    have hQ' := hQ.z (upd (fun i => cI (nz i + 1)) q 0)
    refine ⟨_, ?_, hM.no (FN.set (by omega)) hQ' (fun i hi => ?_) (fun i hi k hk => ?_), (FN.set (by omega)).fm⟩
    · obtain ⟨⟨f9, f10, f11, f30, f31, fis⟩, q1, q2, q3, q4, q5⟩ := hQ
      refine (b_196 _ _ _).trans ?_; show am_ev _ 196 0 [some (.ref 87), some (.int (nI q))] [] _ = _
      simp only [e_196_0, e_196_1, e_196_4, e_196_7, e_196_9, e_196_10, e_196_11, e_196_14, e_196_15, e_196_16, e_196_17, e_196_18, lg_n, lg_i, lg_r, wd_nil, am_wd_i, am_wd_r, am_wd_l, am_gk_s, am_fld_s, List.getElem?_cons_zero, List.getElem?_cons_succ, am_bk_v, am_bk_n, bo_0, bo_1, am_pk_s, List.length_cons, List.length_nil, Nat.zero_add, List.set_cons_zero, List.set_cons_succ, Nat.reduceAdd, Nat.reduceLeDiff, Nat.reduceLT, hin, one_ne, not_false_eq_true, if_true, if_false, f9, q1, sk_AI hq (show 3 < 2 ^ 31 by decide), st_AI hq (show 3 < 2 ^ 31 by decide)]
    · unfold upd updn
      by_cases e : i = q
      · rw [if_pos e, if_pos e]; rfl
      · rw [if_neg e, if_neg e]
    · unfold updn at hk
      by_cases e : i = q
      · rw [if_pos e] at hk; omega
      · rw [if_neg e] at hk
        rw [hnt i e]
        exact hS i hi k hk
theorem n_drop (hM : MI h P σ u pa kp ke t n sn sF sT sK nz nt) (hz : ∀ i, i < 3 → nz i ≤ 13) (x : Int32) : (¬ (0 ≤ x.toInt ∧ x.toInt ≤ 2) → am_cal (d + 8) 209 [.ref 87, .int x] h = some (some (.int (-2)), h)) ∧ (0 ≤ x.toInt ∧ x.toInt ≤ 2 → nz x.toInt.toNat = 0 → ∃ h', am_cal (d + 8) 209 [.ref 87, .int x] h = some (some (.int (-11)), h') ∧ MI h' P σ u pa kp ke t n sn sF sT sK nz nt ∧ FM h h') ∧ (0 ≤ x.toInt ∧ x.toInt ≤ 2 → nz x.toInt.toNat ≠ 0 → ∀ nt' : Nat → Nat → Nat, (∀ i, i ≠ x.toInt.toNat → nt' i = nt i) → ∃ h', am_cal (d + 8) 209 [.ref 87, .int x] h = some (some (.int (nI (nz x.toInt.toNat - 1))), h') ∧ MI h' P σ u pa kp ke t n sn sF sT sK (updn nz x.toInt.toNat 0) nt' ∧ FM h h') := by
  have hin := m_isNotes (d := d + 5) (h := h) x
  refine ⟨fun hno => ?_, fun hc hm => ?_, fun hc hm nt' hnt => ?_⟩
  · rw [if_neg hno] at hin
    refine (b_209 _ _ _).trans ?_; show am_ev _ 209 0 [some (.ref 87), some (.int x), none] [] _ = _
    simp only [e_209_0, e_209_1, e_209_4, e_209_7, e_209_9, e_209_10, e_209_11, e_209_14, e_209_15, e_209_16, e_209_17, e_209_18, e_209_21, e_209_22, e_209_23, e_209_24, e_209_25, e_209_28, e_209_30, e_209_33, e_209_34, lg_n, lg_i, lg_r, wd_nil, am_wd_i, am_wd_r, am_wd_l, am_gk_s, am_fld_s, List.getElem?_cons_zero, List.getElem?_cons_succ, am_bk_v, am_bk_n, bo_0, bo_1, am_pk_s, List.length_cons, List.length_nil, Nat.zero_add, List.set_cons_zero, List.set_cons_succ, Nat.reduceAdd, Nat.reduceLeDiff, Nat.reduceLT, hin, not_true_eq_false, if_true, if_false]
  · rw [if_pos hc] at hin
    obtain ⟨q, rfl, hq⟩ : ∃ q : Nat, x = nI q ∧ q < 3 := ⟨x.toInt.toNat, i_of x hc.1, by omega⟩
    rw [nI_toInt (show q < 2 ^ 31 by omega), Int.toNat_natCast] at hm
    obtain ⟨S, V, TS, TV, hQ, hS⟩ := hM.mq
    have hQ' := hQ.z (upd (fun i => cI (nz i + 1)) q (-1))
    refine ⟨_, ?_, hM.no (FN.set (by omega)) hQ' (fun i hi => ?_) hS, (FN.set (by omega)).fm⟩
    · obtain ⟨⟨f9, f10, f11, f30, f31, fis⟩, q1, q2, q3, q4, q5⟩ := hQ
      have hneg : cI (nz q + 1) < 0 := (cI_neg (by omega)).2 hm
      refine (b_209 _ _ _).trans ?_; show am_ev _ 209 0 [some (.ref 87), some (.int (nI q)), none] [] _ = _
      simp only [e_209_0, e_209_1, e_209_4, e_209_7, e_209_9, e_209_10, e_209_11, e_209_14, e_209_15, e_209_16, e_209_17, e_209_18, e_209_21, e_209_22, e_209_23, e_209_24, e_209_25, e_209_28, e_209_30, e_209_33, e_209_34, lg_n, lg_i, lg_r, wd_nil, am_wd_i, am_wd_r, am_wd_l, am_gk_s, am_fld_s, List.getElem?_cons_zero, List.getElem?_cons_succ, am_bk_v, am_bk_n, bo_0, bo_1, am_pk_s, List.length_cons, List.length_nil, Nat.zero_add, List.set_cons_zero, List.set_cons_succ, Nat.reduceAdd, Nat.reduceLeDiff, Nat.reduceLT, hin, one_ne, not_false_eq_true, if_true, if_false, f9, q1, ak_AI hq (show 3 < 2 ^ 31 by decide), sk_AI hq (show 3 < 2 ^ 31 by decide), st_AI hq (show 3 < 2 ^ 31 by decide), if_neg (show ¬ (0 : Int32) ≤ cI (nz q + 1) by rw [i_le, i_0]; rw [i_lt, i_0] at hneg; omega)]
    · unfold upd
      by_cases e : i = q
      · rw [if_pos e, e, hm]; rfl
      · rw [if_neg e]
  · rw [if_pos hc] at hin
    obtain ⟨q, rfl, hq⟩ : ∃ q : Nat, x = nI q ∧ q < 3 := ⟨x.toInt.toNat, i_of x hc.1, by omega⟩
    rw [nI_toInt (show q < 2 ^ 31 by omega), Int.toNat_natCast] at hnt hm ⊢
    obtain ⟨S, V, TS, TV, hQ, hS⟩ := hM.mq
    have hQ' := hQ.z (upd (fun i => cI (nz i + 1)) q (-1))
    have hzq := hz q hq
    refine ⟨_, ?_, hM.no (FN.set (by omega)) hQ' (fun i hi => ?_) (fun i hi k hk => ?_), (FN.set (by omega)).fm⟩
    · obtain ⟨⟨f9, f10, f11, f30, f31, fis⟩, q1, q2, q3, q4, q5⟩ := hQ
      obtain ⟨m, hm2⟩ : ∃ m, nz q = m + 1 := ⟨nz q - 1, by omega⟩
      have hc2 : cI (nz q + 1) = nI m := by rw [hm2, cI_s]
      rw [hm2, Nat.add_sub_cancel]
      refine (b_209 _ _ _).trans ?_; show am_ev _ 209 0 [some (.ref 87), some (.int (nI q)), none] [] _ = _
      simp only [e_209_0, e_209_1, e_209_4, e_209_7, e_209_9, e_209_10, e_209_11, e_209_14, e_209_15, e_209_16, e_209_17, e_209_18, e_209_21, e_209_22, e_209_23, e_209_24, e_209_25, e_209_28, e_209_30, e_209_33, e_209_34, lg_n, lg_i, lg_r, wd_nil, am_wd_i, am_wd_r, am_wd_l, am_gk_s, am_fld_s, List.getElem?_cons_zero, List.getElem?_cons_succ, am_bk_v, am_bk_n, bo_0, bo_1, am_pk_s, List.length_cons, List.length_nil, Nat.zero_add, List.set_cons_zero, List.set_cons_succ, Nat.reduceAdd, Nat.reduceLeDiff, Nat.reduceLT, hin, one_ne, not_false_eq_true, if_true, if_false, f9, q1, ak_AI hq (show 3 < 2 ^ 31 by decide), sk_AI hq (show 3 < 2 ^ 31 by decide), st_AI hq (show 3 < 2 ^ 31 by decide), hc2, if_pos (nI_pos' (show m < 2 ^ 31 by omega))]
    · unfold upd updn
      by_cases e : i = q
      · rw [if_pos e, if_pos e]; rfl
      · rw [if_neg e, if_neg e]
    · unfold updn at hk
      by_cases e : i = q
      · rw [if_pos e] at hk; omega
      · rw [if_neg e] at hk
        rw [hnt i e]
        exact hS i hi k hk
theorem m_noSuch (hM : MI h P σ u pa kp ke t n sn sF sT sK nz nt) (oP : OKP P) (hz : ∀ i, i < 3 → nz i ≤ 13) (x w v : Int32) : am_cal (d + 3) 197 [.ref 87, .int x, .int w, .int v] h = some (some (.int (if rfT P x w v ≠ 0 then rfT P x w v else if nz x.toInt.toNat = 0 then -11 else 0)), h) := by
  obtain ⟨f, h88, hR⟩ := hM.2.1
  have hB := hM.mb h88
  have hn := oP.2.2.2.1
  have hip := m_isPerson (d := d) hB hR.1 hn v
  have hinn := m_isNotes (d := d) (h := h) x
  have w1 := m_in (d := d + 1) (h := h) w.toInt64 0 2
  have w2 := m_in (d := d + 1) (h := h) v.toInt64 (-9999) 9999
  have w3 := m_in (d := d + 1) (h := h) v.toInt64 0 9
  rw [l_in32, show (0 : Int64).toInt = 0 from rfl, show (2 : Int64).toInt = 2 from rfl] at w1
  rw [l_in32, show (-9999 : Int64).toInt = -9999 from rfl, show (9999 : Int64).toInt = 9999 from rfl] at w2
  rw [l_in32, show (0 : Int64).toInt = 0 from rfl, show (9 : Int64).toInt = 9 from rfl] at w3
  obtain ⟨S, V, TS, TV, ⟨⟨f9, f10, f11, f30, f31, fis⟩, q1, q2, q3, q4, q5⟩, hS⟩ := hM.mq
  have last : 0 ≤ x.toInt ∧ x.toInt ≤ 2 → ∀ d', am_ev d' 197 73 [some (.ref 87), some (.int x), some (.int w), some (.int v)] [] h = some (some (.int (if nz x.toInt.toNat = 0 then -11 else 0)), h) := by
    intro hA d'
    obtain ⟨q, rfl, hq⟩ : ∃ q : Nat, x = nI q ∧ q < 3 := ⟨x.toInt.toNat, i_of x hA.1, by omega⟩
    rw [nI_toInt (show q < 2 ^ 31 by omega), Int.toNat_natCast]
    have hzq := hz q hq
    have hge : (0 : Int32) ≤ cI (nz q + 1) ↔ ¬ nz q = 0 := by
      have := cI_neg (show nz q < 2 ^ 30 by omega)
      rw [i_le, i_0]
      rw [i_lt, i_0] at this
      omega
    simp only [e_197_73, e_197_74, e_197_77, e_197_78, e_197_79, e_197_82, e_197_84, e_197_87, e_197_88, lg_n, lg_i, lg_r, wd_nil, am_wd_i, am_wd_r, am_wd_l, am_gk_s, am_fld_s, List.getElem?_cons_zero, List.getElem?_cons_succ, am_bk_v, am_bk_n, bo_0, bo_1, am_pk_s, List.length_cons, List.length_nil, Nat.zero_add, List.set_cons_zero, List.set_cons_succ, Nat.reduceAdd, Nat.reduceLeDiff, Nat.reduceLT, f9, q1, ak_AI hq (show 3 < 2 ^ 31 by decide), hge]
    by_cases hm : nz q = 0
    · simp [hm]
    · simp [hm]
  unfold rfT
  refine (b_197 _ _ _).trans ?_; show am_ev _ 197 0 [some (.ref 87), some (.int x), some (.int w), some (.int v)] [] _ = _
  simp only [e_197_0, e_197_1, e_197_4, e_197_7, e_197_8, e_197_9, e_197_12, e_197_13, e_197_14, e_197_17, e_197_20, e_197_22, e_197_23, e_197_24, e_197_25, e_197_26, e_197_29, e_197_32, e_197_35, e_197_36, e_197_39, e_197_40, e_197_41, e_197_44, e_197_47, e_197_50, e_197_53, e_197_54, e_197_55, e_197_58, e_197_59, e_197_60, e_197_61, e_197_64, e_197_67, e_197_70, e_197_72, lg_n, lg_i, lg_r, wd_nil, am_wd_i, am_wd_r, am_wd_l, am_gk_s, am_fld_s, List.getElem?_cons_zero, List.getElem?_cons_succ, am_bk_v, am_bk_n, bo_0, bo_1, am_pk_s, List.length_cons, List.length_nil, Nat.zero_add, List.set_cons_zero, List.set_cons_succ, Nat.reduceAdd, Nat.reduceLeDiff, Nat.reduceLT, fis, hinn, hip, w1, w2, w3, z_if]
  by_cases hA : 0 ≤ x.toInt ∧ x.toInt ≤ 2
  · have last' := last hA
    by_cases ww1 : w = 1
    · subst ww1
      by_cases hB : 0 ≤ v.toInt ∧ v.toInt < P.2.2.2.1
      · have hE : 0 ≤ (1 : Int32).toInt ∧ (1 : Int32).toInt ≤ 2 := by decide
        simp only [hA, hB, hE, not_true_eq_false, if_false, if_true, and_self, and_false, or_self, one_ne, false_and, show ((1 : Int32) = 2) = False by decide, last', ne_eq]
      · simp only [hA, hB, not_true_eq_false, not_false_eq_true, if_false, if_true, and_self, or_true, ne_eq, show ((-2 : Int32) = 0) = False by decide]
    · by_cases hE : 0 ≤ w.toInt ∧ w.toInt ≤ 2
      · by_cases w0 : w = 0
        · subst w0
          by_cases hF : -9999 ≤ v.toInt ∧ v.toInt ≤ 9999
          · simp only [hA, hE, hF, ww1, not_true_eq_false, if_false, if_true, and_self, and_false, false_and, or_self, show ((0 : Int32) = 2) = False by decide, last', ne_eq]
          · simp only [hA, hE, hF, ww1, not_true_eq_false, not_false_eq_true, if_false, if_true, and_self, and_false, false_and, or_self, true_or, or_true, ne_eq, show ((-3 : Int32) = 0) = False by decide]
        · by_cases ww2 : w = 2
          · subst ww2
            by_cases hG : 0 ≤ v.toInt ∧ v.toInt ≤ 9
            · simp only [hA, hE, hG, ww1, w0, not_true_eq_false, if_false, if_true, and_self, and_false, false_and, or_self, last', ne_eq]
            · simp only [hA, hE, hG, ww1, w0, not_true_eq_false, not_false_eq_true, if_false, if_true, and_self, and_false, false_and, or_self, or_true, ne_eq, show ((-3 : Int32) = 0) = False by decide]
          · simp only [hA, hE, ww1, w0, ww2, not_true_eq_false, if_false, and_self, false_and, or_self, last', ne_eq]
      · simp only [hA, hE, ww1, not_true_eq_false, not_false_eq_true, if_false, if_true, and_self, false_and, or_self, true_or, ne_eq, show ((-3 : Int32) = 0) = False by decide]
  · simp only [hA, not_false_eq_true, if_true, true_or, ne_eq, show ((-2 : Int32) = 0) = False by decide]
end MI
