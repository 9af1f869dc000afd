/-! the model's calls: stairs, undo, keep, back, count -/
section MI
variable {d : Nat} {h : am_H} {P : Pn} {σ : Hn} {u : Nat} {pa : Nat → Hn} {kp : Nat → Bool} {ke : Nat → Hn} {t : Nat → Nat} {n sn : Nat} {sF sT sK : Nat → Nat} {nz : Nat → Nat} {nt : Nat → Nat → Nat}
theorem n_stairs (hM : MI h P σ u pa kp ke t n sn sF sT sK nz nt) (oP : OKP P) (hu : u ≤ 8) (p : Int32) : (¬ (0 ≤ p.toInt ∧ p.toInt < P.2.2.2.1) → am_cal (d + 8) 169 [.ref 87, .int p] h = some (some (.int (-2)), h)) ∧ (0 ≤ p.toInt ∧ p.toInt < P.2.2.2.1 → σ.2.2.1 p.toInt.toNat ≠ 0 → am_cal (d + 8) 169 [.ref 87, .int p] h = some (some (.int (-4)), h)) ∧ (0 ≤ p.toInt ∧ p.toInt < P.2.2.2.1 → σ.2.2.1 p.toInt.toNat = 0 → ∃ h', am_cal (d + 8) 169 [.ref 87, .int p] h = some (some (.int (nI (cntN (fun q => updn σ.2.2.1 p.toInt.toNat 1 q == 0) P.2.2.2.1))), h') ∧ MI h' P (σ.1, σ.2.1, updn σ.2.2.1 p.toInt.toNat 1, σ.2.2.2) (min (u + 1) 8) (pushN u pa σ) kp ke t n sn sF sT sK nz nt ∧ FM h h') := by
  obtain ⟨f, h88, hR⟩ := hM.2.1
  have hB := hM.mb h88
  have hn := oP.2.2.2.1
  have hip := m_isPerson (d := d + 5) hB hR.1 hn p
  obtain ⟨m0, m1, m2, m3, m4⟩ := id hB
  refine ⟨fun hno => ?_, fun hc hx => ?_, fun hc hx => ?_⟩
  · rw [if_neg hno] at hip
    refine (b_169 _ _ _).trans ?_; show am_ev _ 169 0 [some (.ref 87), some (.int p)] [] _ = _
    simp only [e_169_0, e_169_1, e_169_2, e_169_5, e_169_8, e_169_10, e_169_11, e_169_12, lg_n, lg_i, lg_r, wd_nil, am_wd_i, am_wd_r, am_wd_l, am_gk_s, am_fld_s, List.getElem?_cons_zero, List.getElem?_cons_succ, am_bk_v, am_bk_n, bo_0, bo_1, am_pk_s, List.length_cons, List.length_nil, Nat.zero_add, List.set_cons_zero, List.set_cons_succ, Nat.reduceAdd, Nat.reduceLeDiff, Nat.reduceLT, m2, hip, not_true_eq_false, if_true, if_false]
  · rw [if_pos hc] at hip
    obtain ⟨q, rfl, hq⟩ : ∃ q : Nat, p = nI q ∧ q < P.2.2.2.1 := ⟨p.toInt.toNat, i_of p hc.1, by omega⟩
    rw [nI_toInt (show q < 2 ^ 31 by omega), Int.toNat_natCast] at hx
    obtain ⟨a1, a2, a3⟩ := hR.2.1.1 q (by omega)
    rw [Nat.zero_add] at a1
    refine (b_169 _ _ _).trans ?_; show am_ev _ 169 0 [some (.ref 87), some (.int (nI q))] [] _ = _
    simp only [e_169_0, e_169_1, e_169_2, e_169_5, e_169_8, e_169_10, e_169_11, e_169_12, e_169_15, e_169_16, e_169_17, e_169_18, e_169_19, e_169_22, e_169_24, e_169_25, e_169_26, e_169_29, e_169_30, e_169_33, e_169_34, e_169_35, e_169_36, e_169_37, e_169_38, e_169_39, e_169_40, e_169_43, e_169_46, lg_n, lg_i, lg_r, wd_nil, am_wd_i, am_wd_r, am_wd_l, am_gk_s, am_fld_s, List.getElem?_cons_zero, List.getElem?_cons_succ, am_bk_v, am_bk_n, bo_0, bo_1, am_pk_s, List.length_cons, List.length_nil, Nat.zero_add, List.set_cons_zero, List.set_cons_succ, Nat.reduceAdd, Nat.reduceLeDiff, Nat.reduceLT, m0, m2, m3, hip, one_ne, not_false_eq_true, if_true, if_false, Int32.zero_add, ak_AI (show q < 392 by omega) (show 392 < 2 ^ 31 by decide), a1, sI_0, if_neg hx]
  · rw [if_pos hc] at hip
    obtain ⟨q, rfl, hq⟩ : ∃ q : Nat, p = nI q ∧ q < P.2.2.2.1 := ⟨p.toInt.toNat, i_of p hc.1, by omega⟩
    rw [nI_toInt (show q < 2 ^ 31 by omega), Int.toNat_natCast] at hx ⊢
    obtain ⟨a1, a2, a3⟩ := hR.2.1.1 q (by omega)
    rw [Nat.zero_add] at a1
    obtain ⟨h1, e1, M1, F1⟩ := m_keepPast (d := d + 5) hM hn hu
    obtain ⟨f1, h881, hR1⟩ := M1.2.1
    have hB1 := M1.mb h881
    obtain ⟨f', hf'⟩ : ∃ f', f' = upd f1 q 2 := ⟨_, rfl⟩
    have R' : RowH f' 0 (σ.1, σ.2.1, updn σ.2.2.1 q 1, σ.2.2.2) := by
      refine ⟨fun r hr => ?_, by rw [hf', pk_un (by omega)]; exact hR1.2.1.2.1, by rw [hf', pk_un (by omega)]; exact hR1.2.1.2.2⟩
      obtain ⟨b1, b2, b3⟩ := hR1.2.1.1 r hr
      refine ⟨?_, ?_, by rw [hf', pk_un (by omega)]; exact b3⟩
      · by_cases e : r = q
        · subst e; rw [hf', Nat.zero_add, pk_us]; simp [updn, sI]
        · rw [hf', pk_un (by omega), b1]; simp [updn, e]
      · by_cases e : r = q
        · subst e; rw [hf', pk_un (by omega), b2]; simp [updn, hx, cI]
        · rw [hf', pk_un (by omega), b2]; simp [updn, e]
    have S' : RS f1 f' 0 := fun k hk => by rw [hf', pk_un (by omega)]
    have M2 := M1.row (hR1.now hn (by omega) R' S')
    refine ⟨_, ?_, M2, F1.tr (FM.set (by decide) (by decide))⟩
    have hB2 := hB1.set f'
    obtain ⟨f2, h882, hR2⟩ := M2.2.1
    have hth := m_those (d := d + 6) hB2 (hR1.1.rs hn (Or.inl rfl) S') R' hn 0
    obtain ⟨w0, w1, w2, w3, w4⟩ := id hB1
    obtain ⟨v0, v1, v2, v3, v4⟩ := hB2
    have hbl := bitsN_lt (fun r => sI (updn σ.2.2.1 q 1 r) == 0) P.2.2.2.1
    have hb2 : 2 ^ P.2.2.2.1 ≤ 2 ^ 8 := Nat.pow_le_pow_right (by decide) hn
    have hcn : cntN (fun i => (bitsN (fun r => sI (updn σ.2.2.1 q 1 r) == 0) P.2.2.2.1).testBit i) 14 = cntN (fun r => updn σ.2.2.1 q 1 r == 0) P.2.2.2.1 := by
      rw [cnt_bits14 _ (by omega)]
      exact cntN_cong (fun k _ => (sI_b _).1)
    have hbt := m_bits (d := d + 6) (h := am_set h1 88 (AI 392 f')) (show bitsN (fun r => sI (updn σ.2.2.1 q 1 r) == 0) P.2.2.2.1 < 2 ^ 31 by omega)
    rw [hcn] at hbt
    refine (b_169 _ _ _).trans ?_; show am_ev _ 169 0 [some (.ref 87), some (.int (nI q))] [] _ = _
    simp only [e_169_0, e_169_1, e_169_2, e_169_5, e_169_8, e_169_10, e_169_11, e_169_12, e_169_15, e_169_16, e_169_17, e_169_18, e_169_19, e_169_22, e_169_24, e_169_25, e_169_26, e_169_29, e_169_30, e_169_33, e_169_34, e_169_35, e_169_36, e_169_37, lg_n, lg_i, lg_r, wd_nil, am_wd_i, am_wd_r, am_wd_l, am_gk_s, am_fld_s, List.getElem?_cons_zero, List.getElem?_cons_succ, am_bk_v, am_bk_n, bo_0, bo_1, am_pk_s, List.length_cons, List.length_nil, Nat.zero_add, List.set_cons_zero, List.set_cons_succ, Nat.reduceAdd, Nat.reduceLeDiff, Nat.reduceLT, m0, m2, m3, hip, one_ne, not_false_eq_true, if_true, if_false, Int32.zero_add, ak_AI (show q < 392 by omega) (show 392 < 2 ^ 31 by decide), a1, sI_0, if_pos hx, e1, w0, w3, sk_AI (show q < 392 by omega) (show 392 < 2 ^ 31 by decide), st_AI (show q < 392 by omega) (show 392 < 2 ^ 31 by decide)]
    rw [← hf']
    simp only [e_169_38, e_169_39, e_169_40, e_169_43, e_169_46, lg_n, lg_i, lg_r, wd_nil, am_wd_i, am_wd_r, am_wd_l, am_gk_s, am_fld_s, List.getElem?_cons_zero, List.getElem?_cons_succ, am_bk_v, am_bk_n, bo_0, bo_1, am_pk_s, List.length_cons, List.length_nil, Nat.zero_add, List.set_cons_zero, List.set_cons_succ, Nat.reduceAdd, Nat.reduceLeDiff, Nat.reduceLT, v2, hth, hbt]
theorem n_undo0 (hM : MI h P σ 0 pa kp ke t n sn sF sT sK nz nt) : am_cal (d + 8) 170 [.ref 87] h = some (some (.int (-4)), h) := by
  obtain ⟨fi, be, rF, rP, cl, dg, h1⟩ := hM.1
  obtain ⟨k0, k1, -⟩ := md_fl h1
  refine (b_170 _ _ _).trans ?_; show am_ev _ 170 0 [some (.ref 87)] [] _ = _
  simp only [e_170_0, e_170_1, e_170_4, e_170_7, e_170_9, lg_n, lg_i, lg_r, wd_nil, am_wd_i, am_wd_r, am_wd_l, am_gk_s, am_fld_s, List.getElem?_cons_zero, List.getElem?_cons_succ, am_bk_v, am_bk_n, bo_0, bo_1, am_pk_s, List.length_cons, List.length_nil, Nat.zero_add, List.set_cons_zero, List.set_cons_succ, Nat.reduceAdd, Nat.reduceLeDiff, Nat.reduceLT, k1, nI_0, if_true]
theorem n_undo (hM : MI h P σ (u + 1) pa kp ke t n sn sF sT sK nz nt) (hn : P.2.2.2.1 ≤ 8) (hu : u + 1 ≤ 8) : ∃ h', am_cal (d + 8) 170 [.ref 87] h = some (some (.int (nI u)), h') ∧ MI h' P (pa u) u pa kp ke t n sn sF sT sK nz nt ∧ FM h h' := by
  obtain ⟨⟨fi, be, rF, rP, cl, dg, h1⟩, ⟨f, h2, h2'⟩, h3, h4, h5, h6⟩ := id hM
  have h1' := h1
  unfold md0 at h1'
  obtain ⟨h9, hh9⟩ : ∃ h9, h9 = am_set h 87 (md0 (nI u) (nI n) (nI sn) fi be rF rP cl dg) := ⟨_, rfl⟩
  have K9 : ∀ k, k ≠ 87 → am_at h9 k = am_at h k := fun k hk => by rw [hh9]; exact at_set_ne hk
  have g87 : am_at h9 87 = some (md0 (nI u) (nI n) (nI sn) fi be rF rP cl dg) := by rw [hh9]; exact at_set_eq
  have M9 : MI h9 P σ u pa kp ke t n sn sF sT sK nz nt := by
    refine ⟨⟨fi, be, rF, rP, cl, dg, g87⟩, ⟨f, by rw [K9 _ (by decide)]; exact h2, ?_⟩, by rw [K9 _ (by decide)]; exact h3, h4.keep (fun k _ _ => K9 k (by omega)), h5.keep (fun k _ => K9 k (by omega)), h6.keep (fun k _ _ => K9 k (by omega))⟩
    obtain ⟨r1, r2, r3, r4, r5, r6⟩ := h2'
    exact ⟨r1, r2, r3, r4, fun i hi => r5 i (by omega), r6⟩
  have hB9 := M9.mb (by rw [K9 _ (by decide)]; exact h2 : am_at h9 88 = some (AI 392 f))
  have hcp := m_copyRow (d := d + 6) hB9 (a := 106 + 26 * u) (b := 0) (N := 26) (by omega) (by omega) (by omega)
  rw [nI_0] at hcp
  have hpa := h2'.2.2.2.2.1 u (by omega)
  obtain ⟨f9, h889, hR9⟩ := M9.2.1
  have M10 := M9.row (f' := cpI f (106 + 26 * u) 0 26) (σ' := pa u) (by
    obtain ⟨r1, r2, r3, r4, r5, r6⟩ := h2'
    have hrow : MRow f P σ u pa kp ke := ⟨r1, r2, r3, r4, fun i hi => r5 i (by omega), r6⟩
    exact hrow.now hn (by omega) (hpa.cp 0) (cpI_RS f (106 + 26 * u) 0))
  refine ⟨_, ?_, M10, FM.tr (by rw [hh9]; exact FM.set (by decide) (by decide)) (FM.set (by decide) (by decide))⟩
  obtain ⟨z0, z1, -, -, -, -, -, -, -, -, -, -, z12⟩ := md_fl g87
  have x87 : am_at (am_set h9 88 (AI 392 (cpI f (106 + 26 * u) 0 26))) 87 = am_at h9 87 := at_set_ne (by decide)
  refine (b_170 _ _ _).trans ?_; show am_ev _ 170 0 [some (.ref 87)] [] _ = _
  simp only [e_170_0, e_170_1, e_170_4, e_170_7, e_170_9, e_170_10, e_170_11, e_170_12, e_170_15, e_170_16, e_170_17, lg_n, lg_i, lg_r, wd_nil, am_wd_i, am_wd_r, am_wd_l, am_gk_s, am_fld_s, List.getElem?_cons_zero, List.getElem?_cons_succ, am_bk_v, am_bk_n, bo_0, bo_1, am_pk_s, List.length_cons, List.length_nil, Nat.zero_add, List.set_cons_zero, List.set_cons_succ, Nat.reduceAdd, Nat.reduceLeDiff, Nat.reduceLT, h1', if_neg (nI_ne0 (show 0 < u + 1 by omega) (show u + 1 < 2 ^ 31 by omega)), nI_pred]
  change am_ev (d + 7) 170 20 _ _ (am_set h 87 (md0 (nI u) (nI n) (nI sn) fi be rF rP cl dg)) = _
  rw [← hh9]
  simp only [e_170_20, e_170_21, e_170_23, e_170_25, e_170_26, e_170_29, e_170_30, e_170_31, e_170_32, e_170_34, e_170_37, e_170_38, e_170_41, lg_n, lg_i, lg_r, wd_nil, am_wd_i, am_wd_r, am_wd_l, am_gk_s, am_fld_s, List.getElem?_cons_zero, List.getElem?_cons_succ, am_bk_v, am_bk_n, bo_0, bo_1, am_pk_s, List.length_cons, List.length_nil, Nat.zero_add, List.set_cons_zero, List.set_cons_succ, Nat.reduceAdd, Nat.reduceLeDiff, Nat.reduceLT, z1, z12, show (106 : Int32) = nI 106 by decide +kernel, show (26 : Int32) = nI 26 by decide +kernel, pk_mul, nI_add, hcp, x87]
theorem n_keep (hM : MI h P σ u pa kp ke t n sn sF sT sK nz nt) (hn : P.2.2.2.1 ≤ 8) (hu : u ≤ 8) (k : Int32) : (¬ (0 ≤ k.toInt ∧ k.toInt ≤ 1) → am_cal (d + 8) 171 [.ref 87, .int k] h = some (some (.int (-2)), h)) ∧ (0 ≤ k.toInt ∧ k.toInt ≤ 1 → ∃ h', am_cal (d + 8) 171 [.ref 87, .int k] h = some (some (.int (nI σ.1)), h') ∧ MI h' P σ u pa (updb kp k.toInt.toNat true) (fun j => if j = k.toInt.toNat then σ else ke j) t n sn sF sT sK nz nt ∧ FM h h') := by
  obtain ⟨⟨fi, be, rF, rP, cl, dg, h1⟩, ⟨f, h2, h2'⟩, h3, h4, h5, h6⟩ := id hM
  have hB := hM.mb h2
  have hin := m_in (d := d + 6) (h := h) k.toInt64 0 1
  rw [l_in32, show (0 : Int64).toInt = 0 from rfl, show (1 : Int64).toInt = 1 from rfl] at hin
  refine ⟨fun hno => ?_, fun hc => ?_⟩
  · rw [if_neg hno] at hin
    refine (b_171 _ _ _).trans ?_; show am_ev _ 171 0 [some (.ref 87), some (.int k)] [] _ = _
    simp only [e_171_0, e_171_1, e_171_2, e_171_3, e_171_4, e_171_7, e_171_10, e_171_12, e_171_13, e_171_14, e_171_15, e_171_18, e_171_20, e_171_21, e_171_22, e_171_23, e_171_25, e_171_28, e_171_29, e_171_32, e_171_33, e_171_34, e_171_35, e_171_36, e_171_39, e_171_41, e_171_42, lg_n, lg_i, lg_r, wd_nil, am_wd_i, am_wd_r, am_wd_l, am_gk_s, am_fld_s, List.getElem?_cons_zero, List.getElem?_cons_succ, am_bk_v, am_bk_n, bo_0, bo_1, am_pk_s, List.length_cons, List.length_nil, Nat.zero_add, List.set_cons_zero, List.set_cons_succ, Nat.reduceAdd, Nat.reduceLeDiff, Nat.reduceLT, hin, not_true_eq_false, if_true, if_false]
  · rw [if_pos hc] at hin
    obtain ⟨q, rfl, hq⟩ : ∃ q : Nat, k = nI q ∧ q < 2 := ⟨k.toInt.toNat, i_of k hc.1, by omega⟩
    rw [nI_toInt (show q < 2 ^ 31 by omega), Int.toNat_natCast]
    have hcp := m_copyRow (d := d + 6) hB (a := 0) (b := 314 + 26 * q) (N := 26) (by omega) (by omega) (by omega)
    rw [nI_0] at hcp
    have hr := cpI_RS f 0 (314 + 26 * q)
    have hrow : MRow (cpI f 0 (314 + 26 * q) 26) P σ u pa (updb kp q true) (fun j => if j = q then σ else ke j) := by
      obtain ⟨r1, r2, r3, r4, r5, r6⟩ := h2'
      refine ⟨r1.rs hn (by omega) hr, r2.rs hr (by omega), r3.rs2 hn hr (by omega), r4.rs hr (by omega), fun i hi => (r5 i hi).rs hr (by omega), fun i hi hq' => ?_⟩
      by_cases e : i = q
      · subst e
        simp only [if_true]
        exact r2.cp _
      · simp only [if_neg e]
        unfold updb at hq'
        rw [if_neg e] at hq'
        exact (r6 i hi hq').rs hr (by omega)
    refine ⟨am_set (am_set h 88 (AI 392 (cpI f 0 (314 + 26 * q) 26))) 89 (AZ 2 (updb kp q true)), ?_, ⟨⟨fi, be, rF, rP, cl, dg, by rw [at_set_ne (by decide), at_set_ne (by decide)]; exact h1⟩, ⟨_, by rw [at_set_ne (by decide)]; exact at_set_eq, hrow⟩, at_set_eq, h4.keep (fun k _ _ => by rw [at_set_ne (by omega), at_set_ne (by omega)]), h5.keep (fun k _ => by rw [at_set_ne (by omega), at_set_ne (by omega)]), h6.keep (fun k _ _ => by rw [at_set_ne (by omega), at_set_ne (by omega)])⟩, (FM.set (by decide) (by decide)).tr (FM.set (by decide) (by decide))⟩
    obtain ⟨k0, k1, k2, -, -, -, -, -, -, -, -, -, k12⟩ := md_fl h1
    have x87 : ∀ c, am_at (am_set h 88 c) 87 = am_at h 87 := fun c => at_set_ne (by decide)
    have x89 : ∀ c, am_at (am_set h 88 c) 89 = am_at h 89 := fun c => at_set_ne (by decide)
    have y87 : ∀ c c', am_at (am_set (am_set h 88 c) 89 c') 87 = am_at h 87 := fun c c' => by rw [at_set_ne (by decide), at_set_ne (by decide)]
    have y88 : ∀ c c', am_at (am_set (am_set h 88 c) 89 c') 88 = some c := fun c c' => by rw [at_set_ne (by decide), at_set_eq]
    have z1 : (1 : Int32) = if (true = true) then 1 else 0 := by decide +kernel
    have h25 : cpI f 0 (314 + 26 * q) 26 25 = nI σ.1 := by rw [hr _ (by omega)]; have := h2'.2.1.2.2; rw [Nat.zero_add] at this; exact this
    refine (b_171 _ _ _).trans ?_; show am_ev _ 171 0 [some (.ref 87), some (.int (nI q))] [] _ = _
    simp only [e_171_0, e_171_1, e_171_2, e_171_3, e_171_4, e_171_7, e_171_10, e_171_12, e_171_13, e_171_14, e_171_15, e_171_18, e_171_20, e_171_21, e_171_22, e_171_23, e_171_25, e_171_28, e_171_29, e_171_32, e_171_33, e_171_34, e_171_35, e_171_36, e_171_39, e_171_41, e_171_42, lg_n, lg_i, lg_r, wd_nil, am_wd_i, am_wd_r, am_wd_l, am_gk_s, am_fld_s, List.getElem?_cons_zero, List.getElem?_cons_succ, am_bk_v, am_bk_n, bo_0, bo_1, am_pk_s, List.length_cons, List.length_nil, Nat.zero_add, List.set_cons_zero, List.set_cons_succ, Nat.reduceAdd, Nat.reduceLeDiff, Nat.reduceLT, hin, one_ne, not_false_eq_true, if_true, if_false, k12, show (314 : Int32) = nI 314 by decide +kernel, show (26 : Int32) = nI 26 by decide +kernel, pk_mul, nI_add, hcp, x87, x89, k2, h3, sk_AZ hq (show 2 < 2 ^ 31 by decide), st_AZ hq (show 2 < 2 ^ 31 by decide) z1, y87, k0, y88, show (25 : Int32) = nI 25 by decide +kernel, ak_AI (show 25 < 392 by decide) (show 392 < 2 ^ 31 by decide), h25]
theorem n_back (hM : MI h P σ u pa kp ke t n sn sF sT sK nz nt) (hn : P.2.2.2.1 ≤ 8) (hu : u ≤ 8) (k : Int32) : (¬ (0 ≤ k.toInt ∧ k.toInt ≤ 1) → am_cal (d + 8) 172 [.ref 87, .int k] h = some (some (.int (-2)), h)) ∧ (0 ≤ k.toInt ∧ k.toInt ≤ 1 → kp k.toInt.toNat = false → am_cal (d + 8) 172 [.ref 87, .int k] h = some (some (.int (-4)), h)) ∧ (0 ≤ k.toInt ∧ k.toInt ≤ 1 → kp k.toInt.toNat = true → ∃ h', am_cal (d + 8) 172 [.ref 87, .int k] h = some (some (.int (nI (ke k.toInt.toNat).1)), h') ∧ MI h' P (ke k.toInt.toNat) 0 pa kp ke t n sn sF sT sK nz nt ∧ FM h h') := by
  obtain ⟨⟨fi, be, rF, rP, cl, dg, h1⟩, ⟨f, h2, h2'⟩, h3, h4, h5, h6⟩ := id hM
  have hB := hM.mb h2
  have hin := m_in (d := d + 6) (h := h) k.toInt64 0 1
  rw [l_in32, show (0 : Int64).toInt = 0 from rfl, show (1 : Int64).toInt = 1 from rfl] at hin
  obtain ⟨k0, k1, k2, -, -, -, -, -, -, -, -, -, k12⟩ := md_fl h1
  refine ⟨fun hno => ?_, fun hc hkp => ?_, fun hc hkp => ?_⟩
  · rw [if_neg hno] at hin
    refine (b_172 _ _ _).trans ?_; show am_ev _ 172 0 [some (.ref 87), some (.int k)] [] _ = _
    simp only [e_172_0, e_172_1, e_172_2, e_172_3, e_172_4, e_172_7, e_172_10, e_172_12, e_172_13, e_172_14, e_172_17, e_172_18, e_172_19, e_172_22, e_172_24, e_172_25, e_172_26, e_172_29, e_172_31, e_172_32, e_172_33, e_172_34, e_172_35, e_172_37, e_172_40, e_172_41, e_172_42, e_172_45, e_172_46, e_172_49, e_172_51, e_172_52, lg_n, lg_i, lg_r, wd_nil, am_wd_i, am_wd_r, am_wd_l, am_gk_s, am_fld_s, List.getElem?_cons_zero, List.getElem?_cons_succ, am_bk_v, am_bk_n, bo_0, bo_1, am_pk_s, List.length_cons, List.length_nil, Nat.zero_add, List.set_cons_zero, List.set_cons_succ, Nat.reduceAdd, Nat.reduceLeDiff, Nat.reduceLT, hin, not_true_eq_false, if_true, if_false]
  · rw [if_pos hc] at hin
    obtain ⟨q, rfl, hq⟩ : ∃ q : Nat, k = nI q ∧ q < 2 := ⟨k.toInt.toNat, i_of k hc.1, by omega⟩
    rw [nI_toInt (show q < 2 ^ 31 by omega), Int.toNat_natCast] at hkp
    refine (b_172 _ _ _).trans ?_; show am_ev _ 172 0 [some (.ref 87), some (.int (nI q))] [] _ = _
    simp only [e_172_0, e_172_1, e_172_2, e_172_3, e_172_4, e_172_7, e_172_10, e_172_12, e_172_13, e_172_14, e_172_17, e_172_18, e_172_19, e_172_22, e_172_24, e_172_25, e_172_26, e_172_29, e_172_31, e_172_32, e_172_33, e_172_34, e_172_35, e_172_37, e_172_40, e_172_41, e_172_42, e_172_45, e_172_46, e_172_49, e_172_51, e_172_52, lg_n, lg_i, lg_r, wd_nil, am_wd_i, am_wd_r, am_wd_l, am_gk_s, am_fld_s, List.getElem?_cons_zero, List.getElem?_cons_succ, am_bk_v, am_bk_n, bo_0, bo_1, am_pk_s, List.length_cons, List.length_nil, Nat.zero_add, List.set_cons_zero, List.set_cons_succ, Nat.reduceAdd, Nat.reduceLeDiff, Nat.reduceLT, hin, one_ne, not_false_eq_true, if_true, if_false, k2, h3, ak_AZ hq (show 2 < 2 ^ 31 by decide), hkp, Bool.false_eq_true, not_true_eq_false]
  · rw [if_pos hc] at hin
    obtain ⟨q, rfl, hq⟩ : ∃ q : Nat, k = nI q ∧ q < 2 := ⟨k.toInt.toNat, i_of k hc.1, by omega⟩
    rw [nI_toInt (show q < 2 ^ 31 by omega), Int.toNat_natCast] at hkp ⊢
    have hcp := m_copyRow (d := d + 6) hB (a := 314 + 26 * q) (b := 0) (N := 26) (by omega) (by omega) (by omega)
    rw [nI_0] at hcp
    have hr := cpI_RS f (314 + 26 * q) 0
    have hke := h2'.2.2.2.2.2 q hq hkp
    have hrow : MRow (cpI f (314 + 26 * q) 0 26) P (ke q) 0 pa kp ke := by
      have := h2'.now hn hu (hke.cp 0) hr
      obtain ⟨r1, r2, r3, r4, r5, r6⟩ := this
      exact ⟨r1, r2, r3, r4, fun i hi => absurd hi (Nat.not_lt_zero i), r6⟩
    refine ⟨am_set (am_set h 88 (AI 392 (cpI f (314 + 26 * q) 0 26))) 87 (md0 (nI 0) (nI n) (nI sn) fi be rF rP cl dg), ?_, ⟨⟨fi, be, rF, rP, cl, dg, at_set_eq⟩, ⟨_, by rw [at_set_ne (by decide)]; exact at_set_eq, hrow⟩, by rw [at_set_ne (by decide), at_set_ne (by decide)]; exact h3, h4.keep (fun k _ _ => by rw [at_set_ne (by omega), at_set_ne (by omega)]), h5.keep (fun k _ => by rw [at_set_ne (by omega), at_set_ne (by omega)]), h6.keep (fun k _ _ => by rw [at_set_ne (by omega), at_set_ne (by omega)])⟩, (FM.set (by decide) (by decide)).tr (FM.set (by decide) (by decide))⟩
    have x87 : ∀ c, am_at (am_set h 88 c) 87 = some (.inr (8, [.ref 88, .int (nI u), .ref 89, .ref 90, .int (nI n), .int (nI sn), .ref 91, .ref 92, .ref 93, .ref 94, .ref 95, .ref 96, .int fi, .int be, .int rF, .int rP, .int cl, .int dg, .ref 97, .ref 98, .ref 99, .ref 100, .ref 101, .ref 102, .ref 103, .ref 104, .ref 105, .ref 106, .ref 107, .ref 108, .ref 109, .ref 110])) := fun c => by rw [at_set_ne (by decide)]; exact h1
    have y88 : ∀ c c', am_at (am_set (am_set h 88 c) 87 c') 88 = some c := fun c c' => by rw [at_set_ne (by decide), at_set_eq]
    have h25 : cpI f (314 + 26 * q) 0 26 25 = nI (ke q).1 := by have := (hke.cp 0).2.2; rw [Nat.zero_add] at this; exact this
    refine (b_172 _ _ _).trans ?_; show am_ev _ 172 0 [some (.ref 87), some (.int (nI q))] [] _ = _
    simp only [e_172_0, e_172_1, e_172_2, e_172_3, e_172_4, e_172_7, e_172_10, e_172_12, e_172_13, e_172_14, e_172_17, e_172_18, e_172_19, e_172_22, e_172_24, e_172_25, e_172_26, e_172_29, e_172_31, e_172_32, e_172_33, e_172_34, e_172_35, e_172_37, e_172_40, e_172_41, e_172_42, e_172_45, e_172_46, e_172_49, e_172_51, e_172_52, lg_n, lg_i, lg_r, wd_nil, am_wd_i, am_wd_r, am_wd_l, am_gk_s, am_fld_s, List.getElem?_cons_zero, List.getElem?_cons_succ, am_bk_v, am_bk_n, bo_0, bo_1, am_pk_s, List.length_cons, List.length_nil, Nat.zero_add, List.set_cons_zero, List.set_cons_succ, Nat.reduceAdd, Nat.reduceLeDiff, Nat.reduceLT, hin, one_ne, not_false_eq_true, if_true, if_false, k2, k12, h3, ak_AZ hq (show 2 < 2 ^ 31 by decide), hkp, show (314 : Int32) = nI 314 by decide +kernel, show (26 : Int32) = nI 26 by decide +kernel, pk_mul, nI_add, hcp, x87, at_set_eq, y88, show (25 : Int32) = nI 25 by decide +kernel, ak_AI (show 25 < 392 by decide) (show 392 < 2 ^ 31 by decide), h25]
    rfl
theorem l_allThings (hM : MI h P σ u pa kp ke t n sn sF sT sK nz nt) (hz : ∀ i, i < 3 → nz i ≤ 13) : ∀ j k, k + j = 3 → am_ev d 210 4 [some (.ref 87), some (.int (nI (totN nz k))), some (.int (nI k))] [] h = some (some (.int (nI (totN nz 3))), h) := by
  obtain ⟨fi, be, rF, rP, cl, dg, h1⟩ := hM.1
  obtain ⟨-, -, -, -, -, -, -, -, -, k9, -⟩ := md_fl h1
  have h94 := hM.2.2.2.2.1.1
  have e3 : (3 : Int32) = nI 3 := by decide +kernel
  intro j
  induction j with
  | zero =>
    intro k hk
    have : k = 3 := by omega
    subst this
    rw [e_210_4]
    simp only [e_210_5, e_210_6, e_210_37, e_210_38, lg_n, lg_i, lg_r, wd_nil, am_wd_i, am_wd_r, am_wd_l, am_gk_s, am_fld_s, List.getElem?_cons_zero, List.getElem?_cons_succ, am_bk_v, am_bk_n, bo_0, bo_1, am_pk_s, List.length_cons, List.length_nil, Nat.zero_add, List.set_cons_zero, List.set_cons_succ, Nat.reduceAdd, Nat.reduceLeDiff, Nat.reduceLT, e3, nI_leI (show 3 < 2 ^ 31 by decide) (show 3 < 2 ^ 31 by decide), Nat.le_refl, if_true]
  | succ j ih =>
    intro k hk
    have ih' := ih (k + 1) (by omega)
    rw [totN] at ih'
    have hzk := hz k (by omega)
    have hge : (0 : Int32) ≤ cI (nz k + 1) ↔ ¬ nz k = 0 := by
      have := cI_neg (show nz k < 2 ^ 30 by omega)
      rw [i_le, i_0]
      rw [i_lt, i_0] at this
      omega
    rw [e_210_4]
    simp only [e_210_5, e_210_6, e_210_9, e_210_10, e_210_11, e_210_14, e_210_15, e_210_16, e_210_19, e_210_20, e_210_23, e_210_24, e_210_27, e_210_28, e_210_29, e_210_30, e_210_31, e_210_34, lg_n, lg_i, lg_r, wd_nil, am_wd_i, am_wd_r, am_wd_l, am_gk_s, am_fld_s, List.getElem?_cons_zero, List.getElem?_cons_succ, am_bk_v, am_bk_n, bo_0, bo_1, am_pk_s, List.length_cons, List.length_nil, Nat.zero_add, List.set_cons_zero, List.set_cons_succ, Nat.reduceAdd, Nat.reduceLeDiff, Nat.reduceLT, e3, nI_leI (show 3 < 2 ^ 31 by decide) (show k < 2 ^ 31 by omega), if_neg (show ¬ 3 ≤ k by omega), k9, h94, ak_AI (show k < 3 by omega) (show 3 < 2 ^ 31 by decide), hge, nI_1]
    by_cases hm : nz k = 0
    · rw [if_neg (not_not_intro hm)]
      rw [hm] at ih'
      rw [Int32.add_zero]
      exact ih'
    · rw [if_pos hm]
      obtain ⟨m, hm2⟩ : ∃ m, nz k = m + 1 := ⟨nz k - 1, by omega⟩
      rw [hm2, Nat.add_sub_cancel] at ih'
      rw [hm2, cI_s, nI_add]
      exact ih'
theorem n_count (hM : MI h P σ u pa kp ke t n sn sF sT sK nz nt) (oP : OKP P) (hz : ∀ i, i < 3 → nz i ≤ 13) (w : Int32) : am_cal (d + 8) 211 [.ref 87, .int w] h = some (some (.int (if w = 0 then nI P.1 else if w = 1 then nI P.2.2.2.1 else if w = 2 then nI σ.1 else if w = 3 then nI (bitsN (fun q => sI (σ.2.2.1 q) == 0) P.2.2.2.1) else if w = 4 then nI (bitsN (fun q => sI (σ.2.2.1 q) == 1) P.2.2.2.1) else if w = 5 then nI (bitsN (fun q => sI (σ.2.2.1 q) == 2) P.2.2.2.1) else if w = 6 then nI σ.2.1 else if w = 7 then nI P.2.1 else if w = 8 then nI sn else if w = 9 then nI (totN nz 3) else if w = 10 then nI u else if w = 11 then nI n else -3)), h) := by
  obtain ⟨fi, be, rF, rP, cl, dg, h1⟩ := hM.1
  obtain ⟨k0, k1, k2, k3, k4, k5, -, -, -, -, -, -, k12⟩ := md_fl h1
  obtain ⟨f, h88, hR⟩ := hM.2.1
  have hB := hM.mb h88
  have hn := oP.2.2.2.1
  have hth := fun w => m_those (d := d + 6) hB hR.1 hR.2.1 hn w
  have hat : am_cal (d + 7) 210 [.ref 87] h = some (some (.int (nI (totN nz 3))), h) := by
    refine (b_210 _ _ _).trans ?_; show am_ev _ 210 0 [some (.ref 87), none, none] [] _ = _
    simp only [e_210_0, e_210_1, e_210_2, e_210_3, lg_n, lg_i, lg_r, wd_nil, am_wd_i, am_wd_r, am_wd_l, am_gk_s, am_fld_s, List.getElem?_cons_zero, List.getElem?_cons_succ, am_bk_v, am_bk_n, bo_0, bo_1, am_pk_s, List.length_cons, List.length_nil, Nat.zero_add, List.set_cons_zero, List.set_cons_succ, Nat.reduceAdd, Nat.reduceLeDiff, Nat.reduceLT]
    exact l_allThings hM hz 3 0 (by omega)
  have q26 := hR.1.1
  have q27 := hR.1.2.1
  have q28 := hR.1.2.2.1
  have q24 := hR.2.1.2.1
  have q25 := hR.2.1.2.2
  rw [Nat.zero_add] at q26 q27 q28 q24 q25
  refine (b_211 _ _ _).trans ?_; show am_ev _ 211 0 [some (.ref 87), some (.int w)] [] _ = _
  simp only [e_211_0, e_211_1, e_211_64, e_211_65, e_211_68, e_211_70, e_211_71, e_211_72, e_211_73, e_211_76, e_211_78, e_211_79, e_211_80, e_211_81, e_211_84, e_211_86, e_211_87, e_211_88, e_211_89, e_211_90, e_211_93, e_211_94, e_211_95, e_211_96, e_211_99, e_211_100, e_211_101, e_211_102, e_211_105, e_211_106, e_211_107, e_211_110, e_211_112, e_211_113, e_211_114, e_211_115, e_211_118, e_211_120, e_211_121, e_211_122, e_211_123, e_211_126, e_211_127, e_211_128, e_211_131, e_211_132, e_211_133, e_211_136, e_211_137, e_211_138, e_211_141, e_211_142, e_211_144, lg_n, lg_i, lg_r, wd_nil, am_wd_i, am_wd_r, am_wd_l, am_gk_s, am_fld_s, List.getElem?_cons_zero, List.getElem?_cons_succ, am_bk_v, am_bk_n, bo_0, bo_1, am_pk_s, List.length_cons, List.length_nil, Nat.zero_add, List.set_cons_zero, List.set_cons_succ, Nat.reduceAdd, Nat.reduceLeDiff, Nat.reduceLT, k0, k1, k4, k5, k12, h88, show (26 : Int32) = nI 26 by decide +kernel, show (27 : Int32) = nI 27 by decide +kernel, show (28 : Int32) = nI 28 by decide +kernel, show (24 : Int32) = nI 24 by decide +kernel, show (25 : Int32) = nI 25 by decide +kernel, ak_AI (show 26 < 392 by decide) (show 392 < 2 ^ 31 by decide), ak_AI (show 27 < 392 by decide) (show 392 < 2 ^ 31 by decide), ak_AI (show 28 < 392 by decide) (show 392 < 2 ^ 31 by decide), ak_AI (show 24 < 392 by decide) (show 392 < 2 ^ 31 by decide), ak_AI (show 25 < 392 by decide) (show 392 < 2 ^ 31 by decide), q26, q27, q28, q24, q25, hth, hat]
  by_cases w0 : w = 0
  · simp [w0]
  · by_cases w1 : w = 1
    · simp [w1]
    · by_cases w2 : w = 2
      · simp [w2]
      · by_cases w3 : w = 3
        · simp [w3]
        · by_cases w4 : w = 4
          · simp [w4]
          · by_cases w5 : w = 5
            · simp [w5]
            · by_cases w6 : w = 6
              · simp [w6]
              · by_cases w7 : w = 7
                · simp [w7]
                · by_cases w8 : w = 8
                  · simp [w8]
                  · by_cases w9 : w = 9
                    · simp [w9]
                    · by_cases w10 : w = 10
                      · simp [w10]
                      · by_cases w11 : w = 11
                        · simp [w11]
                        · simp [w0, w1, w2, w3, w4, w5, w6, w7, w8, w9, w10, w11]
end MI
