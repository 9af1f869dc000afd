/-! the class's calls: order, dares, what was seen -/
theorem ordN_8 (P : Pn) (σ : Hn) (w : Nat) (hw : w ≤ 6) : ∀ j L be f, (∀ i, i < 6 → f i < 8) → ∀ i, i < 6 → (ordN P σ w j L be f).2.2 i < 8
  | 0, L, be, f, hf => hf
  | j + 1, L, be, f, hf => by
    unfold ordN
    simp only
    cases hne : nextN w f with
    | none => exact hf
    | some f' => exact ordN_8 P σ w hw j _ _ f' (nextN_bd hf hw hne)
section CL
variable {d : Nat} {h : am_H} {P : Pn} {σ : Hn} {u : Nat} {pa : Nat → Hn} {kp : Nat → Bool} {ke : Nat → Hn} {t : Nat → Nat} {n sn : Nat} {sF sT sK : Nat → Nat} {nz : Nat → Nat} {nt : Nat → Nat → Nat}
theorem m_order (hC : CI h P σ u pa kp ke t n sn sF sT sK nz nt) (hD : OKD P) (hO : HOK P σ) : ∃ h' Φ, am_cal (d + 7) 7 [.ref 59] h = some (none, h') ∧ CI h' P σ u pa kp ke t n sn sF sT sK nz nt ∧ FC h h' ∧ FO h' P σ Φ ∧ Φ.2.2.1 = 1 := by
  obtain ⟨oP, q1, q2, -⟩ := hD
  obtain ⟨Φ, hF⟩ := hC.2.2.2.2.2.2.1
  have hS := hC.fs hF
  rcases hF.2.2.2.2.2 with h0 | ⟨h1, hv⟩
  · obtain ⟨h', e', F', V'⟩ := m_findOrder (d := d + 1) hS oP (by omega) hO.1 (by have := hO.2.1; omega) h0 hF.2.2.2.2.1
    have a2 := upN_8 P σ Φ.2.2.2.2 oP.2.2.2.1 hF.2.2.2.2.1 8
    have a1 := upN_le P σ Φ.2.2.2.2 8
    have hex : ∃ be0 f0 : Nat → Nat, (upN P σ Φ.2.2.2.2 8).1 = (upN P σ f0 8).1 ∧ (ordN P σ (upN P σ Φ.2.2.2.2 8).1 720 489 Φ.2.2.2.1 (upN P σ Φ.2.2.2.2 8).2).1 = (ordN P σ (upN P σ f0 8).1 720 489 be0 (upN P σ f0 8).2).1 ∧ (ordN P σ (upN P σ Φ.2.2.2.2 8).1 720 489 Φ.2.2.2.1 (upN P σ Φ.2.2.2.2 8).2).2.1 = (ordN P σ (upN P σ f0 8).1 720 489 be0 (upN P σ f0 8).2).2.1 := ⟨Φ.2.2.2.1, Φ.2.2.2.2, rfl, rfl, rfl⟩
    have hb := ordN_8 P σ (upN P σ Φ.2.2.2.2 8).1 a1 720 489 Φ.2.2.2.1 (upN P σ Φ.2.2.2.2 8).2 a2
    generalize ordN P σ (upN P σ Φ.2.2.2.2 8).1 720 489 Φ.2.2.2.1 (upN P σ Φ.2.2.2.2 8).2 = R at *
    generalize (upN P σ Φ.2.2.2.2 8).1 = W at *
    have hFO : FO h' P σ (W, R.1, 1, R.2) := ⟨F'.2.2.2.2.1, F'.2.2.2.2.2.2.1, F'.2.2.2.2.2.2.2, F'.2.2.2.1, hb, Or.inr ⟨rfl, hex⟩⟩
    exact ⟨h', _, e', hC.fo ⟨_, hFO⟩ (fun k hk => V'.2.2 k (by omega)), ⟨V'.1, V'.2.1, fun k hk => V'.2.2 k (by omega)⟩, hFO, rfl⟩
  · exact ⟨h, Φ, m_findKnown hS h1, hC, FC.rf, hF, h1⟩
theorem c_order (hC : CI h P σ u pa kp ke t n sn sF sT sK nz nt) (hD : OKD P) (hO : HOK P σ) (k : Int32) : (¬ (-1 ≤ k.toInt ∧ k.toInt ≤ 5) → am_cal (d + 8) 101 [.ref 0, .int k] h = some (some (.int (-3)), h)) ∧ (-1 ≤ k.toInt ∧ k.toInt ≤ 5 → 6 < cntN (fun q => σ.2.2.1 q == 0) P.2.2.2.1 → am_cal (d + 8) 101 [.ref 0, .int k] h = some (some (.int (-1)), h)) ∧ (-1 ≤ k.toInt ∧ k.toInt ≤ 5 → cntN (fun q => σ.2.2.1 q == 0) P.2.2.2.1 ≤ 6 → ∃ h' Φ, am_cal (d + 8) 101 [.ref 0, .int k] h = some (some (.int (if k = -1 then nI Φ.2.1 else if k.toInt.toNat < Φ.1 then nI (Φ.2.2.2.1 k.toInt.toNat) else -1)), h') ∧ CI h' P σ u pa kp ke t n sn sF sT sK nz nt ∧ FC h h' ∧ VO P σ Φ ∧ Φ.2.2.1 = 1) := by
  obtain ⟨f0, f1, f2, f3, f4, f5, f6, f7, f8⟩ := hC.fl
  have oP := hD.1
  have hn := oP.2.2.2.1
  have hw := m_within (d := d + 6) (h := h) k (-1) 5
  have hiff : ((-1 : Int32) ≤ k ∧ k ≤ 5) ↔ (-1 ≤ k.toInt ∧ k.toInt ≤ 5) := by rw [i_le, i_le]; exact Iff.rfl
  have hpw := m_peopleWho (d := d + 6) hC.2.2.1 hC.2.2.2.1 hn 0
  have hb := bitsN_lt (fun r => sI (σ.2.2.1 r) == 0) P.2.2.2.1
  have hb2 : 2 ^ P.2.2.2.1 ≤ 2 ^ 8 := Nat.pow_le_pow_right (by decide) hn
  have hbc := m_bitCount (d := d + 6) (h := h) (show bitsN (fun r => sI (σ.2.2.1 r) == 0) P.2.2.2.1 < 256 by omega)
  have hcn : cntN (fun i => (bitsN (fun r => sI (σ.2.2.1 r) == 0) P.2.2.2.1).testBit i) 8 = cntN (fun r => σ.2.2.1 r == 0) P.2.2.2.1 := by
    rw [cnt_bits _ hn]
    exact cntN_cong (fun k _ => (sI_b _).1)
  rw [hcn] at hbc
  have hcle := cntN_le (fun r => σ.2.2.1 r == 0) P.2.2.2.1
  have e6 : (6 : Int32) = nI 6 := by decide +kernel
  refine ⟨fun hno => ?_, fun hin hbig => ?_, fun hin hle => ?_⟩
  · rw [if_neg (fun z => hno (hiff.1 z))] at hw
    refine (b_101 _ _ _).trans ?_; show am_ev _ 101 0 [some (.ref 0), some (.int k)] [] _ = _
    simp only [e_101_0, e_101_1, e_101_2, e_101_3, e_101_6, e_101_9, e_101_11, lg_n, lg_i, lg_r, wd_nil, am_wd_i, am_wd_r, am_wd_l, am_gk_s, am_fld_s, List.getElem?_cons_zero, List.getElem?_cons_succ, am_bk_v, am_bk_n, bo_0, bo_1, am_pk_s, List.length_cons, List.length_nil, Nat.zero_add, List.set_cons_zero, List.set_cons_succ, Nat.reduceAdd, Nat.reduceLeDiff, Nat.reduceLT, hw, not_true_eq_false, if_true, if_false]
  · rw [if_pos (hiff.2 hin)] at hw
    refine (b_101 _ _ _).trans ?_; show am_ev _ 101 0 [some (.ref 0), some (.int k)] [] _ = _
    simp only [e_101_0, e_101_1, e_101_2, e_101_3, e_101_6, e_101_9, e_101_11, e_101_12, e_101_13, e_101_16, e_101_17, e_101_20, e_101_23, e_101_25, e_101_28, e_101_29, lg_n, lg_i, lg_r, wd_nil, am_wd_i, am_wd_r, am_wd_l, am_gk_s, am_fld_s, List.getElem?_cons_zero, List.getElem?_cons_succ, am_bk_v, am_bk_n, bo_0, bo_1, am_pk_s, List.length_cons, List.length_nil, Nat.zero_add, List.set_cons_zero, List.set_cons_succ, Nat.reduceAdd, Nat.reduceLeDiff, Nat.reduceLT, hw, one_ne, not_false_eq_true, if_true, if_false, f1, is_house hC.2.2.2.1, hpw, hbc, e6, nI_leI (show cntN (fun r => σ.2.2.1 r == 0) P.2.2.2.1 < 2 ^ 31 by omega) (show 6 < 2 ^ 31 by decide), if_neg (show ¬ cntN (fun r => σ.2.2.1 r == 0) P.2.2.2.1 ≤ 6 by omega)]
  · rw [if_pos (hiff.2 hin)] at hw
    obtain ⟨h1, Φ, e1, C1, F1, O1, O2⟩ := m_order (d := d) hC hD hO
    have hS1 := C1.fs O1
    obtain ⟨g0, g1, g2, g3, g4, g5, g6, g7⟩ := hS1.fl
    obtain ⟨v0, v1, v2, v3, v4, -⟩ := C1.fl
    obtain ⟨Φ0, hF0⟩ := hC.2.2.2.2.2.2.1
    have k7 := ((hC.fs hF0).fl).2.2.2.2.2.2.2
    refine ⟨h1, Φ, ?_, C1, F1, O1.2.2.2.2.2, O2⟩
    have hW : Φ.1 ≤ 6 := by
      rcases O1.2.2.2.2.2 with z | ⟨-, be0, f0, z, -⟩
      · rw [O2] at z; exact absurd z (by decide)
      · rw [z]; exact upN_le _ _ _ _
    refine (b_101 _ _ _).trans ?_; show am_ev _ 101 0 [some (.ref 0), some (.int k)] [] _ = _
    by_cases hk : k = -1
    · subst hk
      simp only [e_101_0, e_101_1, e_101_2, e_101_3, e_101_6, e_101_9, e_101_11, e_101_12, e_101_13, e_101_16, e_101_17, e_101_20, e_101_23, e_101_25, e_101_28, e_101_29, e_101_30, e_101_31, e_101_34, e_101_37, e_101_38, e_101_39, e_101_42, e_101_43, e_101_46, e_101_49, lg_n, lg_i, lg_r, wd_nil, am_wd_i, am_wd_r, am_wd_l, am_gk_s, am_fld_s, List.getElem?_cons_zero, List.getElem?_cons_succ, am_bk_v, am_bk_n, bo_0, bo_1, am_pk_s, List.length_cons, List.length_nil, Nat.zero_add, List.set_cons_zero, List.set_cons_succ, Nat.reduceAdd, Nat.reduceLeDiff, Nat.reduceLT, hw, one_ne, not_false_eq_true, if_true, if_false, f1, is_house hC.2.2.2.1, hpw, hbc, e6, nI_leI (show cntN (fun r => σ.2.2.1 r == 0) P.2.2.2.1 < 2 ^ 31 by omega) (show 6 < 2 ^ 31 by decide), if_pos hle, f4, k7, e1, eq_self, not_true_eq_false, v4, g5]
    · obtain ⟨q, rfl, hq⟩ : ∃ q : Nat, k = nI q ∧ q ≤ 5 := by
        have hne : k.toInt ≠ -1 := fun z => hk (by rw [i_eq, z, i_m1])
        exact ⟨k.toInt.toNat, i_of k (by omega), by omega⟩
      rw [nI_toInt (show q < 2 ^ 31 by omega), Int.toNat_natCast]
      simp only [e_101_0, e_101_1, e_101_2, e_101_3, e_101_6, e_101_9, e_101_11, e_101_12, e_101_13, e_101_16, e_101_17, e_101_20, e_101_23, e_101_25, e_101_28, e_101_29, e_101_30, e_101_31, e_101_34, e_101_37, e_101_38, e_101_39, e_101_42, e_101_43, e_101_46, e_101_49, e_101_50, e_101_51, e_101_52, e_101_55, e_101_58, e_101_61, e_101_62, e_101_65, e_101_68, e_101_69, e_101_70, e_101_73, e_101_74, lg_n, lg_i, lg_r, wd_nil, am_wd_i, am_wd_r, am_wd_l, am_gk_s, am_fld_s, List.getElem?_cons_zero, List.getElem?_cons_succ, am_bk_v, am_bk_n, bo_0, bo_1, am_pk_s, List.length_cons, List.length_nil, Nat.zero_add, List.set_cons_zero, List.set_cons_succ, Nat.reduceAdd, Nat.reduceLeDiff, Nat.reduceLT, hw, one_ne, not_false_eq_true, if_true, if_false, f1, is_house hC.2.2.2.1, hpw, hbc, e6, nI_leI (show cntN (fun r => σ.2.2.1 r == 0) P.2.2.2.1 < 2 ^ 31 by omega) (show 6 < 2 ^ 31 by decide), if_pos hle, f4, k7, e1, hk, v4, g2, g4, nI_leI (show Φ.1 < 2 ^ 31 by omega) (show q < 2 ^ 31 by omega), hS1.2.2.2.2.2.2.1, ak_AI (show q < 6 by omega) (show 6 < 2 ^ 31 by decide)]
      by_cases hlt : q < Φ.1
      · rw [if_neg (show ¬ Φ.1 ≤ q by omega), if_pos hlt]
      · rw [if_pos (show Φ.1 ≤ q by omega), if_neg hlt]
theorem l_power {b N : Nat} (hN : N < 2 ^ 31) : ∀ j i, i + j = N → am_ev d 119 4 [some (.int (nI b)), some (.int (nI N)), some (.int (nI (b ^ i))), some (.int (nI i))] [] h = some (some (.int (nI (b ^ N))), h) := by
  intro j
  induction j with
  | zero =>
    intro i hi
    have : i = N := by omega
    subst this
    rw [e_119_4]
    simp only [e_119_5, e_119_6, e_119_19, e_119_20, lg_n, lg_i, lg_r, wd_nil, am_wd_i, am_wd_r, am_wd_l, am_gk_s, am_fld_s, List.getElem?_cons_zero, List.getElem?_cons_succ, am_bk_v, am_bk_n, bo_0, bo_1, am_pk_s, List.length_cons, List.length_nil, Nat.zero_add, List.set_cons_zero, List.set_cons_succ, Nat.reduceAdd, Nat.reduceLeDiff, Nat.reduceLT, nI_leI hN hN, Nat.le_refl, if_true]
  | succ j ih =>
    intro i hi
    rw [e_119_4]
    simp only [e_119_5, e_119_6, e_119_9, e_119_10, e_119_11, e_119_12, e_119_13, e_119_16, lg_n, lg_i, lg_r, wd_nil, am_wd_i, am_wd_r, am_wd_l, am_gk_s, am_fld_s, List.getElem?_cons_zero, List.getElem?_cons_succ, am_bk_v, am_bk_n, bo_0, bo_1, am_pk_s, List.length_cons, List.length_nil, Nat.zero_add, List.set_cons_zero, List.set_cons_succ, Nat.reduceAdd, Nat.reduceLeDiff, Nat.reduceLT, nI_leI hN (show i < 2 ^ 31 by omega), if_neg (show ¬ N ≤ i by omega), pk_mul, nI_1]
    rw [← Nat.pow_succ]
    exact ih (i + 1) (by omega)
theorem m_power {b N : Nat} (hN : N < 2 ^ 31) : am_cal (d + 1) 119 [.int (nI b), .int (nI N)] h = some (some (.int (nI (b ^ N))), h) := by
  refine (b_119 _ _ _).trans ?_; show am_ev _ 119 0 [some (.int (nI b)), some (.int (nI N)), none, none] [] _ = _
  simp only [e_119_0, e_119_1, e_119_2, e_119_3, lg_n, lg_i, lg_r, wd_nil, am_wd_i, am_wd_r, am_wd_l, am_gk_s, am_fld_s, List.getElem?_cons_zero, List.getElem?_cons_succ, am_bk_v, am_bk_n, bo_0, bo_1, am_pk_s, List.length_cons, List.length_nil, Nat.zero_add, List.set_cons_zero, List.set_cons_succ, Nat.reduceAdd, Nat.reduceLeDiff, Nat.reduceLT]
  exact l_power hN N 0 (by omega)
theorem l_cd {x0 x1 : Option Value} (l1 : am_lg x1 = false) : ∀ j i l s (z : Option Value), i + j = 64 → l < 2 ^ 31 → s < 2 ^ 31 → am_ev d 120 7 [x0, x1, some (.int (nI l)), some (.int (nI s)), some (.int (nI i)), z] [] h = some (some (.int (nI (cdN j l s))), h) := by
  intro j
  have e64 : (64 : Int32) = nI 64 := by decide +kernel
  induction j with
  | zero =>
    intro i l s z hi hl hs
    have : i = 64 := by omega
    subst this
    rw [e_120_7]
    simp only [e_120_9, e_120_11, e_120_34, e_120_35, lg_n, lg_i, lg_r, wd_nil, am_wd_i, am_wd_r, am_wd_l, am_gk_s, am_fld_s, List.getElem?_cons_zero, List.getElem?_cons_succ, am_bk_v, am_bk_n, bo_0, bo_1, am_pk_s, List.length_cons, List.length_nil, Nat.zero_add, List.set_cons_zero, List.set_cons_succ, Nat.reduceAdd, Nat.reduceLeDiff, Nat.reduceLT, e64, nI_leI (show 64 < 2 ^ 31 by decide) (show 64 < 2 ^ 31 by decide), Nat.le_refl, if_true, cdN]
  | succ j ih =>
    intro i l s z hi hl hs
    have hz : nI s ≤ 0 ↔ ¬ 0 < s := by rw [i_le, nI_toInt hs, i_0]; omega
    rw [e_120_7]
    have hN : cdN (j + 1) l s = if 0 < s then cdN j s (l % s) else l := rfl
    rw [hN]
    by_cases h0 : 0 < s
    · have hm := Nat.mod_lt l h0
      simp only [e_120_9, e_120_11, e_120_14, e_120_15, e_120_18, e_120_19, e_120_20, e_120_21, e_120_23, e_120_24, e_120_25, e_120_27, e_120_28, e_120_31, lg_n, lg_i, lg_r, wd_nil, am_wd_i, am_wd_r, am_wd_l, am_gk_s, am_fld_s, List.getElem?_cons_zero, List.getElem?_cons_succ, am_bk_v, am_bk_n, bo_0, bo_1, am_pk_s, List.length_cons, List.length_nil, Nat.zero_add, List.set_cons_zero, List.set_cons_succ, Nat.reduceAdd, Nat.reduceLeDiff, Nat.reduceLT, e64, nI_leI (show 64 < 2 ^ 31 by decide) (show i < 2 ^ 31 by omega), if_neg (show ¬ 64 ≤ i by omega), hz, not_not_intro h0, if_false, if_neg (nI_ne0 h0 hs), pk_rem hl h0 hs, l1, nI_1, if_pos h0]
      exact ih (i + 1) s (l % s) _ (by omega) hs (by omega)
    · simp only [e_120_9, e_120_11, e_120_14, e_120_15, e_120_18, e_120_19, e_120_20, e_120_21, e_120_23, e_120_24, e_120_25, e_120_27, e_120_28, e_120_31, e_120_34, e_120_35, lg_n, lg_i, lg_r, wd_nil, am_wd_i, am_wd_r, am_wd_l, am_gk_s, am_fld_s, List.getElem?_cons_zero, List.getElem?_cons_succ, am_bk_v, am_bk_n, bo_0, bo_1, am_pk_s, List.length_cons, List.length_nil, Nat.zero_add, List.set_cons_zero, List.set_cons_succ, Nat.reduceAdd, Nat.reduceLeDiff, Nat.reduceLT, e64, nI_leI (show 64 < 2 ^ 31 by decide) (show i < 2 ^ 31 by omega), if_neg (show ¬ 64 ≤ i by omega), hz, if_pos h0, if_neg h0]
theorem m_cd {a b : Nat} (ha : a < 2 ^ 31) (hb : b < 2 ^ 31) : am_cal (d + 1) 120 [.int (nI a), .int (nI b)] h = some (some (.int (nI (cdN 64 b a))), h) := by
  refine (b_120 _ _ _).trans ?_; show am_ev _ 120 0 [some (.int (nI a)), some (.int (nI b)), none, none, none, none] [] _ = _
  simp only [e_120_0, e_120_1, e_120_2, e_120_3, e_120_4, e_120_5, lg_n, lg_i, lg_r, wd_nil, am_wd_i, am_wd_r, am_wd_l, am_gk_s, am_fld_s, List.getElem?_cons_zero, List.getElem?_cons_succ, am_bk_v, am_bk_n, bo_0, bo_1, am_pk_s, List.length_cons, List.length_nil, Nat.zero_add, List.set_cons_zero, List.set_cons_succ, Nat.reduceAdd, Nat.reduceLeDiff, Nat.reduceLT]
  exact l_cd (lg_i _) 64 0 b a none (by omega) hb ha
theorem c_dares (hC : CI h P σ u pa kp ke t n sn sF sT sK nz nt) (hD : OKD P) (hO : HOK P σ) (p q m w : Int32) : ∃ h', am_cal (d + 8) 102 [.ref 0, .int p, .int q, .int m, .int w] h = some (some (.int (if 0 ≤ p.toInt ∧ p.toInt < P.2.2.2.1 then (if (0 ≤ q.toInt ∧ q.toInt ≤ 10) ∧ (0 ≤ m.toInt ∧ m.toInt ≤ 8) ∧ (0 ≤ w.toInt ∧ w.toInt ≤ 1) then nI ((if w = 0 then 10 ^ chanN P (aloneN σ p.toInt.toNat) p.toInt.toNat m.toInt.toNat - q.toInt.toNat ^ chanN P (aloneN σ p.toInt.toNat) p.toInt.toNat m.toInt.toNat else 10 ^ chanN P (aloneN σ p.toInt.toNat) p.toInt.toNat m.toInt.toNat) / max 1 (cdN 64 (10 ^ chanN P (aloneN σ p.toInt.toNat) p.toInt.toNat m.toInt.toNat) (10 ^ chanN P (aloneN σ p.toInt.toNat) p.toInt.toNat m.toInt.toNat - q.toInt.toNat ^ chanN P (aloneN σ p.toInt.toNat) p.toInt.toNat m.toInt.toNat))) else -3) else -2)), h') ∧ CI h' P σ u pa kp ke t n sn sF sT sK nz nt ∧ FC h h' := by
  obtain ⟨f0, f1, f2, f3, f4, f5, f6, f7, f8⟩ := hC.fl
  obtain ⟨oP, q1, q2, -⟩ := hD
  have hn := oP.2.2.2.1
  have hp := hC.2.2.1
  have hhp := m_hasPerson (d := d + 6) hp (show P.2.2.2.1 < 2 ^ 31 by omega) p
  have hw1 := m_within (d := d + 6) (h := h) q 0 10
  have hw2 := m_within (d := d + 6) (h := h) m 0 8
  have hw3 := m_within (d := d + 6) (h := h) w 0 1
  have hi1 : ((0 : Int32) ≤ q ∧ q ≤ 10) ↔ (0 ≤ q.toInt ∧ q.toInt ≤ 10) := by rw [i_le, i_le]; exact Iff.rfl
  have hi2 : ((0 : Int32) ≤ m ∧ m ≤ 8) ↔ (0 ≤ m.toInt ∧ m.toInt ≤ 8) := by rw [i_le, i_le]; exact Iff.rfl
  have hi3 : ((0 : Int32) ≤ w ∧ w ≤ 1) ↔ (0 ≤ w.toInt ∧ w.toInt ≤ 1) := by rw [i_le, i_le]; exact Iff.rfl
  by_cases hin : 0 ≤ p.toInt ∧ p.toInt < P.2.2.2.1
  · rw [if_pos hin] at hhp ⊢
    by_cases hq : 0 ≤ q.toInt ∧ q.toInt ≤ 10
    · rw [if_pos (hi1.2 hq)] at hw1
      by_cases hm : 0 ≤ m.toInt ∧ m.toInt ≤ 8
      · rw [if_pos (hi2.2 hm)] at hw2
        by_cases hw : 0 ≤ w.toInt ∧ w.toInt ≤ 1
        · rw [if_pos (hi3.2 hw)] at hw3
          rw [if_pos ⟨hq, hm, hw⟩]
          obtain ⟨a, rfl, ha⟩ : ∃ a : Nat, p = nI a ∧ a < P.2.2.2.1 := ⟨p.toInt.toNat, i_of p hin.1, by omega⟩
          obtain ⟨x, rfl, hx⟩ : ∃ x : Nat, q = nI x ∧ x ≤ 10 := ⟨q.toInt.toNat, i_of q hq.1, by omega⟩
          obtain ⟨N, rfl, hN⟩ : ∃ N : Nat, m = nI N ∧ N ≤ 8 := ⟨m.toInt.toNat, i_of m hm.1, by omega⟩
          rw [nI_toInt (show a < 2 ^ 31 by omega), nI_toInt (show x < 2 ^ 31 by omega), nI_toInt (show N < 2 ^ 31 by omega), Int.toNat_natCast, Int.toNat_natCast, Int.toNat_natCast]
          obtain ⟨Φ, hF⟩ := hC.2.2.2.2.2.2.1
          have hS := hC.fs hF
          have k7 := (hS.fl).2.2.2.2.2.2.2
          obtain ⟨τ', hch⟩ := m_chances (d := d + 2) hS oP hO.1 (by omega) (N := N) (by have := hO.2.1; omega) ha
          obtain ⟨C1, F1⟩ := hC.lb (LB.mk (h := h) (l := 62) (b := 1) τ')
          have hcl := chanN_le P (aloneN σ a) a N
          generalize chanN P (aloneN σ a) a N = c at *
          have h10 : 10 ^ c ≤ 10 ^ 8 := Nat.pow_le_pow_right (by decide) (by omega)
          have hxc : x ^ c ≤ 10 ^ c := Nat.pow_le_pow_left hx c
          have e10 : (10 : Int32) = nI 10 := by decide +kernel
          have e1 : (1 : Int32) = nI 1 := by decide +kernel
          have hcd := cdN_lt (B := 2 ^ 31) 64 (10 ^ c) (10 ^ c - x ^ c) (by omega) (by omega)
          have hmx := m_max (d := d + 6) (h := pH h 62 1 τ') (x := 1) (y := cdN 64 (10 ^ c) (10 ^ c - x ^ c)) (by decide) hcd
          rw [← e1] at hmx
          have hmp : 0 < max 1 (cdN 64 (10 ^ c) (10 ^ c - x ^ c)) := by omega
          have hml : max 1 (cdN 64 (10 ^ c) (10 ^ c - x ^ c)) < 2 ^ 31 := by omega
          have hcdm := m_cd (d := d + 6) (h := pH h 62 1 τ') (a := 10 ^ c - x ^ c) (b := 10 ^ c) (by omega) (by omega)
          generalize cdN 64 (10 ^ c) (10 ^ c - x ^ c) = G at *
          have hp1 := m_power (d := d + 6) (h := pH h 62 1 τ') (b := 10) (N := c) (by omega)
          rw [← e10] at hp1
          have hp2 := m_power (d := d + 6) (h := pH h 62 1 τ') (b := x) (N := c) (by omega)
          refine ⟨_, ?_, C1, F1⟩
          refine (b_102 _ _ _).trans ?_; show am_ev _ 102 0 [some (.ref 0), some (.int (nI a)), some (.int (nI x)), some (.int (nI N)), some (.int w), none, none, none, none] [] _ = _
          simp only [e_102_0, e_102_1, e_102_4, e_102_5, e_102_8, e_102_11, e_102_13, e_102_14, e_102_15, e_102_16, e_102_18, e_102_21, e_102_24, e_102_25, e_102_26, e_102_28, e_102_31, e_102_34, e_102_36, e_102_37, e_102_38, e_102_41, e_102_44, e_102_46, e_102_47, e_102_48, e_102_51, e_102_52, e_102_53, e_102_56, e_102_58, e_102_60, e_102_62, e_102_65, e_102_67, e_102_69, e_102_70, e_102_72, e_102_75, e_102_76, e_102_78, e_102_79, e_102_81, e_102_83, e_102_86, e_102_89, e_102_91, e_102_93, e_102_96, e_102_98, e_102_101, e_102_103, e_102_105, e_102_106, lg_n, lg_i, lg_r, wd_nil, am_wd_i, am_wd_r, am_wd_l, am_gk_s, am_fld_s, List.getElem?_cons_zero, List.getElem?_cons_succ, am_bk_v, am_bk_n, bo_0, bo_1, am_pk_s, List.length_cons, List.length_nil, Nat.zero_add, List.set_cons_zero, List.set_cons_succ, Nat.reduceAdd, Nat.reduceLeDiff, Nat.reduceLT, f0, f4, is_plan hp, hhp, hw1, hw2, hw3, one_ne, not_false_eq_true, if_true, if_false, k7, hch, hp1, hp2, pk_sub hxc, hcdm, hmx, if_neg (nI_ne0 hmp hml), pk_div (show 10 ^ c - x ^ c < 2 ^ 31 by omega) hmp hml, pk_div (show 10 ^ c < 2 ^ 31 by omega) hmp hml]
          by_cases w0 : w = 0
          · simp [w0]
          · simp [w0]
        · rw [if_neg (fun z => hw (hi3.1 z))] at hw3
          rw [if_neg (fun z => hw z.2.2)]
          refine ⟨h, ?_, hC, FC.rf⟩
          refine (b_102 _ _ _).trans ?_; show am_ev _ 102 0 [some (.ref 0), some (.int p), some (.int q), some (.int m), some (.int w), none, none, none, none] [] _ = _
          simp only [e_102_0, e_102_1, e_102_4, e_102_5, e_102_8, e_102_11, e_102_13, e_102_14, e_102_15, e_102_16, e_102_18, e_102_21, e_102_24, e_102_25, e_102_26, e_102_28, e_102_31, e_102_34, e_102_36, e_102_37, e_102_38, e_102_41, e_102_44, e_102_46, lg_n, lg_i, lg_r, wd_nil, am_wd_i, am_wd_r, am_wd_l, am_gk_s, am_fld_s, List.getElem?_cons_zero, List.getElem?_cons_succ, am_bk_v, am_bk_n, bo_0, bo_1, am_pk_s, List.length_cons, List.length_nil, Nat.zero_add, List.set_cons_zero, List.set_cons_succ, Nat.reduceAdd, Nat.reduceLeDiff, Nat.reduceLT, f0, is_plan hp, hhp, hw1, hw2, hw3, one_ne, not_false_eq_true, not_true_eq_false, if_true, if_false]
      · rw [if_neg (fun z => hm (hi2.1 z))] at hw2
        rw [if_neg (fun z => hm z.2.1)]
        refine ⟨h, ?_, hC, FC.rf⟩
        refine (b_102 _ _ _).trans ?_; show am_ev _ 102 0 [some (.ref 0), some (.int p), some (.int q), some (.int m), some (.int w), none, none, none, none] [] _ = _
        simp only [e_102_0, e_102_1, e_102_4, e_102_5, e_102_8, e_102_11, e_102_13, e_102_14, e_102_15, e_102_16, e_102_18, e_102_21, e_102_24, e_102_25, e_102_26, e_102_28, e_102_31, e_102_34, e_102_36, e_102_37, e_102_38, e_102_41, e_102_44, e_102_46, lg_n, lg_i, lg_r, wd_nil, am_wd_i, am_wd_r, am_wd_l, am_gk_s, am_fld_s, List.getElem?_cons_zero, List.getElem?_cons_succ, am_bk_v, am_bk_n, bo_0, bo_1, am_pk_s, List.length_cons, List.length_nil, Nat.zero_add, List.set_cons_zero, List.set_cons_succ, Nat.reduceAdd, Nat.reduceLeDiff, Nat.reduceLT, f0, is_plan hp, hhp, hw1, hw2, one_ne, not_false_eq_true, not_true_eq_false, if_true, if_false]
    · rw [if_neg (fun z => hq (hi1.1 z))] at hw1
      rw [if_neg (fun z => hq z.1)]
      refine ⟨h, ?_, hC, FC.rf⟩
      refine (b_102 _ _ _).trans ?_; show am_ev _ 102 0 [some (.ref 0), some (.int p), some (.int q), some (.int m), some (.int w), none, none, none, none] [] _ = _
      simp only [e_102_0, e_102_1, e_102_4, e_102_5, e_102_8, e_102_11, e_102_13, e_102_14, e_102_15, e_102_16, e_102_18, e_102_21, e_102_24, e_102_25, e_102_26, e_102_28, e_102_31, e_102_34, e_102_36, e_102_37, e_102_38, e_102_41, e_102_44, e_102_46, lg_n, lg_i, lg_r, wd_nil, am_wd_i, am_wd_r, am_wd_l, am_gk_s, am_fld_s, List.getElem?_cons_zero, List.getElem?_cons_succ, am_bk_v, am_bk_n, bo_0, bo_1, am_pk_s, List.length_cons, List.length_nil, Nat.zero_add, List.set_cons_zero, List.set_cons_succ, Nat.reduceAdd, Nat.reduceLeDiff, Nat.reduceLT, f0, is_plan hp, hhp, hw1, one_ne, not_false_eq_true, not_true_eq_false, if_true, if_false]
  · rw [if_neg hin] at hhp ⊢
    refine ⟨h, ?_, hC, FC.rf⟩
    refine (b_102 _ _ _).trans ?_; show am_ev _ 102 0 [some (.ref 0), some (.int p), some (.int q), some (.int m), some (.int w), none, none, none, none] [] _ = _
    simp only [e_102_0, e_102_1, e_102_4, e_102_5, e_102_8, e_102_11, e_102_13, lg_n, lg_i, lg_r, wd_nil, am_wd_i, am_wd_r, am_wd_l, am_gk_s, am_fld_s, List.getElem?_cons_zero, List.getElem?_cons_succ, am_bk_v, am_bk_n, bo_0, bo_1, am_pk_s, List.length_cons, List.length_nil, Nat.zero_add, List.set_cons_zero, List.set_cons_succ, Nat.reduceAdd, Nat.reduceLeDiff, Nat.reduceLT, f0, is_plan hp, hhp, not_true_eq_false, if_true, if_false]
theorem c_seen (hC : CI h P σ u pa kp ke t n sn sF sT sK nz nt) (hD : OKD P) (hsn : sn ≤ 6) (a b m : Int32) : (¬ ((0 ≤ a.toInt ∧ a.toInt < P.1) ∧ (0 ≤ b.toInt ∧ b.toInt < P.1) ∧ a ≠ b ∧ (1 ≤ m.toInt ∧ m.toInt ≤ 60)) → am_cal (d + 8) 103 [.ref 0, .int a, .int b, .int m] h = some (some (.int (-3)), h)) ∧ ((0 ≤ a.toInt ∧ a.toInt < P.1) ∧ (0 ≤ b.toInt ∧ b.toInt < P.1) ∧ a ≠ b ∧ (1 ≤ m.toInt ∧ m.toInt ≤ 60) → sn = 6 → am_cal (d + 8) 103 [.ref 0, .int a, .int b, .int m] h = some (some (.int (-5)), h)) ∧ ((0 ≤ a.toInt ∧ a.toInt < P.1) ∧ (0 ≤ b.toInt ∧ b.toInt < P.1) ∧ a ≠ b ∧ (1 ≤ m.toInt ∧ m.toInt ≤ 60) → sn < 6 → ∃ h', am_cal (d + 8) 103 [.ref 0, .int a, .int b, .int m] h = some (some (.int (nI (sn + 1))), h') ∧ CI h' P σ u pa kp ke t n (sn + 1) (updn sF sn a.toInt.toNat) (updn sT sn b.toInt.toNat) (updn sK sn m.toInt.toNat) nz nt ∧ FC h h') := by
  obtain ⟨f0, f1, f2, f3, f4, f5, f6, f7, f8⟩ := hC.fl
  obtain ⟨oP, q1, q2, -⟩ := hD
  have hp := hC.2.2.1
  have ha := m_hasFloor (d := d + 6) hp (show P.1 < 2 ^ 31 by omega) a
  have hb := m_hasFloor (d := d + 6) hp (show P.1 < 2 ^ 31 by omega) b
  have hw := m_within (d := d + 6) (h := h) m 1 60
  have hiff : ((1 : Int32) ≤ m ∧ m ≤ 60) ↔ (1 ≤ m.toInt ∧ m.toInt ≤ 60) := by rw [i_le, i_le]; exact Iff.rfl
  obtain ⟨g, hS⟩ := hC.2.2.2.2.2.2.2.1
  obtain ⟨k0, k1, k2, k3, k4, k5, k6, k7⟩ := hS.fl
  refine ⟨fun hno => ?_, fun hin h6 => ?_, fun hin h6 => ?_⟩
  · refine (b_103 _ _ _).trans ?_; show am_ev _ 103 0 [some (.ref 0), some (.int a), some (.int b), some (.int m)] [] _ = _
    by_cases c1 : 0 ≤ a.toInt ∧ a.toInt < P.1
    · rw [if_pos c1] at ha
      by_cases c2 : 0 ≤ b.toInt ∧ b.toInt < P.1
      · rw [if_pos c2] at hb
        by_cases c3 : a = b
        · simp only [e_103_0, e_103_1, e_103_4, e_103_5, e_103_8, e_103_11, e_103_12, e_103_15, e_103_16, e_103_19, e_103_22, e_103_23, e_103_24, e_103_27, e_103_28, e_103_29, e_103_31, e_103_34, e_103_37, e_103_39, lg_n, lg_i, lg_r, wd_nil, am_wd_i, am_wd_r, am_wd_l, am_gk_s, am_fld_s, List.getElem?_cons_zero, List.getElem?_cons_succ, am_bk_v, am_bk_n, bo_0, bo_1, am_pk_s, List.length_cons, List.length_nil, Nat.zero_add, List.set_cons_zero, List.set_cons_succ, Nat.reduceAdd, Nat.reduceLeDiff, Nat.reduceLT, f0, is_plan hp, ha, hb, one_ne, if_false, c3, if_true]
        · have c4 : ¬ (1 ≤ m.toInt ∧ m.toInt ≤ 60) := fun z => hno ⟨c1, c2, c3, z⟩
          rw [if_neg (fun z => c4 (hiff.1 z))] at hw
          simp only [e_103_0, e_103_1, e_103_4, e_103_5, e_103_8, e_103_11, e_103_12, e_103_15, e_103_16, e_103_19, e_103_22, e_103_23, e_103_24, e_103_27, e_103_28, e_103_29, e_103_31, e_103_34, e_103_37, e_103_39, lg_n, lg_i, lg_r, wd_nil, am_wd_i, am_wd_r, am_wd_l, am_gk_s, am_fld_s, List.getElem?_cons_zero, List.getElem?_cons_succ, am_bk_v, am_bk_n, bo_0, bo_1, am_pk_s, List.length_cons, List.length_nil, Nat.zero_add, List.set_cons_zero, List.set_cons_succ, Nat.reduceAdd, Nat.reduceLeDiff, Nat.reduceLT, f0, is_plan hp, ha, hb, one_ne, if_false, c3, hw, not_true_eq_false, if_true]
      · rw [if_neg c2] at hb
        simp only [e_103_0, e_103_1, e_103_4, e_103_5, e_103_8, e_103_11, e_103_12, e_103_15, e_103_16, e_103_19, e_103_22, e_103_23, e_103_24, e_103_27, e_103_28, e_103_29, e_103_31, e_103_34, e_103_37, e_103_39, lg_n, lg_i, lg_r, wd_nil, am_wd_i, am_wd_r, am_wd_l, am_gk_s, am_fld_s, List.getElem?_cons_zero, List.getElem?_cons_succ, am_bk_v, am_bk_n, bo_0, bo_1, am_pk_s, List.length_cons, List.length_nil, Nat.zero_add, List.set_cons_zero, List.set_cons_succ, Nat.reduceAdd, Nat.reduceLeDiff, Nat.reduceLT, f0, is_plan hp, ha, hb, one_ne, if_false, if_true]
    · rw [if_neg c1] at ha
      simp only [e_103_0, e_103_1, e_103_4, e_103_5, e_103_8, e_103_11, e_103_12, e_103_15, e_103_16, e_103_19, e_103_22, e_103_23, e_103_24, e_103_27, e_103_28, e_103_29, e_103_31, e_103_34, e_103_37, e_103_39, lg_n, lg_i, lg_r, wd_nil, am_wd_i, am_wd_r, am_wd_l, am_gk_s, am_fld_s, List.getElem?_cons_zero, List.getElem?_cons_succ, am_bk_v, am_bk_n, bo_0, bo_1, am_pk_s, List.length_cons, List.length_nil, Nat.zero_add, List.set_cons_zero, List.set_cons_succ, Nat.reduceAdd, Nat.reduceLeDiff, Nat.reduceLT, f0, is_plan hp, ha, if_true]
  · obtain ⟨c1, c2, c3, c4⟩ := hin
    rw [if_pos c1] at ha
    rw [if_pos c2] at hb
    rw [if_pos (hiff.2 c4)] at hw
    have hnf := m_noteFull (d := d + 6) hS h6 a b m
    refine (b_103 _ _ _).trans ?_; show am_ev _ 103 0 [some (.ref 0), some (.int a), some (.int b), some (.int m)] [] _ = _
    simp only [e_103_0, e_103_1, e_103_4, e_103_5, e_103_8, e_103_11, e_103_12, e_103_15, e_103_16, e_103_19, e_103_22, e_103_23, e_103_24, e_103_27, e_103_28, e_103_29, e_103_31, e_103_34, e_103_37, e_103_39, e_103_40, e_103_41, e_103_44, e_103_45, e_103_46, e_103_47, e_103_50, e_103_53, e_103_54, e_103_57, e_103_60, e_103_63, e_103_65, lg_n, lg_i, lg_r, wd_nil, am_wd_i, am_wd_r, am_wd_l, am_gk_s, am_fld_s, List.getElem?_cons_zero, List.getElem?_cons_succ, am_bk_v, am_bk_n, bo_0, bo_1, am_pk_s, List.length_cons, List.length_nil, Nat.zero_add, List.set_cons_zero, List.set_cons_succ, Nat.reduceAdd, Nat.reduceLeDiff, Nat.reduceLT, f0, f5, is_plan hp, ha, hb, one_ne, if_false, c3, hw, not_false_eq_true, if_true, k7, hnf]
  · obtain ⟨c1, c2, c3, c4⟩ := hin
    rw [if_pos c1] at ha
    rw [if_pos c2] at hb
    rw [if_pos (hiff.2 c4)] at hw
    obtain ⟨x, rfl, hx⟩ : ∃ x : Nat, a = nI x ∧ x < 8 := ⟨a.toInt.toNat, i_of a c1.1, by omega⟩
    obtain ⟨y, rfl, hy⟩ : ∃ y : Nat, b = nI y ∧ y < 8 := ⟨b.toInt.toNat, i_of b c2.1, by omega⟩
    obtain ⟨w, rfl, hw8⟩ : ∃ w : Nat, m = nI w ∧ w < 61 := ⟨m.toInt.toNat, i_of m (by omega), by omega⟩
    obtain ⟨h1, e1, S1, F1⟩ := m_note (d := d + 6) hS h6 x y w
    rw [nI_toInt (show x < 2 ^ 31 by omega), nI_toInt (show y < 2 ^ 31 by omega), nI_toInt (show w < 2 ^ 31 by omega), Int.toNat_natCast, Int.toNat_natCast, Int.toNat_natCast]
    have C1 := hC.sg ⟨g, S1⟩ (fun k hk => F1.2.2 k (by omega))
    obtain ⟨v0, v1, v2, v3, v4, v5, -⟩ := C1.fl
    obtain ⟨r0, r1, r2, r3, -⟩ := S1.fl
    refine ⟨h1, ?_, C1, F1.1, F1.2.1, fun k hk => F1.2.2 k (by omega)⟩
    refine (b_103 _ _ _).trans ?_; show am_ev _ 103 0 [some (.ref 0), some (.int (nI x)), some (.int (nI y)), some (.int (nI w))] [] _ = _
    simp only [e_103_0, e_103_1, e_103_4, e_103_5, e_103_8, e_103_11, e_103_12, e_103_15, e_103_16, e_103_19, e_103_22, e_103_23, e_103_24, e_103_27, e_103_28, e_103_29, e_103_31, e_103_34, e_103_37, e_103_39, e_103_40, e_103_41, e_103_44, e_103_45, e_103_46, e_103_47, e_103_50, e_103_53, e_103_54, e_103_57, e_103_60, e_103_63, e_103_65, lg_n, lg_i, lg_r, wd_nil, am_wd_i, am_wd_r, am_wd_l, am_gk_s, am_fld_s, List.getElem?_cons_zero, List.getElem?_cons_succ, am_bk_v, am_bk_n, bo_0, bo_1, am_pk_s, List.length_cons, List.length_nil, Nat.zero_add, List.set_cons_zero, List.set_cons_succ, Nat.reduceAdd, Nat.reduceLeDiff, Nat.reduceLT, f0, f5, is_plan hp, ha, hb, one_ne, if_false, c3, hw, not_false_eq_true, if_true, k7, e1, v5, r3]
theorem c_forget (hC : CI h P σ u pa kp ke t n sn sF sT sK nz nt) : ∃ h', am_cal (d + 8) 104 [.ref 0] h = some (some (.int (nI sn)), h') ∧ CI h' P σ u pa kp ke t n 0 sF sT sK nz nt ∧ FC h h' := by
  obtain ⟨f0, f1, f2, f3, f4, f5, f6, f7, f8⟩ := hC.fl
  obtain ⟨g, hS⟩ := hC.2.2.2.2.2.2.2.1
  have h66 := hS.2.1
  unfold sg0 at h66
  have K6 : ∀ k, k ≠ 66 → am_at (am_set h 66 (sg0 66 0)) k = am_at h k := fun k hk => at_set_ne hk
  have S6 : SG (am_set h 66 (sg0 66 0)) 66 0 sF sT sK g := by
    obtain ⟨z1, z2, z3, z4, z5, ⟨E, z6, z6'⟩, z7, z8, z9⟩ := hS
    exact ⟨z1.keep (fun k _ => K6 k (by omega)), at_set_eq, by rw [K6 _ (by decide)]; exact z3, by rw [K6 _ (by decide)]; exact z4, by rw [K6 _ (by decide)]; exact z5, ⟨E, z6.keep (fun k _ _ => K6 k (by omega)), z6'⟩, z7.keep (fun k _ _ => K6 k (by omega)), by rw [K6 _ (by decide)]; exact z8, z9⟩
  refine ⟨_, ?_, hC.sg ⟨g, S6⟩ (fun k hk => K6 k (by omega)), FC.set (by decide)⟩
  refine (b_104 _ _ _).trans ?_; show am_ev _ 104 0 [some (.ref 0), none] [] _ = _
  simp only [e_104_0, e_104_1, e_104_4, e_104_7, e_104_8, e_104_9, e_104_12, e_104_13, e_104_16, e_104_17, lg_n, lg_i, lg_r, wd_nil, am_wd_i, am_wd_r, am_wd_l, am_gk_s, am_fld_s, List.getElem?_cons_zero, List.getElem?_cons_succ, am_bk_v, am_bk_n, bo_0, bo_1, am_pk_s, List.length_cons, List.length_nil, Nat.zero_add, List.set_cons_zero, List.set_cons_succ, Nat.reduceAdd, Nat.reduceLeDiff, Nat.reduceLT, f5, h66]
  rfl
theorem c_kinds (hC : CI h P σ u pa kp ke t n sn sF sT sK nz nt) (hD : OKD P) (hsn : sn ≤ 6) (hb : ∀ s, s < sn → sF s < P.1 ∧ sT s < P.1 ∧ sF s ≠ sT s ∧ 1 ≤ sK s ∧ sK s ≤ 60) : ∃ h', am_cal (d + 8) 105 [.ref 0] h = some (some (.int (nI (bitsN (fun k => fitN P.1 k sF sT sK sn 0) 5))), h') ∧ CI h' P σ u pa kp ke t n sn sF sT sK nz nt ∧ FC h h' := by
  obtain ⟨f0, f1, f2, f3, f4, f5, f6, f7, f8⟩ := hC.fl
  obtain ⟨oP, q1, q2, -⟩ := hD
  obtain ⟨g, hS⟩ := hC.2.2.2.2.2.2.2.1
  obtain ⟨k0, k1, k2, k3, k4, k5, k6, k7⟩ := hS.fl
  obtain ⟨h1, e1, S1, F1⟩ := m_fitK (d := d) hS (f := P.1) (by omega) hsn (fun s hs => by have := hb s hs; omega)
  obtain ⟨g0, -⟩ := fl_plan hC.2.2.1
  refine ⟨h1, ?_, hC.sg ⟨g, S1⟩ (fun k hk => F1.2.2 k (by omega)), F1.1, F1.2.1, fun k hk => F1.2.2 k (by omega)⟩
  refine (b_105 _ _ _).trans ?_; show am_ev _ 105 0 [some (.ref 0)] [] _ = _
  simp only [e_105_0, e_105_1, e_105_4, e_105_5, e_105_8, e_105_11, e_105_14, lg_n, lg_i, lg_r, wd_nil, am_wd_i, am_wd_r, am_wd_l, am_gk_s, am_fld_s, List.getElem?_cons_zero, List.getElem?_cons_succ, am_bk_v, am_bk_n, bo_0, bo_1, am_pk_s, List.length_cons, List.length_nil, Nat.zero_add, List.set_cons_zero, List.set_cons_succ, Nat.reduceAdd, Nat.reduceLeDiff, Nat.reduceLT, f0, f5, g0, k7, e1]
theorem c_ask (hC : CI h P σ u pa kp ke t n sn sF sT sK nz nt) (hD : OKD P) (hsn : sn ≤ 6) (hb : ∀ s, s < sn → sF s < P.1 ∧ sT s < P.1 ∧ sF s ≠ sT s ∧ 1 ≤ sK s ∧ sK s ≤ 60) : ∃ h', am_cal (d + 8) 106 [.ref 0] h = some (some (.int (cI ((bqO (fun a b => mostN (codN P.1 (bitsN (fun k => fitN P.1 k sF sT sK sn 0) 5) a b) 5) P.1 P.1 (cntN (fun i => (bitsN (fun k => fitN P.1 k sF sT sK sn 0) 5).testBit i) 8, 0)).2 + 1))), h') ∧ CI h' P σ u pa kp ke t n sn sF sT sK nz nt ∧ FC h h' := by
  obtain ⟨f0, f1, f2, f3, f4, f5, f6, f7, f8⟩ := hC.fl
  obtain ⟨oP, q1, q2, -⟩ := hD
  obtain ⟨g, hS⟩ := hC.2.2.2.2.2.2.2.1
  obtain ⟨k0, k1, k2, k3, k4, k5, k6, k7⟩ := hS.fl
  obtain ⟨h1, e1, S1, F1⟩ := m_fitK (d := d) hS (f := P.1) (by omega) hsn (fun s hs => by have := hb s hs; omega)
  have hlt := bitsN_lt (fun k => fitN P.1 k sF sT sK sn 0) 5
  obtain ⟨h2, g2, e2, S2, F2⟩ := m_bestQ (d := d) S1 (f := P.1) (by omega) hlt
  obtain ⟨g0, -⟩ := fl_plan hC.2.2.1
  obtain ⟨r0, r1, r2, r3, r4, r5, r6, r7⟩ := S1.fl
  have F12 := F1.tr F2
  refine ⟨h2, ?_, hC.sg ⟨g2, S2⟩ (fun k hk => F12.2.2 k (by omega)), F12.1, F12.2.1, fun k hk => F12.2.2 k (by omega)⟩
  refine (b_106 _ _ _).trans ?_; show am_ev _ 106 0 [some (.ref 0)] [] _ = _
  simp only [e_106_0, e_106_1, e_106_4, e_106_5, e_106_8, e_106_11, e_106_12, e_106_15, e_106_16, e_106_19, e_106_22, e_106_25, e_106_28, lg_n, lg_i, lg_r, wd_nil, am_wd_i, am_wd_r, am_wd_l, am_gk_s, am_fld_s, List.getElem?_cons_zero, List.getElem?_cons_succ, am_bk_v, am_bk_n, bo_0, bo_1, am_pk_s, List.length_cons, List.length_nil, Nat.zero_add, List.set_cons_zero, List.set_cons_succ, Nat.reduceAdd, Nat.reduceLeDiff, Nat.reduceLT, f0, f5, g0, k7, e1, r7, e2]
end CL
