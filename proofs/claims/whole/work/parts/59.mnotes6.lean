/-! the model's calls: reversed, pasted, counted; what was seen -/
section MI
variable {d : Nat} {h : am_H} {P : Pn} {σ : Hn} {u : Nat} {pa : Nat → Hn} {kp : Nat → Bool} {ke : Nat → Hn} {t : Nat → Nat} {n sn : Nat} {sF sT sK : Nat → Nat} {nz : Nat → Nat} {nt : Nat → Nat → Nat}
theorem l_reverse {Z S V TS TV : Nat → Int32} {q a b : Nat} (hq : q < 3) (hab : a ≤ b) (hb : b ≤ 12) {x4 : Option Value} (l4 : am_lg x4 = false) : ∀ j c (h : am_H), c + j = b - a → MQn h Z (lyI S TS (12 * q + a) (b - a) (fun p => b - a - 1 - p) c) (lyI V TV (12 * q + a) (b - a) (fun p => b - a - 1 - p) c) TS TV → ∃ h', am_ev (d + 1) 206 37 [some (.ref 87), some (.int (nI q)), some (.int (nI a)), some (.int (nI b)), x4, some (.int (nI c))] [] h = some (some (.int (nI (b - a))), h') ∧ MQn h' Z (lyI S TS (12 * q + a) (b - a) (fun p => b - a - 1 - p) (b - a)) (lyI V TV (12 * q + a) (b - a) (fun p => b - a - 1 - p) (b - a)) TS TV ∧ FN h h' := by
  intro j
  induction j with
  | zero =>
    intro c h hc hQ
    have : c = b - a := by omega
    subst this
    refine ⟨h, ?_, hQ, FN.rf⟩
    rw [e_206_37]
    simp only [e_206_39, e_206_40, e_206_41, e_206_42, e_206_64, e_206_65, e_206_66, e_206_67, lg_n, lg_i, lg_r, wd_nil, am_wd_i, am_wd_r, am_wd_l, am_gk_s, am_fld_s, List.getElem?_cons_zero, List.getElem?_cons_succ, am_bk_v, am_bk_n, bo_0, bo_1, am_pk_s, List.length_cons, List.length_nil, Nat.zero_add, List.set_cons_zero, List.set_cons_succ, Nat.reduceAdd, Nat.reduceLeDiff, Nat.reduceLT, pk_sub hab, nI_leI (show b - a < 2 ^ 31 by omega) (show b - a < 2 ^ 31 by omega), Nat.le_refl, if_true]
  | succ j ih =>
    intro c h hc hQ
    have hy : b - a - 1 - c < b - a := by omega
    obtain ⟨h1, e1, Q1, F1⟩ := m_lay (d := d) hQ hq (i := b - 1 - c) (r := c) (by omega) (by omega)
    rw [show 12 * q + (b - 1 - c) = 12 * q + a + (b - a - 1 - c) by omega, lyI_s hy (by omega) (fun p hp he => by omega), lyI_s hy (by omega) (fun p hp he => by omega)] at Q1
    obtain ⟨h', e', Q', F'⟩ := ih (c + 1) h1 (by omega) Q1
    refine ⟨h', ?_, Q', F1.tr F'⟩
    have hb1 : nI b - 1 - nI c = nI (b - 1 - c) := by rw [show (1 : Int32) = nI 1 by decide +kernel, pk_sub (by omega), pk_sub (by omega)]
    rw [e_206_37]
    simp only [e_206_39, e_206_40, e_206_41, e_206_42, e_206_45, e_206_46, e_206_47, e_206_48, e_206_49, e_206_50, e_206_52, e_206_53, e_206_55, e_206_58, e_206_61, lg_n, lg_i, lg_r, wd_nil, am_wd_i, am_wd_r, am_wd_l, am_gk_s, am_fld_s, List.getElem?_cons_zero, List.getElem?_cons_succ, am_bk_v, am_bk_n, bo_0, bo_1, am_pk_s, List.length_cons, List.length_nil, Nat.zero_add, List.set_cons_zero, List.set_cons_succ, Nat.reduceAdd, Nat.reduceLeDiff, Nat.reduceLT, pk_sub hab, nI_leI (show b - a < 2 ^ 31 by omega) (show c < 2 ^ 31 by omega), if_neg (show ¬ b - a ≤ c by omega), hb1, hQ.1.2.2.2.2.2, e1, l4, nI_1]
    exact e'
theorem n_reverse (hM : MI h P σ u pa kp ke t n sn sF sT sK nz nt) (hz : ∀ i, i < 3 → nz i ≤ 13) (x i j : Int32) : (rfS nz x i j ≠ 0 → am_cal (d + 8) 206 [.ref 87, .int x, .int i, .int j] h = some (some (.int (rfS nz x i j)), h)) ∧ (rfS nz x i j = 0 → ∃ h', am_cal (d + 8) 206 [.ref 87, .int x, .int i, .int j] h = some (some (.int (nI (j.toInt.toNat - i.toInt.toNat))), h') ∧ MI h' P σ u pa kp ke t n sn sF sT sK nz (thn nt x.toInt.toNat (flpN (nt x.toInt.toNat) i.toInt.toNat j.toInt.toNat)) ∧ FM h h') := by
  have hinn := m_isNotes (d := d + 5) (h := h) x
  obtain ⟨S, V, TS, TV, hQ, hS⟩ := hM.mq
  refine ⟨fun hne => ?_, fun h0 => ?_⟩
  · refine (b_206 _ _ _).trans ?_; show am_ev _ 206 0 [some (.ref 87), some (.int x), some (.int i), some (.int j), none, none] [] _ = _
    by_cases hA : 0 ≤ x.toInt ∧ x.toInt ≤ 2
    · rw [if_pos hA] at hinn
      obtain ⟨q, rfl, hq⟩ : ∃ q : Nat, x = nI q ∧ q < 3 := ⟨x.toInt.toNat, i_of x hA.1, by omega⟩
      have hsp := m_noSpan (d := d + 6) hM hz hq i j
      simp only [e_206_0, e_206_1, e_206_4, e_206_7, e_206_9, e_206_10, e_206_11, e_206_12, e_206_13, e_206_14, e_206_17, e_206_19, e_206_21, e_206_24, e_206_26, lg_n, lg_i, lg_r, wd_nil, am_wd_i, am_wd_r, am_wd_l, am_gk_s, am_fld_s, List.getElem?_cons_zero, List.getElem?_cons_succ, am_bk_v, am_bk_n, bo_0, bo_1, am_pk_s, List.length_cons, List.length_nil, Nat.zero_add, List.set_cons_zero, List.set_cons_succ, Nat.reduceAdd, Nat.reduceLeDiff, Nat.reduceLT, hinn, one_ne, not_false_eq_true, if_true, if_false, hQ.1.2.2.2.2.2, hsp, if_neg hne]
    · rw [if_neg hA] at hinn
      have : rfS nz x i j = -2 := by unfold rfS; rw [if_pos hA]
      rw [this]
      simp only [e_206_0, e_206_1, e_206_4, e_206_7, e_206_9, lg_n, lg_i, lg_r, wd_nil, am_wd_i, am_wd_r, am_wd_l, am_gk_s, am_fld_s, List.getElem?_cons_zero, List.getElem?_cons_succ, am_bk_v, am_bk_n, bo_0, bo_1, am_pk_s, List.length_cons, List.length_nil, Nat.zero_add, List.set_cons_zero, List.set_cons_succ, Nat.reduceAdd, Nat.reduceLeDiff, Nat.reduceLT, hinn, not_true_eq_false, if_true, if_false]
  · obtain ⟨q, a, b, rfl, hq, rfl, rfl, hab, hb⟩ := rfS_0 hz h0
    have hzq := hz q hq
    have hqi := nI_toInt (show q < 2 ^ 31 by omega)
    rw [if_pos (by rw [hqi]; omega)] at hinn
    have hsp := m_noSpan (d := d + 6) hM hz hq (nI a) (nI b)
    rw [h0] at hsp
    rw [hqi, nI_toInt (show a < 2 ^ 31 by omega), nI_toInt (show b < 2 ^ 31 by omega), Int.toNat_natCast, Int.toNat_natCast, Int.toNat_natCast]
    obtain ⟨h1, e1, Q1, F1⟩ := m_take (d := d + 6) hQ hq hab (show b ≤ 12 by omega)
    obtain ⟨h', e', Q', F'⟩ := l_reverse (d := d + 6) (Z := fun i => cI (nz i + 1)) (S := S) (V := V) (TS := tkI S TS (12 * q) a b) (TV := tkI V TV (12 * q) a b) (q := q) (a := a) (b := b) (x4 := some (.int 0)) hq hab (by omega) (lg_i _) (b - a) 0 h1 (by omega) (by rw [lyI_0, lyI_0]; exact Q1)
    refine ⟨h', ?_, hM.no (F1.tr F') Q' (fun k hk => rfl) (fun k hk p hp => ?_), (F1.tr F').fm⟩
    · refine (b_206 _ _ _).trans ?_; show am_ev _ 206 0 [some (.ref 87), some (.int (nI q)), some (.int (nI a)), some (.int (nI b)), none, none] [] _ = _
      simp only [e_206_0, e_206_1, e_206_4, e_206_7, e_206_9, e_206_10, e_206_11, e_206_12, e_206_13, e_206_14, e_206_17, e_206_19, e_206_21, e_206_24, e_206_26, e_206_27, e_206_28, e_206_29, e_206_30, e_206_31, e_206_34, e_206_35, lg_n, lg_i, lg_r, wd_nil, am_wd_i, am_wd_r, am_wd_l, am_gk_s, am_fld_s, List.getElem?_cons_zero, List.getElem?_cons_succ, am_bk_v, am_bk_n, bo_0, bo_1, am_pk_s, List.length_cons, List.length_nil, Nat.zero_add, List.set_cons_zero, List.set_cons_succ, Nat.reduceAdd, Nat.reduceLeDiff, Nat.reduceLT, hinn, one_ne, not_false_eq_true, if_true, if_false, hQ.1.2.2.2.2.2, hsp, e1]
      exact e'
    · unfold thn
      by_cases e : k = q
      · subst e
        rw [if_pos rfl]
        unfold flpN
        by_cases p1 : a ≤ p ∧ p < b
        · rw [if_pos p1]
          have hL : ∀ S TS : Nat → Int32, lyI S (tkI S TS (12 * k) a b) (12 * k + a) (b - a) (fun p => b - a - 1 - p) (b - a) (12 * k + p) = S (12 * k + (a + b - 1 - p)) := by
            intro S TS
            unfold lyI
            rw [if_pos ⟨by omega, by omega, show b - a - 1 - (12 * k + p - (12 * k + a)) < b - a by omega⟩]
            unfold tkI
            rw [if_pos (show b - a - 1 - (12 * k + p - (12 * k + a)) < b - a by omega)]
            show S (12 * k + a + (b - a - 1 - (12 * k + p - (12 * k + a)))) = _
            congr 1
            omega
          rw [hL, hL]
          exact hS k hk _ (by omega)
        · rw [if_neg p1]
          unfold lyI
          rw [if_neg (by omega), if_neg (by omega)]
          exact hS k hk p hp
      · rw [if_neg e]
        have h1 := hS k hk p hp
        have := hz k hk
        unfold lyI
        rw [if_neg (by omega), if_neg (by omega)]
        exact h1
theorem l_paste {Z S V TS TV : Nat → Int32} {q e m s : Nat} (hq : q < 3) (hem : e + m ≤ 12) (hZ : Z q = nI s) {x3 x4 x5 : Option Value} : ∀ j c (h : am_H), c + j = m → MQn h Z (lyI S TS (12 * q + e) m (fun p => p) c) (lyI V TV (12 * q + e) m (fun p => p) c) TS TV → ∃ h', am_ev (d + 1) 207 127 [some (.ref 87), some (.int (nI q)), some (.int (nI e)), x3, x4, x5, some (.int (nI m)), some (.int (nI c))] [] h = some (some (.int (nI s)), h') ∧ MQn h' Z (lyI S TS (12 * q + e) m (fun p => p) m) (lyI V TV (12 * q + e) m (fun p => p) m) TS TV ∧ FN h h' := by
  intro j
  induction j with
  | zero =>
    intro c h hc hQ
    have : c = m := by omega
    subst this
    refine ⟨h, ?_, hQ, FN.rf⟩
    obtain ⟨⟨f9, f10, f11, f30, f31, fis⟩, q1, q2, q3, q4, q5⟩ := hQ
    rw [e_207_127]
    simp only [e_207_129, e_207_131, e_207_151, e_207_152, e_207_155, e_207_156, e_207_157, lg_n, lg_i, lg_r, wd_nil, am_wd_i, am_wd_r, am_wd_l, am_gk_s, am_fld_s, List.getElem?_cons_zero, List.getElem?_cons_succ, am_bk_v, am_bk_n, bo_0, bo_1, am_pk_s, List.length_cons, List.length_nil, Nat.zero_add, List.set_cons_zero, List.set_cons_succ, Nat.reduceAdd, Nat.reduceLeDiff, Nat.reduceLT, nI_leI (show c < 2 ^ 31 by omega) (show c < 2 ^ 31 by omega), Nat.le_refl, if_true, f9, q1, ak_AI hq (show 3 < 2 ^ 31 by decide), hZ]
  | succ j ih =>
    intro c h hc hQ
    have hy : c < m := by omega
    obtain ⟨h1, e1, Q1, F1⟩ := m_lay (d := d) hQ hq (i := e + c) (r := c) (by omega) (by omega)
    rw [← Nat.add_assoc, lyI_s hy rfl (fun p hp he => he), lyI_s hy rfl (fun p hp he => he)] at Q1
    obtain ⟨h', e', Q', F'⟩ := ih (c + 1) h1 (by omega) Q1
    refine ⟨h', ?_, Q', F1.tr F'⟩
    rw [e_207_127]
    simp only [e_207_129, e_207_131, e_207_134, e_207_135, e_207_136, e_207_137, e_207_139, e_207_140, e_207_142, e_207_145, e_207_148, lg_n, lg_i, lg_r, wd_nil, am_wd_i, am_wd_r, am_wd_l, am_gk_s, am_fld_s, List.getElem?_cons_zero, List.getElem?_cons_succ, am_bk_v, am_bk_n, bo_0, bo_1, am_pk_s, List.length_cons, List.length_nil, Nat.zero_add, List.set_cons_zero, List.set_cons_succ, Nat.reduceAdd, Nat.reduceLeDiff, Nat.reduceLT, nI_leI (show m < 2 ^ 31 by omega) (show c < 2 ^ 31 by omega), if_neg (show ¬ m ≤ c by omega), nI_add, hQ.1.2.2.2.2.2, e1, nI_1]
    exact e'
theorem n_paste (hM : MI h P σ u pa kp ke t n sn sF sT sK nz nt) (hz : ∀ i, i < 3 → nz i ≤ 13) (x k y i j : Int32) : (rfP nz x k y i j ≠ 0 → am_cal (d + 8) 207 [.ref 87, .int x, .int k, .int y, .int i, .int j] h = some (some (.int (rfP nz x k y i j)), h)) ∧ (rfP nz x k y i j = 0 → ∃ h', am_cal (d + 8) 207 [.ref 87, .int x, .int k, .int y, .int i, .int j] h = some (some (.int (nI (nz x.toInt.toNat - 1 + (j.toInt.toNat - i.toInt.toNat)))), h') ∧ MI h' P σ u pa kp ke t n sn sF sT sK (updn nz x.toInt.toNat (nz x.toInt.toNat + (j.toInt.toNat - i.toInt.toNat))) (thn nt x.toInt.toNat (pasN (nt x.toInt.toNat) (nt y.toInt.toNat) k.toInt.toNat i.toInt.toNat (j.toInt.toNat - i.toInt.toNat))) ∧ FM h h') := by
  have hhx := m_isNotes (d := d + 5) (h := h) x
  have hhy := m_isNotes (d := d + 5) (h := h) y
  obtain ⟨S, V, TS, TV, hQ, hS⟩ := hM.mq
  obtain ⟨⟨f9, f10, f11, f30, f31, fis⟩, q1, q2, q3, q4, q5⟩ := id hQ
  by_cases hA : 0 ≤ x.toInt ∧ x.toInt ≤ 2
  · rw [if_pos hA] at hhx
    by_cases hB : 0 ≤ y.toInt ∧ y.toInt ≤ 2
    · rw [if_pos hB] at hhy
      obtain ⟨q, rfl, hq⟩ : ∃ q : Nat, x = nI q ∧ q < 3 := ⟨x.toInt.toNat, i_of x hA.1, by omega⟩
      obtain ⟨r, rfl, hr⟩ : ∃ r : Nat, y = nI r ∧ r < 3 := ⟨y.toInt.toNat, i_of y hB.1, by omega⟩
      have hqi := nI_toInt (show q < 2 ^ 31 by omega)
      have hri := nI_toInt (show r < 2 ^ 31 by omega)
      have hzq := hz q hq
      have hzr := hz r hr
      have e12 : (12 : Int32) = nI 12 := by decide +kernel
      unfold rfP
      rw [hqi, hri, Int.toNat_natCast, Int.toNat_natCast, if_neg (show ¬ (¬ (0 ≤ (q : Int) ∧ (q : Int) ≤ 2) ∨ ¬ (0 ≤ (r : Int) ∧ (r : Int) ≤ 2)) by omega)]
      by_cases hm : nz q = 0
      · rw [if_pos (Or.inl hm)]
        refine ⟨fun _ => ?_, fun z => absurd z (by decide)⟩
        have hcq : cI (nz q + 1) = -1 := by rw [hm]; rfl
        refine (b_207 _ _ _).trans ?_; show am_ev _ 207 0 [some (.ref 87), some (.int (nI q)), some (.int k), some (.int (nI r)), some (.int i), some (.int j), none, none] [] _ = _
        simp only [e_207_0, e_207_1, e_207_4, e_207_7, e_207_8, e_207_11, e_207_14, e_207_16, e_207_17, e_207_18, e_207_21, e_207_22, e_207_23, e_207_26, e_207_27, e_207_30, e_207_31, e_207_32, e_207_35, e_207_37, lg_n, lg_i, lg_r, wd_nil, am_wd_i, am_wd_r, am_wd_l, am_gk_s, am_fld_s, List.getElem?_cons_zero, List.getElem?_cons_succ, am_bk_v, am_bk_n, bo_0, bo_1, am_pk_s, List.length_cons, List.length_nil, Nat.zero_add, List.set_cons_zero, List.set_cons_succ, Nat.reduceAdd, Nat.reduceLeDiff, Nat.reduceLT, hhx, hhy, one_ne, not_false_eq_true, if_true, if_false, f9, q1, ak_AI hq (show 3 < 2 ^ 31 by decide), hcq, show ((-1 : Int32) < 0) = True by decide]
      · obtain ⟨s, hs⟩ : ∃ s, nz q = s + 1 := ⟨nz q - 1, by omega⟩
        have hns : (nI s < 0) = False := eq_false (nI_pos (show s < 2 ^ 31 by omega))
        by_cases hm' : nz r = 0
        · rw [if_pos (Or.inr hm')]
          refine ⟨fun _ => ?_, fun z => absurd z (by decide)⟩
          have hcq : cI (nz q + 1) = nI s := by rw [hs, cI_s]
          have hcr : cI (nz r + 1) = -1 := by rw [hm']; rfl
          refine (b_207 _ _ _).trans ?_; show am_ev _ 207 0 [some (.ref 87), some (.int (nI q)), some (.int k), some (.int (nI r)), some (.int i), some (.int j), none, none] [] _ = _
          simp only [e_207_0, e_207_1, e_207_4, e_207_7, e_207_8, e_207_11, e_207_14, e_207_16, e_207_17, e_207_18, e_207_21, e_207_22, e_207_23, e_207_26, e_207_27, e_207_30, e_207_31, e_207_32, e_207_35, e_207_37, lg_n, lg_i, lg_r, wd_nil, am_wd_i, am_wd_r, am_wd_l, am_gk_s, am_fld_s, List.getElem?_cons_zero, List.getElem?_cons_succ, am_bk_v, am_bk_n, bo_0, bo_1, am_pk_s, List.length_cons, List.length_nil, Nat.zero_add, List.set_cons_zero, List.set_cons_succ, Nat.reduceAdd, Nat.reduceLeDiff, Nat.reduceLT, hhx, hhy, one_ne, not_false_eq_true, if_true, if_false, f9, q1, ak_AI hq (show 3 < 2 ^ 31 by decide), ak_AI hr (show 3 < 2 ^ 31 by decide), hcq, hcr, hns, show ((0 : Int32) ≤ -1) = False by decide]
        · rw [if_neg (show ¬ (nz q = 0 ∨ nz r = 0) by omega)]
          have hi0 : i < 0 ↔ i.toInt < 0 := by rw [i_lt, i_0]
          obtain ⟨s', hs'⟩ : ∃ s', nz r = s' + 1 := ⟨nz r - 1, by omega⟩
          have hcq : cI (nz q + 1) = nI s := by rw [hs, cI_s]
          have hcr : cI (nz r + 1) = nI s' := by rw [hs', cI_s]
          have hsj : nI s' < j ↔ (s' : Int) < j.toInt := by rw [i_lt, nI_toInt (by omega)]
          have hin := m_in (d := d + 6) (h := h) k.toInt64 0 (nI s).toInt64
          rw [l_in32, l_in32, show (0 : Int64).toInt = 0 from rfl, nI_toInt (show s < 2 ^ 31 by omega)] at hin
          by_cases c1 : i.toInt < 0 ∨ (nz r : Int) - 1 < j.toInt
          · rw [if_pos (Or.inl c1)]
            refine ⟨fun _ => ?_, fun z => absurd z (by decide)⟩
            refine (b_207 _ _ _).trans ?_; show am_ev _ 207 0 [some (.ref 87), some (.int (nI q)), some (.int k), some (.int (nI r)), some (.int i), some (.int j), none, none] [] _ = _
            simp only [e_207_0, e_207_1, e_207_4, e_207_7, e_207_8, e_207_11, e_207_14, e_207_16, e_207_17, e_207_18, e_207_21, e_207_22, e_207_23, e_207_26, e_207_27, e_207_30, e_207_31, e_207_32, e_207_35, e_207_37, e_207_38, e_207_40, e_207_43, e_207_45, e_207_46, e_207_49, e_207_50, e_207_51, e_207_54, e_207_55, e_207_56, e_207_57, e_207_58, e_207_61, e_207_62, e_207_63, e_207_64, e_207_67, e_207_70, e_207_72, lg_n, lg_i, lg_r, wd_nil, am_wd_i, am_wd_r, am_wd_l, am_gk_s, am_fld_s, List.getElem?_cons_zero, List.getElem?_cons_succ, am_bk_v, am_bk_n, bo_0, bo_1, am_pk_s, List.length_cons, List.length_nil, Nat.zero_add, List.set_cons_zero, List.set_cons_succ, Nat.reduceAdd, Nat.reduceLeDiff, Nat.reduceLT, hhx, hhy, one_ne, not_false_eq_true, if_true, if_false, f9, q1, ak_AI hq (show 3 < 2 ^ 31 by decide), ak_AI hr (show 3 < 2 ^ 31 by decide), hcq, hcr, hns, nI_pos' (show s' < 2 ^ 31 by omega), hi0, hsj]
            by_cases c11 : i.toInt < 0
            · simp [c11]
            · simp [c11, show (s' : Int) < j.toInt by omega]
          · by_cases c2 : 0 ≤ k.toInt ∧ k.toInt ≤ (nz q : Int) - 1
            · rw [if_neg (show ¬ ((i.toInt < 0 ∨ (nz r : Int) - 1 < j.toInt) ∨ ¬ (0 ≤ k.toInt ∧ k.toInt ≤ (nz q : Int) - 1)) by omega)]
              rw [if_pos (by omega)] at hin
              have hji : j < i ↔ j.toInt < i.toInt := i_lt j i
              have hij : i ≤ j ↔ ¬ j.toInt < i.toInt := by rw [i_le]; omega
              by_cases c3 : j.toInt < i.toInt
              · rw [if_pos c3]
                refine ⟨fun _ => ?_, fun z => absurd z (by decide)⟩
                refine (b_207 _ _ _).trans ?_; show am_ev _ 207 0 [some (.ref 87), some (.int (nI q)), some (.int k), some (.int (nI r)), some (.int i), some (.int j), none, none] [] _ = _
                simp only [e_207_0, e_207_1, e_207_4, e_207_7, e_207_8, e_207_11, e_207_14, e_207_16, e_207_17, e_207_18, e_207_21, e_207_22, e_207_23, e_207_26, e_207_27, e_207_30, e_207_31, e_207_32, e_207_35, e_207_37, e_207_38, e_207_40, e_207_43, e_207_45, e_207_46, e_207_49, e_207_50, e_207_51, e_207_54, e_207_55, e_207_56, e_207_57, e_207_58, e_207_61, e_207_62, e_207_63, e_207_64, e_207_67, e_207_70, e_207_72, e_207_73, e_207_75, e_207_77, e_207_80, e_207_82, lg_n, lg_i, lg_r, wd_nil, am_wd_i, am_wd_r, am_wd_l, am_gk_s, am_fld_s, List.getElem?_cons_zero, List.getElem?_cons_succ, am_bk_v, am_bk_n, bo_0, bo_1, am_pk_s, List.length_cons, List.length_nil, Nat.zero_add, List.set_cons_zero, List.set_cons_succ, Nat.reduceAdd, Nat.reduceLeDiff, Nat.reduceLT, hhx, hhy, one_ne, not_false_eq_true, if_true, if_false, f9, q1, ak_AI hq (show 3 < 2 ^ 31 by decide), ak_AI hr (show 3 < 2 ^ 31 by decide), hcq, hcr, hns, nI_pos' (show s' < 2 ^ 31 by omega), hi0, hsj, show ¬ i.toInt < 0 by omega, show ¬ (s' : Int) < j.toInt by omega, hin, hij, c3, not_true_eq_false]
              · rw [if_neg c3]
                have hil := i.toInt_lt
                have hjl := j.toInt_lt
                have hkl := k.toInt_lt
                obtain ⟨a, rfl, hab31⟩ : ∃ a : Nat, i = nI a ∧ a < 2 ^ 31 := ⟨i.toInt.toNat, i_of i (by omega), by omega⟩
                obtain ⟨b, rfl, hbb31⟩ : ∃ b : Nat, j = nI b ∧ b < 2 ^ 31 := ⟨j.toInt.toNat, i_of j (by omega), by omega⟩
                obtain ⟨e, rfl, heb31⟩ : ∃ e : Nat, k = nI e ∧ e < 2 ^ 31 := ⟨k.toInt.toNat, i_of k c2.1, by omega⟩
                rw [nI_toInt hab31, nI_toInt hbb31] at c1 c3 hij
                rw [nI_toInt hab31] at hi0
                rw [nI_toInt hbb31] at hsj
                rw [nI_toInt heb31] at c2
                rw [nI_toInt hab31, nI_toInt hbb31, nI_toInt heb31, Int.toNat_natCast, Int.toNat_natCast, Int.toNat_natCast]
                have hab : a ≤ b := by omega
                by_cases c4 : 12 < (nz q : Int) - 1 + ((b : Int) - a)
                · rw [if_pos c4]
                  refine ⟨fun _ => ?_, fun z => absurd z (by decide)⟩
                  refine (b_207 _ _ _).trans ?_; show am_ev _ 207 0 [some (.ref 87), some (.int (nI q)), some (.int (nI e)), some (.int (nI r)), some (.int (nI a)), some (.int (nI b)), none, none] [] _ = _
                  simp only [e_207_0, e_207_1, e_207_4, e_207_7, e_207_8, e_207_11, e_207_14, e_207_16, e_207_17, e_207_18, e_207_21, e_207_22, e_207_23, e_207_26, e_207_27, e_207_30, e_207_31, e_207_32, e_207_35, e_207_37, e_207_38, e_207_40, e_207_43, e_207_45, e_207_46, e_207_49, e_207_50, e_207_51, e_207_54, e_207_55, e_207_56, e_207_57, e_207_58, e_207_61, e_207_62, e_207_63, e_207_64, e_207_67, e_207_70, e_207_72, e_207_73, e_207_75, e_207_77, e_207_80, e_207_82, e_207_83, e_207_85, e_207_87, e_207_88, e_207_90, e_207_91, e_207_94, e_207_95, e_207_96, e_207_98, e_207_99, e_207_101, e_207_104, e_207_106, lg_n, lg_i, lg_r, wd_nil, am_wd_i, am_wd_r, am_wd_l, am_gk_s, am_fld_s, List.getElem?_cons_zero, List.getElem?_cons_succ, am_bk_v, am_bk_n, bo_0, bo_1, am_pk_s, List.length_cons, List.length_nil, Nat.zero_add, List.set_cons_zero, List.set_cons_succ, Nat.reduceAdd, Nat.reduceLeDiff, Nat.reduceLT, hhx, hhy, one_ne, not_false_eq_true, if_true, if_false, f9, q1, ak_AI hq (show 3 < 2 ^ 31 by decide), ak_AI hr (show 3 < 2 ^ 31 by decide), hcq, hcr, hns, nI_pos' (show s' < 2 ^ 31 by omega), hi0, hsj, show ¬ (a : Int) < 0 by omega, show ¬ (s' : Int) < (b : Int) by omega, hin, hij, c3, pk_sub hab, nI_add, e12, nI_leI (show s + (b - a) < 2 ^ 31 by omega) (show 12 < 2 ^ 31 by decide), if_neg (show ¬ s + (b - a) ≤ 12 by omega)]
                · rw [if_neg c4]
                  refine ⟨fun z => absurd rfl z, fun _ => ?_⟩
                  obtain ⟨h1, e1, Q1, F1⟩ := m_take (d := d + 6) hQ hr hab (show b ≤ 12 by omega)
                  obtain ⟨h2, e2, Q2, F2⟩ := m_makeRoom (d := d + 6) Q1 hq (i := e) (m := b - a) (s := s) (by omega) (by omega) hcq
                  obtain ⟨h3, e3, Q3, F3⟩ := l_paste (d := d + 6) (q := q) (e := e) (m := b - a) (s := s + (b - a)) (S := mvI S (12 * q + s) (b - a) (12 * q + e)) (V := mvI V (12 * q + s) (b - a) (12 * q + e)) (TS := tkI S TS (12 * r) a b) (TV := tkI V TV (12 * r) a b) (Z := upd (fun i => cI (nz i + 1)) q (nI (s + (b - a)))) (x3 := some (.int (nI r))) (x4 := some (.int (nI a))) (x5 := some (.int (nI b))) hq (by omega) pk_us (b - a) 0 h2 (by omega) (by rw [lyI_0, lyI_0]; exact Q2)
                  have F123 := (F1.tr F2).tr F3
                  refine ⟨h3, ?_, hM.no F123 Q3 (fun i hi => ?_) (fun i hi p hp => ?_), F123.fm⟩
                  · rw [show nz q - 1 = s by omega]
                    refine (b_207 _ _ _).trans ?_; show am_ev _ 207 0 [some (.ref 87), some (.int (nI q)), some (.int (nI e)), some (.int (nI r)), some (.int (nI a)), some (.int (nI b)), none, none] [] _ = _
                    simp only [e_207_0, e_207_1, e_207_4, e_207_7, e_207_8, e_207_11, e_207_14, e_207_16, e_207_17, e_207_18, e_207_21, e_207_22, e_207_23, e_207_26, e_207_27, e_207_30, e_207_31, e_207_32, e_207_35, e_207_37, e_207_38, e_207_40, e_207_43, e_207_45, e_207_46, e_207_49, e_207_50, e_207_51, e_207_54, e_207_55, e_207_56, e_207_57, e_207_58, e_207_61, e_207_62, e_207_63, e_207_64, e_207_67, e_207_70, e_207_72, e_207_73, e_207_75, e_207_77, e_207_80, e_207_82, e_207_83, e_207_85, e_207_87, e_207_88, e_207_90, e_207_91, e_207_94, e_207_95, e_207_96, e_207_98, e_207_99, e_207_101, e_207_104, e_207_106, e_207_107, e_207_108, e_207_109, e_207_111, e_207_113, e_207_116, e_207_117, e_207_118, e_207_119, e_207_121, e_207_124, e_207_125, lg_n, lg_i, lg_r, wd_nil, am_wd_i, am_wd_r, am_wd_l, am_gk_s, am_fld_s, List.getElem?_cons_zero, List.getElem?_cons_succ, am_bk_v, am_bk_n, bo_0, bo_1, am_pk_s, List.length_cons, List.length_nil, Nat.zero_add, List.set_cons_zero, List.set_cons_succ, Nat.reduceAdd, Nat.reduceLeDiff, Nat.reduceLT, hhx, hhy, one_ne, not_false_eq_true, if_true, if_false, f9, fis, q1, ak_AI hq (show 3 < 2 ^ 31 by decide), ak_AI hr (show 3 < 2 ^ 31 by decide), hcq, hcr, hns, nI_pos' (show s' < 2 ^ 31 by omega), hi0, hsj, show ¬ (a : Int) < 0 by omega, show ¬ (s' : Int) < (b : Int) by omega, hin, hij, c3, pk_sub hab, nI_add, e12, nI_leI (show s + (b - a) < 2 ^ 31 by omega) (show 12 < 2 ^ 31 by decide), if_pos (show s + (b - a) ≤ 12 by omega), e1, Q1.1.2.2.2.2.2, e2]
                    exact e3
                  · unfold upd updn
                    by_cases ei : i = q
                    · rw [if_pos ei, if_pos ei, show nz q + (b - a) = s + (b - a) + 1 by omega, cI_s]
                    · rw [if_neg ei, if_neg ei]
                  · unfold updn at hp
                    unfold thn
                    by_cases ei : i = q
                    · subst ei
                      rw [if_pos rfl] at hp ⊢
                      unfold pasN
                      by_cases p1 : p < e
                      · rw [if_pos p1]
                        unfold lyI mvI
                        rw [if_neg (by omega), if_neg (by omega), if_neg (by omega), if_neg (by omega)]
                        exact hS i hi p (by omega)
                      · rw [if_neg p1]
                        by_cases p2 : p < e + (b - a)
                        · rw [if_pos p2]
                          have hL : ∀ S S' TS : Nat → Int32, lyI S' (tkI S TS (12 * r) a b) (12 * i + e) (b - a) (fun p => p) (b - a) (12 * i + p) = S (12 * r + (a + (p - e))) := by
                            intro S S' TS
                            unfold lyI
                            rw [if_pos ⟨by omega, by omega, show 12 * i + p - (12 * i + e) < b - a by omega⟩]
                            unfold tkI
                            rw [if_pos (show 12 * i + p - (12 * i + e) < b - a by omega)]
                            show S (12 * r + a + (12 * i + p - (12 * i + e))) = _
                            congr 1
                            omega
                          rw [hL, hL]
                          exact hS r hr _ (by omega)
                        · rw [if_neg p2]
                          have hL : ∀ S TS : Nat → Int32, lyI (mvI S (12 * i + s) (b - a) (12 * i + e)) TS (12 * i + e) (b - a) (fun p => p) (b - a) (12 * i + p) = S (12 * i + (p - (b - a))) := by
                            intro S TS
                            unfold lyI mvI
                            rw [if_neg (by omega), if_pos (by omega)]
                            congr 1
                            omega
                          rw [hL, hL]
                          exact hS i hi _ (by omega)
                    · rw [if_neg ei] at hp ⊢
                      have h1 := hS i hi p hp
                      have := hz i hi
                      unfold lyI mvI
                      rw [if_neg (by omega), if_neg (by omega), if_neg (by omega), if_neg (by omega)]
                      exact h1
            · rw [if_pos (Or.inr c2)]
              rw [if_neg (by omega)] at hin
              refine ⟨fun _ => ?_, fun z => absurd z (by decide)⟩
              refine (b_207 _ _ _).trans ?_; show am_ev _ 207 0 [some (.ref 87), some (.int (nI q)), some (.int k), some (.int (nI r)), some (.int i), some (.int j), none, none] [] _ = _
              simp only [e_207_0, e_207_1, e_207_4, e_207_7, e_207_8, e_207_11, e_207_14, e_207_16, e_207_17, e_207_18, e_207_21, e_207_22, e_207_23, e_207_26, e_207_27, e_207_30, e_207_31, e_207_32, e_207_35, e_207_37, e_207_38, e_207_40, e_207_43, e_207_45, e_207_46, e_207_49, e_207_50, e_207_51, e_207_54, e_207_55, e_207_56, e_207_57, e_207_58, e_207_61, e_207_62, e_207_63, e_207_64, e_207_67, e_207_70, e_207_72, lg_n, lg_i, lg_r, wd_nil, am_wd_i, am_wd_r, am_wd_l, am_gk_s, am_fld_s, List.getElem?_cons_zero, List.getElem?_cons_succ, am_bk_v, am_bk_n, bo_0, bo_1, am_pk_s, List.length_cons, List.length_nil, Nat.zero_add, List.set_cons_zero, List.set_cons_succ, Nat.reduceAdd, Nat.reduceLeDiff, Nat.reduceLT, hhx, hhy, one_ne, not_false_eq_true, if_true, if_false, f9, q1, ak_AI hq (show 3 < 2 ^ 31 by decide), ak_AI hr (show 3 < 2 ^ 31 by decide), hcq, hcr, hns, nI_pos' (show s' < 2 ^ 31 by omega), hi0, hsj, show ¬ i.toInt < 0 by omega, show ¬ (s' : Int) < j.toInt by omega, hin, not_true_eq_false]
    · rw [if_neg hB] at hhy
      have hv : rfP nz x k y i j = -2 := by unfold rfP; rw [if_pos (Or.inr hB)]
      rw [hv]
      refine ⟨fun _ => ?_, fun z => absurd z (by decide)⟩
      refine (b_207 _ _ _).trans ?_; show am_ev _ 207 0 [some (.ref 87), some (.int x), some (.int k), some (.int y), some (.int i), some (.int j), none, none] [] _ = _
      simp only [e_207_0, e_207_1, e_207_4, e_207_7, e_207_8, e_207_11, e_207_14, e_207_16, lg_n, lg_i, lg_r, wd_nil, am_wd_i, am_wd_r, am_wd_l, am_gk_s, am_fld_s, List.getElem?_cons_zero, List.getElem?_cons_succ, am_bk_v, am_bk_n, bo_0, bo_1, am_pk_s, List.length_cons, List.length_nil, Nat.zero_add, List.set_cons_zero, List.set_cons_succ, Nat.reduceAdd, Nat.reduceLeDiff, Nat.reduceLT, hhx, hhy, one_ne, not_true_eq_false, if_true, if_false]
  · rw [if_neg hA] at hhx
    have hv : rfP nz x k y i j = -2 := by unfold rfP; rw [if_pos (Or.inl hA)]
    rw [hv]
    refine ⟨fun _ => ?_, fun z => absurd z (by decide)⟩
    refine (b_207 _ _ _).trans ?_; show am_ev _ 207 0 [some (.ref 87), some (.int x), some (.int k), some (.int y), some (.int i), some (.int j), none, none] [] _ = _
    simp only [e_207_0, e_207_1, e_207_4, e_207_7, e_207_8, e_207_11, e_207_14, e_207_16, lg_n, lg_i, lg_r, wd_nil, am_wd_i, am_wd_r, am_wd_l, am_gk_s, am_fld_s, List.getElem?_cons_zero, List.getElem?_cons_succ, am_bk_v, am_bk_n, bo_0, bo_1, am_pk_s, List.length_cons, List.length_nil, Nat.zero_add, List.set_cons_zero, List.set_cons_succ, Nat.reduceAdd, Nat.reduceLeDiff, Nat.reduceLT, hhx, if_true]
end MI
