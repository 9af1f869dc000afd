/-! the class's calls: notes, counts -/
section CL
variable {d : Nat} {h : am_H} {P : Pn} {σ : Hn} {u : Nat} {pa : Nat → Hn} {kp : Nat → Bool} {ke : Nat → Hn} {t : Nat → Nat} {n sn : Nat} {sF sT sK : Nat → Nat} {nz : Nat → Nat} {nt : Nat → Nat → Nat}
theorem m_hasNotes (x : Int32) : am_cal (d + 2) 122 [.ref 0, .int x] h = some (some (.int (if 0 ≤ x.toInt ∧ x.toInt ≤ 2 then 1 else 0)), h) := by
  have hw := m_within (d := d) (h := h) x 0 2
  have hiff : ((0 : Int32) ≤ x ∧ x ≤ 2) ↔ (0 ≤ x.toInt ∧ x.toInt ≤ 2) := by rw [i_le, i_le]; exact Iff.rfl
  refine (b_122 _ _ _).trans ?_; show am_ev _ 122 0 [some (.ref 0), some (.int x)] [] _ = _
  by_cases hin : 0 ≤ x.toInt ∧ x.toInt ≤ 2
  · rw [if_pos (hiff.2 hin)] at hw
    simp only [e_122_0, e_122_1, e_122_2, e_122_3, e_122_6, lg_n, lg_i, lg_r, wd_nil, am_wd_i, am_wd_r, am_wd_l, am_gk_s, am_fld_s, List.getElem?_cons_zero, List.getElem?_cons_succ, am_bk_v, am_bk_n, bo_0, bo_1, am_pk_s, List.length_cons, List.length_nil, Nat.zero_add, List.set_cons_zero, List.set_cons_succ, Nat.reduceAdd, Nat.reduceLeDiff, Nat.reduceLT, hw, if_pos hin]
  · rw [if_neg (fun z => hin (hiff.1 z))] at hw
    simp only [e_122_0, e_122_1, e_122_2, e_122_3, e_122_6, lg_n, lg_i, lg_r, wd_nil, am_wd_i, am_wd_r, am_wd_l, am_gk_s, am_fld_s, List.getElem?_cons_zero, List.getElem?_cons_succ, am_bk_v, am_bk_n, bo_0, bo_1, am_pk_s, List.length_cons, List.length_nil, Nat.zero_add, List.set_cons_zero, List.set_cons_succ, Nat.reduceAdd, Nat.reduceLeDiff, Nat.reduceLT, hw, if_neg hin]
/-- what a thing is refused for; 0: nothing -/
def rfT (P : Pn) (x w v : Int32) : Int32 := if ¬ (0 ≤ x.toInt ∧ x.toInt ≤ 2) ∨ (w = 1 ∧ ¬ (0 ≤ v.toInt ∧ v.toInt < P.2.2.2.1)) then -2 else if ¬ (0 ≤ w.toInt ∧ w.toInt ≤ 2) ∨ (w = 0 ∧ ¬ (-9999 ≤ v.toInt ∧ v.toInt ≤ 9999)) ∨ (w = 2 ∧ ¬ (0 ≤ v.toInt ∧ v.toInt ≤ 9)) then -3 else 0
theorem m_refT (hC : CI h P σ u pa kp ke t n sn sF sT sK nz nt) (oP : OKP P) (x w v : Int32) : am_cal (d + 3) 123 [.ref 0, .int x, .int w, .int v] h = some (some (.int (rfT P x w v)), h) := by
  obtain ⟨f0, f1, f2, f3, f4, f5, f6, f7, f8⟩ := hC.fl
  have hn := oP.2.2.2.1
  have hp := hC.2.2.1
  have hhp := m_hasPerson (d := d + 1) hp (show P.2.2.2.1 < 2 ^ 31 by omega) v
  have hhn := m_hasNotes (d := d) (h := h) x
  have hw1 := m_within (d := d + 1) (h := h) w 0 2
  have hw2 := m_within (d := d + 1) (h := h) v (-9999) 9999
  have hw3 := m_within (d := d + 1) (h := h) v 0 9
  have hi1 : ((0 : Int32) ≤ w ∧ w ≤ 2) ↔ (0 ≤ w.toInt ∧ w.toInt ≤ 2) := by rw [i_le, i_le]; exact Iff.rfl
  have hi2 : ((-9999 : Int32) ≤ v ∧ v ≤ 9999) ↔ (-9999 ≤ v.toInt ∧ v.toInt ≤ 9999) := by rw [i_le, i_le]; exact Iff.rfl
  have hi3 : ((0 : Int32) ≤ v ∧ v ≤ 9) ↔ (0 ≤ v.toInt ∧ v.toInt ≤ 9) := by rw [i_le, i_le]; exact Iff.rfl
  simp only [hi1] at hw1
  simp only [hi2] at hw2
  simp only [hi3] at hw3
  unfold rfT
  refine (b_123 _ _ _).trans ?_; show am_ev _ 123 0 [some (.ref 0), some (.int x), some (.int w), some (.int v)] [] _ = _
  simp only [e_123_0, e_123_1, e_123_2, e_123_5, e_123_8, e_123_9, e_123_10, e_123_13, e_123_14, e_123_17, e_123_18, e_123_21, e_123_24, e_123_26, e_123_27, e_123_28, e_123_29, e_123_30, e_123_33, e_123_36, e_123_38, e_123_39, e_123_40, e_123_43, e_123_44, e_123_47, e_123_50, e_123_53, e_123_56, e_123_57, e_123_58, e_123_61, e_123_62, e_123_63, e_123_65, e_123_68, e_123_71, e_123_73, e_123_74, e_123_75, lg_n, lg_i, lg_r, wd_nil, am_wd_i, am_wd_r, am_wd_l, am_gk_s, am_fld_s, List.getElem?_cons_zero, List.getElem?_cons_succ, am_bk_v, am_bk_n, bo_0, bo_1, am_pk_s, List.length_cons, List.length_nil, Nat.zero_add, List.set_cons_zero, List.set_cons_succ, Nat.reduceAdd, Nat.reduceLeDiff, Nat.reduceLT, f0, f8, is_plan hp, hhn, hhp, hw1, hw2, hw3, z_if]
  by_cases hA : 0 ≤ x.toInt ∧ x.toInt ≤ 2
  · by_cases w1 : w = 1
    · subst w1
      by_cases hB : 0 ≤ v.toInt ∧ v.toInt < P.2.2.2.1
      · have hE : 0 ≤ (1 : Int32).toInt ∧ (1 : Int32).toInt ≤ 2 := by decide
        simp only [hA, hB, hE, not_true_eq_false, if_false, if_true, and_self, and_false, or_self, one_ne, false_and, show ((1 : Int32) = 2) = False by decide]
      · simp only [hA, hB, not_true_eq_false, not_false_eq_true, if_false, if_true, and_self, or_true]
    · by_cases hE : 0 ≤ w.toInt ∧ w.toInt ≤ 2
      · by_cases w0 : w = 0
        · subst w0
          by_cases hF : -9999 ≤ v.toInt ∧ v.toInt ≤ 9999
          · simp only [hA, hE, hF, w1, not_true_eq_false, if_false, if_true, and_self, and_false, false_and, or_self, show ((0 : Int32) = 2) = False by decide]
          · simp only [hA, hE, hF, w1, not_true_eq_false, not_false_eq_true, if_false, if_true, and_self, and_false, false_and, or_self, true_or, or_true]
        · by_cases w2 : w = 2
          · subst w2
            by_cases hG : 0 ≤ v.toInt ∧ v.toInt ≤ 9
            · simp only [hA, hE, hG, w1, w0, not_true_eq_false, if_false, if_true, and_self, and_false, false_and, or_self]
            · simp only [hA, hE, hG, w1, w0, not_true_eq_false, not_false_eq_true, if_false, if_true, and_self, and_false, false_and, or_self, or_true]
          · simp only [hA, hE, w1, w0, w2, not_true_eq_false, if_false, and_self, false_and, or_self]
      · simp only [hA, hE, w1, not_true_eq_false, not_false_eq_true, if_false, if_true, and_self, false_and, or_self, true_or]
  · simp only [hA, not_false_eq_true, if_true, true_or]
/-- what a span is refused for; 0: nothing -/
def rfS (nz : Nat → Nat) (x i j : Int32) : Int32 := if ¬ (0 ≤ x.toInt ∧ x.toInt ≤ 2) then -2 else if nz x.toInt.toNat = 0 then -11 else if i.toInt < 0 ∨ (nz x.toInt.toNat : Int) - 1 < j.toInt then -12 else if j.toInt < i.toInt then -13 else 0
theorem m_refS (hC : CI h P σ u pa kp ke t n sn sF sT sK nz nt) (hz : ∀ i, i < 3 → nz i ≤ 13) (x i j : Int32) : am_cal (d + 3) 124 [.ref 0, .int x, .int i, .int j] h = some (some (.int (rfS nz x i j)), h) := by
  obtain ⟨f0, f1, f2, f3, f4, f5, f6, f7, f8⟩ := hC.fl
  have hhn := m_hasNotes (d := d) (h := h) x
  unfold rfS
  refine (b_124 _ _ _).trans ?_; show am_ev _ 124 0 [some (.ref 0), some (.int x), some (.int i), some (.int j)] [] _ = _
  by_cases hA : 0 ≤ x.toInt ∧ x.toInt ≤ 2
  · rw [if_pos hA] at hhn
    rw [if_neg (not_not_intro hA)]
    obtain ⟨q, rfl, hq⟩ : ∃ q : Nat, x = nI q ∧ q < 3 := ⟨x.toInt.toNat, i_of x hA.1, by omega⟩
    rw [nI_toInt (show q < 2 ^ 31 by omega), Int.toNat_natCast]
    obtain ⟨n1, n2, n3⟩ := hC.2.2.2.2.2.2.2.2
    obtain ⟨s, f, b1, b2⟩ := n3 q hq
    obtain ⟨k0, k1, k2, k3⟩ := fl_note b1
    have hzq := hz q hq
    by_cases hm : nz q = 0
    · rw [if_pos hm] at k0 ⊢
      simp only [e_124_0, e_124_1, e_124_2, e_124_5, e_124_8, e_124_10, e_124_11, e_124_12, e_124_15, e_124_16, e_124_17, e_124_20, e_124_23, e_124_25, lg_n, lg_i, lg_r, wd_nil, am_wd_i, am_wd_r, am_wd_l, am_gk_s, am_fld_s, List.getElem?_cons_zero, List.getElem?_cons_succ, am_bk_v, am_bk_n, bo_0, bo_1, am_pk_s, List.length_cons, List.length_nil, Nat.zero_add, List.set_cons_zero, List.set_cons_succ, Nat.reduceAdd, Nat.reduceLeDiff, Nat.reduceLT, f6, f8, hhn, one_ne, not_false_eq_true, if_true, if_false, n1, qk_AR hq (show 3 < 2 ^ 31 by decide), k0]
    · rw [if_neg hm] at k0 ⊢
      obtain ⟨hs, -⟩ := b2 hm
      simp only [e_124_0, e_124_1, e_124_2, e_124_5, e_124_8, e_124_10, e_124_11, e_124_12, e_124_15, e_124_16, e_124_17, e_124_20, e_124_23, e_124_25, e_124_26, e_124_27, e_124_30, e_124_31, e_124_32, e_124_35, e_124_36, e_124_37, e_124_40, e_124_43, e_124_45, e_124_46, e_124_47, e_124_48, e_124_51, e_124_53, e_124_56, e_124_57, lg_n, lg_i, lg_r, wd_nil, am_wd_i, am_wd_r, am_wd_l, am_gk_s, am_fld_s, List.getElem?_cons_zero, List.getElem?_cons_succ, am_bk_v, am_bk_n, bo_0, bo_1, am_pk_s, List.length_cons, List.length_nil, Nat.zero_add, List.set_cons_zero, List.set_cons_succ, Nat.reduceAdd, Nat.reduceLeDiff, Nat.reduceLT, f6, f8, hhn, one_ne, not_false_eq_true, if_true, if_false, n1, qk_AR hq (show 3 < 2 ^ 31 by decide), k0, k1, i_lt, i_le, i_0, nI_toInt (show s < 2 ^ 31 by omega)]
      by_cases c1 : i.toInt < 0
      · rw [if_pos c1, if_pos (Or.inl c1)]
      · rw [if_neg c1]
        by_cases c2 : j.toInt ≤ s
        · rw [if_pos c2, if_neg (show ¬ (i.toInt < 0 ∨ (nz q : Int) - 1 < j.toInt) by omega)]
          by_cases c3 : i.toInt ≤ j.toInt
          · rw [if_pos c3, if_neg (show ¬ j.toInt < i.toInt by omega)]
          · rw [if_neg c3, if_pos (show j.toInt < i.toInt by omega)]
        · rw [if_neg c2, if_pos (show i.toInt < 0 ∨ (nz q : Int) - 1 < j.toInt by omega)]
  · rw [if_neg hA] at hhn
    rw [if_pos hA]
    simp only [e_124_0, e_124_1, e_124_2, e_124_5, e_124_8, e_124_10, lg_n, lg_i, lg_r, wd_nil, am_wd_i, am_wd_r, am_wd_l, am_gk_s, am_fld_s, List.getElem?_cons_zero, List.getElem?_cons_succ, am_bk_v, am_bk_n, bo_0, bo_1, am_pk_s, List.length_cons, List.length_nil, Nat.zero_add, List.set_cons_zero, List.set_cons_succ, Nat.reduceAdd, Nat.reduceLeDiff, Nat.reduceLT, f8, hhn, not_true_eq_false, if_true, if_false]
/-- a row of notes is laid anew -/
theorem ns_put (hN : NS h nz nt) {q : Nat} (hq : q < 3) {z s : Nat} {f th : Nat → Nat} {mi : Int32} (hmi : mi = if z = 0 then 1 else 0) (hs : z ≠ 0 → s + 1 = z ∧ ∀ k, k < s → f k = th k) : NS (pN h (81 + 2 * q) mi s f) (updn nz q z) (fun i => if i = q then th else nt i) := by
  obtain ⟨n1, ⟨g, n2⟩, n3⟩ := hN
  have K : ∀ k, (k < 81 + 2 * q ∨ 81 + 2 * q + 1 < k) → am_at (pN h (81 + 2 * q) mi s f) k = am_at h k := fun k hk => at_pN_ne hk
  refine ⟨by rw [K _ (by omega)]; exact n1, ⟨g, by rw [K _ (by omega)]; exact n2⟩, fun k hk => ?_⟩
  by_cases e : k = q
  · subst e
    rw [show updn nz k z k = z by simp [updn]]
    simp only [if_true]
    exact ⟨s, f, by rw [← hmi]; exact NoteAt_pN _ _ _ _ _, hs⟩
  · obtain ⟨s', f', b1, b2⟩ := n3 k hk
    rw [show updn nz q z k = nz k by simp [updn, e]]
    simp only [if_neg e]
    exact ⟨s', f', b1.keep (fun r _ _ => K r (by omega)), b2⟩
theorem FC.pN {a s : Nat} {mi : Int32} {f : Nat → Nat} (ha : a + 1 < 87) : FC h (pN h a mi s f) := ⟨rfl, rfl, fun k hk => at_pN_ne (by omega)⟩
theorem c_notes (hC : CI h P σ u pa kp ke t n sn sF sT sK nz nt) (x : Int32) : (¬ (0 ≤ x.toInt ∧ x.toInt ≤ 2) → am_cal (d + 8) 107 [.ref 0, .int x] h = some (some (.int (-2)), h)) ∧ (0 ≤ x.toInt ∧ x.toInt ≤ 2 → ∃ h' nt', am_cal (d + 8) 107 [.ref 0, .int x] h = some (some (.int 0), h') ∧ CI h' P σ u pa kp ke t n sn sF sT sK (updn nz x.toInt.toNat 1) nt' ∧ (∀ i, i ≠ x.toInt.toNat → nt' i = nt i) ∧ FC h h') := by
  obtain ⟨f0, f1, f2, f3, f4, f5, f6, f7, f8⟩ := hC.fl
  have hhn := m_hasNotes (d := d + 5) (h := h) x
  refine ⟨fun hno => ?_, fun hA => ?_⟩
  · rw [if_neg hno] at hhn
    refine (b_107 _ _ _).trans ?_; show am_ev _ 107 0 [some (.ref 0), some (.int x)] [] _ = _
    simp only [e_107_0, e_107_1, e_107_2, e_107_5, e_107_8, e_107_10, lg_n, lg_i, lg_r, wd_nil, am_wd_i, am_wd_r, am_wd_l, am_gk_s, am_fld_s, List.getElem?_cons_zero, List.getElem?_cons_succ, am_bk_v, am_bk_n, bo_0, bo_1, am_pk_s, List.length_cons, List.length_nil, Nat.zero_add, List.set_cons_zero, List.set_cons_succ, Nat.reduceAdd, Nat.reduceLeDiff, Nat.reduceLT, f8, hhn, not_true_eq_false, if_true, if_false]
  · rw [if_pos hA] at hhn
    obtain ⟨q, rfl, hq⟩ : ∃ q : Nat, x = nI q ∧ q < 3 := ⟨x.toInt.toNat, i_of x hA.1, by omega⟩
    rw [nI_toInt (show q < 2 ^ 31 by omega), Int.toNat_natCast]
    have hN := hC.2.2.2.2.2.2.2.2
    obtain ⟨n1, n2, n3⟩ := id hN
    obtain ⟨s, f, b1, b2⟩ := n3 q hq
    have hN' := ns_put hN hq (z := 1) (s := 0) (f := f) (th := f) (mi := 0) (by decide) (fun _ => ⟨rfl, fun k hk => absurd hk (Nat.not_lt_zero k)⟩)
    refine ⟨_, _, ?_, hC.ns hN' (fun k hk => at_pN_ne (by omega)), fun i hi => by simp only [if_neg hi], FC.pN (by omega)⟩
    have hn0 := b1.1
    unfold note0 at hn0
    have y0 : ∀ c, am_at (am_set h (81 + 2 * q) c) 0 = am_at h 0 := fun c => at_set_ne (by omega)
    have y79 : ∀ c, am_at (am_set h (81 + 2 * q) c) 79 = am_at h 79 := fun c => at_set_ne (by omega)
    have hfin : am_set h (81 + 2 * q) (.inr (2, [.int 0, .int (nI 0), .ref (81 + 2 * q + 1)])) = pN h (81 + 2 * q) 0 0 f := by
      have := pN_s0 (h := h) (a := 81 + 2 * q) (mi := if nz q = 0 then 1 else 0) (mi' := 0) (s := s) (s' := 0) (f := f)
      rw [pN_self b1] at this
      exact this
    refine (b_107 _ _ _).trans ?_; show am_ev _ 107 0 [some (.ref 0), some (.int (nI q))] [] _ = _
    simp only [e_107_0, e_107_1, e_107_2, e_107_5, e_107_8, e_107_10, e_107_11, e_107_12, e_107_15, e_107_16, e_107_17, e_107_18, e_107_21, e_107_22, e_107_25, e_107_26, e_107_27, e_107_28, e_107_31, e_107_32, lg_n, lg_i, lg_r, wd_nil, am_wd_i, am_wd_r, am_wd_l, am_gk_s, am_fld_s, List.getElem?_cons_zero, List.getElem?_cons_succ, am_bk_v, am_bk_n, bo_0, bo_1, am_pk_s, List.length_cons, List.length_nil, Nat.zero_add, List.set_cons_zero, List.set_cons_succ, Nat.reduceAdd, Nat.reduceLeDiff, Nat.reduceLT, f6, f8, hhn, one_ne, not_false_eq_true, if_true, if_false, n1, qk_AR hq (show 3 < 2 ^ 31 by decide), hn0, true_or, eq_self, y0, y79, at_set_eq, set_set]
    rw [← hfin, nI_0]
theorem c_drop (hC : CI h P σ u pa kp ke t n sn sF sT sK nz nt) (x : Int32) : (¬ (0 ≤ x.toInt ∧ x.toInt ≤ 2) → am_cal (d + 8) 115 [.ref 0, .int x] h = some (some (.int (-2)), h)) ∧ (0 ≤ x.toInt ∧ x.toInt ≤ 2 → nz x.toInt.toNat = 0 → am_cal (d + 8) 115 [.ref 0, .int x] h = some (some (.int (-11)), h)) ∧ (0 ≤ x.toInt ∧ x.toInt ≤ 2 → nz x.toInt.toNat ≠ 0 → ∃ h' nt', am_cal (d + 8) 115 [.ref 0, .int x] h = some (some (.int (nI (nz x.toInt.toNat - 1))), h') ∧ CI h' P σ u pa kp ke t n sn sF sT sK (updn nz x.toInt.toNat 0) nt' ∧ (∀ i, i ≠ x.toInt.toNat → nt' i = nt i) ∧ FC h h') := by
  obtain ⟨f0, f1, f2, f3, f4, f5, f6, f7, f8⟩ := hC.fl
  have hhn := m_hasNotes (d := d + 5) (h := h) x
  refine ⟨fun hno => ?_, fun hA hm => ?_, fun hA hm => ?_⟩
  · rw [if_neg hno] at hhn
    refine (b_115 _ _ _).trans ?_; show am_ev _ 115 0 [some (.ref 0), some (.int x)] [] _ = _
    simp only [e_115_0, e_115_1, e_115_2, e_115_5, e_115_8, e_115_10, lg_n, lg_i, lg_r, wd_nil, am_wd_i, am_wd_r, am_wd_l, am_gk_s, am_fld_s, List.getElem?_cons_zero, List.getElem?_cons_succ, am_bk_v, am_bk_n, bo_0, bo_1, am_pk_s, List.length_cons, List.length_nil, Nat.zero_add, List.set_cons_zero, List.set_cons_succ, Nat.reduceAdd, Nat.reduceLeDiff, Nat.reduceLT, f8, hhn, not_true_eq_false, if_true, if_false]
  · rw [if_pos hA] at hhn
    obtain ⟨q, rfl, hq⟩ : ∃ q : Nat, x = nI q ∧ q < 3 := ⟨x.toInt.toNat, i_of x hA.1, by omega⟩
    rw [nI_toInt (show q < 2 ^ 31 by omega), Int.toNat_natCast] at hm
    obtain ⟨n1, n2, n3⟩ := hC.2.2.2.2.2.2.2.2
    obtain ⟨s, f, b1, b2⟩ := n3 q hq
    obtain ⟨k0, k1, k2, k3⟩ := fl_note b1
    rw [if_pos hm] at k0
    refine (b_115 _ _ _).trans ?_; show am_ev _ 115 0 [some (.ref 0), some (.int (nI q))] [] _ = _
    simp only [e_115_0, e_115_1, e_115_2, e_115_5, e_115_8, e_115_10, e_115_11, e_115_12, e_115_15, e_115_16, e_115_17, e_115_20, e_115_23, e_115_25, lg_n, lg_i, lg_r, wd_nil, am_wd_i, am_wd_r, am_wd_l, am_gk_s, am_fld_s, List.getElem?_cons_zero, List.getElem?_cons_succ, am_bk_v, am_bk_n, bo_0, bo_1, am_pk_s, List.length_cons, List.length_nil, Nat.zero_add, List.set_cons_zero, List.set_cons_succ, Nat.reduceAdd, Nat.reduceLeDiff, Nat.reduceLT, f6, f8, hhn, one_ne, not_false_eq_true, if_true, if_false, n1, qk_AR hq (show 3 < 2 ^ 31 by decide), k0]
  · rw [if_pos hA] at hhn
    obtain ⟨q, rfl, hq⟩ : ∃ q : Nat, x = nI q ∧ q < 3 := ⟨x.toInt.toNat, i_of x hA.1, by omega⟩
    rw [nI_toInt (show q < 2 ^ 31 by omega), Int.toNat_natCast] at hm ⊢
    have hN := hC.2.2.2.2.2.2.2.2
    obtain ⟨n1, n2, n3⟩ := id hN
    obtain ⟨s, f, b1, b2⟩ := n3 q hq
    rw [if_neg hm] at b1
    obtain ⟨hs, -⟩ := b2 hm
    have hN' := ns_put hN hq (z := 0) (s := s) (f := f) (th := f) (mi := 1) (by decide) (fun z => absurd rfl z)
    refine ⟨_, _, ?_, hC.ns hN' (fun k hk => at_pN_ne (by omega)), fun i hi => by simp only [if_neg hi], FC.pN (by omega)⟩
    have hn0 := b1.1
    unfold note0 at hn0
    have y0 : ∀ c, am_at (am_set h (81 + 2 * q) c) 0 = am_at h 0 := fun c => at_set_ne (by omega)
    have y79 : ∀ c, am_at (am_set h (81 + 2 * q) c) 79 = am_at h 79 := fun c => at_set_ne (by omega)
    have hfin : am_set h (81 + 2 * q) (.inr (2, [.int 1, .int (nI s), .ref (81 + 2 * q + 1)])) = pN h (81 + 2 * q) 1 s f := by
      have := pN_s0 (h := h) (a := 81 + 2 * q) (mi := 0) (mi' := 1) (s := s) (s' := s) (f := f)
      rw [pN_self b1] at this
      exact this
    refine (b_115 _ _ _).trans ?_; show am_ev _ 115 0 [some (.ref 0), some (.int (nI q))] [] _ = _
    simp only [e_115_0, e_115_1, e_115_2, e_115_5, e_115_8, e_115_10, e_115_11, e_115_12, e_115_15, e_115_16, e_115_17, e_115_20, e_115_23, e_115_25, e_115_26, e_115_27, e_115_30, e_115_31, e_115_32, e_115_33, e_115_36, e_115_37, e_115_40, e_115_41, e_115_42, e_115_45, lg_n, lg_i, lg_r, wd_nil, am_wd_i, am_wd_r, am_wd_l, am_gk_s, am_fld_s, List.getElem?_cons_zero, List.getElem?_cons_succ, am_bk_v, am_bk_n, bo_0, bo_1, am_pk_s, List.length_cons, List.length_nil, Nat.zero_add, List.set_cons_zero, List.set_cons_succ, Nat.reduceAdd, Nat.reduceLeDiff, Nat.reduceLT, f6, f8, hhn, one_ne, not_false_eq_true, if_true, if_false, n1, qk_AR hq (show 3 < 2 ^ 31 by decide), hn0, or_true, eq_self, y0, y79, at_set_eq]
    rw [← hfin, show nz q - 1 = s by omega]
end CL
