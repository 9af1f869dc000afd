/-! the model's calls: spans -/
theorem jmodZ {x : Int32} {m : Nat} (hx : -(2 ^ 29) ≤ x.toInt ∧ x.toInt ≤ 2 ^ 29) (hm : 0 < m ∧ m < 2 ^ 29) : (x - x / nI m * nI m + nI m) - (x - x / nI m * nI m + nI m) / nI m * nI m = nI (x.toInt % m).toNat := by
  have hmt := nI_toInt (show m < 2 ^ 31 by omega)
  have r1 := jrem (x := x) (y := nI m) (by omega) (by rw [hmt]; omega)
  rw [hmt] at r1
  have b1 := Int.tmod_lt_of_pos x.toInt (show (0 : Int) < m by omega)
  have b2 : -(m : Int) < x.toInt.tmod m := Int.lt_tmod_of_pos x.toInt (show (0 : Int) < m by omega)
  have r2 : (x - x / nI m * nI m + nI m).toInt = x.toInt.tmod m + m := by
    rw [Int32.toInt_add, r1, hmt, Int.bmod_def]
    omega
  have r3 := jrem (x := x - x / nI m * nI m + nI m) (y := nI m) (by rw [r2]; omega) (by rw [hmt]; omega)
  have c1 := Int.emod_lt_of_pos x.toInt (show (0 : Int) < m by omega)
  have c2 := Int.emod_nonneg x.toInt (show (m : Int) ≠ 0 by omega)
  rw [i_eq, r3, r2, hmt, nI_toInt (by omega)]
  have e1 : (x.toInt.tmod m + m).tmod m = x.toInt % m := by
    rw [Int.tmod_eq_emod_of_nonneg (by omega), Int.add_emod_right]
    have := Int.tmod_def x.toInt m
    rw [this, Int.sub_mul_emod_self_left]
  rw [e1]
  omega
def pkO (o m k : Nat) : Nat := if k + o < m then k + o else k + o - m
def ivO (o m p : Nat) : Nat := if p < o then p + m - o else p - o
theorem pkO_eq {r : Int} {k m : Nat} (hm : 0 < m) (hk : k < m) : ((k : Int) + r) % m = (pkO (r % m).toNat m k : Nat) := by
  have c1 := Int.emod_lt_of_pos r (show (0 : Int) < m by omega)
  have c2 := Int.emod_nonneg r (show (m : Int) ≠ 0 by omega)
  obtain ⟨o, ho⟩ : ∃ o : Nat, r % m = o := ⟨(r % m).toNat, by omega⟩
  rw [Int.add_emod, ho, Int.emod_eq_of_lt (a := (k : Int)) (by omega) (by omega), Int.toNat_natCast]
  unfold pkO
  by_cases h : k + o < m
  · rw [if_pos h, Int.emod_eq_of_lt (by omega) (by omega)]; omega
  · rw [if_neg h, ← Int.sub_emod_right, Int.emod_eq_of_lt (by omega) (by omega)]; omega
section MI
variable {d : Nat} {h : am_H} {P : Pn} {σ : Hn} {u : Nat} {pa : Nat → Hn} {kp : Nat → Bool} {ke : Nat → Hn} {t : Nat → Nat} {n sn : Nat} {sF sT sK : Nat → Nat} {nz : Nat → Nat} {nt : Nat → Nat → Nat}
theorem m_noSpan (hM : MI h P σ u pa kp ke t n sn sF sT sK nz nt) (hz : ∀ i, i < 3 → nz i ≤ 13) {q : Nat} (hq : q < 3) (i j : Int32) : am_cal (d + 1) 201 [.ref 87, .int (nI q), .int i, .int j] h = some (some (.int (rfS nz (nI q) i j)), h) := by
  obtain ⟨S, V, TS, TV, ⟨⟨f9, f10, f11, f30, f31, fis⟩, q1, q2, q3, q4, q5⟩, hS⟩ := hM.mq
  have hzq := hz q hq
  unfold rfS
  rw [nI_toInt (show q < 2 ^ 31 by omega), Int.toNat_natCast, if_neg (show ¬ ¬ (0 ≤ (q : Int) ∧ (q : Int) ≤ 2) by omega)]
  refine (b_201 _ _ _).trans ?_; show am_ev _ 201 0 [some (.ref 87), some (.int (nI q)), some (.int i), some (.int j)] [] _ = _
  by_cases hm : nz q = 0
  · rw [if_pos hm]
    have hc2 : cI (nz q + 1) = -1 := by rw [hm]; rfl
    simp only [e_201_0, e_201_1, e_201_4, e_201_5, e_201_6, e_201_9, e_201_11, e_201_14, e_201_15, e_201_18, e_201_19, e_201_20, e_201_23, e_201_24, e_201_25, e_201_28, e_201_30, e_201_33, e_201_34, e_201_35, e_201_38, e_201_40, e_201_43, e_201_44, lg_n, lg_i, lg_r, wd_nil, am_wd_i, am_wd_r, am_wd_l, am_gk_s, am_fld_s, List.getElem?_cons_zero, List.getElem?_cons_succ, am_bk_v, am_bk_n, bo_0, bo_1, am_pk_s, List.length_cons, List.length_nil, Nat.zero_add, List.set_cons_zero, List.set_cons_succ, Nat.reduceAdd, Nat.reduceLeDiff, Nat.reduceLT, f9, q1, ak_AI hq (show 3 < 2 ^ 31 by decide), hc2, show ((0 : Int32) ≤ -1) = False by decide, if_false]
  · rw [if_neg hm]
    obtain ⟨s, hs⟩ : ∃ s, nz q = s + 1 := ⟨nz q - 1, by omega⟩
    have hc2 : cI (nz q + 1) = nI s := by rw [hs, cI_s]
    simp only [e_201_0, e_201_1, e_201_4, e_201_5, e_201_6, e_201_9, e_201_11, e_201_14, e_201_15, e_201_18, e_201_19, e_201_20, e_201_23, e_201_24, e_201_25, e_201_28, e_201_30, e_201_33, e_201_34, e_201_35, e_201_38, e_201_40, e_201_43, e_201_44, lg_n, lg_i, lg_r, wd_nil, am_wd_i, am_wd_r, am_wd_l, am_gk_s, am_fld_s, List.getElem?_cons_zero, List.getElem?_cons_succ, am_bk_v, am_bk_n, bo_0, bo_1, am_pk_s, List.length_cons, List.length_nil, Nat.zero_add, List.set_cons_zero, List.set_cons_succ, Nat.reduceAdd, Nat.reduceLeDiff, Nat.reduceLT, f9, q1, ak_AI hq (show 3 < 2 ^ 31 by decide), hc2, nI_pos' (show s < 2 ^ 31 by omega), if_true, i_lt, i_le, i_0, nI_toInt (show s < 2 ^ 31 by omega)]
    by_cases c1 : i.toInt < 0
    · simp [c1]
    · by_cases c2 : j.toInt ≤ s
      · by_cases c3 : i.toInt ≤ j.toInt
        · simp [c1, c2, c3, show ¬ ((nz q : Int) - 1 < j.toInt) by omega, show ¬ (j.toInt < i.toInt) by omega]
        · simp [c1, c2, c3, show ¬ ((nz q : Int) - 1 < j.toInt) by omega, show (j.toInt < i.toInt) by omega]
      · simp [c1, c2, show ((nz q : Int) - 1 < j.toInt) by omega]
def ctI (S : Nat → Int32) (a e c : Nat) : Nat → Int32 := fun k => if a ≤ k ∧ k < c - e then S (k + e) else S k
theorem l_cut {Z S V TS TV : Nat → Int32} {q a b s : Nat} (hq : q < 3) (hab : a ≤ b) (hbs : b ≤ s) (hs : s ≤ 12) (hZ : Z q = nI s) {x4 : Option Value} (l4 : am_lg x4 = false) : ∀ r c (h : am_H), c + r = 12 * q + s → 12 * q + b ≤ c → MQn h Z (ctI S (12 * q + a) (b - a) c) (ctI V (12 * q + a) (b - a) c) TS TV → ∃ h', am_ev d 202 35 [some (.ref 87), some (.int (nI q)), some (.int (nI a)), some (.int (nI b)), x4, some (.int (nI c))] [] h = some (some (.int (nI (s - (b - a)))), h') ∧ MQn h' (upd Z q (nI (s - (b - a)))) (ctI S (12 * q + a) (b - a) (12 * q + s)) (ctI V (12 * q + a) (b - a) (12 * q + s)) TS TV ∧ FN h h' := by
  intro r
  have e12 : (12 : Int32) = nI 12 := by decide +kernel
  induction r with
  | zero =>
    intro c h hc hbc hQ
    have : c = 12 * q + s := by omega
    subst this
    have hQ' := hQ.z (upd Z q (nI (s - (b - a))))
    refine ⟨_, ?_, hQ', FN.set (by omega)⟩
    obtain ⟨⟨f9, f10, f11, f30, f31, fis⟩, q1, q2, q3, q4, q5⟩ := hQ
    have y87 : ∀ c, am_at (am_set h 94 c) 87 = am_at h 87 := fun c => at_set_ne (by decide)
    have hup : upd Z q (nI (s - (b - a))) q = nI (s - (b - a)) := pk_us
    rw [e_202_35]
    simp only [e_202_37, e_202_39, e_202_40, e_202_41, e_202_42, e_202_45, e_202_46, e_202_47, e_202_48, e_202_93, e_202_94, e_202_97, e_202_98, e_202_99, e_202_100, e_202_101, e_202_102, e_202_103, e_202_104, e_202_105, e_202_106, e_202_109, e_202_110, e_202_111, lg_n, lg_i, lg_r, wd_nil, am_wd_i, am_wd_r, am_wd_l, am_gk_s, am_fld_s, List.getElem?_cons_zero, List.getElem?_cons_succ, am_bk_v, am_bk_n, bo_0, bo_1, am_pk_s, List.length_cons, List.length_nil, Nat.zero_add, List.set_cons_zero, List.set_cons_succ, Nat.reduceAdd, Nat.reduceLeDiff, Nat.reduceLT, e12, pk_mul, nI_add, f9, q1, ak_AI hq (show 3 < 2 ^ 31 by decide), hZ, nI_leI (show 12 * q + s < 2 ^ 31 by omega) (show 12 * q + s < 2 ^ 31 by omega), Nat.le_refl, if_true, pk_sub hab, pk_sub (show b - a ≤ s by omega), sk_AI hq (show 3 < 2 ^ 31 by decide), st_AI hq (show 3 < 2 ^ 31 by decide), y87, at_set_eq, hup]
  | succ r ih =>
    intro c h hc hbc hQ
    have hst : ∀ S : Nat → Int32, upd (ctI S (12 * q + a) (b - a) c) (c - b + a) (ctI S (12 * q + a) (b - a) c c) = ctI S (12 * q + a) (b - a) (c + 1) := by
      intro S
      funext k
      unfold upd ctI
      by_cases e : k = c - b + a
      · rw [if_pos e, if_neg (show ¬ (12 * q + a ≤ c ∧ c < c - (b - a)) by omega), if_pos (show 12 * q + a ≤ k ∧ k < c + 1 - (b - a) by omega), e]
        congr 1; omega
      · rw [if_neg e]
        by_cases c1 : 12 * q + a ≤ k ∧ k < c - (b - a)
        · rw [if_pos c1, if_pos (by omega)]
        · rw [if_neg c1, if_neg (by omega)]
    obtain ⟨h', e', Q', F'⟩ := ih (c + 1) _ (by omega) (by omega) (hQ.sv (ctI S (12 * q + a) (b - a) (c + 1)) (ctI V (12 * q + a) (b - a) (c + 1)))
    refine ⟨h', ?_, Q', ((FN.set (by omega)).tr (FN.set (by omega))).tr F'⟩
    obtain ⟨⟨f9, f10, f11, f30, f31, fis⟩, q1, q2, q3, q4, q5⟩ := hQ
    have y87 : ∀ c, am_at (am_set h 95 c) 87 = am_at h 87 := fun c => at_set_ne (by decide)
    have y96 : ∀ c, am_at (am_set h 95 c) 96 = am_at h 96 := fun c => at_set_ne (by decide)
    rw [e_202_35]
    simp only [e_202_37, e_202_39, e_202_40, e_202_41, e_202_42, e_202_45, e_202_46, e_202_47, e_202_48, e_202_51, e_202_52, e_202_55, e_202_57, e_202_58, e_202_59, e_202_60, e_202_61, e_202_62, e_202_65, e_202_67, e_202_68, e_202_69, e_202_70, e_202_73, e_202_75, e_202_76, e_202_77, e_202_78, e_202_79, e_202_80, e_202_83, e_202_85, e_202_86, e_202_87, e_202_90, lg_n, lg_i, lg_r, wd_nil, am_wd_i, am_wd_r, am_wd_l, am_gk_s, am_fld_s, List.getElem?_cons_zero, List.getElem?_cons_succ, am_bk_v, am_bk_n, bo_0, bo_1, am_pk_s, List.length_cons, List.length_nil, Nat.zero_add, List.set_cons_zero, List.set_cons_succ, Nat.reduceAdd, Nat.reduceLeDiff, Nat.reduceLT, e12, pk_mul, nI_add, f9, f10, f11, q1, q2, q3, y87, y96, ak_AI hq (show 3 < 2 ^ 31 by decide), hZ, nI_leI (show 12 * q + s < 2 ^ 31 by omega) (show c < 2 ^ 31 by omega), if_neg (show ¬ 12 * q + s ≤ c by omega), pk_sub (show b ≤ c by omega), ak_AI (show c < 36 by omega) (show 36 < 2 ^ 31 by decide), sk_AI (show c - b + a < 36 by omega) (show 36 < 2 ^ 31 by decide), st_AI (show c - b + a < 36 by omega) (show 36 < 2 ^ 31 by decide), hst, l4, nI_1]
    exact e'
theorem n_cut (hM : MI h P σ u pa kp ke t n sn sF sT sK nz nt) (hz : ∀ i, i < 3 → nz i ≤ 13) (x i j : Int32) : (rfS nz x i j ≠ 0 → am_cal (d + 8) 202 [.ref 87, .int x, .int i, .int j] h = some (some (.int (rfS nz x i j)), h)) ∧ (rfS nz x i j = 0 → ∃ h', am_cal (d + 8) 202 [.ref 87, .int x, .int i, .int j] h = some (some (.int (nI (nz x.toInt.toNat - 1 - (j.toInt.toNat - i.toInt.toNat)))), h') ∧ MI h' P σ u pa kp ke t n sn sF sT sK (updn nz x.toInt.toNat (nz x.toInt.toNat - (j.toInt.toNat - i.toInt.toNat))) (thn nt x.toInt.toNat (cutN (nt x.toInt.toNat) i.toInt.toNat j.toInt.toNat)) ∧ FM h h') := by
  have hinn := m_isNotes (d := d + 5) (h := h) x
  obtain ⟨S, V, TS, TV, hQ, hS⟩ := hM.mq
  refine ⟨fun hne => ?_, fun h0 => ?_⟩
  · refine (b_202 _ _ _).trans ?_; show am_ev _ 202 0 [some (.ref 87), some (.int x), some (.int i), some (.int j), none, none] [] _ = _
    by_cases hA : 0 ≤ x.toInt ∧ x.toInt ≤ 2
    · rw [if_pos hA] at hinn
      obtain ⟨q, rfl, hq⟩ : ∃ q : Nat, x = nI q ∧ q < 3 := ⟨x.toInt.toNat, i_of x hA.1, by omega⟩
      have hsp := m_noSpan (d := d + 6) hM hz hq i j
      simp only [e_202_0, e_202_1, e_202_4, e_202_7, e_202_9, e_202_10, e_202_11, e_202_12, e_202_13, e_202_14, e_202_17, e_202_19, e_202_21, e_202_24, e_202_26, lg_n, lg_i, lg_r, wd_nil, am_wd_i, am_wd_r, am_wd_l, am_gk_s, am_fld_s, List.getElem?_cons_zero, List.getElem?_cons_succ, am_bk_v, am_bk_n, bo_0, bo_1, am_pk_s, List.length_cons, List.length_nil, Nat.zero_add, List.set_cons_zero, List.set_cons_succ, Nat.reduceAdd, Nat.reduceLeDiff, Nat.reduceLT, hinn, one_ne, not_false_eq_true, if_true, if_false, hQ.1.2.2.2.2.2, hsp, if_neg hne]
    · rw [if_neg hA] at hinn
      have : rfS nz x i j = -2 := by unfold rfS; rw [if_pos hA]
      rw [this]
      simp only [e_202_0, e_202_1, e_202_4, e_202_7, e_202_9, lg_n, lg_i, lg_r, wd_nil, am_wd_i, am_wd_r, am_wd_l, am_gk_s, am_fld_s, List.getElem?_cons_zero, List.getElem?_cons_succ, am_bk_v, am_bk_n, bo_0, bo_1, am_pk_s, List.length_cons, List.length_nil, Nat.zero_add, List.set_cons_zero, List.set_cons_succ, Nat.reduceAdd, Nat.reduceLeDiff, Nat.reduceLT, hinn, not_true_eq_false, if_true, if_false]
  · obtain ⟨q, a, b, rfl, hq, rfl, rfl, hab, hb⟩ := rfS_0 hz h0
    have hzq := hz q hq
    have hqi := nI_toInt (show q < 2 ^ 31 by omega)
    rw [if_pos (by rw [hqi]; omega)] at hinn
    have hsp := m_noSpan (d := d + 6) hM hz hq (nI a) (nI b)
    rw [h0] at hsp
    rw [hqi, nI_toInt (show a < 2 ^ 31 by omega), nI_toInt (show b < 2 ^ 31 by omega), Int.toNat_natCast, Int.toNat_natCast, Int.toNat_natCast]
    obtain ⟨s, hs⟩ : ∃ s, nz q = s + 1 := ⟨nz q - 1, by omega⟩
    have hc2 : cI (nz q + 1) = nI s := by rw [hs, cI_s]
    have c0 : ∀ S : Nat → Int32, ctI S (12 * q + a) (b - a) (12 * q + b) = S := fun S => by
      funext k
      unfold ctI
      rw [if_neg (by omega)]
    obtain ⟨h', e', Q', F'⟩ := l_cut (d := d + 7) (Z := fun i => cI (nz i + 1)) (S := S) (V := V) (TS := TS) (TV := TV) hq hab (show b ≤ s by omega) (show s ≤ 12 by omega) hc2 (x4 := some (.int 0)) (lg_i _) (s - b) (12 * q + b) h (by omega) (Nat.le_refl _) (by rw [c0, c0]; exact hQ)
    refine ⟨h', ?_, hM.no F' Q' (fun k hk => ?_) (fun k hk r hr => ?_), F'.fm⟩
    · rw [show nz q - 1 = s by omega]
      refine (b_202 _ _ _).trans ?_; show am_ev _ 202 0 [some (.ref 87), some (.int (nI q)), some (.int (nI a)), some (.int (nI b)), none, none] [] _ = _
      simp only [e_202_0, e_202_1, e_202_4, e_202_7, e_202_9, e_202_10, e_202_11, e_202_12, e_202_13, e_202_14, e_202_17, e_202_19, e_202_21, e_202_24, e_202_26, e_202_27, e_202_29, e_202_30, e_202_31, e_202_32, e_202_33, lg_n, lg_i, lg_r, wd_nil, am_wd_i, am_wd_r, am_wd_l, am_gk_s, am_fld_s, List.getElem?_cons_zero, List.getElem?_cons_succ, am_bk_v, am_bk_n, bo_0, bo_1, am_pk_s, List.length_cons, List.length_nil, Nat.zero_add, List.set_cons_zero, List.set_cons_succ, Nat.reduceAdd, Nat.reduceLeDiff, Nat.reduceLT, hinn, one_ne, not_false_eq_true, if_true, if_false, hQ.1.2.2.2.2.2, hsp, show (12 : Int32) = nI 12 by decide +kernel, pk_mul, nI_add]
      exact e'
    · unfold upd updn
      by_cases e : k = q
      · rw [if_pos e, if_pos e, show nz q - (b - a) = s - (b - a) + 1 by omega, cI_s]
      · rw [if_neg e, if_neg e]
    · unfold updn at hr
      unfold thn
      by_cases e : k = q
      · subst e
        rw [if_pos rfl] at hr ⊢
        unfold cutN
        by_cases r1 : r < a
        · rw [if_pos r1]
          unfold ctI
          rw [if_neg (by omega), if_neg (by omega)]
          exact hS k hk r (by omega)
        · rw [if_neg r1]
          unfold ctI
          rw [if_pos (by omega), if_pos (by omega), Nat.add_assoc]
          exact hS k hk (r + (b - a)) (by omega)
      · rw [if_neg e] at hr ⊢
        have h1 := hS k hk r hr
        have := hz k hk
        unfold ctI
        rw [if_neg (by omega), if_neg (by omega)]
        exact h1
end MI
