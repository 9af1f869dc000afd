/-! the model: meetings, the worst cabin -/
section MI
variable {d : Nat} {h : am_H} {P : Pn} {σ : Hn} {u : Nat} {pa : Nat → Hn} {kp : Nat → Bool} {ke : Nat → Hn} {t : Nat → Nat} {n sn : Nat} {sF sT sK : Nat → Nat} {nz : Nat → Nat} {nt : Nat → Nat → Nat}
theorem l_meetM (oP : OKP P) {m0 : Nat} (oR : OKR P σ m0) (hm0 : m0 + 64 < 2 ^ 28) (hf : P.1 ≤ 15) (hS : σ.2.1 < 2 ^ 31) {p q : Nat} (hp : p < P.2.2.2.1) (hq : q < P.2.2.2.1) : ∀ j i (h : am_H) (f : Nat → Int32), i + j = 61 → MB h f (fun i => i) → RowP f 0 P → RowH f 366 (behN P σ i) → ∃ f', am_ev (d + 5) 179 30 [some (.ref 87), some (.int (nI p)), some (.int (nI q)), some (.int (nI i))] [] h = some (some (.int (sonI (srchN (fun t => decide (2 ≤ (behN P σ t).2.2.1 p ∧ (behN P σ t).2.2.1 p = (behN P σ t).2.2.1 q)) j i))), am_set h 88 (AI 392 f')) ∧ RS f f' 366 := by
  have hn := oP.2.2.2.1
  have e366 : (366 : Int32) = nI 366 := by decide +kernel
  have e374 : (374 : Int32) = nI 374 := by decide +kernel
  intro j
  induction j with
  | zero =>
    intro i h f hi hM hP hR
    have : i = 61 := by omega
    subst this
    obtain ⟨m0, m1, m2, m3, m4⟩ := hM
    refine ⟨f, ?_, RS.rf⟩
    rw [e_179_30, set_self m3]
    simp only [e_179_31, e_179_33, e_179_103, e_179_104, lg_n, lg_i, lg_r, wd_nil, am_wd_i, am_wd_r, am_wd_l, am_gk_s, am_fld_s, List.getElem?_cons_zero, List.getElem?_cons_succ, am_bk_v, am_bk_n, bo_0, bo_1, am_pk_s, List.length_cons, List.length_nil, Nat.zero_add, List.set_cons_zero, List.set_cons_succ, Nat.reduceAdd, Nat.reduceLeDiff, Nat.reduceLT, i61, nI_leI (show 61 < 2 ^ 31 by decide) (show 61 < 2 ^ 31 by decide), Nat.le_refl, if_true, srchN]
    rfl
  | succ j ih =>
    intro i h f hi hM hP hR
    have oRi := oR.beh oP.1 i
    obtain ⟨a1, a2, a3⟩ := hR.1 p (by omega)
    obtain ⟨b1, b2, b3⟩ := hR.1 q (by omega)
    have bp := (oRi.2 p (by omega)).1
    have bq := (oRi.2 q (by omega)).1
    have hsS := (behN_1 P σ i).2
    obtain ⟨f1, e1, R1, S1⟩ := m_stepsM (d := d) hM hP hR oP oRi (N := 1) (by omega) (by omega) hf (by rw [hsS]; exact hS) (fun i hi => hi)
    have R1' : RowH f1 366 (behN P σ (i + 1)) := by
      rw [stp_beh hn] at R1
      exact R1
    rw [show nI 1 = 1 by decide +kernel] at e1
    obtain ⟨f', e', S'⟩ := ih (i + 1) _ f1 (by omega) (hM.set f1) (hP.rs hn (by omega) S1) R1'
    rw [set_set] at e'
    obtain ⟨m0', m1, m2, m3, m4⟩ := hM
    have hN : srchN (fun t => decide (2 ≤ (behN P σ t).2.2.1 p ∧ (behN P σ t).2.2.1 p = (behN P σ t).2.2.1 q)) (j + 1) i = if decide (2 ≤ (behN P σ i).2.2.1 p ∧ (behN P σ i).2.2.1 p = (behN P σ i).2.2.1 q) = true then i else srchN (fun t => decide (2 ≤ (behN P σ t).2.2.1 p ∧ (behN P σ t).2.2.1 p = (behN P σ t).2.2.1 q)) j (i + 1) := rfl
    rw [hN]
    generalize behN P σ i = τ at *
    have cc : 2 ≤ τ.2.2.1 p → 2 ≤ τ.2.2.1 q → (cI (τ.2.2.1 p) = cI (τ.2.2.1 q) ↔ τ.2.2.1 p = τ.2.2.1 q) := by
      intro h1 h2
      have := cI_inj (x := τ.2.2.1 p - 1) (y := τ.2.2.1 q - 1) (by omega) (by omega)
      rw [show τ.2.2.1 p - 1 + 1 = τ.2.2.1 p by omega, show τ.2.2.1 q - 1 + 1 = τ.2.2.1 q by omega] at this
      rw [this]; omega
    have on : am_ev (d + 5) 179 89 [some (.ref 87), some (.int (nI p)), some (.int (nI q)), some (.int (nI i))] [] h = some (some (.int (sonI (srchN (fun t => decide (2 ≤ (behN P σ t).2.2.1 p ∧ (behN P σ t).2.2.1 p = (behN P σ t).2.2.1 q)) j (i + 1)))), am_set h 88 (AI 392 f')) := by
      simp only [e_179_89, e_179_90, e_179_93, e_179_94, e_179_97, e_179_100, lg_n, lg_i, lg_r, wd_nil, am_wd_i, am_wd_r, am_wd_l, am_gk_s, am_fld_s, List.getElem?_cons_zero, List.getElem?_cons_succ, am_bk_v, am_bk_n, bo_0, bo_1, am_pk_s, List.length_cons, List.length_nil, Nat.zero_add, List.set_cons_zero, List.set_cons_succ, Nat.reduceAdd, Nat.reduceLeDiff, Nat.reduceLT, m2, e366, e1, nI_1]
      exact e'
    by_cases c1 : 2 ≤ τ.2.2.1 p
    · by_cases c2 : 2 ≤ τ.2.2.1 q
      · have cc' := cc c1 c2
        by_cases c3 : τ.2.2.1 p = τ.2.2.1 q
        · rw [if_pos (by rw [decide_eq_true_eq]; exact ⟨c1, c3⟩)]
          refine ⟨f, ?_, RS.rf⟩
          rw [e_179_30, set_self m3, show sonI i = nI i by unfold sonI; rw [if_pos (by omega)]]
          simp only [e_179_31, e_179_33, e_179_36, e_179_37, e_179_40, e_179_43, e_179_44, e_179_45, e_179_46, e_179_47, e_179_50, e_179_51, e_179_54, e_179_57, e_179_58, e_179_59, e_179_60, e_179_61, e_179_64, e_179_65, e_179_68, e_179_71, e_179_72, e_179_73, e_179_74, e_179_75, e_179_78, e_179_81, e_179_82, e_179_83, e_179_84, e_179_87, e_179_88, lg_n, lg_i, lg_r, wd_nil, am_wd_i, am_wd_r, am_wd_l, am_gk_s, am_fld_s, List.getElem?_cons_zero, List.getElem?_cons_succ, am_bk_v, am_bk_n, bo_0, bo_1, am_pk_s, List.length_cons, List.length_nil, Nat.zero_add, List.set_cons_zero, List.set_cons_succ, Nat.reduceAdd, Nat.reduceLeDiff, Nat.reduceLT, i61, nI_leI (show 61 < 2 ^ 31 by decide) (show i < 2 ^ 31 by omega), if_neg (show ¬ 61 ≤ i by omega), m0', m3, e366, e374, nI_add, ak_AI (show 366 + p < 392 by omega) (show 392 < 2 ^ 31 by decide), ak_AI (show 366 + q < 392 by omega) (show 392 < 2 ^ 31 by decide), ak_AI (show 374 + p < 392 by omega) (show 392 < 2 ^ 31 by decide), ak_AI (show 374 + q < 392 by omega) (show 392 < 2 ^ 31 by decide), a1, b1, show f (374 + p) = cI (τ.2.2.1 p) from a2, show f (374 + q) = cI (τ.2.2.1 q) from b2, sI_1, if_pos c1, if_pos c2, cc', if_pos c3]
        · rw [if_neg (by rw [decide_eq_true_eq]; exact fun z => c3 z.2)]
          refine ⟨f', ?_, S1.tr S'⟩
          rw [e_179_30]
          simp only [e_179_31, e_179_33, e_179_36, e_179_37, e_179_40, e_179_43, e_179_44, e_179_45, e_179_46, e_179_47, e_179_50, e_179_51, e_179_54, e_179_57, e_179_58, e_179_59, e_179_60, e_179_61, e_179_64, e_179_65, e_179_68, e_179_71, e_179_72, e_179_73, e_179_74, e_179_75, e_179_78, e_179_81, e_179_82, e_179_83, e_179_84, e_179_87, e_179_88, lg_n, lg_i, lg_r, wd_nil, am_wd_i, am_wd_r, am_wd_l, am_gk_s, am_fld_s, List.getElem?_cons_zero, List.getElem?_cons_succ, am_bk_v, am_bk_n, bo_0, bo_1, am_pk_s, List.length_cons, List.length_nil, Nat.zero_add, List.set_cons_zero, List.set_cons_succ, Nat.reduceAdd, Nat.reduceLeDiff, Nat.reduceLT, i61, nI_leI (show 61 < 2 ^ 31 by decide) (show i < 2 ^ 31 by omega), if_neg (show ¬ 61 ≤ i by omega), m0', m3, e366, e374, nI_add, ak_AI (show 366 + p < 392 by omega) (show 392 < 2 ^ 31 by decide), ak_AI (show 366 + q < 392 by omega) (show 392 < 2 ^ 31 by decide), ak_AI (show 374 + p < 392 by omega) (show 392 < 2 ^ 31 by decide), ak_AI (show 374 + q < 392 by omega) (show 392 < 2 ^ 31 by decide), a1, b1, show f (374 + p) = cI (τ.2.2.1 p) from a2, show f (374 + q) = cI (τ.2.2.1 q) from b2, sI_1, if_pos c1, if_pos c2, cc', if_neg c3]
          exact on
      · rw [if_neg (by rw [decide_eq_true_eq]; intro z; omega)]
        refine ⟨f', ?_, S1.tr S'⟩
        rw [e_179_30]
        simp only [e_179_31, e_179_33, e_179_36, e_179_37, e_179_40, e_179_43, e_179_44, e_179_45, e_179_46, e_179_47, e_179_50, e_179_51, e_179_54, e_179_57, e_179_58, e_179_59, e_179_60, e_179_61, lg_n, lg_i, lg_r, wd_nil, am_wd_i, am_wd_r, am_wd_l, am_gk_s, am_fld_s, List.getElem?_cons_zero, List.getElem?_cons_succ, am_bk_v, am_bk_n, bo_0, bo_1, am_pk_s, List.length_cons, List.length_nil, Nat.zero_add, List.set_cons_zero, List.set_cons_succ, Nat.reduceAdd, Nat.reduceLeDiff, Nat.reduceLT, i61, nI_leI (show 61 < 2 ^ 31 by decide) (show i < 2 ^ 31 by omega), if_neg (show ¬ 61 ≤ i by omega), m0', m3, e366, nI_add, ak_AI (show 366 + p < 392 by omega) (show 392 < 2 ^ 31 by decide), ak_AI (show 366 + q < 392 by omega) (show 392 < 2 ^ 31 by decide), a1, b1, sI_1, if_pos c1, if_neg c2]
        exact on
    · rw [if_neg (by rw [decide_eq_true_eq]; intro z; omega)]
      refine ⟨f', ?_, S1.tr S'⟩
      rw [e_179_30]
      simp only [e_179_31, e_179_33, e_179_36, e_179_37, e_179_40, e_179_43, e_179_44, e_179_45, e_179_46, e_179_47, lg_n, lg_i, lg_r, wd_nil, am_wd_i, am_wd_r, am_wd_l, am_gk_s, am_fld_s, List.getElem?_cons_zero, List.getElem?_cons_succ, am_bk_v, am_bk_n, bo_0, bo_1, am_pk_s, List.length_cons, List.length_nil, Nat.zero_add, List.set_cons_zero, List.set_cons_succ, Nat.reduceAdd, Nat.reduceLeDiff, Nat.reduceLT, i61, nI_leI (show 61 < 2 ^ 31 by decide) (show i < 2 ^ 31 by omega), if_neg (show ¬ 61 ≤ i by omega), m0', m3, e366, nI_add, ak_AI (show 366 + p < 392 by omega) (show 392 < 2 ^ 31 by decide), a1, sI_1, if_neg c1]
      exact on
theorem n_meet (hM : MI h P σ u pa kp ke t n sn sF sT sK nz nt) (hD : OKD P) (hO : HOK P σ) (hu : u ≤ 8) (p q : Int32) : ∃ h', am_cal (d + 8) 179 [.ref 87, .int p, .int q] h = some (some (.int (if (0 ≤ p.toInt ∧ p.toInt < P.2.2.2.1) ∧ (0 ≤ q.toInt ∧ q.toInt < P.2.2.2.1) ∧ p ≠ q then sonI (srchN (fun t => decide (2 ≤ (behN P σ t).2.2.1 p.toInt.toNat ∧ (behN P σ t).2.2.1 p.toInt.toNat = (behN P σ t).2.2.1 q.toInt.toNat)) 61 0) else -2)), h') ∧ MI h' P σ u pa kp ke t n sn sF sT sK nz nt ∧ FM h h' := by
  obtain ⟨oP, q1, q2, q3⟩ := hD
  have hn := oP.2.2.2.1
  obtain ⟨f, h88, hR⟩ := hM.2.1
  have hB := hM.mb h88
  have hip := m_isPerson (d := d + 5) hB hR.1 hn p
  have hiq := m_isPerson (d := d + 5) hB hR.1 hn q
  obtain ⟨m0, m1, m2, m3, m4⟩ := id hB
  by_cases c1 : 0 ≤ p.toInt ∧ p.toInt < P.2.2.2.1
  · rw [if_pos c1] at hip
    by_cases c2 : 0 ≤ q.toInt ∧ q.toInt < P.2.2.2.1
    · rw [if_pos c2] at hiq
      by_cases c3 : p = q
      · rw [if_neg (fun z => z.2.2 c3)]
        refine ⟨h, ?_, hM, FM.rf⟩
        refine (b_179 _ _ _).trans ?_; show am_ev _ 179 0 [some (.ref 87), some (.int p), some (.int q), none] [] _ = _
        simp only [e_179_0, e_179_1, e_179_2, e_179_5, e_179_8, e_179_9, e_179_10, e_179_13, e_179_16, e_179_17, e_179_18, e_179_21, e_179_23, lg_n, lg_i, lg_r, wd_nil, am_wd_i, am_wd_r, am_wd_l, am_gk_s, am_fld_s, List.getElem?_cons_zero, List.getElem?_cons_succ, am_bk_v, am_bk_n, bo_0, bo_1, am_pk_s, List.length_cons, List.length_nil, Nat.zero_add, List.set_cons_zero, List.set_cons_succ, Nat.reduceAdd, Nat.reduceLeDiff, Nat.reduceLT, m2, hip, hiq, one_ne, if_false, c3, not_true_eq_false, if_true]
      · rw [if_pos ⟨c1, c2, c3⟩]
        obtain ⟨a, rfl, ha⟩ : ∃ a : Nat, p = nI a ∧ a < P.2.2.2.1 := ⟨p.toInt.toNat, i_of p c1.1, by omega⟩
        obtain ⟨b, rfl, hb⟩ : ∃ b : Nat, q = nI b ∧ b < P.2.2.2.1 := ⟨q.toInt.toNat, i_of q c2.1, by omega⟩
        rw [nI_toInt (show a < 2 ^ 31 by omega), nI_toInt (show b < 2 ^ 31 by omega), Int.toNat_natCast, Int.toNat_natCast]
        have ht := m_layTried (d := d + 5) hB
        have R1 := hR.2.1.cp 366
        have S1 := cpI_RS f 0 366
        obtain ⟨f2, e2, S2⟩ := l_meetM (d := d + 2) oP hO.1 (by have := hO.2.1; omega) (by omega) (by have := hO.2.2; omega) ha hb 61 0 _ _ (by omega) (hB.set (cpI f 0 366 26)) (hR.1.rs hn (by omega) S1) R1
        rw [set_set] at e2
        obtain ⟨g0, h107⟩ := hM.2.2.2.2.2.2.2.2.1
        have MM := hM.fw hn hu hR (FW.set (a := 88) (c := AI 392 f2) (Or.inl rfl)) at_set_eq (S1.tr S2) (g := g0) (by rw [at_set_ne (by decide)]; exact h107)
        refine ⟨_, ?_, MM, FM.set (by decide) (by decide)⟩
        refine (b_179 _ _ _).trans ?_; show am_ev _ 179 0 [some (.ref 87), some (.int (nI a)), some (.int (nI b)), none] [] _ = _
        simp only [e_179_0, e_179_1, e_179_2, e_179_5, e_179_8, e_179_9, e_179_10, e_179_13, e_179_16, e_179_17, e_179_18, e_179_21, e_179_23, e_179_24, e_179_25, e_179_28, e_179_29, lg_n, lg_i, lg_r, wd_nil, am_wd_i, am_wd_r, am_wd_l, am_gk_s, am_fld_s, List.getElem?_cons_zero, List.getElem?_cons_succ, am_bk_v, am_bk_n, bo_0, bo_1, am_pk_s, List.length_cons, List.length_nil, Nat.zero_add, List.set_cons_zero, List.set_cons_succ, Nat.reduceAdd, Nat.reduceLeDiff, Nat.reduceLT, m2, hip, hiq, one_ne, if_false, c3, not_false_eq_true, if_true, ht]
        exact e2
    · rw [if_neg c2] at hiq
      rw [if_neg (fun z => c2 z.2.1)]
      refine ⟨h, ?_, hM, FM.rf⟩
      refine (b_179 _ _ _).trans ?_; show am_ev _ 179 0 [some (.ref 87), some (.int p), some (.int q), none] [] _ = _
      simp only [e_179_0, e_179_1, e_179_2, e_179_5, e_179_8, e_179_9, e_179_10, e_179_13, e_179_16, e_179_17, e_179_18, e_179_21, e_179_23, lg_n, lg_i, lg_r, wd_nil, am_wd_i, am_wd_r, am_wd_l, am_gk_s, am_fld_s, List.getElem?_cons_zero, List.getElem?_cons_succ, am_bk_v, am_bk_n, bo_0, bo_1, am_pk_s, List.length_cons, List.length_nil, Nat.zero_add, List.set_cons_zero, List.set_cons_succ, Nat.reduceAdd, Nat.reduceLeDiff, Nat.reduceLT, m2, hip, hiq, one_ne, if_false, if_true]
  · rw [if_neg c1] at hip
    rw [if_neg (fun z => c1 z.1)]
    refine ⟨h, ?_, hM, FM.rf⟩
    refine (b_179 _ _ _).trans ?_; show am_ev _ 179 0 [some (.ref 87), some (.int p), some (.int q), none] [] _ = _
    simp only [e_179_0, e_179_1, e_179_2, e_179_5, e_179_8, e_179_9, e_179_10, e_179_13, e_179_16, e_179_17, e_179_18, e_179_21, e_179_23, lg_n, lg_i, lg_r, wd_nil, am_wd_i, am_wd_r, am_wd_l, am_gk_s, am_fld_s, List.getElem?_cons_zero, List.getElem?_cons_succ, am_bk_v, am_bk_n, bo_0, bo_1, am_pk_s, List.length_cons, List.length_nil, Nat.zero_add, List.set_cons_zero, List.set_cons_succ, Nat.reduceAdd, Nat.reduceLeDiff, Nat.reduceLT, m2, hip, if_true]
theorem l_jamM (hD : OKD P) (hO : HOK P σ) (hu : u ≤ 8) {w : Int32} : ∀ j c (h : am_H), c + j = 2 * P.1 → MI h P σ u pa kp ke t n sn sF sT sK nz nt → ∃ h', am_ev (d + 7) 180 20 [some (.ref 87), some (.int w), some (.int (cI ((wrstN P σ c).1 + 1))), some (.int (cI ((wrstN P σ c).2 + 1))), some (.int (nI c))] [] h = am_ev (d + 7) 180 105 [some (.ref 87), some (.int w), some (.int (cI ((wrstN P σ (2 * P.1)).1 + 1))), some (.int (cI ((wrstN P σ (2 * P.1)).2 + 1))), some (.int (nI (2 * P.1)))] [] h' ∧ MI h' P σ u pa kp ke t n sn sF sT sK nz nt ∧ FM h h' := by
  obtain ⟨oP, q1, q2, q3⟩ := hD
  have hn := oP.2.2.2.1
  have e24 : (24 : Int32) = nI 24 := by decide +kernel
  have e390 : (390 : Int32) = nI 390 := by decide +kernel
  intro j
  induction j with
  | zero =>
    intro c h hc hM
    have : c = 2 * P.1 := by omega
    subst this
    obtain ⟨f, h88, hR⟩ := hM.2.1
    have hB := hM.mb h88
    have hpl := m_places (d := d + 6) hB hR.1
    obtain ⟨m0, m1, m2, m3, m4⟩ := id hB
    refine ⟨h, ?_, hM, FM.rf⟩
    rw [e_180_20]
    simp only [e_180_22, e_180_23, e_180_26, lg_n, lg_i, lg_r, wd_nil, am_wd_i, am_wd_r, am_wd_l, am_gk_s, am_fld_s, List.getElem?_cons_zero, List.getElem?_cons_succ, am_bk_v, am_bk_n, bo_0, bo_1, am_pk_s, List.length_cons, List.length_nil, Nat.zero_add, List.set_cons_zero, List.set_cons_succ, Nat.reduceAdd, Nat.reduceLeDiff, Nat.reduceLT, m2, hpl, nI_leI (show 2 * P.1 < 2 ^ 31 by omega) (show 2 * P.1 < 2 ^ 31 by omega), Nat.le_refl, if_true]
  | succ j ih =>
    intro c h hc hM
    obtain ⟨f, h88, hR⟩ := hM.2.1
    have hB := hM.mb h88
    have hpl := m_places (d := d + 6) hB hR.1
    have hhas := m_has (d := d + 6) (h := h) (n := σ.2.1) (k := c) (by have := hO.2.2; omega) (by omega)
    have h24 := hR.2.1.2.1
    rw [Nat.zero_add] at h24
    have hw : wrstN P σ (c + 1) = if σ.2.1.testBit c then wrstN P σ c else if (wrstN P σ c).2 < lastN P σ (σ.2.1 ||| 2 ^ c) + 1 then (c + 1, lastN P σ (σ.2.1 ||| 2 ^ c) + 1) else wrstN P σ c := rfl
    have hle := wrstN_le P σ c
    obtain ⟨m0, m1, m2, m3, m4⟩ := id hB
    by_cases hsh : σ.2.1.testBit c = true
    · rw [if_pos hsh] at hw hhas
      obtain ⟨h', e', M', F'⟩ := ih (c + 1) h (by omega) hM
      rw [hw] at e'
      refine ⟨h', ?_, M', F'⟩
      rw [e_180_20]
      simp only [e_180_22, e_180_23, e_180_26, e_180_29, e_180_30, e_180_33, e_180_35, e_180_36, e_180_38, e_180_41, e_180_99, e_180_102, lg_n, lg_i, lg_r, wd_nil, am_wd_i, am_wd_r, am_wd_l, am_gk_s, am_fld_s, List.getElem?_cons_zero, List.getElem?_cons_succ, am_bk_v, am_bk_n, bo_0, bo_1, am_pk_s, List.length_cons, List.length_nil, Nat.zero_add, List.set_cons_zero, List.set_cons_succ, Nat.reduceAdd, Nat.reduceLeDiff, Nat.reduceLT, m0, m2, m3, hpl, nI_leI (show 2 * P.1 < 2 ^ 31 by omega) (show c < 2 ^ 31 by omega), if_neg (show ¬ 2 * P.1 ≤ c by omega), e24, ak_AI (show 24 < 392 by decide) (show 392 < 2 ^ 31 by decide), h24, hhas, one_ne, not_false_eq_true, if_true, if_false, nI_1]
      exact e'
    · rw [if_neg hsh] at hw hhas
      have ht := m_layTried (d := d + 5) hB
      have R1 := hR.2.1.cp 366
      have S1 := cpI_RS f 0 366
      obtain ⟨f1, hf1⟩ : ∃ f1, f1 = upd (cpI f 0 366 26) 390 (nI (σ.2.1 ||| 2 ^ c)) := ⟨_, rfl⟩
      have Rt : RowH f1 366 (σ.1, σ.2.1 ||| 2 ^ c, σ.2.2) := by
        refine ⟨fun p hp => ?_, by rw [hf1]; exact pk_us, by rw [hf1, pk_un (by omega)]; exact R1.2.2⟩
        obtain ⟨a1, a2, a3⟩ := R1.1 p hp
        exact ⟨by rw [hf1, pk_un (by omega)]; exact a1, by rw [hf1, pk_un (by omega)]; exact a2, by rw [hf1, pk_un (by omega)]; exact a3⟩
      have St : RS f f1 366 := fun k hk => by rw [hf1, pk_un (by omega)]; exact S1 k hk
      have hB1 := hB.set f1
      obtain ⟨g0, h107⟩ := hM.2.2.2.2.2.2.2.2.1
      have f28 := hM.f28
      have hor := or_lt14 hO.2.2 (show c < 14 by omega)
      have oRt : OKR P (σ.1, σ.2.1 ||| 2 ^ c, σ.2.2) σ.1 := hO.1
      obtain ⟨h2, f2, g, e2, M2, S2, R2, q107, hg, F2⟩ := m_layWhen (d := d + 1) hB1 (hR.1.rs hn (by omega) St) Rt oP oRt (by have := hO.2.1; omega) (by omega) (by simp only; omega) (fun i hi => hi) (by rw [at_set_ne (by decide)]; exact f28) (g := g0) (by rw [at_set_ne (by decide)]; exact h107)
      have F12 : FW h h2 := (FW.set (Or.inl rfl)).tr F2
      have MM := hM.fw hn hu hR F12 M2.2.2.2.1 (St.tr S2) q107
      have hl : lastN P σ (σ.2.1 ||| 2 ^ c) = maxN g P.2.2.2.1 := by
        have := last_max (P := P) (L := fun i => i) (σ := (σ.1, σ.2.1 ||| 2 ^ c, σ.2.2))
        rw [maxN_cong (g' := g) (fun k hk => (hg k hk).symm)] at this
        rw [← this]
        exact srchN_eq 61 0 (fun t _ _ => by rw [stp_beh hn])
      have hgl : ∀ p, p < P.2.2.2.1 → g p ≤ 61 := fun p hp => by rw [hg p hp]; exact srchN_le _ 61 0 (by omega)
      have hla := m_latest (d := d + 6) M2 (hR.1.rs hn (by omega) (St.tr S2)) hn hgl MM.f28 q107
      have hmx := maxN_le (n := P.2.2.2.1) hgl
      rw [← hl] at hla hmx
      obtain ⟨h', e', M', F'⟩ := ih (c + 1) h2 (by omega) MM
      rw [hw] at e'
      refine ⟨h', ?_, M', F12.fm.tr F'⟩
      obtain ⟨w0, w1, w2, w3, w4⟩ := id M2
      obtain ⟨v0, v1, v2, v3, v4⟩ := id hB1
      have x87 : ∀ z, am_at (am_set h 88 z) 87 = am_at h 87 := fun z => at_set_ne (by decide)
      have h390 : cpI f 0 366 26 390 = nI σ.2.1 := R1.2.1
      have go : am_ev (d + 7) 180 20 [some (.ref 87), some (.int w), some (.int (cI ((wrstN P σ c).1 + 1))), some (.int (cI ((wrstN P σ c).2 + 1))), some (.int (nI c))] [] h = am_ev (d + 7) 180 67 [some (.ref 87), some (.int w), some (.int (cI ((wrstN P σ c).1 + 1))), some (.int (cI ((wrstN P σ c).2 + 1))), some (.int (nI c))] [] h2 := by
        rw [e_180_20]
        simp only [e_180_22, e_180_23, e_180_26, e_180_29, e_180_30, e_180_33, e_180_35, e_180_36, e_180_38, e_180_41, e_180_44, e_180_45, e_180_48, e_180_49, e_180_52, e_180_55, e_180_56, e_180_57, e_180_58, e_180_60, e_180_61, lg_n, lg_i, lg_r, wd_nil, am_wd_i, am_wd_r, am_wd_l, am_gk_s, am_fld_s, List.getElem?_cons_zero, List.getElem?_cons_succ, am_bk_v, am_bk_n, bo_0, bo_1, am_pk_s, List.length_cons, List.length_nil, Nat.zero_add, List.set_cons_zero, List.set_cons_succ, Nat.reduceAdd, Nat.reduceLeDiff, Nat.reduceLT, m0, m2, m3, hpl, nI_leI (show 2 * P.1 < 2 ^ 31 by omega) (show c < 2 ^ 31 by omega), if_neg (show ¬ 2 * P.1 ≤ c by omega), e24, e390, ak_AI (show 24 < 392 by decide) (show 392 < 2 ^ 31 by decide), h24, hhas, not_true_eq_false, if_true, if_false, ht, x87, at_set_eq, ak_AI (show 390 < 392 by decide) (show 392 < 2 ^ 31 by decide), h390, sh1 c (by omega), fa_or]
        simp only [e_180_62, at_set_eq, sk_AI (show 390 < 392 by decide) (show 392 < 2 ^ 31 by decide), st_AI (show 390 < 392 by decide) (show 392 < 2 ^ 31 by decide), set_set]
        rw [← hf1]
        simp only [e_180_63, e_180_64, lg_n, lg_i, lg_r, wd_nil, am_wd_i, am_wd_r, am_wd_l, am_gk_s, am_fld_s, List.getElem?_cons_zero, List.getElem?_cons_succ, am_bk_v, am_bk_n, bo_0, bo_1, am_pk_s, List.length_cons, List.length_nil, Nat.zero_add, List.set_cons_zero, List.set_cons_succ, Nat.reduceAdd, Nat.reduceLeDiff, Nat.reduceLT, v2, e2]
      rw [go]
      simp only [e_180_67, e_180_68, e_180_71, e_180_72, e_180_75, e_180_77, e_180_80, e_180_81, e_180_82, e_180_83, e_180_86, e_180_87, e_180_90, e_180_91, e_180_94, e_180_97, e_180_98, e_180_99, e_180_102, lg_n, lg_i, lg_r, wd_nil, am_wd_i, am_wd_r, am_wd_l, am_gk_s, am_fld_s, List.getElem?_cons_zero, List.getElem?_cons_succ, am_bk_v, am_bk_n, bo_0, bo_1, am_pk_s, List.length_cons, List.length_nil, Nat.zero_add, List.set_cons_zero, List.set_cons_succ, Nat.reduceAdd, Nat.reduceLeDiff, Nat.reduceLT, w2, hla, cI_le (show lastN P σ (σ.2.1 ||| 2 ^ c) < 2 ^ 30 by omega) (show (wrstN P σ c).2 < 2 ^ 30 by omega), nI_1]
      by_cases hgt : (wrstN P σ c).2 < lastN P σ (σ.2.1 ||| 2 ^ c) + 1
      · simp only [if_neg (show ¬ lastN P σ (σ.2.1 ||| 2 ^ c) + 1 ≤ (wrstN P σ c).2 by omega)]
        rw [if_pos hgt] at e'
        simp only [cI_s] at e'
        exact e'
      · simp only [if_pos (show lastN P σ (σ.2.1 ||| 2 ^ c) + 1 ≤ (wrstN P σ c).2 by omega)]
        rw [if_neg hgt] at e'
        exact e'
theorem n_jam (hM : MI h P σ u pa kp ke t n sn sF sT sK nz nt) (hD : OKD P) (hO : HOK P σ) (hu : u ≤ 8) (w : Int32) : ∃ h', am_cal (d + 8) 180 [.ref 87, .int w] h = some (some (.int (if 0 ≤ w.toInt ∧ w.toInt ≤ 1 then (if (wrstN P σ (2 * P.1)).1 = 0 ∨ w = 0 then cI ((wrstN P σ (2 * P.1)).1 + 1) else sonI (lastN P σ (σ.2.1 ||| 2 ^ ((wrstN P σ (2 * P.1)).1 - 1)))) else -3)), h') ∧ MI h' P σ u pa kp ke t n sn sF sT sK nz nt ∧ FM h h' := by
  have hin := m_in (d := d + 6) (h := h) w.toInt64 0 1
  rw [l_in32, show (0 : Int64).toInt = 0 from rfl, show (1 : Int64).toInt = 1 from rfl] at hin
  by_cases c1 : 0 ≤ w.toInt ∧ w.toInt ≤ 1
  · rw [if_pos c1] at hin ⊢
    obtain ⟨h', e', M', F'⟩ := l_jamM (d := d) (w := w) hD hO hu (2 * P.1) 0 h (by omega) hM
    have hle := wrstN_le P σ (2 * P.1)
    have hw0 := wrstN_0 P σ (2 * P.1)
    have fin : am_cal (d + 8) 180 [.ref 87, .int w] h = am_ev (d + 7) 180 105 [some (.ref 87), some (.int w), some (.int (cI ((wrstN P σ (2 * P.1)).1 + 1))), some (.int (cI ((wrstN P σ (2 * P.1)).2 + 1))), some (.int (nI (2 * P.1)))] [] h' := by
      refine (b_180 _ _ _).trans ?_; show am_ev _ 180 0 [some (.ref 87), some (.int w), none, none, none] [] _ = _
      simp only [e_180_0, e_180_1, e_180_2, e_180_3, e_180_4, e_180_7, e_180_10, e_180_12, e_180_13, e_180_14, e_180_15, e_180_16, e_180_17, e_180_18, lg_n, lg_i, lg_r, wd_nil, am_wd_i, am_wd_r, am_wd_l, am_gk_s, am_fld_s, List.getElem?_cons_zero, List.getElem?_cons_succ, am_bk_v, am_bk_n, bo_0, bo_1, am_pk_s, List.length_cons, List.length_nil, Nat.zero_add, List.set_cons_zero, List.set_cons_succ, Nat.reduceAdd, Nat.reduceLeDiff, Nat.reduceLT, hin, one_ne, not_false_eq_true, if_true, if_false]
      exact e'
    rw [fin]
    generalize wrstN P σ (2 * P.1) = W at *
    refine ⟨h', ?_, M', F'⟩
    by_cases w0 : w = 0
    · rw [if_pos (Or.inr w0)]
      simp only [e_180_105, e_180_106, e_180_109, e_180_110, e_180_113, e_180_114, e_180_116, e_180_119, e_180_120, e_180_123, e_180_124, lg_n, lg_i, lg_r, wd_nil, am_wd_i, am_wd_r, am_wd_l, am_gk_s, am_fld_s, List.getElem?_cons_zero, List.getElem?_cons_succ, am_bk_v, am_bk_n, bo_0, bo_1, am_pk_s, List.length_cons, List.length_nil, Nat.zero_add, List.set_cons_zero, List.set_cons_succ, Nat.reduceAdd, Nat.reduceLeDiff, Nat.reduceLT, w0, not_true_eq_false, if_true, if_false]
    · by_cases hz : W.1 = 0
      · rw [if_pos (Or.inl hz)]
        have hz2 := hw0.1.1 hz
        rw [hz, hz2]
        simp only [e_180_105, e_180_106, e_180_109, e_180_110, e_180_113, e_180_114, e_180_116, e_180_119, e_180_120, e_180_123, e_180_124, lg_n, lg_i, lg_r, wd_nil, am_wd_i, am_wd_r, am_wd_l, am_gk_s, am_fld_s, List.getElem?_cons_zero, List.getElem?_cons_succ, am_bk_v, am_bk_n, bo_0, bo_1, am_pk_s, List.length_cons, List.length_nil, Nat.zero_add, List.set_cons_zero, List.set_cons_succ, Nat.reduceAdd, Nat.reduceLeDiff, Nat.reduceLT, w0, not_false_eq_true, if_true, if_false, show cI (0 + 1) = -1 from rfl, show ((-1 : Int32) = 61) = False by decide]
      · have hlast := hw0.2 hz
        have hll : lastN P σ (σ.2.1 ||| 2 ^ (W.1 - 1)) ≤ 61 := srchN_le _ 61 0 (by omega)
        rw [hlast, cI_s, if_neg (show ¬ (W.1 = 0 ∨ w = 0) from fun z => z.elim hz w0), ← son_eq hll]
        simp only [e_180_105, e_180_106, e_180_109, e_180_110, e_180_113, e_180_114, e_180_116, e_180_119, e_180_120, e_180_123, e_180_124, lg_n, lg_i, lg_r, wd_nil, am_wd_i, am_wd_r, am_wd_l, am_gk_s, am_fld_s, List.getElem?_cons_zero, List.getElem?_cons_succ, am_bk_v, am_bk_n, bo_0, bo_1, am_pk_s, List.length_cons, List.length_nil, Nat.zero_add, List.set_cons_zero, List.set_cons_succ, Nat.reduceAdd, Nat.reduceLeDiff, Nat.reduceLT, w0, not_false_eq_true, if_true, if_false]
        by_cases h6 : nI (lastN P σ (σ.2.1 ||| 2 ^ (W.1 - 1))) = 61
        · simp [h6]
        · simp [h6]
  · rw [if_neg c1] at hin ⊢
    refine ⟨h, ?_, hM, FM.rf⟩
    refine (b_180 _ _ _).trans ?_; show am_ev _ 180 0 [some (.ref 87), some (.int w), none, none, none] [] _ = _
    simp only [e_180_0, e_180_1, e_180_2, e_180_3, e_180_4, e_180_7, e_180_10, e_180_12, lg_n, lg_i, lg_r, wd_nil, am_wd_i, am_wd_r, am_wd_l, am_gk_s, am_fld_s, List.getElem?_cons_zero, List.getElem?_cons_succ, am_bk_v, am_bk_n, bo_0, bo_1, am_pk_s, List.length_cons, List.length_nil, Nat.zero_add, List.set_cons_zero, List.set_cons_succ, Nat.reduceAdd, Nat.reduceLeDiff, Nat.reduceLT, hin, not_true_eq_false, if_true, if_false]
end MI
