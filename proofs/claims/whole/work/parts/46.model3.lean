/-! the model: steps -/
theorem outX_s (P : Pn) (s : Nat) (x y : Nat → Nat) (p : Nat) : outX P s x y (p + 1) = if outN P s x y p = true then updn (outX P s x y p) p 1 else outX P s x y p := by
  funext q
  by_cases ho : outN P s x y p = true
  · rw [if_pos ho]
    unfold outX updn
    by_cases hq : q = p
    · subst hq; simp [ho]
    · have : (q < p + 1) ↔ q < p := by omega
      simp only [this, if_neg hq]
  · rw [if_neg ho]
    unfold outX
    by_cases hq : q = p
    · subst hq; simp [ho]
    · have : (q < p + 1) ↔ q < p := by omega
      simp only [this]
theorem outY_s (x y : Nat → Nat) (p : Nat) : outY x y (p + 1) = if 2 ≤ x p then updn (outY x y p) p (y p + 1) else outY x y p := by
  funext q
  by_cases hr : 2 ≤ x p
  · rw [if_pos hr]
    unfold updn outY
    by_cases hq : q = p
    · subst hq; simp [hr]
    · rw [if_neg hq]
      have : (q < p + 1) ↔ q < p := by omega
      simp only [this]
  · rw [if_neg hr]
    unfold outY
    by_cases hq : q = p
    · subst hq; simp [hr]
    · have : (q < p + 1) ↔ q < p := by omega
      simp only [this]
theorem lookN1_id {P : Pn} {σ : Hn} {p : Nat} (h : ¬ (p < P.2.2.2.1 ∧ σ.2.2.1 p = 0)) : lookN1 P σ p = σ := by
  unfold lookN1 choiceN
  rw [if_neg h, if_pos rfl]
def stpN (P : Pn) (L : Nat → Nat) (σ : Hn) : Nat → Hn
  | 0 => σ
  | t + 1 => advN P L P.2.2.2.1 (stpN P L σ t)
theorem OKR.stp {P : Pn} {σ : Hn} {m : Nat} {L : Nat → Nat} (h : OKR P σ m) (hf : 1 ≤ P.1) : ∀ t, OKR P (stpN P L σ t) (m + t)
  | 0 => h
  | t + 1 => (OKR.stp h hf t).adv hf _
theorem lookN_ge (P : Pn) (σ : Hn) : ∀ k, lookN P (fun i => i) (P.2.2.2.1 + k) σ = lookN P (fun i => i) P.2.2.2.1 σ
  | 0 => rfl
  | k + 1 => by
    show lookN1 P (lookN P (fun i => i) (P.2.2.2.1 + k) σ) (P.2.2.2.1 + k) = _
    rw [lookN1_id (by omega), lookN_ge P σ k]
theorem stp_beh {P : Pn} (hn : P.2.2.2.1 ≤ 8) (σ : Hn) : ∀ t, stpN P (fun i => i) σ t = behN P σ t
  | 0 => rfl
  | t + 1 => by
    show advN P (fun i => i) P.2.2.2.1 (stpN P (fun i => i) σ t) = advN P (fun i => i) 8 (behN P σ t)
    rw [stp_beh hn σ t]
    unfold advN
    have := lookN_ge P (letOutN P ((behN P σ t).1 + 1, (behN P σ t).2)) (8 - P.2.2.2.1)
    rw [show P.2.2.2.1 + (8 - P.2.2.2.1) = 8 by omega] at this
    exact this.symm
section MO
variable {d : Nat} {h : am_H} {f : Nat → Int32} {L : Nat → Nat} {P : Pn} {σ : Hn} {b : Nat}
theorem m_getsOut (hM : MB h f L) (hP : RowP f 0 P) (hR : RowH f b σ) (hb : b = 0 ∨ (53 ≤ b ∧ b ≤ 366)) (oP : OKP P) (os : σ.1 < 2 ^ 28) {p : Nat} (hxy : σ.2.2.1 p < 2 ^ 28 ∧ σ.2.2.2 p < 2 ^ 28) (hp : p < P.2.2.2.1) (hx : 2 ≤ σ.2.2.1 p) : ∃ f', am_cal (d + 4) 159 [.ref 87, .int (nI b), .int (nI p)] h = some (none, am_set h 88 (AI 392 f')) ∧ RowH f' b (σ.1, σ.2.1, (if outN P σ.1 σ.2.2.1 σ.2.2.2 p = true then updn σ.2.2.1 p 1 else σ.2.2.1), updn σ.2.2.2 p (σ.2.2.2 p + 1)) ∧ RS f f' b := by
  have hn := oP.2.2.2.1
  have hp8 : p < 8 := by omega
  have hk := oP.2.2.2.2.1 p hp8
  obtain ⟨hfr, hto⟩ := oP.2.2.2.2.2 p hp
  have hPf : 1 ≤ P.1 ∧ P.1 < 2 ^ 20 := ⟨oP.1, oP.2.1⟩
  obtain ⟨c1, c2, c3⟩ := hP.2.2.2 p hp
  rw [Nat.zero_add] at c1 c2 c3
  obtain ⟨a1, a2, a3⟩ := hR.1 p hp8
  have e29 : (29 : Int32) = nI 29 := by decide +kernel
  have e45 : (45 : Int32) = nI 45 := by decide +kernel
  have e8 : (8 : Int32) = nI 8 := by decide +kernel
  have e16 : (16 : Int32) = nI 16 := by decide +kernel
  have hcI : cI (σ.2.2.1 p) = nI (σ.2.2.1 p - 2) := by unfold cI; rw [if_neg (by omega)]
  obtain ⟨f1, hf1⟩ : ∃ f1, f1 = upd f (b + 16 + p) (nI (σ.2.2.2 p + 1)) := ⟨_, rfl⟩
  have R1 : RowH f1 b (σ.1, σ.2.1, σ.2.2.1, updn σ.2.2.2 p (σ.2.2.2 p + 1)) := by
    refine ⟨fun q hq => ?_, by rw [hf1, pk_un (by omega)]; exact hR.2.1, by rw [hf1, pk_un (by omega)]; exact hR.2.2⟩
    obtain ⟨z1, z2, z3⟩ := hR.1 q hq
    refine ⟨by rw [hf1, pk_un (by omega)]; exact z1, by rw [hf1, pk_un (by omega)]; exact z2, ?_⟩
    unfold updn
    by_cases e : q = p
    · subst e; simp only [if_true]; rw [hf1, pk_us]
    · simp only [if_neg e]; rw [hf1, pk_un (by omega)]; exact z3
  have S1 : RS f f1 b := fun k hk => by rw [hf1, pk_un (by omega)]
  have hP1 : RowP f1 0 P := hP.rs hn (by omega) S1
  have hM1 := hM.set f1
  have hfo := m_floorOfM (d := d) hM1 hP1 R1 (by omega) hPf os (show σ.2.2.1 p - 2 < 2 ^ 28 by omega)
  have hpl := m_places (d := d + 2) hM1 hP1
  obtain ⟨m0, m1, m2, m3, m4⟩ := hM
  obtain ⟨w0, w1, w2, w3, w4⟩ := hM1
  obtain ⟨d1, d2, d3⟩ := hP1.2.2.2 p hp
  rw [Nat.zero_add] at d1 d2 d3
  obtain ⟨b1, b2, b3⟩ := R1.1 p hp8
  have b3' : f1 (b + 16 + p) = nI (σ.2.2.2 p + 1) := by rw [hf1, pk_us]
  have hpc : plc P.1 σ.1 (σ.2.2.1 p - 2) < 2 * P.1 := Nat.mod_lt _ (by omega)
  have hfl : flr P.1 (plc P.1 σ.1 (σ.2.2.1 p - 2)) < 2 ^ 31 := by unfold flr; split <;> omega
  have hk3 : nI (P.2.2.2.2.1 p) = 3 ↔ P.2.2.2.2.1 p = 3 := by rw [show (3 : Int32) = nI 3 by decide +kernel, nI_eq (by omega) (by decide)]
  have go1 : am_cal (d + 4) 159 [.ref 87, .int (nI b), .int (nI p)] h = am_ev (d + 3) 159 15 [some (.ref 87), some (.int (nI b)), some (.int (nI p)), none] [] (am_set h 88 (AI 392 f1)) := by
    refine (b_159 _ _ _).trans ?_; show am_ev _ 159 0 [some (.ref 87), some (.int (nI b)), some (.int (nI p)), none] [] _ = _
    simp only [e_159_0, e_159_1, e_159_4, e_159_5, e_159_7, e_159_8, e_159_9, e_159_10, e_159_11, e_159_12, e_159_13, e_159_14, lg_n, lg_i, lg_r, wd_nil, am_wd_i, am_wd_r, am_wd_l, am_gk_s, am_fld_s, List.getElem?_cons_zero, List.getElem?_cons_succ, am_bk_v, am_bk_n, bo_0, bo_1, am_pk_s, List.length_cons, List.length_nil, Nat.zero_add, List.set_cons_zero, List.set_cons_succ, Nat.reduceAdd, Nat.reduceLeDiff, Nat.reduceLT, m0, m3, e16, nI_add, ak_AI (show b + 16 + p < 392 by omega) (show 392 < 2 ^ 31 by decide), a3, nI_1, sk_AI (show b + 16 + p < 392 by omega) (show 392 < 2 ^ 31 by decide), st_AI (show b + 16 + p < 392 by omega) (show 392 < 2 ^ 31 by decide)]
    rw [← hf1]
  have key : ∀ W : Bool, (W = decide (P.2.2.2.2.1 p ≠ 3 ∨ 2 * P.1 ≤ σ.2.2.2 p + 1)) → am_ev (d + 3) 159 15 [some (.ref 87), some (.int (nI b)), some (.int (nI p)), none] [] (am_set h 88 (AI 392 f1)) = am_ev (d + 3) 159 52 [some (.ref 87), some (.int (nI b)), some (.int (nI p)), some (.int (if W then 1 else 0))] [] (am_set h 88 (AI 392 f1)) := by
    intro W hW
    simp only [e_159_15, e_159_16, e_159_19, e_159_21, e_159_22, e_159_23, e_159_24, e_159_25, e_159_28, e_159_29, e_159_32, e_159_33, e_159_35, e_159_36, e_159_37, e_159_38, e_159_39, e_159_40, e_159_43, e_159_46, e_159_47, e_159_50, e_159_51, lg_n, lg_i, lg_r, wd_nil, am_wd_i, am_wd_r, am_wd_l, am_gk_s, am_fld_s, List.getElem?_cons_zero, List.getElem?_cons_succ, am_bk_v, am_bk_n, bo_0, bo_1, am_pk_s, List.length_cons, List.length_nil, Nat.zero_add, List.set_cons_zero, List.set_cons_succ, Nat.reduceAdd, Nat.reduceLeDiff, Nat.reduceLT, w0, w2, w3, e29, e16, nI_add, ak_AI (show 29 + p < 392 by omega) (show 392 < 2 ^ 31 by decide), ak_AI (show b + 16 + p < 392 by omega) (show 392 < 2 ^ 31 by decide), d1, hk3, b3', hpl, nI_ltI (show σ.2.2.2 p + 1 < 2 ^ 31 by omega) (show 2 * P.1 < 2 ^ 31 by omega)]
    by_cases t3 : P.2.2.2.2.1 p = 3
    · by_cases tl : σ.2.2.2 p + 1 < 2 * P.1
      · have : W = false := by rw [hW]; simp [t3]; omega
        simp [t3, tl, this]
      · have : W = true := by rw [hW]; simp [t3]; omega
        simp [t3, tl, this]
    · have : W = true := by rw [hW]; simp [t3]
      simp [t3, this]
  have key' := key _ rfl
  rw [go1, key']
  have hoN : outN P σ.1 σ.2.2.1 σ.2.2.2 p = (decide (P.2.2.2.2.1 p ≠ 3 ∨ 2 * P.1 ≤ σ.2.2.2 p + 1) && decide (flr P.1 (plc P.1 σ.1 (σ.2.2.1 p - 2)) = P.2.2.2.2.2.2 p)) := by
    unfold outN
    rw [Bool.eq_iff_iff]
    simp [hx]
  generalize decide (P.2.2.2.2.1 p ≠ 3 ∨ 2 * P.1 ≤ σ.2.2.2 p + 1) = W at *
  cases W with
  | false =>
    have : outN P σ.1 σ.2.2.1 σ.2.2.2 p = false := by rw [hoN]; rfl
    refine ⟨f1, ?_, by rw [if_neg (by rw [this]; decide)]; exact R1, S1⟩
    simp only [e_159_52, e_159_53, e_159_107, lg_n, lg_i, lg_r, wd_nil, am_wd_i, am_wd_r, am_wd_l, am_gk_s, am_fld_s, List.getElem?_cons_zero, List.getElem?_cons_succ, am_bk_v, am_bk_n, bo_0, bo_1, am_pk_s, List.length_cons, List.length_nil, Nat.zero_add, List.set_cons_zero, List.set_cons_succ, Nat.reduceAdd, Nat.reduceLeDiff, Nat.reduceLT, Bool.false_eq_true, if_false, if_true]
  | true =>
    rw [Bool.true_and] at hoN
    by_cases hfe : flr P.1 (plc P.1 σ.1 (σ.2.2.1 p - 2)) = P.2.2.2.2.2.2 p
    · have : outN P σ.1 σ.2.2.1 σ.2.2.2 p = true := by rw [hoN]; simp [hfe]
      rw [if_pos this]
      refine ⟨upd (upd f1 (b + p) 2) (b + 8 + p) (-1), ?_, ⟨fun q hq => ?_, by rw [pk_un (by omega), pk_un (by omega)]; exact R1.2.1, by rw [pk_un (by omega), pk_un (by omega)]; exact R1.2.2⟩, fun k hk => by rw [pk_un (by omega), pk_un (by omega)]; exact S1 k hk⟩
      · have y0 : ∀ c, am_at (am_set h 88 c) 87 = am_at h 87 := fun c => at_set_ne (by decide)
        have z0 : am_fld (am_at h 87) 8 0 = some (.ref 88) := m0
        simp only [e_159_52, e_159_53, e_159_56, e_159_57, e_159_58, e_159_59, e_159_62, e_159_63, e_159_65, e_159_66, e_159_67, e_159_68, e_159_69, e_159_72, e_159_73, e_159_76, e_159_78, e_159_79, e_159_80, e_159_81, e_159_84, e_159_85, e_159_88, e_159_89, e_159_90, e_159_91, e_159_92, e_159_93, e_159_94, e_159_95, e_159_96, e_159_99, e_159_100, e_159_102, e_159_103, e_159_104, e_159_105, e_159_106, e_159_107, lg_n, lg_i, lg_r, wd_nil, am_wd_i, am_wd_r, am_wd_l, am_gk_s, am_fld_s, List.getElem?_cons_zero, List.getElem?_cons_succ, am_bk_v, am_bk_n, bo_0, bo_1, am_pk_s, List.length_cons, List.length_nil, Nat.zero_add, List.set_cons_zero, List.set_cons_succ, Nat.reduceAdd, Nat.reduceLeDiff, Nat.reduceLT, if_true, one_ne, if_false, m2, hfo, y0, z0, at_set_eq, e45, e8, nI_add, ak_AI (show b + 8 + p < 392 by omega) (show 392 < 2 ^ 31 by decide), b2, hcI, ak_AI (show 45 + p < 392 by omega) (show 392 < 2 ^ 31 by decide), d3, nI_eq hfl (show P.2.2.2.2.2.2 p < 2 ^ 31 by omega), if_pos hfe, Int32.add_zero, sk_AI (show b + p < 392 by omega) (show 392 < 2 ^ 31 by decide), st_AI (show b + p < 392 by omega) (show 392 < 2 ^ 31 by decide), sk_AI (show b + 8 + p < 392 by omega) (show 392 < 2 ^ 31 by decide), st_AI (show b + 8 + p < 392 by omega) (show 392 < 2 ^ 31 by decide), set_set]
      · obtain ⟨z1, z2, z3⟩ := R1.1 q hq
        simp only
        refine ⟨?_, ?_, by rw [pk_un (by omega), pk_un (by omega)]; exact z3⟩
        · by_cases e : q = p
          · subst e; rw [pk_un (by omega), pk_us]; simp [updn, sI]
          · rw [pk_un (by omega), pk_un (by omega), z1]; simp [updn, e]
        · by_cases e : q = p
          · subst e; rw [pk_us]; simp [updn, cI]
          · rw [pk_un (by omega), pk_un (by omega), z2]; simp [updn, e]
    · have : outN P σ.1 σ.2.2.1 σ.2.2.2 p = false := by rw [hoN]; simp [hfe]
      rw [if_neg (show ¬ outN P σ.1 σ.2.2.1 σ.2.2.2 p = true by rw [this]; decide)]
      refine ⟨f1, ?_, R1, S1⟩
      have y0 : ∀ c, am_at (am_set h 88 c) 87 = am_at h 87 := fun c => at_set_ne (by decide)
      simp only [e_159_52, e_159_53, e_159_56, e_159_57, e_159_58, e_159_59, e_159_62, e_159_63, e_159_65, e_159_66, e_159_67, e_159_68, e_159_69, e_159_72, e_159_73, e_159_76, e_159_78, e_159_79, e_159_80, e_159_81, e_159_107, lg_n, lg_i, lg_r, wd_nil, am_wd_i, am_wd_r, am_wd_l, am_gk_s, am_fld_s, List.getElem?_cons_zero, List.getElem?_cons_succ, am_bk_v, am_bk_n, bo_0, bo_1, am_pk_s, List.length_cons, List.length_nil, Nat.zero_add, List.set_cons_zero, List.set_cons_succ, Nat.reduceAdd, Nat.reduceLeDiff, Nat.reduceLT, if_true, one_ne, if_false, m2, hfo, y0, m0, at_set_eq, e45, e8, nI_add, ak_AI (show b + 8 + p < 392 by omega) (show 392 < 2 ^ 31 by decide), b2, hcI, ak_AI (show 45 + p < 392 by omega) (show 392 < 2 ^ 31 by decide), d3, nI_eq hfl (show P.2.2.2.2.2.2 p < 2 ^ 31 by omega), if_neg hfe]
theorem l_stepsOut (oP : OKP P) (oH : OKH P σ) (hb : b = 0 ∨ (53 ≤ b ∧ b ≤ 366)) {x2 x3 : Option Value} (l3 : am_lg x3 = false) : ∀ j p (h : am_H) (f : Nat → Int32), p + j = P.2.2.2.1 → MB h f L → RowP f 0 P → RowH f b (σ.1, σ.2.1, outX P σ.1 σ.2.2.1 σ.2.2.2 p, outY σ.2.2.1 σ.2.2.2 p) → ∃ f', am_ev (d + 4) 160 23 [some (.ref 87), some (.int (nI b)), x2, x3, some (.int (nI p))] [] h = am_ev (d + 4) 160 63 [some (.ref 87), some (.int (nI b)), x2, x3, some (.int (nI P.2.2.2.1))] [] (am_set h 88 (AI 392 f')) ∧ RowH f' b (letOutN P σ) ∧ RS f f' b := by
  have hn := oP.2.2.2.1
  have e28 : (28 : Int32) = nI 28 := by decide +kernel
  intro j
  induction j with
  | zero =>
    intro p h f hp hM hP hR
    obtain ⟨m0, m1, m2, m3, m4⟩ := hM
    have h28 := hP.2.2.1
    rw [Nat.zero_add] at h28
    have : p = P.2.2.2.1 := by omega
    subst this
    refine ⟨f, ?_, hR, RS.rf⟩
    rw [e_160_23, set_self m3]
    simp only [e_160_25, e_160_26, e_160_29, e_160_31, e_160_32, lg_n, lg_i, lg_r, wd_nil, am_wd_i, am_wd_r, am_wd_l, am_gk_s, am_fld_s, List.getElem?_cons_zero, List.getElem?_cons_succ, am_bk_v, am_bk_n, bo_0, bo_1, am_pk_s, List.length_cons, List.length_nil, Nat.zero_add, List.set_cons_zero, List.set_cons_succ, Nat.reduceAdd, Nat.reduceLeDiff, Nat.reduceLT, m0, m3, e28, ak_AI (show 28 < 392 by decide) (show 392 < 2 ^ 31 by decide), h28, nI_leI (show P.2.2.2.1 < 2 ^ 31 by omega) (show P.2.2.2.1 < 2 ^ 31 by omega), Nat.le_refl, if_true]
  | succ j ih =>
    intro p h f hp hM hP hR
    have h28 := hP.2.2.1
    rw [Nat.zero_add] at h28
    obtain ⟨a1, a2, a3⟩ := hR.1 p (by omega)
    have hx0 : outX P σ.1 σ.2.2.1 σ.2.2.2 p p = σ.2.2.1 p := by unfold outX; rw [if_neg (by omega)]
    have hy0 : outY σ.2.2.1 σ.2.2.2 p p = σ.2.2.2 p := by unfold outY; rw [if_neg (by omega)]
    simp only [hx0] at a1
    have hxy := oH.2 p (by omega)
    by_cases hr : 2 ≤ σ.2.2.1 p
    · obtain ⟨f1, e1, R1, S1⟩ := m_getsOut (d := d) (σ := (σ.1, σ.2.1, outX P σ.1 σ.2.2.1 σ.2.2.2 p, outY σ.2.2.1 σ.2.2.2 p)) hM hP hR hb oP oH.1 (by simp only [hx0, hy0]; exact hxy) (show p < P.2.2.2.1 by omega) (by simp only [hx0]; exact hr)
      simp only [hy0] at R1
      have hoN : outN P σ.1 (outX P σ.1 σ.2.2.1 σ.2.2.2 p) (outY σ.2.2.1 σ.2.2.2 p) p = outN P σ.1 σ.2.2.1 σ.2.2.2 p := by
        unfold outN
        rw [hx0, hy0]
      rw [hoN] at R1
      have hX := outX_s P σ.1 σ.2.2.1 σ.2.2.2 p
      have hY := outY_s σ.2.2.1 σ.2.2.2 p
      rw [if_pos hr] at hY
      rw [← hX, ← hY] at R1
      obtain ⟨f', e', R', S'⟩ := ih (p + 1) _ f1 (by omega) (hM.set f1) (hP.rs hn (by omega) S1) R1
      rw [set_set] at e'
      refine ⟨f', ?_, R', S1.tr S'⟩
      obtain ⟨m0, m1, m2, m3, m4⟩ := hM
      rw [e_160_23]
      simp only [e_160_25, e_160_26, e_160_29, e_160_31, e_160_32, e_160_35, e_160_36, e_160_39, e_160_40, e_160_41, e_160_42, e_160_44, e_160_45, e_160_46, e_160_47, e_160_50, e_160_51, e_160_52, e_160_54, e_160_57, e_160_60, lg_n, lg_i, lg_r, wd_nil, am_wd_i, am_wd_r, am_wd_l, am_gk_s, am_fld_s, List.getElem?_cons_zero, List.getElem?_cons_succ, am_bk_v, am_bk_n, bo_0, bo_1, am_pk_s, List.length_cons, List.length_nil, Nat.zero_add, List.set_cons_zero, List.set_cons_succ, Nat.reduceAdd, Nat.reduceLeDiff, Nat.reduceLT, m0, m2, m3, e28, Int32.add_zero, nI_add, ak_AI (show 28 < 392 by decide) (show 392 < 2 ^ 31 by decide), h28, nI_leI (show P.2.2.2.1 < 2 ^ 31 by omega) (show p < 2 ^ 31 by omega), if_neg (show ¬ P.2.2.2.1 ≤ p by omega), ak_AI (show b + p < 392 by omega) (show 392 < 2 ^ 31 by decide), a1, sI_1, if_pos hr, e1, l3, nI_1]
      exact e'
    · have hX := outX_s P σ.1 σ.2.2.1 σ.2.2.2 p
      rw [if_neg (show ¬ outN P σ.1 σ.2.2.1 σ.2.2.2 p = true by unfold outN; simp [hr])] at hX
      have hY := outY_s σ.2.2.1 σ.2.2.2 p
      rw [if_neg hr] at hY
      obtain ⟨f', e', R', S'⟩ := ih (p + 1) h f (by omega) hM hP (by rw [hX, hY]; exact hR)
      refine ⟨f', ?_, R', S'⟩
      obtain ⟨m0, m1, m2, m3, m4⟩ := hM
      rw [e_160_23]
      simp only [e_160_25, e_160_26, e_160_29, e_160_31, e_160_32, e_160_35, e_160_36, e_160_39, e_160_40, e_160_41, e_160_42, e_160_44, e_160_45, e_160_46, e_160_47, e_160_50, e_160_51, e_160_52, e_160_54, e_160_57, e_160_60, lg_n, lg_i, lg_r, wd_nil, am_wd_i, am_wd_r, am_wd_l, am_gk_s, am_fld_s, List.getElem?_cons_zero, List.getElem?_cons_succ, am_bk_v, am_bk_n, bo_0, bo_1, am_pk_s, List.length_cons, List.length_nil, Nat.zero_add, List.set_cons_zero, List.set_cons_succ, Nat.reduceAdd, Nat.reduceLeDiff, Nat.reduceLT, m0, m3, e28, Int32.add_zero, nI_add, ak_AI (show 28 < 392 by decide) (show 392 < 2 ^ 31 by decide), h28, nI_leI (show P.2.2.2.1 < 2 ^ 31 by omega) (show p < 2 ^ 31 by omega), if_neg (show ¬ P.2.2.2.1 ≤ p by omega), ak_AI (show b + p < 392 by omega) (show 392 < 2 ^ 31 by decide), a1, sI_1, if_neg hr, l3, nI_1]
      exact e'
theorem l_stepsLook (oP : OKP P) {m0 : Nat} (oR : OKR P σ m0) (hm0 : m0 < 2 ^ 28) (hb : b = 0 ∨ (53 ≤ b ∧ b ≤ 366)) (hf : P.1 ≤ 15) (hS : σ.2.1 < 2 ^ 31) (hL : ∀ i, i < P.2.2.2.1 → L i < P.2.2.2.1) {x2 x3 : Option Value} (l3 : am_lg x3 = false) : ∀ j q (h : am_H) (f : Nat → Int32), q + j = P.2.2.2.1 → MB h f L → RowP f 0 P → RowH f b (lookN P L q σ) → ∃ f', am_ev (d + 4) 160 66 [some (.ref 87), some (.int (nI b)), x2, x3, some (.int (nI q))] [] h = am_ev (d + 4) 160 115 [some (.ref 87), some (.int (nI b)), x2, x3, some (.int (nI P.2.2.2.1))] [] (am_set h 88 (AI 392 f')) ∧ RowH f' b (lookN P L P.2.2.2.1 σ) ∧ RS f f' b := by
  have hn := oP.2.2.2.1
  have e28 : (28 : Int32) = nI 28 := by decide +kernel
  intro j
  induction j with
  | zero =>
    intro q h f hq hM hP hR
    obtain ⟨m0, m1, m2, m3, m4⟩ := hM
    have h28 := hP.2.2.1
    rw [Nat.zero_add] at h28
    have : q = P.2.2.2.1 := by omega
    subst this
    refine ⟨f, ?_, hR, RS.rf⟩
    rw [e_160_66, set_self m3]
    simp only [e_160_68, e_160_69, e_160_72, e_160_74, e_160_75, lg_n, lg_i, lg_r, wd_nil, am_wd_i, am_wd_r, am_wd_l, am_gk_s, am_fld_s, List.getElem?_cons_zero, List.getElem?_cons_succ, am_bk_v, am_bk_n, bo_0, bo_1, am_pk_s, List.length_cons, List.length_nil, Nat.zero_add, List.set_cons_zero, List.set_cons_succ, Nat.reduceAdd, Nat.reduceLeDiff, Nat.reduceLT, m0, m3, e28, ak_AI (show 28 < 392 by decide) (show 392 < 2 ^ 31 by decide), h28, nI_leI (show P.2.2.2.1 < 2 ^ 31 by omega) (show P.2.2.2.1 < 2 ^ 31 by omega), Nat.le_refl, if_true]
  | succ j ih =>
    intro q h f hq hM hP hR
    have h28 := hP.2.2.1
    rw [Nat.zero_add] at h28
    have hLq := hL q (by omega)
    obtain ⟨a1, a2, a3⟩ := hR.1 (L q) (by omega)
    have oRq := oR.look (l := L) oP.1 q
    have hSq : (lookN P L q σ).2.1 < 2 ^ 31 := by rw [(lookN_1 P L q σ).2]; exact hS
    have hN : lookN P L (q + 1) σ = lookN1 P (lookN P L q σ) (L q) := rfl
    by_cases hr : (lookN P L q σ).2.2.1 (L q) = 0
    · obtain ⟨f1, e1, R1, S1⟩ := m_looksM (d := d) hM hP hR (by omega) oP (oRq.ok hm0 oP.2.1) hSq hf hLq hr
      obtain ⟨f', e', R', S'⟩ := ih (q + 1) _ f1 (by omega) (hM.set f1) (hP.rs hn (by omega) S1) R1
      rw [set_set] at e'
      refine ⟨f', ?_, R', S1.tr S'⟩
      obtain ⟨m0, m1, m2, m3, m4⟩ := hM
      rw [e_160_66]
      simp only [e_160_68, e_160_69, e_160_72, e_160_74, e_160_75, e_160_78, e_160_79, e_160_82, e_160_83, e_160_84, e_160_85, e_160_86, e_160_89, e_160_91, e_160_92, e_160_93, e_160_94, e_160_97, e_160_98, e_160_99, e_160_100, e_160_103, e_160_105, e_160_106, e_160_109, e_160_112, lg_n, lg_i, lg_r, wd_nil, am_wd_i, am_wd_r, am_wd_l, am_gk_s, am_fld_s, List.getElem?_cons_zero, List.getElem?_cons_succ, am_bk_v, am_bk_n, bo_0, bo_1, am_pk_s, List.length_cons, List.length_nil, Nat.zero_add, List.set_cons_zero, List.set_cons_succ, Nat.reduceAdd, Nat.reduceLeDiff, Nat.reduceLT, m0, m1, m2, m3, m4, e28, Int32.add_zero, nI_add, ak_AI (show 28 < 392 by decide) (show 392 < 2 ^ 31 by decide), h28, nI_leI (show P.2.2.2.1 < 2 ^ 31 by omega) (show q < 2 ^ 31 by omega), if_neg (show ¬ P.2.2.2.1 ≤ q by omega), ak_AI (show q < 8 by omega) (show 8 < 2 ^ 31 by decide), ak_AI (show b + L q < 392 by omega) (show 392 < 2 ^ 31 by decide), a1, sI_0, if_pos hr, e1, l3, nI_1]
      exact e'
    · rw [lookN1_id (fun z => hr z.2)] at hN
      obtain ⟨f', e', R', S'⟩ := ih (q + 1) h f (by omega) hM hP (by rw [hN]; exact hR)
      refine ⟨f', ?_, R', S'⟩
      obtain ⟨m0, m1, m2, m3, m4⟩ := hM
      rw [e_160_66]
      simp only [e_160_68, e_160_69, e_160_72, e_160_74, e_160_75, e_160_78, e_160_79, e_160_82, e_160_83, e_160_84, e_160_85, e_160_86, e_160_89, e_160_91, e_160_92, e_160_93, e_160_94, e_160_97, e_160_98, e_160_99, e_160_100, e_160_103, e_160_105, e_160_106, e_160_109, e_160_112, lg_n, lg_i, lg_r, wd_nil, am_wd_i, am_wd_r, am_wd_l, am_gk_s, am_fld_s, List.getElem?_cons_zero, List.getElem?_cons_succ, am_bk_v, am_bk_n, bo_0, bo_1, am_pk_s, List.length_cons, List.length_nil, Nat.zero_add, List.set_cons_zero, List.set_cons_succ, Nat.reduceAdd, Nat.reduceLeDiff, Nat.reduceLT, m0, m1, m2, m3, m4, e28, Int32.add_zero, nI_add, ak_AI (show 28 < 392 by decide) (show 392 < 2 ^ 31 by decide), h28, nI_leI (show P.2.2.2.1 < 2 ^ 31 by omega) (show q < 2 ^ 31 by omega), if_neg (show ¬ P.2.2.2.1 ≤ q by omega), ak_AI (show q < 8 by omega) (show 8 < 2 ^ 31 by decide), ak_AI (show b + L q < 392 by omega) (show 392 < 2 ^ 31 by decide), a1, sI_0, if_neg hr, l3, nI_1]
      exact e'
theorem l_stepsM (oP : OKP P) {m0 : Nat} (oR : OKR P σ m0) {N : Nat} (hm0 : m0 + N + 1 < 2 ^ 28) (hb : b = 0 ∨ (53 ≤ b ∧ b ≤ 366)) (hf : P.1 ≤ 15) (hS : σ.2.1 < 2 ^ 31) (hL : ∀ i, i < P.2.2.2.1 → L i < P.2.2.2.1) : ∀ j i (h : am_H) (f : Nat → Int32) (z : Option Value), i + j = N → MB h f L → RowP f 0 P → RowH f b (stpN P L σ i) → ∃ f', am_ev (d + 4) 160 2 [some (.ref 87), some (.int (nI b)), some (.int (nI N)), some (.int (nI i)), z] [] h = some (none, am_set h 88 (AI 392 f')) ∧ RowH f' b (stpN P L σ N) ∧ RS f f' b := by
  have hn := oP.2.2.2.1
  intro j
  induction j with
  | zero =>
    intro i h f z hi hM hP hR
    obtain ⟨m0, m1, m2, m3, m4⟩ := hM
    have : i = N := by omega
    subst this
    refine ⟨f, ?_, hR, RS.rf⟩
    rw [e_160_2, set_self m3]
    simp only [e_160_3, e_160_4, e_160_121, lg_n, lg_i, lg_r, wd_nil, am_wd_i, am_wd_r, am_wd_l, am_gk_s, am_fld_s, List.getElem?_cons_zero, List.getElem?_cons_succ, am_bk_v, am_bk_n, bo_0, bo_1, am_pk_s, List.length_cons, List.length_nil, Nat.zero_add, List.set_cons_zero, List.set_cons_succ, Nat.reduceAdd, Nat.reduceLeDiff, Nat.reduceLT, nI_leI (show i < 2 ^ 31 by omega) (show i < 2 ^ 31 by omega), Nat.le_refl, if_true]
  | succ j ih =>
    intro i h f z hi hM hP hR
    have oRi := oR.stp (L := L) oP.1 i
    have hsS : ∀ i, (stpN P L σ i).2.1 = σ.2.1 := fun i => by
      induction i with
      | zero => rfl
      | succ i ihh => show (advN P L P.2.2.2.1 (stpN P L σ i)).2.1 = _; rw [(advN_1 P L P.2.2.2.1 (stpN P L σ i)).2, ihh]
    have hSi := hsS i
    have hst : stpN P L σ (i + 1) = lookN P L P.2.2.2.1 (letOutN P ((stpN P L σ i).1 + 1, (stpN P L σ i).2)) := rfl
    generalize stpN P L σ i = τ at *
    have e25 : (25 : Int32) = nI 25 := by decide +kernel
    have h25 := hR.2.2
    obtain ⟨f1, hf1⟩ : ∃ f1, f1 = upd f (b + 25) (nI (τ.1 + 1)) := ⟨_, rfl⟩
    have R1 : RowH f1 b (τ.1 + 1, τ.2) := by
      refine ⟨fun q hq => ?_, by rw [hf1, pk_un (by omega)]; exact hR.2.1, by rw [hf1, pk_us]⟩
      obtain ⟨z1, z2, z3⟩ := hR.1 q hq
      exact ⟨by rw [hf1, pk_un (by omega)]; exact z1, by rw [hf1, pk_un (by omega)]; exact z2, by rw [hf1, pk_un (by omega)]; exact z3⟩
    have S1 : RS f f1 b := fun k hk => by rw [hf1, pk_un (by omega)]
    have oR1 : OKR P (τ.1 + 1, τ.2) (m0 + i + 1) := ⟨by have := oRi.1; simp only; omega, fun q hq => by have := oRi.2 q hq; simp only; omega⟩
    obtain ⟨f2, e2, R2, S2⟩ := l_stepsOut (d := d) (x2 := some (.int (nI N))) (x3 := some (.int (nI i))) (L := L) oP (oR1.ok (by omega) oP.2.1) hb (lg_i _) P.2.2.2.1 0 (am_set h 88 (AI 392 f1)) f1 (by omega) (hM.set f1) (hP.rs hn (by omega) S1) (by
      have hx0 : outX P (τ.1 + 1) τ.2.2.1 τ.2.2.2 0 = τ.2.2.1 := by funext q; unfold outX; rw [if_neg (by omega)]
      have hy0 : outY τ.2.2.1 τ.2.2.2 0 = τ.2.2.2 := by funext q; unfold outY; rw [if_neg (by omega)]
      simp only [hx0, hy0]
      exact R1)
    rw [set_set] at e2
    have oR2 : OKR P (letOutN P (τ.1 + 1, τ.2)) (m0 + i + 1) := (OKR.adv (l := fun i => i) oRi oP.1 0 :)
    have S12 := S1.tr S2
    obtain ⟨f3, e3, R3, S3⟩ := l_stepsLook (d := d) (x2 := some (.int (nI N))) (x3 := some (.int (nI i))) oP oR2 (by omega) hb hf (show τ.2.1 < 2 ^ 31 by rw [hSi]; exact hS) hL (lg_i _) P.2.2.2.1 0 (am_set h 88 (AI 392 f2)) f2 (by omega) (hM.set f2) (hP.rs hn (by omega) S12) R2
    rw [set_set] at e3
    have S13 := S12.tr S3
    obtain ⟨f', e', R', S'⟩ := ih (i + 1) _ f3 (some (.int (nI P.2.2.2.1))) (by omega) (hM.set f3) (hP.rs hn (by omega) S13) (by rw [hst]; exact R3)
    rw [set_set] at e'
    refine ⟨f', ?_, R', S13.tr S'⟩
    obtain ⟨m0', m1, m2, m3, m4⟩ := hM
    rw [e_160_2]
    simp only [e_160_3, e_160_4, e_160_7, e_160_8, e_160_11, e_160_12, e_160_14, e_160_15, e_160_16, e_160_17, e_160_18, e_160_19, e_160_20, e_160_21, lg_n, lg_i, lg_r, wd_nil, am_wd_i, am_wd_r, am_wd_l, am_gk_s, am_fld_s, List.getElem?_cons_zero, List.getElem?_cons_succ, am_bk_v, am_bk_n, bo_0, bo_1, am_pk_s, List.length_cons, List.length_nil, Nat.zero_add, List.set_cons_zero, List.set_cons_succ, Nat.reduceAdd, Nat.reduceLeDiff, Nat.reduceLT, nI_leI (show N < 2 ^ 31 by omega) (show i < 2 ^ 31 by omega), if_neg (show ¬ N ≤ i by omega), m0', m3, e25, nI_add, ak_AI (show b + 25 < 392 by omega) (show 392 < 2 ^ 31 by decide), h25, nI_1, sk_AI (show b + 25 < 392 by omega) (show 392 < 2 ^ 31 by decide), st_AI (show b + 25 < 392 by omega) (show 392 < 2 ^ 31 by decide)]
    rw [← hf1]
    refine Eq.trans e2 ?_
    simp only [e_160_63, e_160_64, lg_n, lg_i, lg_r, wd_nil, am_wd_i, am_wd_r, am_wd_l, am_gk_s, am_fld_s, List.getElem?_cons_zero, List.getElem?_cons_succ, am_bk_v, am_bk_n, bo_0, bo_1, am_pk_s, List.length_cons, List.length_nil, Nat.zero_add, List.set_cons_zero, List.set_cons_succ, Nat.reduceAdd, Nat.reduceLeDiff, Nat.reduceLT]
    refine Eq.trans e3 ?_
    simp only [e_160_115, e_160_118, lg_n, lg_i, lg_r, wd_nil, am_wd_i, am_wd_r, am_wd_l, am_gk_s, am_fld_s, List.getElem?_cons_zero, List.getElem?_cons_succ, am_bk_v, am_bk_n, bo_0, bo_1, am_pk_s, List.length_cons, List.length_nil, Nat.zero_add, List.set_cons_zero, List.set_cons_succ, Nat.reduceAdd, Nat.reduceLeDiff, Nat.reduceLT, nI_1]
    exact e'
theorem m_stepsM (hM : MB h f L) (hP : RowP f 0 P) (hR : RowH f b σ) (oP : OKP P) {m0 : Nat} (oR : OKR P σ m0) {N : Nat} (hm0 : m0 + N + 1 < 2 ^ 28) (hb : b = 0 ∨ (53 ≤ b ∧ b ≤ 366)) (hf : P.1 ≤ 15) (hS : σ.2.1 < 2 ^ 31) (hL : ∀ i, i < P.2.2.2.1 → L i < P.2.2.2.1) : ∃ f', am_cal (d + 5) 160 [.ref 87, .int (nI b), .int (nI N)] h = some (none, am_set h 88 (AI 392 f')) ∧ RowH f' b (stpN P L σ N) ∧ RS f f' b := by
  obtain ⟨f', e', R', S'⟩ := l_stepsM (d := d) oP oR hm0 hb hf hS hL N 0 h f none (by omega) hM hP hR
  refine ⟨f', ?_, R', S'⟩
  refine (b_160 _ _ _).trans ?_; show am_ev _ 160 0 [some (.ref 87), some (.int (nI b)), some (.int (nI N)), none, none] [] _ = _
  simp only [e_160_0, e_160_1, lg_n, lg_i, lg_r, wd_nil, am_wd_i, am_wd_r, am_wd_l, am_gk_s, am_fld_s, List.getElem?_cons_zero, List.getElem?_cons_succ, am_bk_v, am_bk_n, bo_0, bo_1, am_pk_s, List.length_cons, List.length_nil, Nat.zero_add, List.set_cons_zero, List.set_cons_succ, Nat.reduceAdd, Nat.reduceLeDiff, Nat.reduceLT]
  exact e'
end MO
