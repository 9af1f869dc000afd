/-! looking ahead: both alike -/
theorem choiceN_0 {P : Pn} {σ : Hn} {p : Nat} (h : choiceN P σ p ≠ 0) : σ.2.2.1 p = 0 := by
  unfold choiceN at h
  by_cases hw : p < P.2.2.2.1 ∧ σ.2.2.1 p = 0
  · exact hw.2
  · rw [if_neg hw] at h; exact absurd rfl h
theorem look1_there {P : Pn} {σ : Hn} {p q : Nat} (h : σ.2.2.1 p = 1) : (lookN1 P σ q).2.2.1 p = 1 := by
  unfold lookN1
  by_cases hc : choiceN P σ q = 0
  · rw [if_pos hc]; exact h
  · rw [if_neg hc]
    have := choiceN_0 hc
    unfold putN updn
    simp only
    rw [if_neg (fun e => by rw [e] at h; omega)]
    exact h
theorem look_there {P : Pn} {l : Nat → Nat} {p : Nat} : ∀ n (σ : Hn), σ.2.2.1 p = 1 → (lookN P l n σ).2.2.1 p = 1
  | 0, _, h => h
  | n + 1, σ, h => look1_there (look_there n σ h)
theorem adv_there {P : Pn} {l : Nat → Nat} {n p : Nat} {σ : Hn} (h : σ.2.2.1 p = 1) : (advN P l n σ).2.2.1 p = 1 := by
  refine look_there n _ ?_
  unfold letOutN outX
  simp only
  split
  · rfl
  · exact h
theorem stp_there {P : Pn} {L : Nat → Nat} {σ : Hn} {p t : Nat} (h : (stpN P L σ t).2.2.1 p = 1) : ∀ k, (stpN P L σ (t + k)).2.2.1 p = 1
  | 0 => h
  | k + 1 => adv_there (stp_there h k)
theorem srchN_spec (g : Nat → Bool) : ∀ j t0, t0 + j = 61 → (srchN g j t0 = 61 ∧ ∀ t, t0 ≤ t → t < 61 → g t = false) ∨ (t0 ≤ srchN g j t0 ∧ srchN g j t0 < 61 ∧ g (srchN g j t0) = true ∧ ∀ t, t0 ≤ t → t < srchN g j t0 → g t = false)
  | 0, t0, h => Or.inl ⟨rfl, fun t h1 h2 => by omega⟩
  | j + 1, t0, h => by
    unfold srchN
    by_cases hg : g t0 = true
    · rw [if_pos hg]
      exact Or.inr ⟨Nat.le_refl _, by omega, hg, fun t h1 h2 => by omega⟩
    · rw [if_neg hg]
      rcases srchN_spec g j (t0 + 1) (by omega) with ⟨a1, a2⟩ | ⟨a1, a2, a3, a4⟩
      · refine Or.inl ⟨a1, fun t h1 h2 => ?_⟩
        by_cases e : t = t0
        · subst e; simpa using hg
        · exact a2 t (by omega) h2
      · refine Or.inr ⟨by omega, a2, a3, fun t h1 h2 => ?_⟩
        by_cases e : t = t0
        · subst e; simpa using hg
        · exact a4 t (by omega) h2
theorem srchN_eq {g g' : Nat → Bool} : ∀ j t0, (∀ t, t0 ≤ t → t < t0 + j → g t = g' t) → srchN g j t0 = srchN g' j t0
  | 0, _, _ => rfl
  | j + 1, t0, h => by
    unfold srchN
    rw [h t0 (Nat.le_refl _) (by omega), srchN_eq j (t0 + 1) (fun t h1 h2 => h t (by omega) (by omega))]
theorem srchN_thr {M : Nat} (hM : M ≤ 61) : srchN (fun t => decide (M ≤ t)) 61 0 = M := by
  rcases srchN_spec (fun t => decide (M ≤ t)) 61 0 (by omega) with ⟨a1, a2⟩ | ⟨a1, a2, a3, a4⟩
  · rw [a1]
    by_cases h : M = 61
    · exact h.symm
    · have := a2 M (by omega) (by omega)
      simp at this
  · simp only [decide_eq_true_eq] at a3
    by_cases h : srchN (fun t => decide (M ≤ t)) 61 0 = M
    · exact h
    · have := a4 M (by omega) (by omega)
      simp at this
theorem cntN_all {g : Nat → Bool} : ∀ n, cntN g n = n ↔ ∀ k, k < n → g k = true
  | 0 => ⟨fun _ k hk => absurd hk (Nat.not_lt_zero k), fun _ => rfl⟩
  | n + 1 => by
    have ih := cntN_all (g := g) n
    have hl := cntN_le g n
    unfold cntN
    constructor
    · intro h k hk
      by_cases hg : g n = true
      · rw [if_pos hg] at h
        by_cases e : k = n
        · rw [e]; exact hg
        · exact ih.1 (by omega) k (by omega)
      · rw [if_neg hg] at h; omega
    · intro h
      rw [if_pos (h n (by omega)), ih.2 (fun k hk => h k (by omega))]
theorem maxN_iff {g : Nat → Nat} {t : Nat} : ∀ n, maxN g n ≤ t ↔ ∀ k, k < n → g k ≤ t
  | 0 => ⟨fun _ k hk => absurd hk (Nat.not_lt_zero k), fun _ => Nat.zero_le _⟩
  | n + 1 => by
    have ih := maxN_iff (g := g) (t := t) n
    unfold maxN
    rw [Nat.max_le, ih]
    constructor
    · rintro ⟨h1, h2⟩ k hk
      by_cases e : k = n
      · rw [e]; exact h2
      · exact h1 k (by omega)
    · intro h
      exact ⟨fun k hk => h k (by omega), h n (by omega)⟩
theorem there_iff {P : Pn} {L : Nat → Nat} {σ : Hn} {p t : Nat} (ht : t < 61) : srchN (fun t => (stpN P L σ t).2.2.1 p == 1) 61 0 ≤ t ↔ (stpN P L σ t).2.2.1 p = 1 := by
  rcases srchN_spec (fun t => (stpN P L σ t).2.2.1 p == 1) 61 0 (by omega) with ⟨a1, a2⟩ | ⟨a1, a2, a3, a4⟩
  · rw [a1]
    have := a2 t (by omega) ht
    rw [beq_eq_false_iff_ne] at this
    exact ⟨fun z => by omega, fun z => absurd z this⟩
  · generalize srchN (fun t => (stpN P L σ t).2.2.1 p == 1) 61 0 = r at *
    rw [beq_iff_eq] at a3
    constructor
    · intro h
      have := stp_there a3 (t - r)
      rwa [show r + (t - r) = t by omega] at this
    · intro h
      by_cases hr : r ≤ t
      · exact hr
      · have := a4 t (by omega) (by omega)
        rw [beq_eq_false_iff_ne] at this
        exact absurd h this
theorem last_max {P : Pn} {L : Nat → Nat} {σ : Hn} : srchN (fun t => missN P (stpN P L σ t) == 0) 61 0 = maxN (fun p => srchN (fun t => (stpN P L σ t).2.2.1 p == 1) 61 0) P.2.2.2.1 := by
  have hle : maxN (fun p => srchN (fun t => (stpN P L σ t).2.2.1 p == 1) 61 0) P.2.2.2.1 ≤ 61 := maxN_le (fun k _ => srchN_le _ 61 0 (by omega))
  rw [← srchN_thr hle]
  refine srchN_eq 61 0 (fun t h1 h2 => ?_)
  rw [Bool.eq_iff_iff, beq_iff_eq, decide_eq_true_eq, maxN_iff]
  have hm : missN P (stpN P L σ t) = 0 ↔ cntN (fun p => (stpN P L σ t).2.2.1 p == 1) P.2.2.2.1 = P.2.2.2.1 := by
    have := cntN_le (fun p => (stpN P L σ t).2.2.1 p == 1) P.2.2.2.1
    unfold missN
    omega
  rw [hm, cntN_all]
  constructor
  · intro h k hk
    have := h k hk
    rw [beq_iff_eq] at this
    exact (there_iff (by omega)).2 this
  · intro h k hk
    rw [beq_iff_eq]
    exact (there_iff (by omega)).1 (h k hk)
theorem wrstN_0 (P : Pn) (σ : Hn) : ∀ c, ((wrstN P σ c).1 = 0 ↔ (wrstN P σ c).2 = 0) ∧ ((wrstN P σ c).1 ≠ 0 → (wrstN P σ c).2 = lastN P σ (σ.2.1 ||| 2 ^ ((wrstN P σ c).1 - 1)) + 1)
  | 0 => ⟨⟨fun _ => rfl, fun _ => rfl⟩, fun h => absurd rfl h⟩
  | c + 1 => by
    have ih := wrstN_0 P σ c
    unfold wrstN
    split
    · exact ih
    · split
      · refine ⟨⟨fun h => ?_, fun h => ?_⟩, fun _ => ?_⟩
        · simp only at h; omega
        · simp only at h; omega
        · simp only [Nat.add_sub_cancel]
      · exact ih
section MI
variable {d : Nat} {h : am_H} {P : Pn} {σ : Hn} {u : Nat} {pa : Nat → Hn} {kp : Nat → Bool} {ke : Nat → Hn} {t : Nat → Nat} {n sn : Nat} {sF sT sK : Nat → Nat} {nz : Nat → Nat} {nt : Nat → Nat → Nat}
theorem MI.f28 (hM : MI h P σ u pa kp ke t n sn sF sT sK nz nt) : am_fld (am_at h 87) 8 28 = some (.ref 107) := by
  obtain ⟨fi, be, rF, rP, cl, dg, h1⟩ := hM.1
  exact (md_fl2 h1).2.2.2.2.2.2.2.2.1
/-- only what is tried, and when, was written -/
theorem MI.fw (hM : MI h P σ u pa kp ke t n sn sF sT sK nz nt) {h' : am_H} {f f' : Nat → Int32} (hn : P.2.2.2.1 ≤ 8) (hu : u ≤ 8) (hR : MRow f P σ u pa kp ke) (hF : FW h h') (h88' : am_at h' 88 = some (AI 392 f')) (hS : RS f f' 366) {g : Nat → Int32} (h107 : am_at h' 107 = some (AI 8 g)) : MI h' P σ u pa kp ke t n sn sF sT sK nz nt := by
  obtain ⟨⟨fi, be, rF, rP, cl, dg, h1⟩, h2, h3, h4, h5, ⟨⟨g1, s1⟩, s2, s3, s4, g5, s5⟩⟩ := hM
  have K := hF.2.2
  exact ⟨⟨fi, be, rF, rP, cl, dg, by rw [K _ (by decide) (by decide)]; exact h1⟩, ⟨f', h88', hR.tried hn hu hS⟩, by rw [K _ (by decide) (by decide)]; exact h3, h4.keep (fun k _ _ => K k (by omega) (by omega)), h5.keep (fun k _ => K k (by omega) (by omega)), ⟨⟨g1, by rw [K _ (by decide) (by decide)]; exact s1⟩, fun w hw => by rw [K _ (by omega) (by omega)]; exact s2 w hw, by rw [K _ (by decide) (by decide)]; exact s3, ⟨g, h107⟩, g5, by rw [K _ (by decide) (by decide)]; exact s5⟩⟩
theorem m_layTried {f : Nat → Int32} {L : Nat → Nat} (hB : MB h f L) : am_cal (d + 2) 173 [.ref 87] h = some (none, am_set h 88 (AI 392 (cpI f 0 366 26))) := by
  have hcp := m_copyRow (d := d) hB (a := 0) (b := 366) (N := 26) (by omega) (by omega) (by omega)
  rw [nI_0] at hcp
  obtain ⟨m0, m1, m2, m3, m4⟩ := hB
  refine (b_173 _ _ _).trans ?_; show am_ev _ 173 0 [some (.ref 87)] [] _ = _
  simp only [e_173_0, e_173_1, e_173_2, e_173_5, e_173_7, e_173_10, lg_n, lg_i, lg_r, wd_nil, am_wd_i, am_wd_r, am_wd_l, am_gk_s, am_fld_s, List.getElem?_cons_zero, List.getElem?_cons_succ, am_bk_v, am_bk_n, bo_0, bo_1, am_pk_s, List.length_cons, List.length_nil, Nat.zero_add, List.set_cons_zero, List.set_cons_succ, Nat.reduceAdd, Nat.reduceLeDiff, Nat.reduceLT, m2, show (366 : Int32) = nI 366 by decide +kernel, show (26 : Int32) = nI 26 by decide +kernel, hcp]
/-- all is laid and looked at: when each is there -/
theorem m_tryAll (hM : MI h P σ u pa kp ke t n sn sF sT sK nz nt) (hD : OKD P) (hO : HOK P σ) (hu : u ≤ 8) {f : Nat → Int32} (h88 : am_at h 88 = some (AI 392 f)) (hR : MRow f P σ u pa kp ke) : ∃ (h1 h2 : am_H) (f2 : Nat → Int32) (g : Nat → Nat), am_cal (d + 6) 173 [.ref 87] h = some (none, h1) ∧ am_cal (d + 6) 175 [.ref 87] h1 = some (none, h2) ∧ MB h2 f2 (fun i => i) ∧ MI h2 P σ u pa kp ke t n sn sF sT sK nz nt ∧ am_at h2 107 = some (AI 8 (fun p => nI (g p))) ∧ (∀ p, p < P.2.2.2.1 → g p = srchN (fun t => (behN P σ t).2.2.1 p == 1) 61 0) ∧ FM h h2 ∧ am_fld (am_at h2 87) 8 28 = some (.ref 107) ∧ RowP f2 0 P ∧ am_is (am_at h1 87) 8 = true := by
  obtain ⟨oP, q1, q2, q3⟩ := hD
  have hn := oP.2.2.2.1
  have hB := hM.mb h88
  have ht := m_layTried (d := d + 4) hB
  have R1 := hR.2.1.cp 366
  have S1 := cpI_RS f 0 366
  have hB1 := hB.set (cpI f 0 366 26)
  obtain ⟨g0, h107⟩ := hM.2.2.2.2.2.2.2.2.1
  have f28 := hM.f28
  have f281 : am_fld (am_at (am_set h 88 (AI 392 (cpI f 0 366 26))) 87) 8 28 = some (.ref 107) := by rw [at_set_ne (by decide)]; exact f28
  obtain ⟨h2, f2, g, e2, M2, S2, R2, q107, hg, F2⟩ := m_layWhen (d := d) hB1 (hR.1.rs hn (by omega) S1) R1 oP hO.1 (by have := hO.2.1; omega) (by omega) (by have := hO.2.2; omega) (fun i hi => hi) f281 (g := g0) (by rw [at_set_ne (by decide)]; exact h107)
  have F12 : FW h h2 := (FW.set (Or.inl rfl)).tr F2
  have S12 := S1.tr S2
  have MM := hM.fw hn hu hR F12 M2.2.2.2.1 S12 q107
  refine ⟨_, h2, f2, g, ht, e2, M2, MM, q107, fun p hp => ?_, F12.fm, MM.f28, hR.1.rs hn (by omega) S12, hB1.2.2.1⟩
  rw [hg p hp]
  exact srchN_eq 61 0 (fun t _ _ => by rw [stp_beh hn])
theorem son_eq {x : Nat} (hx : x ≤ 61) : (if nI x = 61 then (-1 : Int32) else nI x) = sonI x := by
  unfold sonI
  simp only [i61, nI_eq (show x < 2 ^ 31 by omega) (show 61 < 2 ^ 31 by decide)]
  by_cases h : x = 61
  · rw [if_pos h, if_neg (by omega)]
  · rw [if_neg h, if_pos (by omega)]
theorem n_behind (hM : MI h P σ u pa kp ke t n sn sF sT sK nz nt) (hD : OKD P) (hO : HOK P σ) (hu : u ≤ 8) (p m w : Int32) : ∃ h', am_cal (d + 8) 174 [.ref 87, .int p, .int m, .int w] h = some (some (.int (if 0 ≤ p.toInt ∧ p.toInt < P.2.2.2.1 then (if (0 ≤ m.toInt ∧ m.toInt ≤ 60) ∧ (3 ≤ w.toInt ∧ w.toInt ≤ 5) then (if w = 3 then sI ((behN P σ m.toInt.toNat).2.2.1 p.toInt.toNat) else if w = 4 then cI ((behN P σ m.toInt.toNat).2.2.1 p.toInt.toNat) else nI ((behN P σ m.toInt.toNat).2.2.2 p.toInt.toNat)) else -3) else -2)), h') ∧ MI h' P σ u pa kp ke t n sn sF sT sK nz nt ∧ FM h h' := by
  obtain ⟨oP, q1, q2, q3⟩ := hD
  have hn := oP.2.2.2.1
  obtain ⟨f, h88, hR⟩ := hM.2.1
  have hB := hM.mb h88
  have hip := m_isPerson (d := d + 5) hB hR.1 hn p
  have hin1 := m_in (d := d + 6) (h := h) m.toInt64 0 60
  have hin2 := m_in (d := d + 6) (h := h) w.toInt64 3 5
  rw [l_in32, show (0 : Int64).toInt = 0 from rfl, show (60 : Int64).toInt = 60 from rfl] at hin1
  rw [l_in32, show (3 : Int64).toInt = 3 from rfl, show (5 : Int64).toInt = 5 from rfl] at hin2
  obtain ⟨m0, m1, m2, m3, m4⟩ := id hB
  by_cases c1 : 0 ≤ p.toInt ∧ p.toInt < P.2.2.2.1
  · rw [if_pos c1] at hip ⊢
    by_cases c2 : 0 ≤ m.toInt ∧ m.toInt ≤ 60
    · rw [if_pos c2] at hin1
      by_cases c3 : 3 ≤ w.toInt ∧ w.toInt ≤ 5
      · rw [if_pos c3] at hin2
        rw [if_pos ⟨c2, c3⟩]
        obtain ⟨q, rfl, hq⟩ : ∃ q : Nat, p = nI q ∧ q < P.2.2.2.1 := ⟨p.toInt.toNat, i_of p c1.1, by omega⟩
        obtain ⟨N, rfl, hN⟩ : ∃ N : Nat, m = nI N ∧ N ≤ 60 := ⟨m.toInt.toNat, i_of m c2.1, by omega⟩
        rw [nI_toInt (show q < 2 ^ 31 by omega), nI_toInt (show N < 2 ^ 31 by omega), Int.toNat_natCast, Int.toNat_natCast]
        have ht := m_layTried (d := d + 5) hB
        have R1 := hR.2.1.cp 366
        have S1 := cpI_RS f 0 366
        have hB1 := hB.set (cpI f 0 366 26)
        obtain ⟨f2, e2, R2, S2⟩ := m_stepsM (d := d + 2) hB1 (hR.1.rs hn (by omega) S1) R1 oP hO.1 (N := N) (by have := hO.2.1; omega) (by omega) (by omega) (by have := hO.2.2; omega) (fun i hi => hi)
        rw [stp_beh hn] at R2
        rw [set_set] at e2
        obtain ⟨g0, h107⟩ := hM.2.2.2.2.2.2.2.2.1
        have S12 := S1.tr S2
        have MM := hM.fw hn hu hR (FW.set (a := 88) (c := AI 392 f2) (Or.inl rfl)) at_set_eq S12 (g := g0) (by rw [at_set_ne (by decide)]; exact h107)
        refine ⟨_, ?_, MM, FM.set (by decide) (by decide)⟩
        obtain ⟨w0, w1, w2, w3, w4⟩ := hB1
        obtain ⟨v0, v1, v2, v3, v4⟩ := hB.set f2
        obtain ⟨a1, a2, a3⟩ := R2.1 q (by omega)
        refine (b_174 _ _ _).trans ?_; show am_ev _ 174 0 [some (.ref 87), some (.int (nI q)), some (.int (nI N)), some (.int w)] [] _ = _
        simp only [e_174_0, e_174_1, e_174_2, e_174_5, e_174_8, e_174_10, e_174_11, e_174_12, e_174_13, e_174_14, e_174_17, e_174_20, e_174_23, e_174_24, e_174_25, e_174_28, e_174_31, e_174_34, e_174_37, e_174_39, e_174_40, e_174_41, e_174_44, e_174_45, e_174_48, e_174_49, e_174_52, e_174_53, e_174_56, e_174_59, e_174_60, e_174_61, e_174_64, e_174_65, e_174_68, e_174_69, e_174_70, e_174_73, e_174_75, e_174_78, e_174_80, e_174_81, e_174_82, e_174_83, e_174_84, lg_n, lg_i, lg_r, wd_nil, am_wd_i, am_wd_r, am_wd_l, am_gk_s, am_fld_s, List.getElem?_cons_zero, List.getElem?_cons_succ, am_bk_v, am_bk_n, bo_0, bo_1, am_pk_s, List.length_cons, List.length_nil, Nat.zero_add, List.set_cons_zero, List.set_cons_succ, Nat.reduceAdd, Nat.reduceLeDiff, Nat.reduceLT, m2, hip, hin1, hin2, one_ne, not_false_eq_true, if_true, if_false, ht, w2, show (366 : Int32) = nI 366 by decide +kernel, e2, v0, at_set_eq, show (8 : Int32) = nI 8 by decide +kernel, show (16 : Int32) = nI 16 by decide +kernel, Int32.add_zero, nI_add, ak_AI (show 366 + q < 392 by omega) (show 392 < 2 ^ 31 by decide), ak_AI (show 366 + 8 + q < 392 by omega) (show 392 < 2 ^ 31 by decide), ak_AI (show 366 + 16 + q < 392 by omega) (show 392 < 2 ^ 31 by decide), a1, a2, a3]
        by_cases w3 : w = 3
        · simp [w3]
        · by_cases w4 : w = 4
          · simp [w4]
          · simp [w3, w4]
      · rw [if_neg c3] at hin2
        rw [if_neg (fun z => c3 z.2)]
        refine ⟨h, ?_, hM, FM.rf⟩
        refine (b_174 _ _ _).trans ?_; show am_ev _ 174 0 [some (.ref 87), some (.int p), some (.int m), some (.int w)] [] _ = _
        simp only [e_174_0, e_174_1, e_174_2, e_174_5, e_174_8, e_174_10, e_174_11, e_174_12, e_174_13, e_174_14, e_174_17, e_174_20, e_174_23, e_174_24, e_174_25, e_174_28, e_174_31, e_174_34, e_174_37, e_174_39, lg_n, lg_i, lg_r, wd_nil, am_wd_i, am_wd_r, am_wd_l, am_gk_s, am_fld_s, List.getElem?_cons_zero, List.getElem?_cons_succ, am_bk_v, am_bk_n, bo_0, bo_1, am_pk_s, List.length_cons, List.length_nil, Nat.zero_add, List.set_cons_zero, List.set_cons_succ, Nat.reduceAdd, Nat.reduceLeDiff, Nat.reduceLT, m2, hip, hin1, hin2, one_ne, not_false_eq_true, not_true_eq_false, if_true, if_false]
    · rw [if_neg c2] at hin1
      rw [if_neg (fun z => c2 z.1)]
      refine ⟨h, ?_, hM, FM.rf⟩
      refine (b_174 _ _ _).trans ?_; show am_ev _ 174 0 [some (.ref 87), some (.int p), some (.int m), some (.int w)] [] _ = _
      simp only [e_174_0, e_174_1, e_174_2, e_174_5, e_174_8, e_174_10, e_174_11, e_174_12, e_174_13, e_174_14, e_174_17, e_174_20, e_174_23, e_174_24, e_174_25, e_174_28, e_174_31, e_174_34, e_174_37, e_174_39, lg_n, lg_i, lg_r, wd_nil, am_wd_i, am_wd_r, am_wd_l, am_gk_s, am_fld_s, List.getElem?_cons_zero, List.getElem?_cons_succ, am_bk_v, am_bk_n, bo_0, bo_1, am_pk_s, List.length_cons, List.length_nil, Nat.zero_add, List.set_cons_zero, List.set_cons_succ, Nat.reduceAdd, Nat.reduceLeDiff, Nat.reduceLT, m2, hip, hin1, one_ne, not_false_eq_true, not_true_eq_false, if_true, if_false]
  · rw [if_neg c1] at hip ⊢
    refine ⟨h, ?_, hM, FM.rf⟩
    refine (b_174 _ _ _).trans ?_; show am_ev _ 174 0 [some (.ref 87), some (.int p), some (.int m), some (.int w)] [] _ = _
    simp only [e_174_0, e_174_1, e_174_2, e_174_5, e_174_8, e_174_10, lg_n, lg_i, lg_r, wd_nil, am_wd_i, am_wd_r, am_wd_l, am_gk_s, am_fld_s, List.getElem?_cons_zero, List.getElem?_cons_succ, am_bk_v, am_bk_n, bo_0, bo_1, am_pk_s, List.length_cons, List.length_nil, Nat.zero_add, List.set_cons_zero, List.set_cons_succ, Nat.reduceAdd, Nat.reduceLeDiff, Nat.reduceLT, m2, hip, not_true_eq_false, if_true, if_false]
theorem n_arrives (hM : MI h P σ u pa kp ke t n sn sF sT sK nz nt) (hD : OKD P) (hO : HOK P σ) (hu : u ≤ 8) (p : Int32) : ∃ h', am_cal (d + 8) 177 [.ref 87, .int p] h = some (some (.int (if 0 ≤ p.toInt ∧ p.toInt < P.2.2.2.1 then sonI (srchN (fun t => (behN P σ t).2.2.1 p.toInt.toNat == 1) 61 0) else -2)), h') ∧ MI h' P σ u pa kp ke t n sn sF sT sK nz nt ∧ FM h h' := by
  have hn := hD.1.2.2.2.1
  obtain ⟨f, h88, hR⟩ := hM.2.1
  have hB := hM.mb h88
  have hip := m_isPerson (d := d + 5) hB hR.1 hn p
  obtain ⟨m0, m1, m2, m3, m4⟩ := id hB
  by_cases c1 : 0 ≤ p.toInt ∧ p.toInt < P.2.2.2.1
  · rw [if_pos c1] at hip ⊢
    obtain ⟨q, rfl, hq⟩ : ∃ q : Nat, p = nI q ∧ q < P.2.2.2.1 := ⟨p.toInt.toNat, i_of p c1.1, by omega⟩
    rw [nI_toInt (show q < 2 ^ 31 by omega), Int.toNat_natCast]
    obtain ⟨h1, h2, f2, g, e1, e2, B2, M2, q107, hg, F2, f28, P2, is1⟩ := m_tryAll (d := d + 1) hM hD hO hu h88 hR
    have hle := srchN_le (fun t => (behN P σ t).2.2.1 q == 1) 61 0 (by omega)
    have hso := son_eq hle
    rw [← hg q hq] at hso
    rw [← hg q hq, ← hso]
    refine ⟨h2, ?_, M2, F2⟩
    refine (b_177 _ _ _).trans ?_; show am_ev _ 177 0 [some (.ref 87), some (.int (nI q))] [] _ = _
    simp only [e_177_0, e_177_1, e_177_2, e_177_5, e_177_8, e_177_10, e_177_11, e_177_12, e_177_15, e_177_16, e_177_19, e_177_20, e_177_23, e_177_24, e_177_25, e_177_27, e_177_30, e_177_31, e_177_34, e_177_35, e_177_38, e_177_39, e_177_40, lg_n, lg_i, lg_r, wd_nil, am_wd_i, am_wd_r, am_wd_l, am_gk_s, am_fld_s, List.getElem?_cons_zero, List.getElem?_cons_succ, am_bk_v, am_bk_n, bo_0, bo_1, am_pk_s, List.length_cons, List.length_nil, Nat.zero_add, List.set_cons_zero, List.set_cons_succ, Nat.reduceAdd, Nat.reduceLeDiff, Nat.reduceLT, m2, hip, one_ne, not_false_eq_true, if_true, if_false, e1, is1, e2, f28, q107, ak_AI (show q < 8 by omega) (show 8 < 2 ^ 31 by decide)]
    by_cases h6 : nI (g q) = 61
    · simp [h6]
    · simp [h6]
  · rw [if_neg c1] at hip ⊢
    refine ⟨h, ?_, hM, FM.rf⟩
    refine (b_177 _ _ _).trans ?_; show am_ev _ 177 0 [some (.ref 87), some (.int p)] [] _ = _
    simp only [e_177_0, e_177_1, e_177_2, e_177_5, e_177_8, e_177_10, lg_n, lg_i, lg_r, wd_nil, am_wd_i, am_wd_r, am_wd_l, am_gk_s, am_fld_s, List.getElem?_cons_zero, List.getElem?_cons_succ, am_bk_v, am_bk_n, bo_0, bo_1, am_pk_s, List.length_cons, List.length_nil, Nat.zero_add, List.set_cons_zero, List.set_cons_succ, Nat.reduceAdd, Nat.reduceLeDiff, Nat.reduceLT, m2, hip, not_true_eq_false, if_true, if_false]
theorem n_all (hM : MI h P σ u pa kp ke t n sn sF sT sK nz nt) (hD : OKD P) (hO : HOK P σ) (hu : u ≤ 8) : ∃ h', am_cal (d + 8) 178 [.ref 87] h = some (some (.int (sonI (lastN P σ σ.2.1))), h') ∧ MI h' P σ u pa kp ke t n sn sF sT sK nz nt ∧ FM h h' := by
  have hn := hD.1.2.2.2.1
  obtain ⟨f, h88, hR⟩ := hM.2.1
  have hB := hM.mb h88
  obtain ⟨m0, m1, m2, m3, m4⟩ := id hB
  obtain ⟨h1, h2, f2, g, e1, e2, B2, M2, q107, hg, F2, f28, P2, is1⟩ := m_tryAll (d := d + 1) hM hD hO hu h88 hR
  have hl : lastN P σ σ.2.1 = maxN g P.2.2.2.1 := by
    have := last_max (P := P) (L := fun i => i) (σ := σ)
    rw [maxN_cong (g' := g) (fun k hk => by rw [hg k hk]; exact srchN_eq 61 0 (fun t _ _ => by rw [stp_beh hn]))] at this
    rw [← this]
    exact srchN_eq 61 0 (fun t _ _ => by rw [stp_beh hn])
  have hgl : ∀ p, p < P.2.2.2.1 → g p ≤ 61 := fun p hp => by rw [hg p hp]; exact srchN_le _ 61 0 (by omega)
  have hla := m_latest (d := d + 6) B2 P2 hn hgl f28 q107
  have hso := son_eq (maxN_le (n := P.2.2.2.1) hgl)
  rw [hl, ← hso]
  refine ⟨h2, ?_, M2, F2⟩
  obtain ⟨v0, v1, v2, v3, v4⟩ := B2
  refine (b_178 _ _ _).trans ?_; show am_ev _ 178 0 [some (.ref 87)] [] _ = _
  simp only [e_178_0, e_178_1, e_178_4, e_178_5, e_178_8, e_178_9, e_178_12, e_178_14, e_178_17, e_178_18, e_178_21, e_178_22, e_178_25, lg_n, lg_i, lg_r, wd_nil, am_wd_i, am_wd_r, am_wd_l, am_gk_s, am_fld_s, List.getElem?_cons_zero, List.getElem?_cons_succ, am_bk_v, am_bk_n, bo_0, bo_1, am_pk_s, List.length_cons, List.length_nil, Nat.zero_add, List.set_cons_zero, List.set_cons_succ, Nat.reduceAdd, Nat.reduceLeDiff, Nat.reduceLT, m2, e1, is1, e2, v2, hla]
  by_cases h6 : nI (maxN g P.2.2.2.1) = 61
  · simp [h6]
  · simp [h6]
end MI
