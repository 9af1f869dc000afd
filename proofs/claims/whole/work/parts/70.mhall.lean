/-! the model's hall -/
theorem bz0 {kp : Nat → Bool} {k : Nat → (Nat → Int32) → Option am_R} : am_sk (some (AZ 2 kp)) 1 0 k = k 2 (fun k => if k < 2 ∧ kp k = true then 1 else 0) := by
  have := sk_AZ (n := 2) (j := 0) (f := kp) (k := k) (by decide) (by decide)
  rw [nI_0] at this
  exact this
theorem bz1 {kp : Nat → Bool} {k : Nat → (Nat → Int32) → Option am_R} : am_sk (some (AZ 2 kp)) 1 1 k = k 2 (fun k => if k < 2 ∧ kp k = true then 1 else 0) := by
  have := sk_AZ (n := 2) (j := 1) (f := kp) (k := k) (by decide) (by decide)
  rw [show nI 1 = 1 by decide +kernel] at this
  exact this
theorem bs0 {kp : Nat → Bool} : (Sum.inl (1, 2, Sum.inl (upd (fun k => if k < 2 ∧ kp k = true then 1 else 0) (0 : Int32).toNatClampNeg 0)) : va_E) = AZ 2 (updb kp 0 false) := by
  have := st_AZ (n := 2) (j := 0) (f := kp) (x := 0) (y := false) (by decide) (by decide) (by decide)
  rw [nI_0] at this
  exact this
theorem bs1 {kp : Nat → Bool} : (Sum.inl (1, 2, Sum.inl (upd (fun k => if k < 2 ∧ kp k = true then 1 else 0) (1 : Int32).toNatClampNeg 0)) : va_E) = AZ 2 (updb kp 1 false) := by
  have := st_AZ (n := 2) (j := 1) (f := kp) (x := 0) (y := false) (by decide) (by decide) (by decide)
  rw [show nI 1 = 1 by decide +kernel] at this
  exact this
theorem AZ_cong {n : Nat} {f g : Nat → Bool} (hfg : ∀ k, k < n → f k = g k) : AZ n f = AZ n g := by
  unfold AZ
  congr 4
  funext k
  by_cases hk : k < n
  · rw [hfg k hk]
  · simp [hk]
section XM
variable {d : Nat} {h : am_H} {u n sn fi be rF rP cl : Nat} {dg : Int32} {f g : Nat → Int32} {t : Nat → Nat}
theorem xM_o {k : Nat} {c : va_E} (h1 : k ≠ 87) (h2 : k ≠ 88) (h3 : k ≠ 97) : am_set (xM h u n sn fi be rF rP cl dg f g) k c = xM (am_set h k c) u n sn fi be rF rP cl dg f g := by
  unfold xM
  refine am_ext rfl rfl (fun q => ?_)
  simp only [am_at_set]
  by_cases e1 : q = k
  · subst e1
    simp [h1, h2, h3]
  · simp [e1]
theorem l_sizes {G : Nat → Int32} : ∀ j i (h : am_H) (G : Nat → Int32), i + j = 3 → am_at h 94 = some (AI 3 G) → (∀ k, k < i → G k = -1) → am_ev d 147 57 [some (.ref 87), some (.int (nI i))] [] (xM h u n sn fi be rF rP cl dg f g) = some (some (.int (nI cl)), xM (am_set h 94 (AI 3 (fun _ => -1))) u n sn fi be rF rP cl dg f g) := by
  have e3 : (3 : Int32) = nI 3 := by decide +kernel
  intro j
  induction j with
  | zero =>
    intro i h G hi hG hz
    have : i = 3 := by omega
    subst this
    have hs : am_set h 94 (AI 3 (fun _ => -1)) = h := by
      rw [← AI_cong (f := G) (g := fun _ => -1) hz]
      exact set_self hG
    rw [e_147_57, hs]
    simp only [e_147_58, e_147_59, e_147_75, e_147_76, e_147_79, lg_n, lg_i, lg_r, wd_nil, am_wd_i, am_wd_r, am_wd_l, am_gk_s, am_fld_s, List.getElem?_cons_zero, List.getElem?_cons_succ, am_bk_v, am_bk_n, bo_0, bo_1, am_pk_s, List.length_cons, List.length_nil, Nat.zero_add, List.set_cons_zero, List.set_cons_succ, Nat.reduceAdd, Nat.reduceLeDiff, Nat.reduceLT, e3, nI_leI (show 3 < 2 ^ 31 by decide) (show 3 < 2 ^ 31 by decide), Nat.le_refl, if_true, at_xM]
  | succ j ih =>
    intro i h G hi hG hz
    have ih' := ih (i + 1) (am_set h 94 (AI 3 (upd G i (-1)))) _ (by omega) at_set_eq (fun k hk => by
      unfold upd
      split
      · rfl
      · exact hz k (by omega))
    rw [set_set] at ih'
    rw [e_147_57]
    simp only [e_147_58, e_147_59, e_147_62, e_147_63, e_147_66, e_147_67, e_147_68, e_147_69, e_147_72, lg_n, lg_i, lg_r, wd_nil, am_wd_i, am_wd_r, am_wd_l, am_gk_s, am_fld_s, List.getElem?_cons_zero, List.getElem?_cons_succ, am_bk_v, am_bk_n, bo_0, bo_1, am_pk_s, List.length_cons, List.length_nil, Nat.zero_add, List.set_cons_zero, List.set_cons_succ, Nat.reduceAdd, Nat.reduceLeDiff, Nat.reduceLT, e3, nI_leI (show 3 < 2 ^ 31 by decide) (show i < 2 ^ 31 by omega), if_neg (show ¬ 3 ≤ i by omega), at_xM, at_xMn (show 94 ≠ 87 by decide) (show 94 ≠ 88 by decide) (show 94 ≠ 97 by decide), hG, sk_AI (show i < 3 by omega) (show 3 < 2 ^ 31 by decide), st_AI (show i < 3 by omega) (show 3 < 2 ^ 31 by decide), xM_o (show 94 ≠ 87 by decide) (show 94 ≠ 88 by decide) (show 94 ≠ 97 by decide), nI_1]
    exact ih'
end XM
section MI
variable {d : Nat} {h : am_H} {P : Pn} {σ : Hn} {u : Nat} {pa : Nat → Hn} {kp : Nat → Bool} {ke : Nat → Hn} {t : Nat → Nat} {n sn : Nat} {sF sT sK : Nat → Nat} {nz : Nat → Nat} {nt : Nat → Nat → Nat}
theorem told_row {f : Nat → Int32} {D : Pn} (hF : Told f D) (hn : D.2.2.2.1 ≤ 8) : MRow (cpI f 53 0 53) D (0, D.2.2.1, (fun _ => 0), (fun _ => 0)) 0 pa (fun _ => false) ke := by
  have k1 : ∀ j, j < 53 → cpI f 53 0 53 (0 + j) = f (53 + j) := fun j hj => by unfold cpI; rw [if_pos (by omega)]; congr 1; omega
  have k2 : ∀ j, 53 ≤ j → cpI f 53 0 53 j = f j := fun j hj => by unfold cpI; rw [if_neg (by omega)]
  obtain ⟨⟨r1, r2, r3, r4⟩, r5, r6, r7⟩ := hF
  refine ⟨⟨by rw [k1 26 (by decide)]; exact r1, by rw [k1 27 (by decide)]; exact r2, by rw [k1 28 (by decide)]; exact r3, fun p hp => ?_⟩, ⟨fun p hp => ?_, by rw [k1 24 (by decide)]; exact r6, by rw [k1 25 (by decide)]; exact r7⟩, ⟨by rw [k2 _ (by decide)]; exact r1, by rw [k2 _ (by decide)]; exact r2, by rw [k2 _ (by decide)]; exact r3, fun p hp => ?_⟩, ⟨fun p hp => ?_, by rw [k2 _ (by decide)]; exact r6, by rw [k2 _ (by decide)]; exact r7⟩, fun i hi => absurd hi (Nat.not_lt_zero i), fun k _ z => absurd z (by simp)⟩
  · obtain ⟨s1, s2, s3⟩ := r4 p hp
    rw [Nat.add_assoc 0 29 p, Nat.add_assoc 0 37 p, Nat.add_assoc 0 45 p, k1 _ (by omega), k1 _ (by omega), k1 _ (by omega), ← Nat.add_assoc, ← Nat.add_assoc, ← Nat.add_assoc]
    exact ⟨s1, s2, s3⟩
  · obtain ⟨s1, s2, s3⟩ := r5 p hp
    rw [Nat.add_assoc 0 8 p, Nat.add_assoc 0 16 p, k1 _ (by omega), k1 _ (by omega), k1 _ (by omega), ← Nat.add_assoc, ← Nat.add_assoc]
    exact ⟨s1, s2, s3⟩
  · obtain ⟨s1, s2, s3⟩ := r4 p hp
    rw [k2 _ (by omega), k2 _ (by omega), k2 _ (by omega)]
    exact ⟨s1, s2, s3⟩
  · obtain ⟨s1, s2, s3⟩ := r5 p hp
    rw [k2 _ (by omega), k2 _ (by omega), k2 _ (by omega)]
    exact ⟨s1, s2, s3⟩
theorem n_hall (hM : MI h P σ u pa kp ke t n sn sF sT sK nz nt) (hD : OKD P) (ht : ∀ k, t k < 256) (hn : n ≤ 200) (hT8 : (txN t n P).2.2.2.2.2.1 ≤ 8) : ((txN t n P).1 ≠ 0 → ∃ h', am_cal (d + 8) 147 [.ref 87] h = some (some (.int (-4)), h') ∧ MI h' P σ u pa kp ke t n sn sF sT sK nz nt ∧ FM h h') ∧ ((txN t n P).1 = 0 → ∃ h', am_cal (d + 8) 147 [.ref 87] h = some (some (.int (nI (txN t n P).2.1)), h') ∧ MI h' (txN t n P).2.2 (0, (txN t n P).2.2.2.2.1, (fun _ => 0), (fun _ => 0)) 0 pa (fun _ => false) ke t 0 0 sF sT sK (fun _ => 0) nt ∧ FM h h') := by
  obtain ⟨fi, be, rF, rP, cl, dg, f, g, hx, h2, h3, h4, h5, h6⟩ := hM.tox
  have hFP : Told f P := ⟨h2.2.2.1, h2.2.2.2.1⟩
  obtain ⟨fi1, be1, rF1, rP1, cl1, f1, g1, e1, p1, p2, p3, p4⟩ := m_reads (d := d) (u := u) (sn := sn) (fi := fi) (be := be) (rF := rF) (rP := rP) (cl := cl) (dg := dg) (f := f) (g := g) h6.2.1 h4.1 hn ht hD hFP (dg' := 0) (Or.inl rfl)
  have hf : f1 = f := p4 rfl
  subst hf
  have his : am_is (am_at h 87) 8 = true := by rw [hx]; exact is_xM
  rw [← hx] at e1
  refine ⟨fun hT => ?_, fun hT => ?_⟩
  · rw [if_neg hT] at e1
    refine ⟨xM h u n sn fi1 be1 rF1 rP1 cl1 0 f1 g1, ?_, xM_MI h2 h3 h4 h5 h6, FM.tox⟩
    refine (b_147 _ _ _).trans ?_; show am_ev _ 147 0 [some (.ref 87), none] [] _ = _
    simp only [e_147_0, e_147_1, e_147_2, e_147_5, e_147_8, e_147_10, lg_n, lg_i, lg_r, wd_nil, am_wd_i, am_wd_r, am_wd_l, am_gk_s, am_fld_s, List.getElem?_cons_zero, List.getElem?_cons_succ, am_bk_v, am_bk_n, bo_0, bo_1, am_pk_s, List.length_cons, List.length_nil, Nat.zero_add, List.set_cons_zero, List.set_cons_succ, Nat.reduceAdd, Nat.reduceLeDiff, Nat.reduceLT, his, e1, not_true_eq_false, if_true, if_false]
  · rw [if_pos hT] at e1
    obtain ⟨fi2, be2, rF2, rP2, cl2, f2, g2, e2, q1, q2, q3, q4⟩ := m_reads (d := d) (u := u) (sn := sn) (fi := fi1) (be := be1) (rF := rF1) (rP := rP1) (cl := cl1) (dg := 0) (f := f1) (g := g1) h6.2.1 h4.1 hn ht hD hFP (dg' := 1) (Or.inr rfl)
    rw [if_pos hT] at e2
    obtain ⟨hcl, hTo⟩ := q2 hT
    have hTo := hTo rfl
    generalize txN t n P = T at *
    subst hcl
    have hsz := h5.1
    have s106 := h6.2.2.1
    have hMB : MB (xM h u 0 sn fi2 be2 rF2 rP2 T.2.1 1 f2 g2) f2 (fun i => i) := by
      refine ⟨by rw [at_xM]; rfl, by rw [at_xM]; rfl, is_xM, at_xM88, ?_⟩
      rw [at_xMn (by decide) (by decide) (by decide)]
      exact s106
    have hcp := m_copyRow (d := d + 6) hMB (a := 53) (b := 0) (N := 53) (by omega) (by omega) (by omega)
    rw [nI_0, xM_88] at hcp
    have e53 : (53 : Int32) = nI 53 := by decide +kernel
    have xn := fun (u n sn fi be rF rP cl : Nat) (dg : Int32) (f g : Nat → Int32) => xM_p (h := h) (u := u) (n := n) (sn := sn) (fi := fi) (be := be) (rF := rF) (rP := rP) (cl := cl) (dg := dg) (f := f) (g := g) (u' := u) (n' := 0) (sn' := sn) (fi' := fi) (be' := be) (rF' := rF) (rP' := rP) (cl' := cl) (dg' := dg)
    have xu := fun (u n sn fi be rF rP cl : Nat) (dg : Int32) (f g : Nat → Int32) => xM_p (h := h) (u := u) (n := n) (sn := sn) (fi := fi) (be := be) (rF := rF) (rP := rP) (cl := cl) (dg := dg) (f := f) (g := g) (u' := 0) (n' := n) (sn' := sn) (fi' := fi) (be' := be) (rF' := rF) (rP' := rP) (cl' := cl) (dg' := dg)
    have xs := fun (h : am_H) (u n sn fi be rF rP cl : Nat) (dg : Int32) (f g : Nat → Int32) => xM_p (h := h) (u := u) (n := n) (sn := sn) (fi := fi) (be := be) (rF := rF) (rP := rP) (cl := cl) (dg := dg) (f := f) (g := g) (u' := u) (n' := n) (sn' := 0) (fi' := fi) (be' := be) (rF' := rF) (rP' := rP) (cl' := cl) (dg' := dg)
    simp only [nI_0] at xn xu xs
    have hfal : AZ 2 (updb (updb kp 0 false) 1 false) = AZ 2 (fun _ => false) := AZ_cong (fun k hk => by
      unfold updb
      by_cases c1 : k = 1
      · rw [if_pos c1]
      · rw [if_neg c1, if_pos (by omega)])
    have hl := l_sizes (d := d + 7) (u := 0) (n := 0) (sn := 0) (fi := fi2) (be := be2) (rF := rF2) (rP := rP2) (cl := T.2.1) (dg := 1) (f := cpI f2 53 0 53) (g := g2) (G := fun _ => 0) 3 0 (am_set h 89 (AZ 2 (fun _ => false))) _ (by omega) (by rw [at_set_ne (by decide)]; exact hsz) (fun k hk => absurd hk (Nat.not_lt_zero k))
    rw [nI_0] at hl
    refine ⟨xM (am_set (am_set h 89 (AZ 2 (fun _ => false))) 94 (AI 3 (fun _ => -1))) 0 0 0 fi2 be2 rF2 rP2 T.2.1 1 (cpI f2 53 0 53) g2, ?_, ?_, ?_⟩
    · refine (b_147 _ _ _).trans ?_; show am_ev _ 147 0 [some (.ref 87), none] [] _ = _
      simp only [e_147_0, e_147_1, e_147_2, e_147_5, e_147_8, e_147_10, e_147_11, e_147_12, e_147_13, lg_n, lg_i, lg_r, wd_nil, am_wd_i, am_wd_r, am_wd_l, am_gk_s, am_fld_s, List.getElem?_cons_zero, List.getElem?_cons_succ, am_bk_v, am_bk_n, bo_0, bo_1, am_pk_s, List.length_cons, List.length_nil, Nat.zero_add, List.set_cons_zero, List.set_cons_succ, Nat.reduceAdd, Nat.reduceLeDiff, Nat.reduceLT, his, e1, one_ne, not_false_eq_true, if_true, is_xM, e2]
      simp only [e_147_16, e_147_17, e_147_18, e_147_19, e_147_22, e_147_23, e_147_25, e_147_26, e_147_28, e_147_31, e_147_32, e_147_33, e_147_36, e_147_37, e_147_40, e_147_41, e_147_42, e_147_43, e_147_44, e_147_47, e_147_48, e_147_49, e_147_50, e_147_51, e_147_52, e_147_55, e_147_56, lg_n, lg_i, lg_r, wd_nil, am_wd_i, am_wd_r, am_wd_l, am_gk_s, am_fld_s, List.getElem?_cons_zero, List.getElem?_cons_succ, am_bk_v, am_bk_n, bo_0, bo_1, am_pk_s, List.length_cons, List.length_nil, Nat.zero_add, List.set_cons_zero, List.set_cons_succ, Nat.reduceAdd, Nat.reduceLeDiff, Nat.reduceLT, if_false, at_xM, is_c, xn, e53, hcp, xu, at_xMn (show 89 ≠ 87 by decide) (show 89 ≠ 88 by decide) (show 89 ≠ 97 by decide), h3, bz0, bs0, bz1, bs1, xM_o (show 89 ≠ 87 by decide) (show 89 ≠ 88 by decide) (show 89 ≠ 97 by decide), at_set_eq, set_set, hfal, xs]
      exact hl
    · have K : ∀ k, k ≠ 89 → k ≠ 94 → am_at (am_set (am_set h 89 (AZ 2 (fun _ => false))) 94 (AI 3 (fun _ => -1))) k = am_at h k := fun k z1 z2 => by rw [at_set_ne z2, at_set_ne z1]
      refine xM_MI (told_row hTo hT8) (by rw [at_set_ne (by decide), at_set_eq]) (h4.keep (fun k _ _ => K k (by omega) (by omega))) ?_ (h6.keep (fun k _ _ => K k (by omega) (by omega)))
      obtain ⟨-, ⟨g1', g2', z2, z3, z4⟩, g3', g4', z5, z6⟩ := h5
      exact ⟨at_set_eq, ⟨g1', g2', by rw [K _ (by decide) (by decide)]; exact z2, by rw [K _ (by decide) (by decide)]; exact z3, fun i hi k hk => absurd hk (by simp)⟩, g3', g4', by rw [K _ (by decide) (by decide)]; exact z5, by rw [K _ (by decide) (by decide)]; exact z6⟩
    · exact ⟨rfl, rfl, fun k hk => by rw [at_xMn (by omega) (by omega) (by omega), at_set_ne (by omega), at_set_ne (by omega)]⟩
end MI
