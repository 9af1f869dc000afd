/-! the model reads: the text; fault -/
def rdT (t : Nat → Nat) (n j c : Nat) (D : Pn) (e : Nat) : Nat × Nat × Pn := if n ≤ tkB t n e then (0, c + 1, D) else if t (tkB t n e) = 59 then rdN t n j (c + 1) D (tkE t n e) (tkB t n e) else (tkB t n e + 1, c + 1, D)
theorem rd_T (t : Nat → Nat) (n j c : Nat) (D : Pn) (e b : Nat) : rdN t n (j + 1) c D e b = if (clN t n D e).1 = 0 then ((clN t n D e).2.1 + 1, c, D) else rdT t n j c (clN t n D e).2.2.2 (clN t n D e).2.2.1 := rfl
theorem i_any (x : Int32) : ∃ k : Nat, x = nI k := ⟨x.toBitVec.toNat, by
  show x = Int32.ofNat x.toBitVec.toNat
  apply Int32.toBitVec_inj.1
  simp [Int32.toBitVec_ofNat']⟩
section XM
variable {d : Nat} {h : am_H} {u n sn fi be rF rP cl : Nat} {dg : Int32} {f g : Nat → Int32} {t : Nat → Nat}
theorem l_reads (hW : MWd h) (hT : am_at h 90 = some (AI 200 (fun k => nI (t k)))) (hn : n ≤ 200) (ht : ∀ k, t k < 256) (hdg : dg = 0 ∨ dg = 1) {x1 : Option Value} (l1 : am_lg x1 = false) : ∀ j c (D : Pn) (e : Nat) (f g : Nat → Int32), c + 1 + j = 24 → e ≤ n → OKD D → (dg = 1 → Told f D) → ∃ fi' be' rF' rP' cl' f' g', am_ev (d + 6) 144 46 [some (.ref 87), x1, some (.int 1)] [] (xM h u n sn (tkB t n e) (tkE t n e) D.1 D.2.2.2.1 (c + 1) dg f g) = some (some (.int (if (rdT t n j c D e).1 = 0 then 1 else 0)), xM h u n sn fi' be' rF' rP' cl' dg f' g') ∧ ((rdT t n j c D e).1 ≠ 0 → fi' + 1 = (rdT t n j c D e).1) ∧ ((rdT t n j c D e).1 = 0 → cl' = (rdT t n j c D e).2.1 ∧ (dg = 1 → Told f' (rdT t n j c D e).2.2)) ∧ FT f f' ∧ (dg = 0 → f' = f) := by
  have e24 : (24 : Int32) = nI 24 := by decide +kernel
  have e59 : (59 : Int32) = nI 59 := by decide +kernel
  have hfail : ∀ fi be rF rP cl (f g : Nat → Int32), am_ev (d + 6) 144 46 [some (.ref 87), x1, some (.int 0)] [] (xM h u n sn fi be rF rP cl dg f g) = some (some (.int 0), xM h u n sn fi be rF rP cl dg f g) := by
    intro fi be rF rP cl f g
    rw [e_144_46]
    simp only [e_144_47, e_144_116, e_144_117, lg_n, lg_i, lg_r, wd_nil, am_wd_i, am_wd_r, am_wd_l, am_gk_s, am_fld_s, List.getElem?_cons_zero, List.getElem?_cons_succ, am_bk_v, am_bk_n, bo_0, bo_1, am_pk_s, List.length_cons, List.length_nil, Nat.zero_add, List.set_cons_zero, List.set_cons_succ, Nat.reduceAdd, Nat.reduceLeDiff, Nat.reduceLT, if_true]
  have hft : ∀ f, FT f f := fun f _ _ => rfl
  intro j
  induction j with
  | zero =>
    intro c D e f g hc he hD hF
    have hle := tk_le t he
    unfold rdT
    generalize hB : tkB t n e = B at *
    by_cases h1 : n ≤ B
    · rw [if_pos h1]
      refine ⟨B, tkE t n e, D.1, D.2.2.2.1, c + 1, f, g, ?_, fun z => absurd rfl z, fun _ => ⟨rfl, hF⟩, hft f, fun _ => rfl⟩
      rw [e_144_46]
      simp only [e_144_47, e_144_50, e_144_51, e_144_54, e_144_55, e_144_58, e_144_116, e_144_117, lg_n, lg_i, lg_r, wd_nil, am_wd_i, am_wd_r, am_wd_l, am_gk_s, am_fld_s, List.getElem?_cons_zero, List.getElem?_cons_succ, am_bk_v, am_bk_n, bo_0, bo_1, am_pk_s, List.length_cons, List.length_nil, Nat.zero_add, List.set_cons_zero, List.set_cons_succ, Nat.reduceAdd, Nat.reduceLeDiff, Nat.reduceLT, one_ne, if_false, at_xM, nI_leI (show n < 2 ^ 31 by omega) (show B < 2 ^ 31 by omega), if_pos h1, if_true]
    · rw [if_neg h1]
      have hR : (if t B = 59 then rdN t n 0 (c + 1) D (tkE t n e) B else (B + 1, c + 1, D)).1 = B + 1 := by
        split <;> rfl
      rw [hR]
      refine ⟨B, tkE t n e, D.1, D.2.2.2.1, c + 1, f, g, ?_, fun _ => rfl, fun z => absurd z (by omega), hft f, fun _ => rfl⟩
      rw [e_144_46]
      simp only [e_144_47, e_144_50, e_144_51, e_144_54, e_144_55, e_144_58, e_144_61, e_144_62, e_144_65, e_144_67, e_144_88, e_144_89, e_144_90, e_144_91, lg_n, lg_i, lg_r, wd_nil, am_wd_i, am_wd_r, am_wd_l, am_gk_s, am_fld_s, List.getElem?_cons_zero, List.getElem?_cons_succ, am_bk_v, am_bk_n, bo_0, bo_1, am_pk_s, List.length_cons, List.length_nil, Nat.zero_add, List.set_cons_zero, List.set_cons_succ, Nat.reduceAdd, Nat.reduceLeDiff, Nat.reduceLT, one_ne, if_false, at_xM, nI_leI (show n < 2 ^ 31 by omega) (show B < 2 ^ 31 by omega), if_neg h1, e24, nI_leI (show 24 < 2 ^ 31 by decide) (show c + 1 < 2 ^ 31 by omega), if_pos (show 23 ≤ c by omega), l1, if_true]
      rw [if_neg (show ¬ B + 1 = 0 by omega)]
      exact hfail _ _ _ _ _ _ _
  | succ j ih =>
    intro c D e f g hc he hD hF
    have hle := tk_le t he
    have htk := m_tokM (d := d + 3) (h := h) (u := u) (n := n) (sn := sn) (fi := tkB t n e) (be := tkE t n e) (rF := D.1) (rP := D.2.2.2.1) (cl := c + 1) (dg := dg) (f := f) (g := g) hT hn ht hle.2.2.2
    obtain ⟨be1, rF1, rP1, f1, g1, e1, p1, p2, p3, p4⟩ := m_clauseM (d := d) (u := u) (sn := sn) (cl := c + 1) (dg := dg) (f := f) (g := g) hW hT hn ht hD hle.2.2.2 hdg hF
    have hcl := cl_le (t := t) (n := n) D hle.2.2.2
    have hok := hD.cl (t := t) (n := n) (tkE t n e)
    have hRT := rd_T t n j (c + 1) D (tkE t n e) (tkB t n e)
    unfold rdT
    rw [hRT]
    have htB := ht (tkB t n e)
    generalize clN t n D (tkE t n e) = r at *
    by_cases h1 : n ≤ tkB t n e
    · rw [if_pos h1]
      refine ⟨tkB t n e, tkE t n e, D.1, D.2.2.2.1, c + 1, f, g, ?_, fun z => absurd rfl z, fun _ => ⟨rfl, hF⟩, hft f, fun _ => rfl⟩
      rw [e_144_46]
      simp only [e_144_47, e_144_50, e_144_51, e_144_54, e_144_55, e_144_58, e_144_116, e_144_117, lg_n, lg_i, lg_r, wd_nil, am_wd_i, am_wd_r, am_wd_l, am_gk_s, am_fld_s, List.getElem?_cons_zero, List.getElem?_cons_succ, am_bk_v, am_bk_n, bo_0, bo_1, am_pk_s, List.length_cons, List.length_nil, Nat.zero_add, List.set_cons_zero, List.set_cons_succ, Nat.reduceAdd, Nat.reduceLeDiff, Nat.reduceLT, one_ne, if_false, at_xM, nI_leI (show n < 2 ^ 31 by omega) (show tkB t n e < 2 ^ 31 by omega), if_pos h1, if_true]
    · rw [if_neg h1]
      by_cases h2 : t (tkB t n e) = 59
      · rw [if_pos h2]
        have hgo : am_ev (d + 6) 144 46 [some (.ref 87), x1, some (.int 1)] [] (xM h u n sn (tkB t n e) (tkE t n e) D.1 D.2.2.2.1 (c + 1) dg f g) = am_ev (d + 6) 144 46 [some (.ref 87), x1, some (.int (nI r.1))] [] (xM h u n sn (if r.1 = 0 then r.2.1 else tkB t n r.2.2.1) be1 rF1 rP1 (c + 1 + 1) dg f1 g1) := by
          rw [e_144_46]
          simp only [e_144_47, e_144_50, e_144_51, e_144_54, e_144_55, e_144_58, e_144_61, e_144_62, e_144_65, e_144_67, e_144_70, e_144_71, e_144_74, e_144_75, e_144_78, e_144_79, e_144_81, e_144_84, e_144_85, e_144_88, e_144_89, e_144_90, e_144_91, e_144_94, e_144_95, e_144_98, e_144_99, e_144_102, e_144_103, e_144_104, e_144_105, e_144_108, e_144_109, e_144_110, e_144_113, lg_n, lg_i, lg_r, wd_nil, am_wd_i, am_wd_r, am_wd_l, am_gk_s, am_fld_s, List.getElem?_cons_zero, List.getElem?_cons_succ, am_bk_v, am_bk_n, bo_0, bo_1, am_pk_s, List.length_cons, List.length_nil, Nat.zero_add, List.set_cons_zero, List.set_cons_succ, Nat.reduceAdd, Nat.reduceLeDiff, Nat.reduceLT, one_ne, if_false, at_xM, is_c, nI_leI (show n < 2 ^ 31 by omega) (show tkB t n e < 2 ^ 31 by omega), if_neg h1, e24, nI_leI (show 24 < 2 ^ 31 by decide) (show c + 1 < 2 ^ 31 by omega), if_neg (show ¬ 23 ≤ c by omega), at_xMn (show 90 ≠ 87 by decide) (show 90 ≠ 88 by decide) (show 90 ≠ 97 by decide), hT, ak_AI (show tkB t n e < 200 by omega) (show 200 < 2 ^ 31 by decide), e59, h2, if_true, l1, htk, e1, nI_1, xM_p]
        by_cases h3 : r.1 = 0
        · rw [if_pos h3]
          refine ⟨r.2.1, be1, rF1, rP1, c + 1 + 1, f1, g1, ?_, fun _ => rfl, fun z => absurd z (by simp), p2, p3⟩
          rw [hgo, h3, if_pos rfl, nI_0, hfail]
          simp
        · rw [if_neg h3]
          obtain ⟨q1, q2, q3⟩ := p1 h3
          have h31 : r.1 = 1 := by omega
          obtain ⟨fi', be', rF', rP', cl', f', g', z1, z2, z3, z4, z5⟩ := ih (c + 1) r.2.2.2 r.2.2.1 f1 g1 (by omega) hcl.2.2 hok (fun z => p4 z h3)
          refine ⟨fi', be', rF', rP', cl', f', g', ?_, z2, z3, fun k hk => (z4 k hk).trans (p2 k hk), fun z => (z5 z).trans (p3 z)⟩
          rw [hgo, if_neg h3, h31, q1, q2, q3, show nI 1 = 1 by decide +kernel]
          exact z1
      · rw [if_neg h2]
        refine ⟨tkB t n e, tkE t n e, D.1, D.2.2.2.1, c + 1, f, g, ?_, fun _ => rfl, fun z => absurd z (by simp), hft f, fun _ => rfl⟩
        rw [e_144_46]
        simp only [e_144_47, e_144_50, e_144_51, e_144_54, e_144_55, e_144_58, e_144_61, e_144_62, e_144_65, e_144_67, e_144_70, e_144_71, e_144_74, e_144_75, e_144_78, e_144_79, e_144_81, e_144_88, e_144_89, e_144_90, e_144_91, lg_n, lg_i, lg_r, wd_nil, am_wd_i, am_wd_r, am_wd_l, am_gk_s, am_fld_s, List.getElem?_cons_zero, List.getElem?_cons_succ, am_bk_v, am_bk_n, bo_0, bo_1, am_pk_s, List.length_cons, List.length_nil, Nat.zero_add, List.set_cons_zero, List.set_cons_succ, Nat.reduceAdd, Nat.reduceLeDiff, Nat.reduceLT, one_ne, if_false, at_xM, nI_leI (show n < 2 ^ 31 by omega) (show tkB t n e < 2 ^ 31 by omega), if_neg h1, e24, nI_leI (show 24 < 2 ^ 31 by decide) (show c + 1 < 2 ^ 31 by omega), if_neg (show ¬ 23 ≤ c by omega), at_xMn (show 90 ≠ 87 by decide) (show 90 ≠ 88 by decide) (show 90 ≠ 97 by decide), hT, ak_AI (show tkB t n e < 200 by omega) (show 200 < 2 ^ 31 by decide), e59, nI_eq (show t (tkB t n e) < 2 ^ 31 by omega) (show 59 < 2 ^ 31 by decide), h2, l1, if_true]
        rw [hfail]
        simp
theorem m_reads (hW : MWd h) (hT : am_at h 90 = some (AI 200 (fun k => nI (t k)))) (hn : n ≤ 200) (ht : ∀ k, t k < 256) {P : Pn} (hD : OKD P) (hF : Told f P) {dg' : Int32} (hdg : dg' = 0 ∨ dg' = 1) : ∃ fi' be' rF' rP' cl' f' g', am_cal (d + 7) 144 [.ref 87, .int dg'] (xM h u n sn fi be rF rP cl dg f g) = some (some (.int (if (txN t n P).1 = 0 then 1 else 0)), xM h u n sn fi' be' rF' rP' cl' dg' f' g') ∧ ((txN t n P).1 ≠ 0 → fi' + 1 = (txN t n P).1) ∧ ((txN t n P).1 = 0 → cl' = (txN t n P).2.1 ∧ (dg' = 1 → Told f' (txN t n P).2.2)) ∧ FT f f' ∧ (dg' = 0 → f' = f) := by
  have htk := m_tokM (d := d + 3) (h := h) (u := u) (n := n) (sn := sn) (fi := fi) (be := 0) (rF := P.1) (rP := P.2.2.2.1) (cl := 1) (dg := dg') (f := f) (g := g) hT hn ht (Nat.zero_le _)
  obtain ⟨be1, rF1, rP1, f1, g1, e1, p1, p2, p3, p4⟩ := m_clauseM (d := d) (u := u) (sn := sn) (cl := 1) (dg := dg') (f := f) (g := g) hW hT hn ht hD (Nat.zero_le n) hdg (fun _ => hF)
  have hcl := cl_le (t := t) (n := n) P (Nat.zero_le n)
  have hok := hD.cl (t := t) (n := n) 0
  have htx : txN t n P = if (clN t n P 0).1 = 0 then ((clN t n P 0).2.1 + 1, 0, P) else rdT t n 23 0 (clN t n P 0).2.2.2 (clN t n P 0).2.2.1 := rfl
  rw [htx]
  generalize clN t n P 0 = r at *
  have h79 : f 79 = nI P.1 := hF.1.1
  have h81 : f 81 = nI P.2.2.2.1 := hF.1.2.2.1
  have e79 : (79 : Int32) = nI 79 := by decide +kernel
  have e81 : (81 : Int32) = nI 81 := by decide +kernel
  have xb := fun (u n sn fi be rF rP cl : Nat) (dg : Int32) => xM_p (h := h) (u := u) (n := n) (sn := sn) (fi := fi) (be := be) (rF := rF) (rP := rP) (cl := cl) (dg := dg) (f := f) (g := g) (u' := u) (n' := n) (sn' := sn) (fi' := fi) (be' := 0) (rF' := rF) (rP' := rP) (cl' := cl) (dg' := dg)
  have xc := fun (u n sn fi be rF rP cl : Nat) (dg : Int32) => xM_p (h := h) (u := u) (n := n) (sn := sn) (fi := fi) (be := be) (rF := rF) (rP := rP) (cl := cl) (dg := dg) (f := f) (g := g) (u' := u) (n' := n) (sn' := sn) (fi' := fi) (be' := be) (rF' := rF) (rP' := rP) (cl' := 1) (dg' := dg)
  simp only [nI_0] at xb
  simp only [show nI 1 = 1 by decide +kernel] at xc
  have hgo : am_cal (d + 7) 144 [.ref 87, .int dg'] (xM h u n sn fi be rF rP cl dg f g) = am_ev (d + 6) 144 46 [some (.ref 87), some (.int dg'), some (.int (nI r.1))] [] (xM h u n sn (if r.1 = 0 then r.2.1 else tkB t n r.2.2.1) be1 rF1 rP1 1 dg' f1 g1) := by
    refine (b_144 _ _ _).trans ?_; show am_ev _ 144 0 [some (.ref 87), some (.int dg'), none] [] _ = _
    simp only [e_144_0, e_144_1, lg_n, lg_i, lg_r, wd_nil, am_wd_i, am_wd_r, am_wd_l, am_gk_s, am_fld_s, List.getElem?_cons_zero, List.getElem?_cons_succ, am_bk_v, am_bk_n, bo_0, bo_1, am_pk_s, List.length_cons, List.length_nil, Nat.zero_add, List.set_cons_zero, List.set_cons_succ, Nat.reduceAdd, Nat.reduceLeDiff, Nat.reduceLT]
    rw [e_144_2 hdg]
    simp only [e_144_5, e_144_6, e_144_7, e_144_10, e_144_11, e_144_12, e_144_15, e_144_16, e_144_17, e_144_20, e_144_22, e_144_23, e_144_26, e_144_27, e_144_28, e_144_31, e_144_33, e_144_34, e_144_37, e_144_38, e_144_41, e_144_42, e_144_45, lg_n, lg_i, lg_r, wd_nil, am_wd_i, am_wd_r, am_wd_l, am_gk_s, am_fld_s, List.getElem?_cons_zero, List.getElem?_cons_succ, am_bk_v, am_bk_n, bo_0, bo_1, am_pk_s, List.length_cons, List.length_nil, Nat.zero_add, List.set_cons_zero, List.set_cons_succ, Nat.reduceAdd, Nat.reduceLeDiff, Nat.reduceLT, at_xM, xM_p]
    simp only [e_144_5, e_144_6, e_144_7, e_144_10, e_144_11, e_144_12, e_144_15, e_144_16, e_144_17, e_144_20, e_144_22, e_144_23, e_144_26, e_144_27, e_144_28, e_144_31, e_144_33, e_144_34, e_144_37, e_144_38, e_144_41, e_144_42, e_144_45, lg_n, lg_i, lg_r, wd_nil, am_wd_i, am_wd_r, am_wd_l, am_gk_s, am_fld_s, List.getElem?_cons_zero, List.getElem?_cons_succ, am_bk_v, am_bk_n, bo_0, bo_1, am_pk_s, List.length_cons, List.length_nil, Nat.zero_add, List.set_cons_zero, List.set_cons_succ, Nat.reduceAdd, Nat.reduceLeDiff, Nat.reduceLT, at_xM, at_xM88, is_c, xM_p, xb, xc, e79, e81, ak_AI (show 79 < 392 by decide) (show 392 < 2 ^ 31 by decide), ak_AI (show 81 < 392 by decide) (show 392 < 2 ^ 31 by decide), h79, h81, htk, e1]
  by_cases h3 : r.1 = 0
  · rw [if_pos h3]
    refine ⟨r.2.1, be1, rF1, rP1, 1, f1, g1, ?_, fun _ => rfl, fun z => absurd z (by simp), p2, p3⟩
    rw [hgo, h3, if_pos rfl, nI_0, e_144_46]
    simp only [e_144_47, e_144_116, e_144_117, lg_n, lg_i, lg_r, wd_nil, am_wd_i, am_wd_r, am_wd_l, am_gk_s, am_fld_s, List.getElem?_cons_zero, List.getElem?_cons_succ, am_bk_v, am_bk_n, bo_0, bo_1, am_pk_s, List.length_cons, List.length_nil, Nat.zero_add, List.set_cons_zero, List.set_cons_succ, Nat.reduceAdd, Nat.reduceLeDiff, Nat.reduceLT, if_true]
    simp
  · rw [if_neg h3]
    obtain ⟨q1, q2, q3⟩ := p1 h3
    have h31 : r.1 = 1 := by omega
    obtain ⟨fi', be', rF', rP', cl', f', g', z1, z2, z3, z4, z5⟩ := l_reads (d := d) (u := u) (sn := sn) (dg := dg') (x1 := some (.int dg')) hW hT hn ht hdg (lg_i _) 23 0 r.2.2.2 r.2.2.1 f1 g1 (by omega) hcl.2.2 hok (fun z => p4 z h3)
    refine ⟨fi', be', rF', rP', cl', f', g', ?_, z2, z3, fun k hk => (z4 k hk).trans (p2 k hk), fun z => (z5 z).trans (p3 z)⟩
    rw [hgo, if_neg h3, h31, q1, q2, q3, show nI 1 = 1 by decide +kernel]
    exact z1
end XM
section MI
variable {d : Nat} {h : am_H} {P : Pn} {σ : Hn} {u : Nat} {pa : Nat → Hn} {kp : Nat → Bool} {ke : Nat → Hn} {t : Nat → Nat} {n sn : Nat} {sF sT sK : Nat → Nat} {nz : Nat → Nat} {nt : Nat → Nat → Nat}
theorem MI.tox (hM : MI h P σ u pa kp ke t n sn sF sT sK nz nt) : ∃ fi be rF rP cl : Nat, ∃ dg : Int32, ∃ f g : Nat → Int32, h = xM h u n sn fi be rF rP cl dg f g ∧ MRow f P σ u pa kp ke ∧ am_at h 89 = some (AZ 2 kp) ∧ MTx h t sF sT sK ∧ MNo h nz nt ∧ MSc h := by
  obtain ⟨⟨fi, be, rF, rP, cl, dg, h1⟩, ⟨f, h2, h2'⟩, h3, h4, h5, h6⟩ := hM
  obtain ⟨a1, rfl⟩ := i_any fi
  obtain ⟨a2, rfl⟩ := i_any be
  obtain ⟨a3, rfl⟩ := i_any rF
  obtain ⟨a4, rfl⟩ := i_any rP
  obtain ⟨a5, rfl⟩ := i_any cl
  obtain ⟨g, h7⟩ := h6.1
  refine ⟨a1, a2, a3, a4, a5, dg, f, g, ?_, h2', h3, h4, h5, h6⟩
  unfold xM
  rw [set_self h7, set_self h2, set_self h1]
theorem xM_MI {u' n' sn' fi be rF rP cl : Nat} {dg : Int32} {f g : Nat → Int32} {P' : Pn} {σ' : Hn} (hR : MRow f P' σ' u' pa kp ke) (h3 : am_at h 89 = some (AZ 2 kp)) (h4 : MTx h t sF sT sK) (h5 : MNo h nz nt) (h6 : MSc h) : MI (xM h u' n' sn' fi be rF rP cl dg f g) P' σ' u' pa kp ke t n' sn' sF sT sK nz nt := by
  refine ⟨⟨_, _, _, _, _, _, at_xM⟩, ⟨f, at_xM88, hR⟩, by rw [at_xMn (by decide) (by decide) (by decide)]; exact h3, h4.keep (fun k _ _ => at_xMn (by omega) (by omega) (by omega)), h5.keep (fun k _ => at_xMn (by omega) (by omega) (by omega)), ?_⟩
  obtain ⟨⟨g', s1⟩, s2, s3, ⟨g4, s4⟩, g5, s5⟩ := h6
  exact ⟨⟨g, at_xM97⟩, fun w hw => by rw [at_xMn (by omega) (by omega) (by omega)]; exact s2 w hw, by rw [at_xMn (by omega) (by omega) (by omega)]; exact s3, ⟨g4, by rw [at_xMn (by omega) (by omega) (by omega)]; exact s4⟩, g5, by rw [at_xMn (by omega) (by omega) (by omega)]; exact s5⟩
theorem FM.tox {u' n' sn' fi be rF rP cl : Nat} {dg : Int32} {f g : Nat → Int32} : FM h (xM h u' n' sn' fi be rF rP cl dg f g) := ⟨rfl, rfl, fun k hk => at_xMn (by omega) (by omega) (by omega)⟩
theorem n_fault (hM : MI h P σ u pa kp ke t n sn sF sT sK nz nt) (hD : OKD P) (ht : ∀ k, t k < 256) (hn : n ≤ 200) : ∃ h', am_cal (d + 8) 145 [.ref 87] h = some (some (.int (cI ((txN t n P).1 + 1))), h') ∧ MI h' P σ u pa kp ke t n sn sF sT sK nz nt ∧ FM h h' := by
  obtain ⟨fi, be, rF, rP, cl, dg, f, g, hx, h2, h3, h4, h5, h6⟩ := hM.tox
  obtain ⟨fi', be', rF', rP', cl', f', g', e1, p1, p2, p3, p4⟩ := m_reads (d := d) (u := u) (sn := sn) (fi := fi) (be := be) (rF := rF) (rP := rP) (cl := cl) (dg := dg) (f := f) (g := g) h6.2.1 h4.1 hn ht hD ⟨h2.2.2.1, h2.2.2.2.1⟩ (dg' := 0) (Or.inl rfl)
  have hf : f' = f := p4 rfl
  subst hf
  refine ⟨xM h u n sn fi' be' rF' rP' cl' 0 f' g', ?_, xM_MI h2 h3 h4 h5 h6, FM.tox⟩
  have his : am_is (am_at h 87) 8 = true := by rw [hx]; exact is_xM
  rw [← hx] at e1
  generalize txN t n P = T at *
  refine (b_145 _ _ _).trans ?_; show am_ev _ 145 0 [some (.ref 87)] [] _ = _
  by_cases h0 : T.1 = 0
  · rw [if_pos h0] at e1
    simp only [e_145_0, e_145_1, e_145_2, e_145_5, e_145_8, e_145_9, e_145_12, e_145_13, e_145_16, lg_n, lg_i, lg_r, wd_nil, am_wd_i, am_wd_r, am_wd_l, am_gk_s, am_fld_s, List.getElem?_cons_zero, List.getElem?_cons_succ, am_bk_v, am_bk_n, bo_0, bo_1, am_pk_s, List.length_cons, List.length_nil, Nat.zero_add, List.set_cons_zero, List.set_cons_succ, Nat.reduceAdd, Nat.reduceLeDiff, Nat.reduceLT, his, e1, one_ne, if_false, h0]
    rfl
  · rw [if_neg h0] at e1
    have := p1 h0
    simp only [e_145_0, e_145_1, e_145_2, e_145_5, e_145_8, e_145_9, e_145_12, e_145_13, e_145_16, lg_n, lg_i, lg_r, wd_nil, am_wd_i, am_wd_r, am_wd_l, am_gk_s, am_fld_s, List.getElem?_cons_zero, List.getElem?_cons_succ, am_bk_v, am_bk_n, bo_0, bo_1, am_pk_s, List.length_cons, List.length_nil, Nat.zero_add, List.set_cons_zero, List.set_cons_succ, Nat.reduceAdd, Nat.reduceLeDiff, Nat.reduceLT, his, e1, if_true, at_xM]
    rw [← this, cI_s]
end MI
