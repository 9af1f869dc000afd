/-! a house changes -/
def updn (f : Nat → Nat) (k x : Nat) : Nat → Nat := fun j => if j = k then x else f j
theorem updn_map (F : Nat → Int32) (f : Nat → Nat) (k x : Nat) : upd (fun p => F (f p)) k (F x) = fun p => F (updn f k x p) := by
  funext j; unfold upd updn; split <;> rfl
def rH (h : am_H) (a b : Nat) (s t : Int32) (f g r : Nat → Int32) : am_H := am_set (am_set (am_set (am_set h a (.inr (1, [.ref b, .int s, .int t, .ref (a + 1), .ref (a + 2), .ref (a + 3)]))) (a + 1) (AI 8 f)) (a + 2) (AI 8 g)) (a + 3) (AI 8 r)
theorem pH_rH (h : am_H) (a b : Nat) (σ : Hn) : pH h a b σ = rH h a b (nI σ.1) (nI σ.2.1) (fun p => sI (σ.2.2.1 p)) (fun p => cI (σ.2.2.1 p)) (fun p => nI (σ.2.2.2 p)) := rfl
theorem rH_pH (h : am_H) (a b s t : Nat) (x y : Nat → Nat) : rH h a b (nI s) (nI t) (fun p => sI (x p)) (fun p => cI (x p)) (fun p => nI (y p)) = pH h a b (s, t, x, y) := rfl
theorem one_ne : ((1 : Int32) = 0) = False := by simp
section RH
variable {h : am_H} {a b : Nat} {s t : Int32} {f g r : Nat → Int32}
theorem at_rH (k : Nat) : am_at (rH h a b s t f g r) k = if k = a then some (.inr (1, [.ref b, .int s, .int t, .ref (a + 1), .ref (a + 2), .ref (a + 3)])) else if k = a + 1 then some (AI 8 f) else if k = a + 2 then some (AI 8 g) else if k = a + 3 then some (AI 8 r) else am_at h k := by
  unfold rH
  simp only [am_at_set]
  by_cases h3 : k = a + 3
  · subst h3; simp
  · by_cases h2 : k = a + 2
    · subst h2; simp
    · by_cases h1 : k = a + 1
      · subst h1; simp
      · simp [h1, h2, h3]
theorem at_rH0 : am_at (rH h a b s t f g r) a = some (.inr (1, [.ref b, .int s, .int t, .ref (a + 1), .ref (a + 2), .ref (a + 3)])) := by rw [at_rH]; simp
theorem at_rH1 : am_at (rH h a b s t f g r) (a + 1) = some (AI 8 f) := by rw [at_rH]; simp
theorem at_rH2 : am_at (rH h a b s t f g r) (a + 2) = some (AI 8 g) := by rw [at_rH]; simp
theorem at_rH3 : am_at (rH h a b s t f g r) (a + 3) = some (AI 8 r) := by rw [at_rH]; simp
theorem at_rHn {k : Nat} (hk : k < a ∨ a + 3 < k) : am_at (rH h a b s t f g r) k = am_at h k := by
  rw [at_rH, if_neg (by omega), if_neg (by omega), if_neg (by omega), if_neg (by omega)]
theorem rH_s0 {s' t' : Int32} : am_set (rH h a b s t f g r) a (.inr (1, [.ref b, .int s', .int t', .ref (a + 1), .ref (a + 2), .ref (a + 3)])) = rH h a b s' t' f g r := by
  refine am_ext rfl rfl (fun k => ?_)
  rw [am_at_set, at_rH, at_rH]
  by_cases h0 : k = a
  · simp [h0]
  · simp [h0]
theorem rH_s1 {f' : Nat → Int32} : am_set (rH h a b s t f g r) (a + 1) (AI 8 f') = rH h a b s t f' g r := by
  refine am_ext rfl rfl (fun k => ?_)
  rw [am_at_set, at_rH, at_rH]
  by_cases h0 : k = a + 1
  · subst h0; simp
  · simp [h0]
theorem rH_s2 {f' : Nat → Int32} : am_set (rH h a b s t f g r) (a + 2) (AI 8 f') = rH h a b s t f f' r := by
  refine am_ext rfl rfl (fun k => ?_)
  rw [am_at_set, at_rH, at_rH]
  by_cases h0 : k = a + 2
  · subst h0; simp
  · simp [h0]
theorem rH_s3 {f' : Nat → Int32} : am_set (rH h a b s t f g r) (a + 3) (AI 8 f') = rH h a b s t f g f' := by
  refine am_ext rfl rfl (fun k => ?_)
  rw [am_at_set, at_rH, at_rH]
  by_cases h0 : k = a + 3
  · subst h0; simp
  · simp [h0]
theorem r_put {d p : Nat} (hp : p < 8) (u v : Int32) : am_cal (d + 1) 17 [.ref a, .int (nI p), .int u, .int v] (rH h a b s t f g r) = some (none, rH h a b s t (upd f p u) (upd g p v) (upd r p 0)) := by
  refine (b_17 _ _ _).trans ?_; show am_ev _ 17 0 [some (.ref a), some (.int (nI p)), some (.int u), some (.int v)] [] _ = _
  simp only [e_17_0, e_17_1, e_17_4, e_17_5, e_17_6, e_17_7, e_17_8, e_17_11, e_17_12, e_17_13, e_17_14, e_17_15, e_17_18, e_17_19, e_17_20, e_17_21, lg_n, lg_i, lg_r, wd_nil, am_wd_i, am_wd_r, am_wd_l, am_gk_s, am_fld_s, List.getElem?_cons_zero, List.getElem?_cons_succ, am_bk_v, am_bk_n, bo_0, bo_1, am_pk_s, List.length_cons, List.length_nil, Nat.zero_add, List.set_cons_zero, List.set_cons_succ, Nat.reduceAdd, Nat.reduceLeDiff, Nat.reduceLT, at_rH0, at_rH1, at_rH2, at_rH3, sk_AI hp (show 8 < 2 ^ 31 by decide), st_AI hp (show 8 < 2 ^ 31 by decide), rH_s1, rH_s2, rH_s3]
end RH
theorem PlanAt.pH {h : am_H} {a b c : Nat} {σ : Hn} {P : Pn} (hp : PlanAt h c P) (hab : c + 3 < a ∨ a + 3 < c) : PlanAt (pH h a b σ) c P := hp.keep (fun k _ _ => at_pH_ne (by omega))
theorem Stt.pH {h : am_H} {a b : Nat} {σ : Hn} (hs : Stt h) (ha : a + 3 < 1000000) : Stt (pH h a b σ) := hs.keep (fun k _ => at_pH_ne (by omega))
theorem HouseAt.pH {h : am_H} {a b a' b' : Nat} {σ σ' : Hn} (hh : HouseAt h a' b' σ') (ha : a' + 3 < a ∨ a + 3 < a') : HouseAt (pH h a b σ) a' b' σ' := hh.keep (fun k _ _ => at_pH_ne (by omega))
def putN (σ : Hn) (p x : Nat) : Hn := (σ.1, σ.2.1, updn σ.2.2.1 p x, updn σ.2.2.2 p 0)
section HS
variable {d : Nat} {h : am_H} {a b : Nat} {P : Pn} {σ : Hn}
theorem m_put (hh : HouseAt h a b σ) {p : Nat} (hp : p < 8) (x : Nat) : am_cal (d + 1) 17 [.ref a, .int (nI p), .int (sI x), .int (cI x)] h = some (none, pH h a b (putN σ p x)) := by
  have := r_put (d := d) (h := h) (a := a) (b := b) (s := nI σ.1) (t := nI σ.2.1) (f := fun p => sI (σ.2.2.1 p)) (g := fun p => cI (σ.2.2.1 p)) (r := fun p => nI (σ.2.2.2 p)) hp (sI x) (cI x)
  rw [← pH_rH, pH_self hh, updn_map sI, updn_map cI, show (0 : Int32) = nI 0 from nI_0.symm, updn_map nI] at this
  exact this
/-- one is let out -/
def outN (P : Pn) (s : Nat) (x y : Nat → Nat) (p : Nat) : Bool := decide (2 ≤ x p ∧ (P.2.2.2.2.1 p ≠ 3 ∨ 2 * P.1 ≤ y p + 1) ∧ flr P.1 (plc P.1 s (x p - 2)) = P.2.2.2.2.2.2 p)
def outX (P : Pn) (s : Nat) (x y : Nat → Nat) (n p : Nat) : Nat := if p < n ∧ outN P s x y p then 1 else x p
def outY (x y : Nat → Nat) (n p : Nat) : Nat := if p < n ∧ 2 ≤ x p then y p + 1 else y p
theorem l_letOut (hs : Stt h) (hp : PlanAt h b P) (hh : HouseAt h a b σ) (oP : OKP P) (oH : OKH P σ) (hab : b + 3 < a) (ha : a + 3 < 1000000) : ∀ j p, p + j = P.2.2.2.1 → ∀ z, am_ev (d + 2) 30 2 [some (.ref a), some (.int (nI p)), z] [] (pH h a b (σ.1, σ.2.1, outX P σ.1 σ.2.2.1 σ.2.2.2 p, outY σ.2.2.1 σ.2.2.2 p)) = some (none, pH h a b (σ.1, σ.2.1, outX P σ.1 σ.2.2.1 σ.2.2.2 P.2.2.2.1, outY σ.2.2.1 σ.2.2.2 P.2.2.2.1)) := by
  have hn := oP.2.2.2.1
  intro j
  induction j with
  | zero =>
    intro p hpj z
    have : p = P.2.2.2.1 := by omega
    subst this
    generalize hg : pH h a b _ = h'
    have hp' : PlanAt h' b P := hg ▸ hp.pH (by omega)
    have hh' := hg ▸ HouseAt_pH h a b _
    obtain ⟨g0, g1, g2, g3, g4, g5⟩ := fl_house hh'
    obtain ⟨-, -, -, f3, -⟩ := fl_plan hp'
    rw [e_30_2]
    simp only [e_30_0, e_30_1, e_30_3, e_30_4, e_30_7, e_30_10, e_30_13, e_30_14, e_30_17, e_30_18, e_30_19, e_30_20, e_30_23, e_30_26, e_30_27, e_30_30, e_30_31, e_30_32, e_30_33, e_30_34, e_30_35, e_30_36, e_30_37, e_30_40, e_30_43, e_30_44, e_30_45, e_30_48, e_30_51, e_30_52, e_30_55, e_30_56, e_30_57, e_30_58, e_30_61, e_30_64, e_30_67, e_30_68, e_30_71, e_30_72, e_30_73, e_30_74, e_30_77, e_30_78, e_30_79, e_30_80, e_30_83, e_30_84, e_30_85, e_30_88, e_30_91, e_30_92, e_30_95, e_30_98, e_30_99, e_30_100, e_30_103, e_30_104, e_30_107, e_30_108, e_30_109, e_30_110, e_30_111, e_30_114, e_30_115, e_30_116, e_30_117, e_30_120, e_30_123, lg_n, lg_i, lg_r, wd_nil, am_wd_i, am_wd_r, am_wd_l, am_gk_s, am_fld_s, List.getElem?_cons_zero, List.getElem?_cons_succ, am_bk_v, am_bk_n, bo_0, bo_1, am_pk_s, List.length_cons, List.length_nil, Nat.zero_add, List.set_cons_zero, List.set_cons_succ, Nat.reduceAdd, Nat.reduceLeDiff, Nat.reduceLT, g0, f3, nI_leI (show P.2.2.2.1 < 2 ^ 31 by omega) (show P.2.2.2.1 < 2 ^ 31 by omega), Nat.le_refl, if_true]
  | succ j ih =>
    intro p hpj z
    have hx0 : outX P σ.1 σ.2.2.1 σ.2.2.2 p p = σ.2.2.1 p := by unfold outX; rw [if_neg (by omega)]
    have hy0 : outY σ.2.2.1 σ.2.2.2 p p = σ.2.2.2 p := by unfold outY; rw [if_neg (by omega)]
    have hpl : p < P.2.2.2.1 := by omega
    have hp8 : p < 8 := by omega
    have hk := oP.2.2.2.2.1 p (by omega)
    have hto := (oP.2.2.2.2.2 p hpl).2
    have hP : 1 ≤ P.1 ∧ P.1 < 2 ^ 20 := ⟨oP.1, oP.2.1⟩
    have hxy := oH.2 p hp8
    have hiY : updn (outY σ.2.2.1 σ.2.2.2 p) p (σ.2.2.2 p + 1) = if 2 ≤ σ.2.2.1 p then outY σ.2.2.1 σ.2.2.2 (p + 1) else updn (outY σ.2.2.1 σ.2.2.2 p) p (σ.2.2.2 p + 1) := by
      by_cases hr : 2 ≤ σ.2.2.1 p
      · rw [if_pos hr]
        funext q
        unfold updn outY
        by_cases hq : q = p
        · subst hq; simp [hr]
        · rw [if_neg hq]
          have : (q < p + 1) ↔ q < p := by omega
          simp only [this]
      · rw [if_neg hr]
    have hnY : ¬ 2 ≤ σ.2.2.1 p → outY σ.2.2.1 σ.2.2.2 (p + 1) = outY σ.2.2.1 σ.2.2.2 p := by
      intro hr
      funext q
      unfold outY
      by_cases hq : q = p
      · subst hq; simp [hr]
      · have : (q < p + 1) ↔ q < p := by omega
        simp only [this]
    have hX : ∀ o : Bool, outN P σ.1 σ.2.2.1 σ.2.2.2 p = o → outX P σ.1 σ.2.2.1 σ.2.2.2 (p + 1) = if o then updn (outX P σ.1 σ.2.2.1 σ.2.2.2 p) p 1 else outX P σ.1 σ.2.2.1 σ.2.2.2 p := by
      intro o ho
      cases o with
      | true =>
        rw [if_pos rfl]
        funext q
        unfold outX updn
        by_cases hq : q = p
        · subst hq; simp [ho]
        · have : (q < p + 1) ↔ q < p := by omega
          simp only [this, if_neg hq]
      | false =>
        rw [if_neg (by decide)]
        funext q
        unfold outX
        by_cases hq : q = p
        · subst hq; simp [ho]
        · have : (q < p + 1) ↔ q < p := by omega
          simp only [this]
    have ih' := ih (p + 1) (by omega)
    have hsI : sI (σ.2.2.1 p) = 1 ↔ 2 ≤ σ.2.2.1 p := sI_1 _
    generalize hg : pH h a b (σ.1, σ.2.1, outX P σ.1 σ.2.2.1 σ.2.2.2 p, outY σ.2.2.1 σ.2.2.2 p) = h'
    have hp' : PlanAt h' b P := hg ▸ hp.pH (by omega)
    have hh' := hg ▸ HouseAt_pH h a b (σ.1, σ.2.1, outX P σ.1 σ.2.2.1 σ.2.2.2 p, outY σ.2.2.1 σ.2.2.2 p)
    obtain ⟨g0, g1, g2, g3, g4, g5⟩ := fl_house hh'
    obtain ⟨-, -, -, f3, -⟩ := fl_plan hp'
    have a1 := hh'.2.1
    have a3 := hh'.2.2.2
    rw [e_30_2]
    simp only [e_30_3, e_30_4, e_30_7, e_30_10, e_30_13, e_30_14, e_30_17, e_30_18, e_30_19, e_30_20, e_30_23, e_30_26, e_30_27, e_30_30, e_30_31, e_30_32, e_30_33, e_30_34, e_30_35, e_30_117, e_30_120, lg_n, lg_i, lg_r, wd_nil, am_wd_i, am_wd_r, am_wd_l, am_gk_s, am_fld_s, List.getElem?_cons_zero, List.getElem?_cons_succ, am_bk_v, am_bk_n, bo_0, bo_1, am_pk_s, List.length_cons, List.length_nil, Nat.zero_add, List.set_cons_zero, List.set_cons_succ, Nat.reduceAdd, Nat.reduceLeDiff, Nat.reduceLT, g0, g3, g5, f3, nI_leI (show P.2.2.2.1 < 2 ^ 31 by omega) (show p < 2 ^ 31 by omega), if_neg (show ¬ P.2.2.2.1 ≤ p by omega), a1, a3, ak_AI hp8 (show 8 < 2 ^ 31 by decide), sk_AI hp8 (show 8 < 2 ^ 31 by decide), st_AI hp8 (show 8 < 2 ^ 31 by decide), hx0, hy0, hsI, nI_1, updn_map nI]
    by_cases hr : 2 ≤ σ.2.2.1 p
    · rw [if_pos hr] at hiY
      rw [if_pos hr, hiY, ← hg, pH_rH, rH_s3, rH_pH]
      have hy1 : outY σ.2.2.1 σ.2.2.2 (p + 1) p = σ.2.2.2 p + 1 := by unfold outY; rw [if_pos ⟨by omega, hr⟩]
      have hcI : cI (σ.2.2.1 p) = nI (σ.2.2.1 p - 2) := by unfold cI; rw [if_neg (by omega)]
      have hpc : plc P.1 σ.1 (σ.2.2.1 p - 2) < 2 * P.1 := Nat.mod_lt _ (by omega)
      have hfl : flr P.1 (plc P.1 σ.1 (σ.2.2.1 p - 2)) < 2 ^ 31 := by unfold flr; split <;> omega
      generalize hg2 : pH h a b (σ.1, σ.2.1, outX P σ.1 σ.2.2.1 σ.2.2.2 p, outY σ.2.2.1 σ.2.2.2 (p + 1)) = h2
      have hs2 : Stt h2 := hg2 ▸ hs.pH ha
      have hp2 : PlanAt h2 b P := hg2 ▸ hp.pH (by omega)
      have hh2 := hg2 ▸ HouseAt_pH h a b (σ.1, σ.2.1, outX P σ.1 σ.2.2.1 σ.2.2.2 p, outY σ.2.2.1 σ.2.2.2 (p + 1))
      obtain ⟨g0, g1, g2, g3, g4, g5⟩ := fl_house hh2
      obtain ⟨-, -, -, -, f4, f5, f6⟩ := fl_plan hp2
      have b1 := hh2.2.1
      have b2 := hh2.2.2.1
      have b3 := hh2.2.2.2
      obtain ⟨q1, q2, q3, q4⟩ := m_kq (d := d + 1) hs2 hk
      obtain ⟨-, -, -, -, k4⟩ := fl_kind hs2 hk
      simp only [e_30_36, e_30_37, e_30_40, e_30_43, e_30_44, e_30_45, e_30_48, e_30_51, e_30_52, e_30_55, e_30_56, e_30_57, e_30_58, e_30_61, e_30_64, e_30_67, e_30_68, e_30_71, e_30_72, e_30_73, e_30_74, e_30_77, e_30_78, e_30_79, e_30_80, e_30_83, e_30_84, e_30_85, e_30_88, e_30_91, e_30_92, e_30_95, e_30_98, e_30_99, e_30_100, e_30_103, e_30_104, e_30_107, e_30_108, e_30_109, e_30_110, e_30_111, e_30_114, e_30_115, e_30_116, e_30_117, e_30_120, lg_n, lg_i, lg_r, wd_nil, am_wd_i, am_wd_r, am_wd_l, am_gk_s, am_fld_s, List.getElem?_cons_zero, List.getElem?_cons_succ, am_bk_v, am_bk_n, bo_0, bo_1, am_pk_s, List.length_cons, List.length_nil, Nat.zero_add, List.set_cons_zero, List.set_cons_succ, Nat.reduceAdd, Nat.reduceLeDiff, Nat.reduceLT, g0, g3, g4, g5, f4, f5, f6, b1, b2, b3, hp2.2.1, hp2.2.2.2, ak_AI hp8 (show 8 < 2 ^ 31 by decide), qk_AK hp8, hx0, hy1, hcI, q1, q2, q3, q4, k4, z_if, is_plan hp2, is_house hh2, m_ring hp2, m_placeOf hp2 hh2 hP oH.1 (show σ.2.2.1 p - 2 < 2 ^ 28 by omega), m_floorAt hp2 hh2 hP hpc, nI_leI (show 2 * P.1 < 2 ^ 31 by omega) (show σ.2.2.2 p + 1 < 2 ^ 31 by omega), nI_ltI (show σ.2.2.2 p + 1 < 2 ^ 31 by omega) (show 2 * P.1 < 2 ^ 31 by omega), nI_eq hfl (show P.2.2.2.2.2.2 p < 2 ^ 31 by omega), if_true, eq_self, one_ne, if_false, nI_1, sk_AI hp8 (show 8 < 2 ^ 31 by decide), st_AI hp8 (show 8 < 2 ^ 31 by decide), at_set_ne (show a ≠ a + 1 by omega), at_set_ne (show a + 2 ≠ a + 1 by omega)]
      have hfold : am_set (am_set h2 (a + 1) (AI 8 (upd (fun q => sI (outX P σ.1 σ.2.2.1 σ.2.2.2 p q)) p 2))) (a + 2) (AI 8 (upd (fun q => cI (outX P σ.1 σ.2.2.1 σ.2.2.2 p q)) p (-1))) = pH h a b (σ.1, σ.2.1, updn (outX P σ.1 σ.2.2.1 σ.2.2.2 p) p 1, outY σ.2.2.1 σ.2.2.2 (p + 1)) := by
        rw [← hg2, show (2 : Int32) = sI 1 from rfl, show (-1 : Int32) = cI 1 from rfl, updn_map sI, updn_map cI, pH_rH, rH_s1, rH_s2]
        rfl
      rw [hfold]
      by_cases hk3 : P.2.2.2.2.1 p = 3
      · by_cases hlt : σ.2.2.2 p + 1 < 2 * P.1
        · have := hX false (by unfold outN; simp only [decide_eq_false_iff_not]; omega)
          rw [if_neg (by decide)] at this
          rw [if_neg (not_not_intro hk3), if_pos hlt, ← hg2, ← this]
          exact ih' _
        · rw [if_neg (not_not_intro hk3), if_neg hlt]
          by_cases hf : flr P.1 (plc P.1 σ.1 (σ.2.2.1 p - 2)) = P.2.2.2.2.2.2 p
          · have := hX true (by unfold outN; simp only [decide_eq_true_eq]; omega)
            rw [if_pos rfl] at this
            rw [if_pos hf, ← this]
            exact ih' _
          · have := hX false (by unfold outN; simp only [decide_eq_false_iff_not]; omega)
            rw [if_neg (by decide)] at this
            rw [if_neg hf, ← hg2, ← this]
            exact ih' _
      · rw [if_pos hk3]
        by_cases hf : flr P.1 (plc P.1 σ.1 (σ.2.2.1 p - 2)) = P.2.2.2.2.2.2 p
        · have := hX true (by unfold outN; simp only [decide_eq_true_eq]; omega)
          rw [if_pos rfl] at this
          rw [if_pos hf, ← this]
          exact ih' _
        · have := hX false (by unfold outN; simp only [decide_eq_false_iff_not]; omega)
          rw [if_neg (by decide)] at this
          rw [if_neg hf, ← hg2, ← this]
          exact ih' _
    · rw [if_neg hr, ← hg, ← hnY hr]
      have := hX false (by unfold outN; simp [hr])
      rw [if_neg (by decide)] at this
      rw [← this]
      exact ih' z
end HS
