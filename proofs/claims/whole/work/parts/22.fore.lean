/-! looking ahead -/
def behN (P : Pn) (σ : Hn) : Nat → Hn
  | 0 => σ
  | t + 1 => advN P (fun i => i) 8 (behN P σ t)
/-- the first of the times from t on, j of them, at which f holds; 61 is never -/
def srchN (f : Nat → Bool) : Nat → Nat → Nat
  | 0, _ => 61
  | j + 1, t => if f t then t else srchN f j (t + 1)
theorem OKR.beh {P : Pn} {σ : Hn} {m : Nat} (h : OKR P σ m) (hf : 1 ≤ P.1) : ∀ t, OKR P (behN P σ t) (m + t)
  | 0 => h
  | t + 1 => (OKR.beh h hf t).adv hf 8
def RawAt (h : am_H) (a b : Nat) : Prop := ∃ (s t : Int32) (f g r : Nat → Int32), am_at h a = some (.inr (1, [.ref b, .int s, .int t, .ref (a + 1), .ref (a + 2), .ref (a + 3)])) ∧ am_at h (a + 1) = some (AI 8 f) ∧ am_at h (a + 2) = some (AI 8 g) ∧ am_at h (a + 3) = some (AI 8 r)
theorem HouseAt.raw {h : am_H} {a b : Nat} {σ : Hn} (hh : HouseAt h a b σ) : RawAt h a b := ⟨_, _, _, _, _, hh.1, hh.2.1, hh.2.2.1, hh.2.2.2⟩
theorem RawAt.keep {h h' : am_H} {a b : Nat} (hp : RawAt h a b) (hk : ∀ k, a ≤ k → k ≤ a + 3 → am_at h' k = am_at h k) : RawAt h' a b := by
  obtain ⟨s, t, f, g, r, h0, h1, h2, h3⟩ := hp
  exact ⟨s, t, f, g, r, by rw [hk a (by omega) (by omega)]; exact h0, by rw [hk (a + 1) (by omega) (by omega)]; exact h1, by rw [hk (a + 2) (by omega) (by omega)]; exact h2, by rw [hk (a + 3) (by omega) (by omega)]; exact h3⟩
theorem is_raw {h : am_H} {a b : Nat} (hp : RawAt h a b) : am_is (am_at h a) 1 = true := by obtain ⟨s, t, f, g, r, h0, -⟩ := hp; rw [h0]; rfl
theorem rH_self {h : am_H} {a b : Nat} {s t : Int32} {f g r : Nat → Int32} (h0 : am_at h a = some (.inr (1, [.ref b, .int s, .int t, .ref (a + 1), .ref (a + 2), .ref (a + 3)]))) (h1 : am_at h (a + 1) = some (AI 8 f)) (h2 : am_at h (a + 2) = some (AI 8 g)) (h3 : am_at h (a + 3) = some (AI 8 r)) : rH h a b s t f g r = h := by
  refine am_ext rfl rfl (fun k => ?_)
  rw [at_rH]
  by_cases e0 : k = a
  · subst e0; simp [h0]
  · by_cases e1 : k = a + 1
    · subst e1; simp [h1]
    · by_cases e2 : k = a + 2
      · subst e2; simp [h2]
      · by_cases e3 : k = a + 3
        · subst e3; simp [h3]
        · simp [e0, e1, e2, e3]
theorem m_takeR {d : Nat} {h : am_H} {a b c e : Nat} {τ : Hn} (hr : RawAt h a b) (hc : HouseAt h c e τ) (hac : a + 3 < c ∨ c + 3 < a) : am_cal (d + 2) 16 [.ref a, .ref c] h = some (none, pH h a b τ) := by
  have key : ∀ (s t : Int32) (f g r : Nat → Int32), am_cal (d + 2) 16 [.ref a, .ref c] (rH h a b s t f g r) = some (none, pH h a b τ) := by
    intro s t f g r
    refine (b_16 _ _ _).trans ?_; show am_ev _ 16 0 [some (.ref a), some (.ref c)] [] _ = _
    have hc0 := hc.1
    unfold house0 at hc0
    have c0 : ∀ (s t : Int32) (f g r : Nat → Int32), am_at (rH h a b s t f g r) c = some (.inr (1, [.ref e, .int (nI τ.1), .int (nI τ.2.1), .ref (c + 1), .ref (c + 2), .ref (c + 3)])) := fun s t f g r => by rw [at_rHn (by omega)]; exact hc0
    have c1 : ∀ (s t : Int32) (f g r : Nat → Int32), am_at (rH h a b s t f g r) (c + 1) = some (AI 8 (fun p => sI (τ.2.2.1 p))) := fun s t f g r => by rw [at_rHn (by omega)]; exact hc.2.1
    have c2 : ∀ (s t : Int32) (f g r : Nat → Int32), am_at (rH h a b s t f g r) (c + 2) = some (AI 8 (fun p => cI (τ.2.2.1 p))) := fun s t f g r => by rw [at_rHn (by omega)]; exact hc.2.2.1
    have c3 : ∀ (s t : Int32) (f g r : Nat → Int32), am_at (rH h a b s t f g r) (c + 3) = some (AI 8 (fun p => nI (τ.2.2.2 p))) := fun s t f g r => by rw [at_rHn (by omega)]; exact hc.2.2.2
    simp only [e_16_0, e_16_1, e_16_2, e_16_5, e_16_8, e_16_9, e_16_10, e_16_13, e_16_16, e_16_17, e_16_20, e_16_21, e_16_22, e_16_25, e_16_26, e_16_31, e_16_32, e_16_35, e_16_36, e_16_37, e_16_40, e_16_41, e_16_46, e_16_47, e_16_50, e_16_51, e_16_52, e_16_55, e_16_56, e_16_61, lg_n, lg_i, lg_r, wd_nil, am_wd_i, am_wd_r, am_wd_l, am_gk_s, am_fld_s, List.getElem?_cons_zero, List.getElem?_cons_succ, am_bk_v, am_bk_n, bo_0, bo_1, am_pk_s, List.length_cons, List.length_nil, Nat.zero_add, List.set_cons_zero, List.set_cons_succ, Nat.reduceAdd, Nat.reduceLeDiff, Nat.reduceLT, c0, at_rH0, rH_s0]
    rw [c_16_28 (c1 _ _ _ _ _) at_rH1, rH_s1]
    simp only [e_16_0, e_16_1, e_16_2, e_16_5, e_16_8, e_16_9, e_16_10, e_16_13, e_16_16, e_16_17, e_16_20, e_16_21, e_16_22, e_16_25, e_16_26, e_16_31, e_16_32, e_16_35, e_16_36, e_16_37, e_16_40, e_16_41, e_16_46, e_16_47, e_16_50, e_16_51, e_16_52, e_16_55, e_16_56, e_16_61, lg_n, lg_i, lg_r, wd_nil, am_wd_i, am_wd_r, am_wd_l, am_gk_s, am_fld_s, List.getElem?_cons_zero, List.getElem?_cons_succ, am_bk_v, am_bk_n, bo_0, bo_1, am_pk_s, List.length_cons, List.length_nil, Nat.zero_add, List.set_cons_zero, List.set_cons_succ, Nat.reduceAdd, Nat.reduceLeDiff, Nat.reduceLT, c0, at_rH0, rH_s0]
    rw [c_16_43 (c2 _ _ _ _ _) at_rH2, rH_s2]
    simp only [e_16_0, e_16_1, e_16_2, e_16_5, e_16_8, e_16_9, e_16_10, e_16_13, e_16_16, e_16_17, e_16_20, e_16_21, e_16_22, e_16_25, e_16_26, e_16_31, e_16_32, e_16_35, e_16_36, e_16_37, e_16_40, e_16_41, e_16_46, e_16_47, e_16_50, e_16_51, e_16_52, e_16_55, e_16_56, e_16_61, lg_n, lg_i, lg_r, wd_nil, am_wd_i, am_wd_r, am_wd_l, am_gk_s, am_fld_s, List.getElem?_cons_zero, List.getElem?_cons_succ, am_bk_v, am_bk_n, bo_0, bo_1, am_pk_s, List.length_cons, List.length_nil, Nat.zero_add, List.set_cons_zero, List.set_cons_succ, Nat.reduceAdd, Nat.reduceLeDiff, Nat.reduceLT, c0, at_rH0, rH_s0]
    rw [c_16_58 (c3 _ _ _ _ _) at_rH3, rH_s3]
    simp only [e_16_0, e_16_1, e_16_2, e_16_5, e_16_8, e_16_9, e_16_10, e_16_13, e_16_16, e_16_17, e_16_20, e_16_21, e_16_22, e_16_25, e_16_26, e_16_31, e_16_32, e_16_35, e_16_36, e_16_37, e_16_40, e_16_41, e_16_46, e_16_47, e_16_50, e_16_51, e_16_52, e_16_55, e_16_56, e_16_61, lg_n, lg_i, lg_r, wd_nil, am_wd_i, am_wd_r, am_wd_l, am_gk_s, am_fld_s, List.getElem?_cons_zero, List.getElem?_cons_succ, am_bk_v, am_bk_n, bo_0, bo_1, am_pk_s, List.length_cons, List.length_nil, Nat.zero_add, List.set_cons_zero, List.set_cons_succ, Nat.reduceAdd, Nat.reduceLeDiff, Nat.reduceLT]
    rfl
  obtain ⟨s, t, f, g, r, h0, h1, h2, h3⟩ := hr
  have := key s t f g r
  rw [rH_self h0 h1 h2 h3] at this
  exact this
/-- the foresight: how many wait, the least, whether it is known, the best line, the line -/
abbrev Fo : Type := Nat × Nat × Int32 × (Nat → Nat) × (Nat → Nat)
def fore0 (v n l : Nat) (Φ : Fo) : va_E := .inr (0, [.ref n, .ref l, .ref (v + 1), .ref (v + 2), .int (nI Φ.1), .int (nI Φ.2.1), .int Φ.2.2.1])
def FS (h : am_H) (v n l b : Nat) (P : Pn) (σ : Hn) (Φ : Fo) : Prop := Stt h ∧ PlanAt h b P ∧ HouseAt h n b σ ∧ RawAt h l b ∧ am_at h v = some (fore0 v n l Φ) ∧ (b + 3 < n ∧ n + 3 < v ∧ v + 2 < l ∧ l + 3 < 1000000) ∧ am_at h (v + 1) = some (AI 6 (fun i => nI (Φ.2.2.2.1 i))) ∧ am_at h (v + 2) = some (AI 6 (fun i => nI (Φ.2.2.2.2 i)))
section FO
variable {d : Nat} {h : am_H} {v n l b : Nat} {P : Pn} {σ τ : Hn} {Φ : Fo}
theorem FS.put (hF : FS h v n l b P σ Φ) (τ' : Hn) : FS (pH h l b τ') v n l b P σ Φ := by
  obtain ⟨h1, h2, h3, h4, h5, ⟨h6, h7, h8, h9⟩, hgb, hgl⟩ := hF
  exact ⟨h1.pH h9, h2.pH (by omega), h3.pH (by omega), (HouseAt_pH h l b τ').raw, by rw [at_pH_ne (by omega)]; exact h5, ⟨h6, h7, h8, h9⟩, by rw [at_pH_ne (by omega)]; exact hgb, by rw [at_pH_ne (by omega)]; exact hgl⟩
theorem FS.fl (hF : FS h v n l b P σ Φ) : am_fld (am_at h v) 0 0 = some (.ref n) ∧ am_fld (am_at h v) 0 1 = some (.ref l) ∧ am_fld (am_at h v) 0 2 = some (.ref (v + 1)) ∧ am_fld (am_at h v) 0 3 = some (.ref (v + 2)) ∧ am_fld (am_at h v) 0 4 = some (.int (nI Φ.1)) ∧ am_fld (am_at h v) 0 5 = some (.int (nI Φ.2.1)) ∧ am_fld (am_at h v) 0 6 = some (.int Φ.2.2.1) ∧ am_is (am_at h v) 0 = true := by
  obtain ⟨h1, h2, h3, h4, h5, -⟩ := hF
  rw [h5]
  exact ⟨rfl, rfl, rfl, rfl, rfl, rfl, rfl, rfl⟩
theorem m_adv8 (hF : FS h v n l b P σ Φ) (h4 : HouseAt h l b τ) (oP : OKP P) {m0 : Nat} (oR : OKR P τ m0) (hm0 : m0 + 1 < 2 ^ 28) (hf : P.1 ≤ 15) : am_cal (d + 4) 29 [.ref l, .ref 1000001, .int 8] h = some (none, pH h l b (advN P (fun i => i) 8 τ)) := by
  obtain ⟨h1, h2, h3, h4r, h5, ⟨h6, h7, h8, h9⟩, hgb, hgl⟩ := hF
  have hr : am_at h 1000001 = some (.inl (10, 8, .inl (fun i => nI i))) := h1 1 (by decide) (by decide)
  exact m_advance (d := d) (n := 8) (m := 8) (L := fun i => i) h1 h2 h4 oP oR hm0 (by omega) h9 hf (Or.inr rfl) hr (fun _ _ => rfl) (by omega) (fun i hi => Nat.lt_trans hi (by decide)) (by decide) (by decide)
theorem m_takeNow (hF : FS h v n l b P σ Φ) : am_cal (d + 2) 16 [.ref l, .ref n] h = some (none, pH h l b σ) := by
  obtain ⟨h1, h2, h3, h4, h5, ⟨h6, h7, h8, h9⟩, hgb, hgl⟩ := hF
  exact m_takeR h4 h3 (by omega)
theorem l_behind (hF : FS h v n l b P σ Φ) (oP : OKP P) {m0 : Nat} (oR : OKR P σ m0) (hf : P.1 ≤ 15) {N : Nat} (hN : m0 + N + 1 < 2 ^ 28) : ∀ j t, t + j = N → am_ev (d + 4) 1 13 [some (.ref v), some (.int (nI N)), some (.int (nI t))] [] (pH h l b (behN P σ t)) = some (some (.ref l), pH h l b (behN P σ N)) := by
  intro j
  induction j with
  | zero =>
    intro t htj
    have : t = N := by omega
    subst this
    have hF' := hF.put (behN P σ t)
    obtain ⟨-, k1, -⟩ := hF'.fl
    rw [e_1_13]
    simp only [e_1_0, e_1_1, e_1_4, e_1_5, e_1_8, e_1_11, e_1_12, e_1_14, e_1_15, e_1_18, e_1_19, e_1_22, e_1_25, e_1_27, e_1_30, e_1_33, e_1_36, e_1_37, e_1_40, lg_n, lg_i, lg_r, wd_nil, am_wd_i, am_wd_r, am_wd_l, am_gk_s, am_fld_s, List.getElem?_cons_zero, List.getElem?_cons_succ, am_bk_v, am_bk_n, bo_0, bo_1, am_pk_s, List.length_cons, List.length_nil, Nat.zero_add, List.set_cons_zero, List.set_cons_succ, Nat.reduceAdd, Nat.reduceLeDiff, Nat.reduceLT, nI_leI (show t < 2 ^ 31 by omega) (show t < 2 ^ 31 by omega), Nat.le_refl, if_true, k1]
  | succ j ih =>
    intro t htj
    have hF' := hF.put (behN P σ t)
    obtain ⟨-, k1, -⟩ := hF'.fl
    have ih' := ih (t + 1) (by omega)
    have ha := m_adv8 (d := d) hF' (HouseAt_pH h l b (behN P σ t)) oP (oR.beh oP.1 t) (by omega) hf
    rw [pH_pH] at ha
    rw [e_1_13]
    simp only [e_1_0, e_1_1, e_1_4, e_1_5, e_1_8, e_1_11, e_1_12, e_1_14, e_1_15, e_1_18, e_1_19, e_1_22, e_1_25, e_1_27, e_1_30, e_1_33, e_1_36, e_1_37, e_1_40, lg_n, lg_i, lg_r, wd_nil, am_wd_i, am_wd_r, am_wd_l, am_gk_s, am_fld_s, List.getElem?_cons_zero, List.getElem?_cons_succ, am_bk_v, am_bk_n, bo_0, bo_1, am_pk_s, List.length_cons, List.length_nil, Nat.zero_add, List.set_cons_zero, List.set_cons_succ, Nat.reduceAdd, Nat.reduceLeDiff, Nat.reduceLT, nI_leI (show N < 2 ^ 31 by omega) (show t < 2 ^ 31 by omega), if_neg (show ¬ N ≤ t by omega), k1, is_house (HouseAt_pH h l b (behN P σ t)), ha, nI_1]
    exact ih'
theorem m_houseBehind (hF : FS h v n l b P σ Φ) (oP : OKP P) {m0 : Nat} (oR : OKR P σ m0) (hf : P.1 ≤ 15) {N : Nat} (hN : m0 + N + 1 < 2 ^ 28) : am_cal (d + 5) 1 [.ref v, .int (nI N)] h = some (some (.ref l), pH h l b (behN P σ N)) := by
  refine (b_1 _ _ _).trans ?_; show am_ev _ 1 0 [some (.ref v), some (.int (nI N)), none] [] _ = _
  obtain ⟨k0, k1, -⟩ := hF.fl
  simp only [e_1_0, e_1_1, e_1_4, e_1_5, e_1_8, e_1_11, e_1_12, lg_n, lg_i, lg_r, wd_nil, am_wd_i, am_wd_r, am_wd_l, am_gk_s, am_fld_s, List.getElem?_cons_zero, List.getElem?_cons_succ, am_bk_v, am_bk_n, bo_0, bo_1, am_pk_s, List.length_cons, List.length_nil, Nat.zero_add, List.set_cons_zero, List.set_cons_succ, Nat.reduceAdd, Nat.reduceLeDiff, Nat.reduceLT, k0, k1, is_raw hF.2.2.2.1, m_takeNow hF]
  exact l_behind hF oP oR hf hN N 0 (by omega)
theorem i60 : (60 : Int32) = nI 60 := by decide +kernel
theorem i61 : (61 : Int32) = nI 61 := by decide +kernel
theorem l_arrivalOf (hF : FS h v n l b P σ Φ) (oP : OKP P) {m0 : Nat} (oR : OKR P σ m0) (hf : P.1 ≤ 15) (hm : m0 + 62 < 2 ^ 28) {p : Nat} (hp : p < P.2.2.2.1) : ∀ j t, t + j = 61 → ∃ τ', am_ev (d + 4) 2 13 [some (.ref v), some (.int (nI p)), some (.int (nI t))] [] (pH h l b (behN P σ t)) = some (some (.int (nI (srchN (fun t => (behN P σ t).2.2.1 p == 1) j t))), pH h l b τ') := by
  intro j
  induction j with
  | zero =>
    intro t htj
    have : t = 61 := by omega
    subst this
    refine ⟨behN P σ 61, ?_⟩
    rw [e_2_13]
    simp only [e_2_0, e_2_1, e_2_4, e_2_5, e_2_8, e_2_11, e_2_12, e_2_14, e_2_16, e_2_19, e_2_20, e_2_23, e_2_24, e_2_25, e_2_28, e_2_29, e_2_32, e_2_33, e_2_34, e_2_35, e_2_38, e_2_41, e_2_43, e_2_46, e_2_49, e_2_52, e_2_54, lg_n, lg_i, lg_r, wd_nil, am_wd_i, am_wd_r, am_wd_l, am_gk_s, am_fld_s, List.getElem?_cons_zero, List.getElem?_cons_succ, am_bk_v, am_bk_n, bo_0, bo_1, am_pk_s, List.length_cons, List.length_nil, Nat.zero_add, List.set_cons_zero, List.set_cons_succ, Nat.reduceAdd, Nat.reduceLeDiff, Nat.reduceLT, i60, i61, nI_ltI (show 60 < 2 ^ 31 by omega) (show 61 < 2 ^ 31 by omega), if_true, srchN]
  | succ j ih =>
    intro t htj
    have hF' := hF.put (behN P σ t)
    obtain ⟨-, k1, -⟩ := hF'.fl
    obtain ⟨τ', ih'⟩ := ih (t + 1) (by omega)
    have ha := m_adv8 (d := d) hF' (HouseAt_pH h l b (behN P σ t)) oP (oR.beh oP.1 t) (by omega) hf
    rw [pH_pH] at ha
    have hn := oP.2.2.2.1
    have hpi := nI_toInt (show p < 2 ^ 31 by omega)
    have ht := m_toldOf (d := d + 2) hF'.2.1 (HouseAt_pH h l b (behN P σ t)) hn (nI p) 3
    rw [hpi, if_pos (show (0 : Int) ≤ (p : Int) ∧ (p : Int) < P.2.2.2.1 by omega), if_pos rfl, Int.toNat_natCast] at ht
    by_cases hx : (behN P σ t).2.2.1 p = 1
    · refine ⟨behN P σ t, ?_⟩
      rw [e_2_13]
      simp only [e_2_0, e_2_1, e_2_4, e_2_5, e_2_8, e_2_11, e_2_12, e_2_14, e_2_16, e_2_19, e_2_20, e_2_23, e_2_24, e_2_25, e_2_28, e_2_29, e_2_32, e_2_33, e_2_34, e_2_35, e_2_38, e_2_41, e_2_43, e_2_46, e_2_49, e_2_52, e_2_54, lg_n, lg_i, lg_r, wd_nil, am_wd_i, am_wd_r, am_wd_l, am_gk_s, am_fld_s, List.getElem?_cons_zero, List.getElem?_cons_succ, am_bk_v, am_bk_n, bo_0, bo_1, am_pk_s, List.length_cons, List.length_nil, Nat.zero_add, List.set_cons_zero, List.set_cons_succ, Nat.reduceAdd, Nat.reduceLeDiff, Nat.reduceLT, i60, nI_ltI (show 60 < 2 ^ 31 by omega) (show t < 2 ^ 31 by omega), if_neg (show ¬ 60 < t by omega), k1, is_house (HouseAt_pH h l b (behN P σ t)), ht, sI_2, if_pos hx, srchN]
      simp [hx]
    · refine ⟨τ', ?_⟩
      rw [e_2_13]
      simp only [e_2_0, e_2_1, e_2_4, e_2_5, e_2_8, e_2_11, e_2_12, e_2_14, e_2_16, e_2_19, e_2_20, e_2_23, e_2_24, e_2_25, e_2_28, e_2_29, e_2_32, e_2_33, e_2_34, e_2_35, e_2_38, e_2_41, e_2_43, e_2_46, e_2_49, e_2_52, e_2_54, lg_n, lg_i, lg_r, wd_nil, am_wd_i, am_wd_r, am_wd_l, am_gk_s, am_fld_s, List.getElem?_cons_zero, List.getElem?_cons_succ, am_bk_v, am_bk_n, bo_0, bo_1, am_pk_s, List.length_cons, List.length_nil, Nat.zero_add, List.set_cons_zero, List.set_cons_succ, Nat.reduceAdd, Nat.reduceLeDiff, Nat.reduceLT, i60, nI_ltI (show 60 < 2 ^ 31 by omega) (show t < 2 ^ 31 by omega), if_neg (show ¬ 60 < t by omega), k1, is_house (HouseAt_pH h l b (behN P σ t)), ht, sI_2, if_neg hx, srchN, ha, nI_1]
      refine Eq.trans ih' ?_
      simp [hx]
theorem m_arrivalOf (hF : FS h v n l b P σ Φ) (oP : OKP P) {m0 : Nat} (oR : OKR P σ m0) (hf : P.1 ≤ 15) (hm : m0 + 62 < 2 ^ 28) {p : Nat} (hp : p < P.2.2.2.1) : ∃ τ', am_cal (d + 5) 2 [.ref v, .int (nI p)] h = some (some (.int (nI (srchN (fun t => (behN P σ t).2.2.1 p == 1) 61 0))), pH h l b τ') := by
  obtain ⟨τ', hl⟩ := l_arrivalOf (d := d) hF oP oR hf hm hp 61 0 (by omega)
  refine ⟨τ', ?_⟩
  refine (b_2 _ _ _).trans ?_; show am_ev _ 2 0 [some (.ref v), some (.int (nI p)), none] [] _ = _
  obtain ⟨k0, k1, -⟩ := hF.fl
  simp only [e_2_0, e_2_1, e_2_4, e_2_5, e_2_8, e_2_11, e_2_12, lg_n, lg_i, lg_r, wd_nil, am_wd_i, am_wd_r, am_wd_l, am_gk_s, am_fld_s, List.getElem?_cons_zero, List.getElem?_cons_succ, am_bk_v, am_bk_n, bo_0, bo_1, am_pk_s, List.length_cons, List.length_nil, Nat.zero_add, List.set_cons_zero, List.set_cons_succ, Nat.reduceAdd, Nat.reduceLeDiff, Nat.reduceLT, k0, k1, is_raw hF.2.2.2.1, m_takeNow hF]
  exact hl
end FO
