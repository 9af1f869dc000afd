/-! looking ahead: the last, meetings, chances -/
def missN (P : Pn) (σ : Hn) : Nat := P.2.2.2.1 - cntN (fun p => σ.2.2.1 p == 1) P.2.2.2.1
section FO
variable {d : Nat} {h : am_H} {v n l b : Nat} {P : Pn} {σ τ : Hn} {Φ : Fo}
theorem l_lastArrival (hF : FS h v n l b P σ Φ) {σ' : Hn} (oP : OKP P) {m0 : Nat} (oR : OKR P σ' m0) (hf : P.1 ≤ 15) (hm : m0 + 62 < 2 ^ 28) {z : Int32} : ∀ j t, t + j = 61 → ∃ τ', am_ev (d + 4) 3 21 [some (.ref v), some (.int z), some (.int (nI t))] [] (pH h l b (behN P σ' t)) = some (some (.int (nI (srchN (fun t => missN P (behN P σ' t) == 0) j t))), pH h l b τ') := by
  intro j
  induction j with
  | zero =>
    intro t htj
    have : t = 61 := by omega
    subst this
    refine ⟨behN P σ' 61, ?_⟩
    rw [e_3_21]
    simp only [e_3_0, e_3_1, e_3_4, e_3_5, e_3_8, e_3_11, e_3_12, e_3_15, e_3_16, e_3_19, e_3_20, e_3_22, e_3_24, e_3_27, e_3_28, e_3_31, e_3_34, e_3_37, e_3_38, e_3_39, e_3_40, e_3_43, e_3_46, e_3_48, e_3_51, e_3_54, e_3_57, e_3_59, lg_n, lg_i, lg_r, wd_nil, am_wd_i, am_wd_r, am_wd_l, am_gk_s, am_fld_s, List.getElem?_cons_zero, List.getElem?_cons_succ, am_bk_v, am_bk_n, bo_0, bo_1, am_pk_s, List.length_cons, List.length_nil, Nat.zero_add, List.set_cons_zero, List.set_cons_succ, Nat.reduceAdd, Nat.reduceLeDiff, Nat.reduceLT, i60, i61, nI_ltI (show 60 < 2 ^ 31 by omega) (show 61 < 2 ^ 31 by omega), if_true, srchN]
  | succ j ih =>
    intro t htj
    have hF' := hF.put (behN P σ' t)
    obtain ⟨-, k1, -⟩ := hF'.fl
    obtain ⟨τ', ih'⟩ := ih (t + 1) (by omega)
    have ha := m_adv8 (d := d) hF' (HouseAt_pH h l b (behN P σ' t)) oP (oR.beh oP.1 t) (by omega) hf
    rw [pH_pH] at ha
    have hn := oP.2.2.2.1
    have ht := m_notThere (d := d + 2) hF'.2.1 (HouseAt_pH h l b (behN P σ' t)) hn
    rw [show P.2.2.2.1 - cntN (fun p => (behN P σ' t).2.2.1 p == 1) P.2.2.2.1 = missN P (behN P σ' t) from rfl] at ht
    have hmi : missN P (behN P σ' t) < 2 ^ 31 := by unfold missN; omega
    by_cases hx : missN P (behN P σ' t) = 0
    · refine ⟨behN P σ' t, ?_⟩
      rw [e_3_21]
      simp only [e_3_0, e_3_1, e_3_4, e_3_5, e_3_8, e_3_11, e_3_12, e_3_15, e_3_16, e_3_19, e_3_20, e_3_22, e_3_24, e_3_27, e_3_28, e_3_31, e_3_34, e_3_37, e_3_38, e_3_39, e_3_40, e_3_43, e_3_46, e_3_48, e_3_51, e_3_54, e_3_57, e_3_59, lg_n, lg_i, lg_r, wd_nil, am_wd_i, am_wd_r, am_wd_l, am_gk_s, am_fld_s, List.getElem?_cons_zero, List.getElem?_cons_succ, am_bk_v, am_bk_n, bo_0, bo_1, am_pk_s, List.length_cons, List.length_nil, Nat.zero_add, List.set_cons_zero, List.set_cons_succ, Nat.reduceAdd, Nat.reduceLeDiff, Nat.reduceLT, i60, nI_ltI (show 60 < 2 ^ 31 by omega) (show t < 2 ^ 31 by omega), if_neg (show ¬ 60 < t by omega), k1, is_house (HouseAt_pH h l b (behN P σ' t)), ht, z_nI hmi, if_pos hx, srchN]
      simp [hx]
    · refine ⟨τ', ?_⟩
      rw [e_3_21]
      simp only [e_3_0, e_3_1, e_3_4, e_3_5, e_3_8, e_3_11, e_3_12, e_3_15, e_3_16, e_3_19, e_3_20, e_3_22, e_3_24, e_3_27, e_3_28, e_3_31, e_3_34, e_3_37, e_3_38, e_3_39, e_3_40, e_3_43, e_3_46, e_3_48, e_3_51, e_3_54, e_3_57, e_3_59, lg_n, lg_i, lg_r, wd_nil, am_wd_i, am_wd_r, am_wd_l, am_gk_s, am_fld_s, List.getElem?_cons_zero, List.getElem?_cons_succ, am_bk_v, am_bk_n, bo_0, bo_1, am_pk_s, List.length_cons, List.length_nil, Nat.zero_add, List.set_cons_zero, List.set_cons_succ, Nat.reduceAdd, Nat.reduceLeDiff, Nat.reduceLT, i60, nI_ltI (show 60 < 2 ^ 31 by omega) (show t < 2 ^ 31 by omega), if_neg (show ¬ 60 < t by omega), k1, is_house (HouseAt_pH h l b (behN P σ' t)), ht, z_nI hmi, if_neg hx, srchN, ha, nI_1]
      refine Eq.trans ih' ?_
      simp [hx]
theorem m_lastArrival (hF : FS h v n l b P σ Φ) (oP : OKP P) {m0 : Nat} (oR : OKR P σ m0) (hf : P.1 ≤ 15) (hm : m0 + 62 < 2 ^ 28) (S : Nat) : ∃ τ', am_cal (d + 5) 3 [.ref v, .int (nI S)] h = some (some (.int (nI (srchN (fun t => missN P (behN P (σ.1, S, σ.2.2) t) == 0) 61 0))), pH h l b τ') := by
  have hF' := hF.put σ
  have hF'' := hF.put (σ.1, S, σ.2.2)
  have oR' : OKR P (σ.1, S, σ.2.2) m0 := oR
  obtain ⟨τ', hl⟩ := l_lastArrival (d := d) hF (σ' := (σ.1, S, σ.2.2)) oP oR' hf hm (z := nI S) 61 0 (by omega)
  refine ⟨τ', ?_⟩
  refine (b_3 _ _ _).trans ?_; show am_ev _ 3 0 [some (.ref v), some (.int (nI S)), none] [] _ = _
  obtain ⟨k0, k1, -⟩ := hF.fl
  obtain ⟨k0', k1', -⟩ := hF'.fl
  have e0 := (HouseAt_pH h l b σ).1
  unfold house0 at e0
  have e1 := set_hd (HouseAt_pH h l b σ) σ.1 S
  rw [pH_pH] at e1
  simp only [e_3_0, e_3_1, e_3_4, e_3_5, e_3_8, e_3_11, e_3_12, e_3_15, e_3_16, e_3_19, e_3_20, lg_n, lg_i, lg_r, wd_nil, am_wd_i, am_wd_r, am_wd_l, am_gk_s, am_fld_s, List.getElem?_cons_zero, List.getElem?_cons_succ, am_bk_v, am_bk_n, bo_0, bo_1, am_pk_s, List.length_cons, List.length_nil, Nat.zero_add, List.set_cons_zero, List.set_cons_succ, Nat.reduceAdd, Nat.reduceLeDiff, Nat.reduceLT, k0, k1, k1', is_raw hF.2.2.2.1, m_takeNow hF, e0, e1]
  exact hl
theorem l_firstMeeting (hF : FS h v n l b P σ Φ) (oP : OKP P) {m0 : Nat} (oR : OKR P σ m0) (hf : P.1 ≤ 15) (hm : m0 + 62 < 2 ^ 28) {p q : Nat} (hp : p < P.2.2.2.1) (hq : q < P.2.2.2.1) : ∀ j t, t + j = 61 → ∀ z, ∃ τ', am_ev (d + 4) 4 13 [some (.ref v), some (.int (nI p)), some (.int (nI q)), some (.int (nI t)), z] [] (pH h l b (behN P σ t)) = some (some (.int (nI (srchN (fun t => decide (2 ≤ (behN P σ t).2.2.1 p ∧ (behN P σ t).2.2.1 p = (behN P σ t).2.2.1 q)) j t))), pH h l b τ') := by
  intro j
  induction j with
  | zero =>
    intro t htj z
    have : t = 61 := by omega
    subst this
    refine ⟨behN P σ 61, ?_⟩
    rw [e_4_13]
    simp only [e_4_0, e_4_1, e_4_4, e_4_5, e_4_8, e_4_11, e_4_12, e_4_14, e_4_16, e_4_19, e_4_20, e_4_23, e_4_24, e_4_25, e_4_28, e_4_30, e_4_32, e_4_35, e_4_37, e_4_38, e_4_41, e_4_42, e_4_43, e_4_46, e_4_49, e_4_50, e_4_51, e_4_52, e_4_55, e_4_58, e_4_60, e_4_63, e_4_66, e_4_69, e_4_71, lg_n, lg_i, lg_r, wd_nil, am_wd_i, am_wd_r, am_wd_l, am_gk_s, am_fld_s, List.getElem?_cons_zero, List.getElem?_cons_succ, am_bk_v, am_bk_n, bo_0, bo_1, am_pk_s, List.length_cons, List.length_nil, Nat.zero_add, List.set_cons_zero, List.set_cons_succ, Nat.reduceAdd, Nat.reduceLeDiff, Nat.reduceLT, i60, i61, nI_ltI (show 60 < 2 ^ 31 by omega) (show 61 < 2 ^ 31 by omega), if_true, srchN]
  | succ j ih =>
    intro t htj z
    have hF' := hF.put (behN P σ t)
    obtain ⟨-, k1, -⟩ := hF'.fl
    obtain ⟨τ', ih'⟩ := ih (t + 1) (by omega) (some (.int (cI ((behN P σ t).2.2.1 p))))
    have oRt := oR.beh oP.1 t
    have ha := m_adv8 (d := d) hF' (HouseAt_pH h l b (behN P σ t)) oP oRt (by omega) hf
    rw [pH_pH] at ha
    have hn := oP.2.2.2.1
    have hpi := nI_toInt (show p < 2 ^ 31 by omega)
    have hqi := nI_toInt (show q < 2 ^ 31 by omega)
    have ht := m_toldOf (d := d + 2) hF'.2.1 (HouseAt_pH h l b (behN P σ t)) hn (nI p) 4
    rw [hpi, if_pos (show (0 : Int) ≤ (p : Int) ∧ (p : Int) < P.2.2.2.1 by omega), if_neg (by decide), if_pos rfl, Int.toNat_natCast] at ht
    have hu := m_toldOf (d := d + 2) hF'.2.1 (HouseAt_pH h l b (behN P σ t)) hn (nI q) 4
    rw [hqi, if_pos (show (0 : Int) ≤ (q : Int) ∧ (q : Int) < P.2.2.2.1 by omega), if_neg (by decide), if_pos rfl, Int.toNat_natCast] at hu
    have bp := (oRt.2 p (by omega)).1
    have bq := (oRt.2 q (by omega)).1
    have c1 : cI ((behN P σ t).2.2.1 p) < 0 ↔ (behN P σ t).2.2.1 p < 2 := by
      unfold cI
      by_cases h2 : (behN P σ t).2.2.1 p < 2
      · rw [if_pos h2]; exact ⟨fun _ => h2, fun _ => by decide⟩
      · rw [if_neg h2, i_lt, nI_toInt (by omega), i_0]; omega
    have c2 : ¬ (behN P σ t).2.2.1 p < 2 → (cI ((behN P σ t).2.2.1 p) = cI ((behN P σ t).2.2.1 q) ↔ (behN P σ t).2.2.1 p = (behN P σ t).2.2.1 q) := by
      intro h2
      rw [show cI ((behN P σ t).2.2.1 p) = nI ((behN P σ t).2.2.1 p - 2) by unfold cI; rw [if_neg h2]]
      rw [eq_comm, cI_eq (by omega) (by omega)]
      omega
    by_cases h2 : (behN P σ t).2.2.1 p < 2
    · refine ⟨τ', ?_⟩
      rw [e_4_13]
      simp only [e_4_0, e_4_1, e_4_4, e_4_5, e_4_8, e_4_11, e_4_12, e_4_14, e_4_16, e_4_19, e_4_20, e_4_23, e_4_24, e_4_25, e_4_28, e_4_30, e_4_32, e_4_35, e_4_37, e_4_38, e_4_41, e_4_42, e_4_43, e_4_46, e_4_49, e_4_50, e_4_51, e_4_52, e_4_55, e_4_58, e_4_60, e_4_63, e_4_66, e_4_69, e_4_71, lg_n, lg_i, lg_r, wd_nil, am_wd_i, am_wd_r, am_wd_l, am_gk_s, am_fld_s, List.getElem?_cons_zero, List.getElem?_cons_succ, am_bk_v, am_bk_n, bo_0, bo_1, am_pk_s, List.length_cons, List.length_nil, Nat.zero_add, List.set_cons_zero, List.set_cons_succ, Nat.reduceAdd, Nat.reduceLeDiff, Nat.reduceLT, i60, nI_ltI (show 60 < 2 ^ 31 by omega) (show t < 2 ^ 31 by omega), if_neg (show ¬ 60 < t by omega), k1, is_house (HouseAt_pH h l b (behN P σ t)), ht, c1, if_pos h2, srchN, ha, nI_1]
      refine Eq.trans ih' ?_
      rw [if_neg (by simp only [decide_eq_true_eq]; omega)]
    · have c2' := c2 h2
      by_cases hx : (behN P σ t).2.2.1 p = (behN P σ t).2.2.1 q
      · refine ⟨behN P σ t, ?_⟩
        rw [e_4_13]
        simp only [e_4_0, e_4_1, e_4_4, e_4_5, e_4_8, e_4_11, e_4_12, e_4_14, e_4_16, e_4_19, e_4_20, e_4_23, e_4_24, e_4_25, e_4_28, e_4_30, e_4_32, e_4_35, e_4_37, e_4_38, e_4_41, e_4_42, e_4_43, e_4_46, e_4_49, e_4_50, e_4_51, e_4_52, e_4_55, e_4_58, e_4_60, e_4_63, e_4_66, e_4_69, e_4_71, lg_n, lg_i, lg_r, wd_nil, am_wd_i, am_wd_r, am_wd_l, am_gk_s, am_fld_s, List.getElem?_cons_zero, List.getElem?_cons_succ, am_bk_v, am_bk_n, bo_0, bo_1, am_pk_s, List.length_cons, List.length_nil, Nat.zero_add, List.set_cons_zero, List.set_cons_succ, Nat.reduceAdd, Nat.reduceLeDiff, Nat.reduceLT, i60, nI_ltI (show 60 < 2 ^ 31 by omega) (show t < 2 ^ 31 by omega), if_neg (show ¬ 60 < t by omega), k1, is_house (HouseAt_pH h l b (behN P σ t)), ht, hu, c1, if_neg h2, c2', if_pos hx, srchN]
        rw [if_pos (by simp only [decide_eq_true_eq]; omega)]
      · refine ⟨τ', ?_⟩
        rw [e_4_13]
        simp only [e_4_0, e_4_1, e_4_4, e_4_5, e_4_8, e_4_11, e_4_12, e_4_14, e_4_16, e_4_19, e_4_20, e_4_23, e_4_24, e_4_25, e_4_28, e_4_30, e_4_32, e_4_35, e_4_37, e_4_38, e_4_41, e_4_42, e_4_43, e_4_46, e_4_49, e_4_50, e_4_51, e_4_52, e_4_55, e_4_58, e_4_60, e_4_63, e_4_66, e_4_69, e_4_71, lg_n, lg_i, lg_r, wd_nil, am_wd_i, am_wd_r, am_wd_l, am_gk_s, am_fld_s, List.getElem?_cons_zero, List.getElem?_cons_succ, am_bk_v, am_bk_n, bo_0, bo_1, am_pk_s, List.length_cons, List.length_nil, Nat.zero_add, List.set_cons_zero, List.set_cons_succ, Nat.reduceAdd, Nat.reduceLeDiff, Nat.reduceLT, i60, nI_ltI (show 60 < 2 ^ 31 by omega) (show t < 2 ^ 31 by omega), if_neg (show ¬ 60 < t by omega), k1, is_house (HouseAt_pH h l b (behN P σ t)), ht, hu, c1, if_neg h2, c2', if_neg hx, srchN, ha, nI_1]
        refine Eq.trans ih' ?_
        rw [if_neg (by simp only [decide_eq_true_eq]; omega)]
theorem m_firstMeeting (hF : FS h v n l b P σ Φ) (oP : OKP P) {m0 : Nat} (oR : OKR P σ m0) (hf : P.1 ≤ 15) (hm : m0 + 62 < 2 ^ 28) {p q : Nat} (hp : p < P.2.2.2.1) (hq : q < P.2.2.2.1) : ∃ τ', am_cal (d + 5) 4 [.ref v, .int (nI p), .int (nI q)] h = some (some (.int (nI (srchN (fun t => decide (2 ≤ (behN P σ t).2.2.1 p ∧ (behN P σ t).2.2.1 p = (behN P σ t).2.2.1 q)) 61 0))), pH h l b τ') := by
  obtain ⟨τ', hl⟩ := l_firstMeeting (d := d) hF oP oR hf hm hp hq 61 0 (by omega) none
  refine ⟨τ', ?_⟩
  refine (b_4 _ _ _).trans ?_; show am_ev _ 4 0 [some (.ref v), some (.int (nI p)), some (.int (nI q)), none, none] [] _ = _
  obtain ⟨k0, k1, -⟩ := hF.fl
  simp only [e_4_0, e_4_1, e_4_4, e_4_5, e_4_8, e_4_11, e_4_12, lg_n, lg_i, lg_r, wd_nil, am_wd_i, am_wd_r, am_wd_l, am_gk_s, am_fld_s, List.getElem?_cons_zero, List.getElem?_cons_succ, am_bk_v, am_bk_n, bo_0, bo_1, am_pk_s, List.length_cons, List.length_nil, Nat.zero_add, List.set_cons_zero, List.set_cons_succ, Nat.reduceAdd, Nat.reduceLeDiff, Nat.reduceLT, k0, k1, is_raw hF.2.2.2.1, m_takeNow hF]
  exact hl
/-- who is alone with his own wish -/
def aloneN (σ : Hn) (p : Nat) : Hn := (σ.1, σ.2.1, (fun q => if q = p then 0 else 1), (fun _ => 0))
def alongN (P : Pn) (σ : Hn) : Nat → Hn
  | 0 => σ
  | t + 1 => advN P (fun i => i) 0 (alongN P σ t)
def chanN (P : Pn) (σ : Hn) (p : Nat) : Nat → Nat
  | 0 => 0
  | t + 1 => chanN P σ p t + (if choiceN P (alongN P σ (t + 1)) p = 0 then 0 else 1)
theorem chanN_le (P : Pn) (σ : Hn) (p : Nat) : ∀ t, chanN P σ p t ≤ t
  | 0 => Nat.le_refl _
  | t + 1 => by have := chanN_le P σ p t; unfold chanN; split <;> omega
theorem OKR.along {P : Pn} {σ : Hn} {m : Nat} (h : OKR P σ m) (hf : 1 ≤ P.1) : ∀ t, OKR P (alongN P σ t) (m + t)
  | 0 => h
  | t + 1 => (OKR.along h hf t).adv hf 0
theorem l_chances (hF : FS h v n l b P σ Φ) {σ' : Hn} (oP : OKP P) {m0 : Nat} (oR : OKR P σ' m0) (hf : P.1 ≤ 15) {N p : Nat} (hm : m0 + N + 1 < 2 ^ 28) (hp : p < P.2.2.2.1) : ∀ j t, t + j = N → am_ev (d + 4) 6 24 [some (.ref v), some (.int (nI p)), some (.int (nI N)), some (.int (nI (chanN P σ' p t))), some (.int (nI t))] [] (pH h l b (alongN P σ' t)) = some (some (.int (nI (chanN P σ' p N))), pH h l b (alongN P σ' N)) := by
  intro j
  induction j with
  | zero =>
    intro t htj
    have : t = N := by omega
    subst this
    rw [e_6_24]
    simp only [e_6_0, e_6_1, e_6_4, e_6_5, e_6_8, e_6_11, e_6_12, e_6_15, e_6_16, e_6_19, e_6_20, e_6_21, e_6_22, e_6_26, e_6_27, e_6_30, e_6_31, e_6_34, e_6_35, e_6_38, e_6_39, e_6_42, e_6_43, e_6_46, e_6_47, e_6_50, e_6_51, e_6_54, e_6_57, e_6_60, e_6_63, e_6_64, lg_n, lg_i, lg_r, wd_nil, am_wd_i, am_wd_r, am_wd_l, am_gk_s, am_fld_s, List.getElem?_cons_zero, List.getElem?_cons_succ, am_bk_v, am_bk_n, bo_0, bo_1, am_pk_s, List.length_cons, List.length_nil, Nat.zero_add, List.set_cons_zero, List.set_cons_succ, Nat.reduceAdd, Nat.reduceLeDiff, Nat.reduceLT, nI_leI (show t < 2 ^ 31 by omega) (show t < 2 ^ 31 by omega), Nat.le_refl, if_true]
  | succ j ih =>
    intro t htj
    have ih' := ih (t + 1) (by omega)
    have hF' := hF.put (alongN P σ' t)
    have hF2 := hF.put (alongN P σ' (t + 1))
    obtain ⟨-, k1, -, k3, -⟩ := hF'.fl
    obtain ⟨-, k1', -⟩ := hF2.fl
    have oRt := oR.along oP.1 t
    have oRt2 := oR.along oP.1 (t + 1)
    have hn := oP.2.2.2.1
    obtain ⟨f1, f2, f3, -, f5, ⟨f6, f7, f8, f9⟩, hgb, hgl⟩ := hF'
    have f4 := HouseAt_pH h l b (alongN P σ' t)
    have f42 := HouseAt_pH h l b (alongN P σ' (t + 1))
    have ha := m_advance (d := d) (n := 0) (m := 6) (l := v + 2) (L := fun i => i) f1 f2 f4 oP oRt (by omega) (by omega) f9 hf (Or.inl rfl) hgl (fun i hi => absurd hi (Nat.not_lt_zero i)) (by omega) (fun i hi => absurd hi (Nat.not_lt_zero i)) (by decide) (by decide)
    rw [pH_pH, nI_0] at ha
    have hc := m_choiceOf (d := d + 1) hF2.1 hF2.2.1 f42 oP (oRt2.ok (by omega) oP.2.1) hf (show p < 2 ^ 20 by omega)
    have ha' : am_cal (d + 4) 29 [.ref l, .ref (v + 2), .int 0] (pH h l b (alongN P σ' t)) = some (none, pH h l b (alongN P σ' (t + 1))) := ha
    have hcI : cI (choiceN P (alongN P σ' (t + 1)) p + 1) = -1 ↔ choiceN P (alongN P σ' (t + 1)) p = 0 := by
      have := choiceN_le (P := P) (σ := alongN P σ' (t + 1)) (p := p) oP.1
      have := oP.2.1
      unfold cI
      by_cases h0 : choiceN P (alongN P σ' (t + 1)) p = 0
      · simp [h0]
      · rw [if_neg (by omega), i_eq, nI_toInt (by omega), i_m1]
        omega
    rw [e_6_24]
    simp only [e_6_0, e_6_1, e_6_4, e_6_5, e_6_8, e_6_11, e_6_12, e_6_15, e_6_16, e_6_19, e_6_20, e_6_21, e_6_22, e_6_26, e_6_27, e_6_30, e_6_31, e_6_34, e_6_35, e_6_38, e_6_39, e_6_42, e_6_43, e_6_46, e_6_47, e_6_50, e_6_51, e_6_54, e_6_57, e_6_60, e_6_63, e_6_64, lg_n, lg_i, lg_r, wd_nil, am_wd_i, am_wd_r, am_wd_l, am_gk_s, am_fld_s, List.getElem?_cons_zero, List.getElem?_cons_succ, am_bk_v, am_bk_n, bo_0, bo_1, am_pk_s, List.length_cons, List.length_nil, Nat.zero_add, List.set_cons_zero, List.set_cons_succ, Nat.reduceAdd, Nat.reduceLeDiff, Nat.reduceLT, nI_leI (show N < 2 ^ 31 by omega) (show t < 2 ^ 31 by omega), if_neg (show ¬ N ≤ t by omega), k1, k3, k1', is_house f4, is_house f42, ha', hc, hcI, nI_1]
    rw [chanN] at ih'
    by_cases h0 : choiceN P (alongN P σ' (t + 1)) p = 0
    · rw [if_pos h0] at ih' ⊢
      exact ih'
    · rw [if_neg h0] at ih' ⊢
      exact ih'
theorem m_chances (hF : FS h v n l b P σ Φ) (oP : OKP P) {m0 : Nat} (oR : OKR P σ m0) (hf : P.1 ≤ 15) {N p : Nat} (hm : m0 + N + 1 < 2 ^ 28) (hp : p < P.2.2.2.1) : ∃ τ', am_cal (d + 5) 6 [.ref v, .int (nI p), .int (nI N)] h = some (some (.int (nI (chanN P (aloneN σ p) p N))), pH h l b τ') := by
  refine ⟨alongN P (aloneN σ p) N, ?_⟩
  · refine (b_6 _ _ _).trans ?_; show am_ev _ 6 0 [some (.ref v), some (.int (nI p)), some (.int (nI N)), none, none] [] _ = _
    obtain ⟨k0, k1, -⟩ := hF.fl
    have hF' := hF.put σ
    obtain ⟨k0', k1', -⟩ := hF'.fl
    have hn := oP.2.2.2.1
    have hl := m_leaveAlone (d := d + 2) (HouseAt_pH h l b σ) (show p < 2 ^ 31 by omega)
    rw [pH_pH] at hl
    simp only [e_6_0, e_6_1, e_6_4, e_6_5, e_6_8, e_6_11, e_6_12, e_6_15, e_6_16, e_6_19, e_6_20, e_6_21, e_6_22, lg_n, lg_i, lg_r, wd_nil, am_wd_i, am_wd_r, am_wd_l, am_gk_s, am_fld_s, List.getElem?_cons_zero, List.getElem?_cons_succ, am_bk_v, am_bk_n, bo_0, bo_1, am_pk_s, List.length_cons, List.length_nil, Nat.zero_add, List.set_cons_zero, List.set_cons_succ, Nat.reduceAdd, Nat.reduceLeDiff, Nat.reduceLT, k0, k1, k1', is_raw hF.2.2.2.1, is_house (HouseAt_pH h l b σ), m_takeNow hF, hl]
    have oR' : OKR P (aloneN σ p) m0 := ⟨oR.1, fun q hq => by unfold aloneN; simp only; constructor; (split <;> omega); omega⟩
    exact l_chances hF oP oR' hf hm hp N 0 (by omega)
end FO
