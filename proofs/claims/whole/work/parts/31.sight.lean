/-! sightings -/
section RB
variable {d : Nat} {h : am_H} {a b : Nat} {P : Pn}
theorem l_beginR {s t : Int32} {f g r : Nat → Int32} : ∀ j i, i + j = 8 → am_ev (d + 1) 15 18 [some (.ref a), some (.int (nI i))] [] (rH h a b s t (fun p => if p < i then 0 else f p) (fun p => if p < i then -1 else g p) (fun p => if p < i then 0 else r p)) = some (none, rH h a b s t (fun p => if p < 8 then 0 else f p) (fun p => if p < 8 then -1 else g p) (fun p => if p < 8 then 0 else r p)) := by
  intro j
  have e8 : (8 : Int32) = nI 8 := by decide +kernel
  induction j with
  | zero =>
    intro i hij
    have : i = 8 := by omega
    subst this
    rw [e_15_18]
    simp only [e_15_0, e_15_1, e_15_2, e_15_5, e_15_6, e_15_7, e_15_10, e_15_13, e_15_16, e_15_17, e_15_19, e_15_21, e_15_24, e_15_25, e_15_26, e_15_27, e_15_28, e_15_31, e_15_34, e_15_37, lg_n, lg_i, lg_r, wd_nil, am_wd_i, am_wd_r, am_wd_l, am_gk_s, am_fld_s, List.getElem?_cons_zero, List.getElem?_cons_succ, am_bk_v, am_bk_n, bo_0, bo_1, am_pk_s, List.length_cons, List.length_nil, Nat.zero_add, List.set_cons_zero, List.set_cons_succ, Nat.reduceAdd, Nat.reduceLeDiff, Nat.reduceLT, e8, nI_leI (show 8 < 2 ^ 31 by omega) (show 8 < 2 ^ 31 by omega), Nat.le_refl, if_true]
  | succ j ih =>
    intro i hij
    have ih' := ih (i + 1) (by omega)
    have hpu := r_put (d := d) (h := h) (a := a) (b := b) (s := s) (t := t) (f := fun p => if p < i then 0 else f p) (g := fun p => if p < i then -1 else g p) (r := fun p => if p < i then 0 else r p) (show i < 8 by omega) 0 (-1)
    have e1 : ∀ (x : Nat → Int32) (c : Int32), upd (fun p => if p < i then c else x p) i c = fun p => if p < i + 1 then c else x p := by
      intro x c
      funext q
      unfold upd
      by_cases hq : q = i
      · subst hq; simp
      · have : q < i + 1 ↔ q < i := by omega
        simp only [if_neg hq, this]
    rw [e1, e1, e1] at hpu
    rw [e_15_18]
    simp only [e_15_0, e_15_1, e_15_2, e_15_5, e_15_6, e_15_7, e_15_10, e_15_13, e_15_16, e_15_17, e_15_19, e_15_21, e_15_24, e_15_25, e_15_26, e_15_27, e_15_28, e_15_31, e_15_34, e_15_37, lg_n, lg_i, lg_r, wd_nil, am_wd_i, am_wd_r, am_wd_l, am_gk_s, am_fld_s, List.getElem?_cons_zero, List.getElem?_cons_succ, am_bk_v, am_bk_n, bo_0, bo_1, am_pk_s, List.length_cons, List.length_nil, Nat.zero_add, List.set_cons_zero, List.set_cons_succ, Nat.reduceAdd, Nat.reduceLeDiff, Nat.reduceLT, e8, nI_leI (show 8 < 2 ^ 31 by omega) (show i < 2 ^ 31 by omega), if_neg (show ¬ 8 ≤ i by omega), at_rH0, is_c, hpu, nI_1]
    exact ih'
theorem m_beginR (hp : PlanAt h b P) (hr : RawAt h a b) (hab : b + 3 < a) : am_cal (d + 2) 15 [.ref a] h = some (none, pH h a b (0, P.2.2.1, (fun _ => 0), (fun _ => 0))) := by
  obtain ⟨s, t, f, g, r, h0, h1, h2, h3⟩ := hr
  have key : am_cal (d + 2) 15 [.ref a] (rH h a b s t f g r) = some (none, pH h a b (0, P.2.2.1, (fun _ => 0), (fun _ => 0))) := by
    refine (b_15 _ _ _).trans ?_; show am_ev _ 15 0 [some (.ref a), none] [] _ = _
    obtain ⟨-, -, f2, -⟩ := fl_plan hp
    have f2' : ∀ (s t : Int32), am_fld (am_at (rH h a b s t f g r) b) 4 2 = some (.int (nI P.2.2.1)) := fun s t => by rw [at_rHn (by omega)]; exact f2
    simp only [e_15_0, e_15_1, e_15_2, e_15_5, e_15_6, e_15_7, e_15_10, e_15_13, e_15_16, e_15_17, lg_n, lg_i, lg_r, wd_nil, am_wd_i, am_wd_r, am_wd_l, am_gk_s, am_fld_s, List.getElem?_cons_zero, List.getElem?_cons_succ, am_bk_v, am_bk_n, bo_0, bo_1, am_pk_s, List.length_cons, List.length_nil, Nat.zero_add, List.set_cons_zero, List.set_cons_succ, Nat.reduceAdd, Nat.reduceLeDiff, Nat.reduceLT, at_rH0, rH_s0, f2']
    have := l_beginR (d := d) (h := h) (a := a) (b := b) (s := 0) (t := nI P.2.2.1) (f := f) (g := g) (r := r) 8 0 (by omega)
    simp only [Nat.not_lt_zero, if_false] at this
    refine Eq.trans this ?_
    unfold pH rH house0
    rw [AI_cong (f := fun p => if p < 8 then 0 else f p) (g := fun p => sI 0) (fun p hp => by simp [hp, sI]), AI_cong (f := fun p => if p < 8 then -1 else g p) (g := fun p => cI 0) (fun p hp => by simp [hp, cI]), AI_cong (f := fun p => if p < 8 then 0 else r p) (g := fun p => nI 0) (fun p hp => by simp [hp, nI_0])]
    rfl
  rw [rH_self h0 h1 h2 h3] at key
  exact key
end RB
/-- one alone in an open house: where, and how long one has ridden -/
def oneN (f k a b : Nat) : Nat → Nat × Nat
  | 0 => (0, 0)
  | t + 1 => if (oneN f k a b t).1 = 0 then (cabA f (t + 1) (if k = 3 ∨ a < b then a else 2 * f - 1 - a) + 2, 0)
    else if (oneN f k a b t).1 = 1 then oneN f k a b t
    else if (k ≠ 3 ∨ 2 * f ≤ (oneN f k a b t).2 + 1) ∧ flr f (plc f (t + 1) ((oneN f k a b t).1 - 2)) = b then (1, (oneN f k a b t).2 + 1)
    else ((oneN f k a b t).1, (oneN f k a b t).2 + 1)
def solN (P : Pn) (σ : Hn) : Nat → Hn
  | 0 => σ
  | t + 1 => advN P (fun i => i) 1 (solN P σ t)
theorem OKR.sol {P : Pn} {σ : Hn} {m : Nat} (h : OKR P σ m) (hf : 1 ≤ P.1) : ∀ t, OKR P (solN P σ t) (m + t)
  | 0 => h
  | t + 1 => (OKR.sol h hf t).adv hf 1
theorem solN_eq {f k a b : Nat} {K F T : Nat → Nat} (hk : K 0 = k) (hF : F 0 = a) (hT : T 0 = b) : ∀ t, (solN (f, 4, 0, 1, K, F, T) (0, 0, (fun _ => 0), (fun _ => 0)) t).1 = t ∧ (solN (f, 4, 0, 1, K, F, T) (0, 0, (fun _ => 0), (fun _ => 0)) t).2.1 = 0 ∧ (solN (f, 4, 0, 1, K, F, T) (0, 0, (fun _ => 0), (fun _ => 0)) t).2.2.1 0 = (oneN f k a b t).1 ∧ (solN (f, 4, 0, 1, K, F, T) (0, 0, (fun _ => 0), (fun _ => 0)) t).2.2.2 0 = (oneN f k a b t).2 := by
  intro t
  induction t with
  | zero => exact ⟨rfl, rfl, rfl, rfl⟩
  | succ t ih =>
    obtain ⟨i1, i2, i3, i4⟩ := ih
    have hst : solN (f, 4, 0, 1, K, F, T) (0, 0, (fun _ => 0), (fun _ => 0)) (t + 1) = advN (f, 4, 0, 1, K, F, T) (fun i => i) 1 (solN (f, 4, 0, 1, K, F, T) (0, 0, (fun _ => 0), (fun _ => 0)) t) := rfl
    have hon : oneN f k a b (t + 1) = if (oneN f k a b t).1 = 0 then (cabA f (t + 1) (if k = 3 ∨ a < b then a else 2 * f - 1 - a) + 2, 0)
      else if (oneN f k a b t).1 = 1 then oneN f k a b t
      else if (k ≠ 3 ∨ 2 * f ≤ (oneN f k a b t).2 + 1) ∧ flr f (plc f (t + 1) ((oneN f k a b t).1 - 2)) = b then (1, (oneN f k a b t).2 + 1)
      else ((oneN f k a b t).1, (oneN f k a b t).2 + 1) := rfl
    rw [hst, hon]
    generalize solN (f, 4, 0, 1, K, F, T) (0, 0, (fun _ => 0), (fun _ => 0)) t = σ at *
    rw [← i3, ← i4]
    obtain ⟨s, S, x, y⟩ := σ
    simp only at i1 i2 i3 i4 ⊢
    subst i1; subst i2
    have hadv : advN (f, 4, 0, 1, K, F, T) (fun i => i) 1 (s, 0, x, y) = lookN1 (f, 4, 0, 1, K, F, T) (letOutN (f, 4, 0, 1, K, F, T) (s + 1, 0, x, y)) 0 := rfl
    have hlo : letOutN (f, 4, 0, 1, K, F, T) (s + 1, 0, x, y) = (s + 1, 0, outX (f, 4, 0, 1, K, F, T) (s + 1) x y 1, outY x y 1) := rfl
    have hX : outX (f, 4, 0, 1, K, F, T) (s + 1) x y 1 0 = if 2 ≤ x 0 ∧ (k ≠ 3 ∨ 2 * f ≤ y 0 + 1) ∧ flr f (plc f (s + 1) (x 0 - 2)) = b then 1 else x 0 := by
      unfold outX outN
      simp only [hk, hT, Nat.zero_lt_one, true_and, decide_eq_true_eq]
    have hY : outY x y 1 0 = if 2 ≤ x 0 then y 0 + 1 else y 0 := by
      unfold outY
      simp only [Nat.zero_lt_one, true_and]
    rw [hadv, hlo]
    generalize outX (f, 4, 0, 1, K, F, T) (s + 1) x y 1 = x' at *
    generalize outY x y 1 = y' at *
    by_cases h0 : x 0 = 0
    · rw [if_neg (by omega)] at hX hY
      rw [if_pos h0]
      have hch : choiceN (f, 4, 0, 1, K, F, T) (s + 1, 0, x', y') 0 = cabA f (s + 1) (if k = 3 ∨ a < b then a else 2 * f - 1 - a) + 1 := by
        have hfit : ∀ c, fitsN (f, 4, 0, 1, K, F, T) (s + 1, 0, x', y') k c = true := by
          intro c
          unfold fitsN
          have hu : usedN K x' c 1 = 0 := by
            unfold usedN usedN
            rw [if_neg (by omega)]
          have hb : bitsN (fun q => x' q == c + 2) 1 = 0 := by
            unfold bitsN bitsN
            have : (x' 0 == c + 2) = false := by rw [beq_eq_false_iff_ne]; omega
            rw [this]; rfl
          have ht : ktak k ≤ 2 := by unfold ktak; split <;> omega
          simp only [hu, hb, Nat.zero_testBit]
          simp
          omega
        unfold choiceN
        simp only
        rw [if_pos ⟨by decide, by omega⟩, hk, hF, hT]
        simp only [hfit, if_true]
        by_cases hc : k = 3 ∨ a < b
        · simp only [if_pos hc]
        · simp only [if_neg hc]
      unfold lookN1
      rw [hch, if_neg (by omega)]
      unfold putN updn
      simp
    · rw [if_neg h0]
      have hx0 : ¬ x' 0 = 0 := by rw [hX]; split <;> omega
      have hch : choiceN (f, 4, 0, 1, K, F, T) (s + 1, 0, x', y') 0 = 0 := by
        unfold choiceN
        simp only
        rw [if_neg (fun z => hx0 z.2)]
      unfold lookN1
      rw [hch, if_pos rfl]
      simp only
      refine ⟨trivial, trivial, ?_⟩
      rw [hX, hY]
      by_cases h1 : x 0 = 1
      · rw [if_pos h1, if_neg (by omega), if_neg (by omega)]
        exact ⟨i3, i4⟩
      · rw [if_neg h1, if_pos (show 2 ≤ x 0 by omega)]
        by_cases hq : (k ≠ 3 ∨ 2 * f ≤ y 0 + 1) ∧ flr f (plc f (s + 1) (x 0 - 2)) = b
        · rw [if_pos hq, if_pos ⟨by omega, hq⟩]
          exact ⟨rfl, rfl⟩
        · rw [if_neg hq, if_neg (fun z => hq z.2)]
          exact ⟨rfl, rfl⟩
/-- behind how many steps one alone is there -/
def tmN (f k a b : Nat) : Nat := srchN (fun t => (oneN f k a b t).1 == 1) 60 1
def sg0 (v n : Nat) : va_E := .inr (6, [.ref (v + 1), .ref (v + 2), .ref (v + 3), .int (nI n), .ref (v + 4), .ref (v + 8), .ref (v + 12)])
def SG (h : am_H) (v n : Nat) (F T K : Nat → Nat) (g : Nat → Int32) : Prop := Stt h ∧ am_at h v = some (sg0 v n) ∧ am_at h (v + 1) = some (AI 6 (fun k => nI (F k))) ∧ am_at h (v + 2) = some (AI 6 (fun k => nI (T k))) ∧ am_at h (v + 3) = some (AI 6 (fun k => nI (K k))) ∧ (∃ D : Pn, PlanAt h (v + 4) D ∧ ∀ p, p < 8 → D.2.2.2.2.1 p < 5) ∧ RawAt h (v + 8) (v + 4) ∧ am_at h (v + 12) = some (AI 5 g) ∧ v + 12 < 1000000
def FG (h h' : am_H) (v : Nat) : Prop := h'.1 = h.1 ∧ h'.2.1 = h.2.1 ∧ ∀ k, (k < v ∨ v + 12 < k) → am_at h' k = am_at h k
theorem FG.rf {h : am_H} {v : Nat} : FG h h v := ⟨rfl, rfl, fun _ _ => rfl⟩
theorem FG.tr {h h' h'' : am_H} {v : Nat} (h1 : FG h h' v) (h2 : FG h' h'' v) : FG h h'' v := ⟨h2.1.trans h1.1, h2.2.1.trans h1.2.1, fun k hk => (h2.2.2 k hk).trans (h1.2.2 k hk)⟩
theorem FG.set {h : am_H} {v a : Nat} {c : va_E} (h1 : v ≤ a) (h2 : a ≤ v + 12) : FG h (am_set h a c) v := ⟨rfl, rfl, fun k hk => at_set_ne (by omega)⟩
section SG
variable {d : Nat} {h : am_H} {v n : Nat} {F T K : Nat → Nat} {g : Nat → Int32}
theorem SG.fl (hS : SG h v n F T K g) : am_fld (am_at h v) 6 0 = some (.ref (v + 1)) ∧ am_fld (am_at h v) 6 1 = some (.ref (v + 2)) ∧ am_fld (am_at h v) 6 2 = some (.ref (v + 3)) ∧ am_fld (am_at h v) 6 3 = some (.int (nI n)) ∧ am_fld (am_at h v) 6 4 = some (.ref (v + 4)) ∧ am_fld (am_at h v) 6 5 = some (.ref (v + 8)) ∧ am_fld (am_at h v) 6 6 = some (.ref (v + 12)) ∧ am_is (am_at h v) 6 = true := by
  rw [hS.2.1]; exact ⟨rfl, rfl, rfl, rfl, rfl, rfl, rfl, rfl⟩
theorem SG.pl (hS : SG h v n F T K g) {D : Pn} (hD : ∀ p, p < 8 → D.2.2.2.2.1 p < 5) : SG (pP h (v + 4) D) v n F T K g := by
  obtain ⟨h1, h2, h3, h4, h5, h6, h7, h8, h9⟩ := hS
  exact ⟨h1.pP (by omega), by rw [at_pP_ne (by omega)]; exact h2, by rw [at_pP_ne (by omega)]; exact h3, by rw [at_pP_ne (by omega)]; exact h4, by rw [at_pP_ne (by omega)]; exact h5, ⟨D, PlanAt_pP _ _ _, hD⟩, h7.keep (fun k _ _ => at_pP_ne (by omega)), by rw [at_pP_ne (by omega)]; exact h8, h9⟩
theorem SG.ho (hS : SG h v n F T K g) (σ : Hn) : SG (pH h (v + 8) (v + 4) σ) v n F T K g := by
  obtain ⟨h1, h2, h3, h4, h5, ⟨D, h6, h6'⟩, h7, h8, h9⟩ := hS
  exact ⟨h1.pH (by omega), by rw [at_pH_ne (by omega)]; exact h2, by rw [at_pH_ne (by omega)]; exact h3, by rw [at_pH_ne (by omega)]; exact h4, by rw [at_pH_ne (by omega)]; exact h5, ⟨D, h6.pH (by omega), h6'⟩, (HouseAt_pH _ _ _ _).raw, by rw [at_pH_ne (by omega)]; exact h8, h9⟩
theorem SG.times (hS : SG h v n F T K g) (g' : Nat → Int32) : SG (am_set h (v + 12) (AI 5 g')) v n F T K g' := by
  obtain ⟨h1, h2, h3, h4, h5, ⟨D, h6, h6'⟩, h7, h8, h9⟩ := hS
  exact ⟨h1.keep (fun k _ => at_set_ne (by omega)), by rw [at_set_ne (by omega)]; exact h2, by rw [at_set_ne (by omega)]; exact h3, by rw [at_set_ne (by omega)]; exact h4, by rw [at_set_ne (by omega)]; exact h5, ⟨D, h6.keep (fun k _ _ => at_set_ne (by omega)), h6'⟩, h7.keep (fun k _ _ => at_set_ne (by omega)), at_set_eq, h9⟩
theorem FG.pP {D : Pn} : FG h (pP h (v + 4) D) v := ⟨rfl, rfl, fun k hk => at_pP_ne (by omega)⟩
theorem FG.pH {σ : Hn} {b : Nat} : FG h (pH h (v + 8) b σ) v := ⟨rfl, rfl, fun k hk => at_pH_ne (by omega)⟩
theorem l_timeAlone {f k a b : Nat} {K' F' T' : Nat → Nat} (hf : 1 ≤ f ∧ f ≤ 15) (hK : ∀ p, p < 8 → K' p < 5) (hk : K' 0 = k) (hF : F' 0 = a) (hT : T' 0 = b) (ha : a < f) (hb : b < f) {x1 x2 x3 x4 : Option Value} (l4 : am_lg x4 = false) : ∀ j t (h : am_H), t + j = 61 → 1 ≤ t → SG h v n F T K g → PlanAt h (v + 4) (f, 4, 0, 1, K', F', T') → HouseAt h (v + 8) (v + 4) (solN (f, 4, 0, 1, K', F', T') (0, 0, (fun _ => 0), (fun _ => 0)) (t - 1)) → ∃ h', am_ev (d + 4) 78 37 [some (.ref v), x1, x2, x3, x4, some (.int (nI t))] [] h = some (some (.int (nI (srchN (fun t => (oneN f k a b t).1 == 1) j t))), h') ∧ SG h' v n F T K g ∧ FG h h' v := by
  intro j
  have oP : OKP (f, 4, 0, 1, K', F', T') := ⟨hf.1, by simp only; omega, by simp only; omega, by simp only; omega, hK, fun p hp => by
    simp only at hp
    have : p = 0 := by omega
    subst this
    simp only [hF, hT]
    exact ⟨ha, hb⟩⟩
  induction j with
  | zero =>
    intro t h ht h1 hS hp hh
    have : t = 61 := by omega
    subst this
    refine ⟨h, ?_, hS, FG.rf⟩
    rw [e_78_37]
    simp only [e_78_39, e_78_41, e_78_77, e_78_79, lg_n, lg_i, lg_r, wd_nil, am_wd_i, am_wd_r, am_wd_l, am_gk_s, am_fld_s, List.getElem?_cons_zero, List.getElem?_cons_succ, am_bk_v, am_bk_n, bo_0, bo_1, am_pk_s, List.length_cons, List.length_nil, Nat.zero_add, List.set_cons_zero, List.set_cons_succ, Nat.reduceAdd, Nat.reduceLeDiff, Nat.reduceLT, i60, i61, nI_ltI (show 60 < 2 ^ 31 by omega) (show 61 < 2 ^ 31 by omega), if_true, srchN]
  | succ j ih =>
    intro t h ht h1 hS hp hh
    obtain ⟨k0, k1, k2, k3, k4, k5, k6, k7⟩ := hS.fl
    obtain ⟨t, rfl⟩ : ∃ u, t = u + 1 := ⟨t - 1, by omega⟩
    rw [Nat.add_sub_cancel] at hh
    have oR : OKR (f, 4, 0, 1, K', F', T') (0, 0, (fun _ => 0), (fun _ => 0)) 0 := ⟨Nat.le_refl _, fun p hp => by simp only; omega⟩
    have oRt := oR.sol oP.1 t
    have hr : am_at h 1000001 = some (.inl (10, 8, .inl (fun i => nI i))) := hS.1 1 (by decide) (by decide)
    have had := m_advance (d := d) (n := 1) (m := 8) (L := fun i => i) hS.1 hp hh oP oRt (by omega) (by omega) (by have := hS.2.2.2.2.2.2.2.2; omega) hf.2 (Or.inr rfl) hr (fun _ _ => rfl) (by have := hS.2.2.2.2.2.2.2.2; omega) (fun i hi => Nat.lt_trans hi (by decide)) (by decide) (by decide)
    rw [show advN (f, 4, 0, 1, K', F', T') (fun i => i) 1 (solN (f, 4, 0, 1, K', F', T') (0, 0, (fun _ => 0), (fun _ => 0)) t) = solN (f, 4, 0, 1, K', F', T') (0, 0, (fun _ => 0), (fun _ => 0)) (t + 1) from rfl, show nI 1 = 1 by decide +kernel] at had
    have hS1 := hS.ho (solN (f, 4, 0, 1, K', F', T') (0, 0, (fun _ => 0), (fun _ => 0)) (t + 1))
    obtain ⟨r0, r1, r2, r3, r4, r5, r6, r7⟩ := hS1.fl
    have hp1 : PlanAt (pH h (v + 8) (v + 4) (solN (f, 4, 0, 1, K', F', T') (0, 0, (fun _ => 0), (fun _ => 0)) (t + 1))) (v + 4) (f, 4, 0, 1, K', F', T') := hp.pH (by omega)
    have hh1 := HouseAt_pH h (v + 8) (v + 4) (solN (f, 4, 0, 1, K', F', T') (0, 0, (fun _ => 0), (fun _ => 0)) (t + 1))
    have hto := m_toldOf (d := d + 2) hp1 hh1 (show 1 ≤ 8 by decide) 0 3
    have hsE := (solN_eq (f := f) hk hF hT (t + 1)).2.2.1
    rw [if_pos (show (0 : Int) ≤ (0 : Int32).toInt ∧ (0 : Int32).toInt < ((1 : Nat) : Int) by decide), if_pos rfl, show (0 : Int32).toInt.toNat = 0 from rfl, hsE] at hto
    unfold srchN
    by_cases hx : (oneN f k a b (t + 1)).1 = 1
    · refine ⟨_, ?_, hS1, FG.pH⟩
      rw [e_78_37]
      simp only [e_78_39, e_78_41, e_78_44, e_78_45, e_78_48, e_78_51, e_78_52, e_78_55, e_78_56, e_78_59, e_78_60, e_78_61, e_78_64, e_78_65, e_78_68, e_78_70, lg_n, lg_i, lg_r, wd_nil, am_wd_i, am_wd_r, am_wd_l, am_gk_s, am_fld_s, List.getElem?_cons_zero, List.getElem?_cons_succ, am_bk_v, am_bk_n, bo_0, bo_1, am_pk_s, List.length_cons, List.length_nil, Nat.zero_add, List.set_cons_zero, List.set_cons_succ, Nat.reduceAdd, Nat.reduceLeDiff, Nat.reduceLT, i60, nI_ltI (show 60 < 2 ^ 31 by omega) (show t + 1 < 2 ^ 31 by omega), if_neg (show ¬ 60 < t + 1 by omega), k5, is_house hh, had, r5, is_house hh1, hto, sI_2, if_pos hx]
      simp [hx]
    · obtain ⟨h', e', S', F'⟩ := ih (t + 1 + 1) _ (by omega) (by omega) hS1 hp1 (by rw [Nat.add_sub_cancel]; exact hh1)
      refine ⟨h', ?_, S', FG.pH.tr F'⟩
      rw [e_78_37]
      simp only [e_78_39, e_78_41, e_78_44, e_78_45, e_78_48, e_78_51, e_78_52, e_78_55, e_78_56, e_78_59, e_78_60, e_78_61, e_78_64, e_78_65, e_78_68, e_78_70, e_78_71, e_78_74, lg_n, lg_i, lg_r, wd_nil, am_wd_i, am_wd_r, am_wd_l, am_gk_s, am_fld_s, List.getElem?_cons_zero, List.getElem?_cons_succ, am_bk_v, am_bk_n, bo_0, bo_1, am_pk_s, List.length_cons, List.length_nil, Nat.zero_add, List.set_cons_zero, List.set_cons_succ, Nat.reduceAdd, Nat.reduceLeDiff, Nat.reduceLT, i60, nI_ltI (show 60 < 2 ^ 31 by omega) (show t + 1 < 2 ^ 31 by omega), if_neg (show ¬ 60 < t + 1 by omega), k5, is_house hh, had, r5, is_house hh1, hto, sI_2, if_neg hx, l4, nI_1]
      rw [e']
      simp [hx]
theorem m_timeAlone (hS : SG h v n F T K g) {f k a b : Nat} (hf : 1 ≤ f ∧ f ≤ 15) (hk : k < 5) (ha : a < f) (hb : b < f) : ∃ h', am_cal (d + 5) 78 [.ref v, .int (nI f), .ref (1000002 + k), .int (nI a), .int (nI b)] h = some (some (.int (nI (tmN f k a b))), h') ∧ SG h' v n F T K g ∧ FG h h' v := by
  obtain ⟨k0, k1, k2, k3, k4, k5, k6, k7⟩ := hS.fl
  have hv := hS.2.2.2.2.2.2.2.2
  obtain ⟨D, hp, hD⟩ := hS.2.2.2.2.2.1
  have hcl := m_clear (d := d + 3) hp f
  have hse : am_set h (v + 4) (plan0 (v + 4) (f, 2, 0, 0, D.2.2.2.2)) = pP h (v + 4) (f, 2, 0, 0, D.2.2.2.2) := by
    have := set_pP0 (h := h) (b := v + 4) (P := D) f 2 0 0
    rw [pP_self hp] at this
    exact this
  rw [hse] at hcl
  have S1 := hS.pl (D := (f, 2, 0, 0, D.2.2.2.2)) hD
  have S2 := hS.pl (D := (f, 4, 0, 0, D.2.2.2.2)) hD
  have had := m_admit (d := d + 2) S2.1 (PlanAt_pP h (v + 4) (f, 4, 0, 0, D.2.2.2.2)) (by omega) hk (by simp only; omega) a b
  rw [pP_pP] at had
  have hD3 : ∀ p, p < 8 → (updn D.2.2.2.2.1 0 k) p < 5 := fun p hp => by unfold updn; split; exact hk; exact hD p hp
  have S3 := hS.pl (D := admN (f, 4, 0, 0, D.2.2.2.2) k a b) hD3
  have hbg := m_beginR (d := d + 2) (PlanAt_pP h (v + 4) (admN (f, 4, 0, 0, D.2.2.2.2) k a b)) S3.2.2.2.2.2.2.1 (by omega)
  have S4 := S3.ho (0, 0, (fun _ => 0), (fun _ => 0))
  obtain ⟨r0, r1, r2, r3, r4, r5, r6, r7⟩ := S1.fl
  obtain ⟨s0, s1, s2, s3, s4, s5, s6, s7⟩ := S2.fl
  obtain ⟨u0, u1, u2, u3, u4, u5, u6, u7⟩ := S3.fl
  obtain ⟨h', e', S', F'⟩ := l_timeAlone (d := d) (v := v) (n := n) (F := F) (T := T) (K := K) (g := g) (f := f) (k := k) (a := a) (b := b) (K' := updn D.2.2.2.2.1 0 k) (F' := updn D.2.2.2.2.2.1 0 a) (T' := updn D.2.2.2.2.2.2 0 b) hf hD3 (by simp [updn]) (by simp [updn]) (by simp [updn]) ha hb (x1 := some (.int (nI f))) (x2 := some (.ref (1000002 + k))) (x3 := some (.int (nI a))) (x4 := some (.int (nI b))) (lg_i _) 60 1 _ (by omega) (by omega) S4 ((PlanAt_pP h (v + 4) (admN (f, 4, 0, 0, D.2.2.2.2) k a b)).pH (by omega)) (HouseAt_pH _ _ _ _)
  refine ⟨h', ?_, S', (FG.pP.tr FG.pH).tr F'⟩
  refine (b_78 _ _ _).trans ?_; show am_ev _ 78 0 [some (.ref v), some (.int (nI f)), some (.ref (1000002 + k)), some (.int (nI a)), some (.int (nI b)), none] [] _ = _
  have hp1 := (PlanAt_pP h (v + 4) (f, 2, 0, 0, D.2.2.2.2)).1
  unfold plan0 at hp1
  simp only at hp1
  simp only [e_78_0, e_78_1, e_78_4, e_78_5, e_78_8, e_78_9, e_78_12, e_78_13, lg_n, lg_i, lg_r, wd_nil, am_wd_i, am_wd_r, am_wd_l, am_gk_s, am_fld_s, List.getElem?_cons_zero, List.getElem?_cons_succ, am_bk_v, am_bk_n, bo_0, bo_1, am_pk_s, List.length_cons, List.length_nil, Nat.zero_add, List.set_cons_zero, List.set_cons_succ, Nat.reduceAdd, Nat.reduceLeDiff, Nat.reduceLT, k4, is_plan hp, hcl, r4, hp1]
  have h4 := set_pP0 (h := h) (b := v + 4) (P := (f, 2, 0, 0, D.2.2.2.2)) f 4 0 0
  simp only at h4
  rw [show (4 : Int32) = nI 4 by decide +kernel, h4]
  simp only [e_78_16, e_78_17, e_78_20, e_78_21, e_78_22, e_78_24, e_78_27, e_78_28, e_78_31, e_78_34, e_78_35, lg_n, lg_i, lg_r, wd_nil, am_wd_i, am_wd_r, am_wd_l, am_gk_s, am_fld_s, List.getElem?_cons_zero, List.getElem?_cons_succ, am_bk_v, am_bk_n, bo_0, bo_1, am_pk_s, List.length_cons, List.length_nil, Nat.zero_add, List.set_cons_zero, List.set_cons_succ, Nat.reduceAdd, Nat.reduceLeDiff, Nat.reduceLT, s4, is_plan (PlanAt_pP h (v + 4) (f, 4, 0, 0, D.2.2.2.2)), had, u5, is_raw S3.2.2.2.2.2.2.1, hbg]
  exact e'
end SG
