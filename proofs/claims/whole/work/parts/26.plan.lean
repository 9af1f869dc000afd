/-! plans change -/
def Q4 (h : am_H) (a : Nat) (c0 c1 c2 c3 : va_E) : am_H := am_set (am_set (am_set (am_set h a c0) (a + 1) c1) (a + 2) c2) (a + 3) c3
section Q4
variable {h : am_H} {a : Nat} {c0 c1 c2 c3 c : va_E}
theorem at_Q4 (k : Nat) : am_at (Q4 h a c0 c1 c2 c3) k = if k = a then some c0 else if k = a + 1 then some c1 else if k = a + 2 then some c2 else if k = a + 3 then some c3 else am_at h k := by
  unfold Q4
  simp only [am_at_set]
  by_cases h3 : k = a + 3
  · subst h3; simp
  · by_cases h2 : k = a + 2
    · subst h2; simp
    · by_cases h1 : k = a + 1
      · subst h1; simp
      · simp [h1, h2, h3]
theorem at_Q40 : am_at (Q4 h a c0 c1 c2 c3) a = some c0 := by rw [at_Q4]; simp
theorem at_Q41 : am_at (Q4 h a c0 c1 c2 c3) (a + 1) = some c1 := by rw [at_Q4]; simp
theorem at_Q42 : am_at (Q4 h a c0 c1 c2 c3) (a + 2) = some c2 := by rw [at_Q4]; simp
theorem at_Q43 : am_at (Q4 h a c0 c1 c2 c3) (a + 3) = some c3 := by rw [at_Q4]; simp
theorem at_Q4n {k : Nat} (hk : k < a ∨ a + 3 < k) : am_at (Q4 h a c0 c1 c2 c3) k = am_at h k := by
  rw [at_Q4, if_neg (by omega), if_neg (by omega), if_neg (by omega), if_neg (by omega)]
theorem Q4_s0 : am_set (Q4 h a c0 c1 c2 c3) a c = Q4 h a c c1 c2 c3 := by
  refine am_ext rfl rfl (fun k => ?_)
  rw [am_at_set, at_Q4, at_Q4]
  by_cases h0 : k = a <;> simp [h0]
theorem Q4_s1 : am_set (Q4 h a c0 c1 c2 c3) (a + 1) c = Q4 h a c0 c c2 c3 := by
  refine am_ext rfl rfl (fun k => ?_)
  rw [am_at_set, at_Q4, at_Q4]
  by_cases h0 : k = a + 1
  · subst h0; simp
  · simp [h0]
theorem Q4_s2 : am_set (Q4 h a c0 c1 c2 c3) (a + 2) c = Q4 h a c0 c1 c c3 := by
  refine am_ext rfl rfl (fun k => ?_)
  rw [am_at_set, at_Q4, at_Q4]
  by_cases h0 : k = a + 2
  · subst h0; simp
  · simp [h0]
theorem Q4_s3 : am_set (Q4 h a c0 c1 c2 c3) (a + 3) c = Q4 h a c0 c1 c2 c := by
  refine am_ext rfl rfl (fun k => ?_)
  rw [am_at_set, at_Q4, at_Q4]
  by_cases h0 : k = a + 3
  · subst h0; simp
  · simp [h0]
theorem Q4_self (h0 : am_at h a = some c0) (h1 : am_at h (a + 1) = some c1) (h2 : am_at h (a + 2) = some c2) (h3 : am_at h (a + 3) = some c3) : Q4 h a c0 c1 c2 c3 = h := by
  refine am_ext rfl rfl (fun k => ?_)
  rw [at_Q4]
  by_cases e0 : k = a
  · subst e0; simp [h0]
  · by_cases e1 : k = a + 1
    · subst e1; simp [h1]
    · by_cases e2 : k = a + 2
      · subst e2; simp [h2]
      · by_cases e3 : k = a + 3
        · subst e3; simp [h3]
        · simp [e0, e1, e2, e3]
theorem Q4_Q4 {e0 e1 e2 e3 : va_E} : Q4 (Q4 h a c0 c1 c2 c3) a e0 e1 e2 e3 = Q4 h a e0 e1 e2 e3 := by
  show am_set (am_set (am_set (am_set (Q4 h a c0 c1 c2 c3) a e0) (a + 1) e1) (a + 2) e2) (a + 3) e3 = _
  rw [Q4_s0, Q4_s1, Q4_s2, Q4_s3]
end Q4
theorem is_c (c : Nat) (fs : List Value) : am_is (some (.inr (c, fs))) c = true := by simp [am_is]
def pP (h : am_H) (b : Nat) (P : Pn) : am_H := Q4 h b (plan0 b P) (AK P.2.2.2.2.1) (AI 8 (fun p => nI (P.2.2.2.2.2.1 p))) (AI 8 (fun p => nI (P.2.2.2.2.2.2 p)))
theorem PlanAt_pP (h : am_H) (b : Nat) (P : Pn) : PlanAt (pP h b P) b P := ⟨at_Q40, at_Q41, at_Q42, at_Q43⟩
theorem at_pP_ne {h : am_H} {b : Nat} {P : Pn} {k : Nat} (hk : k < b ∨ b + 3 < k) : am_at (pP h b P) k = am_at h k := at_Q4n hk
theorem pP_self {h : am_H} {b : Nat} {P : Pn} (hp : PlanAt h b P) : pP h b P = h := Q4_self hp.1 hp.2.1 hp.2.2.1 hp.2.2.2
theorem pP_pP (h : am_H) (b : Nat) (P Q : Pn) : pP (pP h b P) b Q = pP h b Q := Q4_Q4
theorem set_pP0 {h : am_H} {b : Nat} {P : Pn} (F R S N : Nat) : am_set (pP h b P) b (.inr (4, [.int (nI F), .int (nI R), .int (nI S), .int (nI N), .ref (b + 1), .ref (b + 2), .ref (b + 3)])) = pP h b (F, R, S, N, P.2.2.2.2) := Q4_s0
theorem set_pP1 {h : am_H} {b : Nat} {P : Pn} (f : Nat → Nat) : am_set (pP h b P) (b + 1) (AK f) = pP h b (P.1, P.2.1, P.2.2.1, P.2.2.2.1, f, P.2.2.2.2.2) := Q4_s1
theorem set_pP2 {h : am_H} {b : Nat} {P : Pn} (f : Nat → Nat) : am_set (pP h b P) (b + 2) (AI 8 (fun p => nI (f p))) = pP h b (P.1, P.2.1, P.2.2.1, P.2.2.2.1, P.2.2.2.2.1, f, P.2.2.2.2.2.2) := Q4_s2
theorem set_pP3 {h : am_H} {b : Nat} {P : Pn} (f : Nat → Nat) : am_set (pP h b P) (b + 3) (AI 8 (fun p => nI (f p))) = pP h b (P.1, P.2.1, P.2.2.1, P.2.2.2.1, P.2.2.2.2.1, P.2.2.2.2.2.1, f) := Q4_s3
theorem wk_AK {h : am_H} {j q : Nat} {f : Nat → Nat} {k : Nat → Nat → (Nat → Option Nat) → Option am_R} (hs : Stt h) (hj : j < 8) (hq : q < 5) : am_wk (some (AK f)) (am_at h (1000002 + q)) (nI j) k = k 2 8 (fun k => if k < 8 then some (1000002 + f k) else none) := by
  have h1 : ¬ (nI j < 0 ∨ 8 ≤ (nI j).toNatClampNeg) := vp_in_nI hj (by decide)
  rw [at_kind hs hq]
  unfold AK am_wk
  dsimp only
  rw [if_pos ⟨rfl, h1⟩]
theorem wt_AK {j q : Nat} {f : Nat → Nat} (hj : j < 8) : (Sum.inl (2, 8, Sum.inr (Sum.inr (Sum.inr (Sum.inr (va_up (fun k => if k < 8 then some (1000002 + f k) else none) (nI j).toNatClampNeg (some (1000002 + q))))))) : va_E) = AK (updn f j q) := by
  unfold AK
  rw [nI_clamp (by omega)]
  refine congrArg (fun z => (Sum.inl (2, 8, Sum.inr (Sum.inr (Sum.inr (Sum.inr z)))) : va_E)) (funext fun k => ?_)
  unfold va_up updn
  by_cases hk : k = j
  · subst hk; simp [hj]
  · simp [hk]
theorem AK_cong {f g : Nat → Nat} (h : ∀ p, p < 8 → f p = g p) : AK f = AK g := by
  unfold AK
  refine congrArg (fun z => (Sum.inl (2, 8, Sum.inr (Sum.inr (Sum.inr (Sum.inr z)))) : va_E)) (funext fun k => ?_)
  split
  · rename_i hk; rw [h k hk]
  · rfl
theorem pP_cong {h : am_H} {b : Nat} {F R S N : Nat} {k k' f f' t t' : Nat → Nat} (h1 : ∀ p, p < 8 → k p = k' p) (h2 : ∀ p, p < 8 → f p = f' p) (h3 : ∀ p, p < 8 → t p = t' p) : pP h b (F, R, S, N, k, f, t) = pP h b (F, R, S, N, k', f', t') := by
  unfold pP
  rw [AK_cong h1, AI_cong (f := fun p => nI (f p)) (g := fun p => nI (f' p)) (fun p hp => by rw [h2 p hp]), AI_cong (f := fun p => nI (t p)) (g := fun p => nI (t' p)) (fun p hp => by rw [h3 p hp])]
  rfl
def mixN (f g : Nat → Nat) (p : Nat) : Nat → Nat := fun k => if k < p then f k else g k
theorem mixN_s (f g : Nat → Nat) (p : Nat) : updn (mixN f g p) p (f p) = mixN f g (p + 1) := by
  funext k
  unfold updn mixN
  by_cases hk : k = p
  · subst hk; simp
  · have : k < p + 1 ↔ k < p := by omega
    simp only [if_neg hk, this]
theorem Stt.pP {h : am_H} {b : Nat} {P : Pn} (hs : Stt h) (hb : b + 3 < 1000000) : Stt (pP h b P) := hs.keep (fun k _ => at_pP_ne (by omega))
theorem PlanAt.pP {h : am_H} {b c : Nat} {P Q : Pn} (hp : PlanAt h c Q) (hbc : c + 3 < b ∨ b + 3 < c) : PlanAt (pP h b P) c Q := hp.keep (fun k _ _ => at_pP_ne (by omega))
section PL
variable {d : Nat} {h : am_H} {b c : Nat} {P Q : Pn}
theorem l_planTake (hs : Stt h) (hq : PlanAt h c Q) (hb : b + 3 < 1000000) (hbc : c + 3 < b ∨ b + 3 < c) (hk : ∀ p, p < 8 → Q.2.2.2.2.1 p < 5) (k0 f0 t0 : Nat → Nat) : ∀ j p, p + j = 8 → am_ev d 55 34 [some (.ref b), some (.ref c), some (.int (nI p))] [] (pP h b (Q.1, Q.2.1, Q.2.2.1, Q.2.2.2.1, mixN Q.2.2.2.2.1 k0 p, mixN Q.2.2.2.2.2.1 f0 p, mixN Q.2.2.2.2.2.2 t0 p)) = some (none, pP h b Q) := by
  intro j
  have e8 : (8 : Int32) = nI 8 := by decide +kernel
  induction j with
  | zero =>
    intro p hp
    have : p = 8 := by omega
    subst this
    rw [e_55_34]
    simp only [e_55_0, e_55_1, e_55_2, e_55_5, e_55_8, e_55_9, e_55_10, e_55_13, e_55_16, e_55_17, e_55_18, e_55_21, e_55_24, e_55_25, e_55_26, e_55_29, e_55_32, e_55_33, e_55_35, e_55_37, e_55_40, e_55_41, e_55_44, e_55_45, e_55_46, e_55_49, e_55_50, e_55_51, e_55_52, e_55_53, e_55_56, e_55_57, e_55_58, e_55_61, e_55_62, e_55_63, e_55_64, e_55_65, e_55_68, e_55_69, e_55_70, e_55_73, e_55_74, e_55_75, e_55_76, e_55_79, e_55_82, lg_n, lg_i, lg_r, wd_nil, am_wd_i, am_wd_r, am_wd_l, am_gk_s, am_fld_s, List.getElem?_cons_zero, List.getElem?_cons_succ, am_bk_v, am_bk_n, bo_0, bo_1, am_pk_s, List.length_cons, List.length_nil, Nat.zero_add, List.set_cons_zero, List.set_cons_succ, Nat.reduceAdd, Nat.reduceLeDiff, Nat.reduceLT, e8, nI_leI (show 8 < 2 ^ 31 by omega) (show 8 < 2 ^ 31 by omega), Nat.le_refl, if_true]
    refine congrArg (fun z => some ((none : Option Value), z)) ?_
    exact pP_cong (fun p hp => by simp [mixN, hp]) (fun p hp => by simp [mixN, hp]) (fun p hp => by simp [mixN, hp])
  | succ j ih =>
    intro p hp
    have ih' := ih (p + 1) (by omega)
    have hp8 : p < 8 := by omega
    have hkp := hk p hp8
    have a0 : ∀ R : Pn, am_fld (am_at (pP h b R) b) 4 4 = some (.ref (b + 1)) ∧ am_fld (am_at (pP h b R) b) 4 5 = some (.ref (b + 2)) ∧ am_fld (am_at (pP h b R) b) 4 6 = some (.ref (b + 3)) := fun R => by
      obtain ⟨-, -, -, -, f4, f5, f6⟩ := fl_plan (PlanAt_pP h b R)
      exact ⟨f4, f5, f6⟩
    have c0 : ∀ R : Pn, am_fld (am_at (pP h b R) c) 4 4 = some (.ref (c + 1)) ∧ am_fld (am_at (pP h b R) c) 4 5 = some (.ref (c + 2)) ∧ am_fld (am_at (pP h b R) c) 4 6 = some (.ref (c + 3)) := fun R => by
      obtain ⟨-, -, -, -, f4, f5, f6⟩ := fl_plan (hq.pP (b := b) (P := R) hbc)
      exact ⟨f4, f5, f6⟩
    have c1 : ∀ R : Pn, am_at (pP h b R) (c + 1) = some (AK Q.2.2.2.2.1) := fun R => (hq.pP (b := b) (P := R) hbc).2.1
    have c2 : ∀ R : Pn, am_at (pP h b R) (c + 2) = some (AI 8 (fun p => nI (Q.2.2.2.2.2.1 p))) := fun R => (hq.pP (b := b) (P := R) hbc).2.2.1
    have c3 : ∀ R : Pn, am_at (pP h b R) (c + 3) = some (AI 8 (fun p => nI (Q.2.2.2.2.2.2 p))) := fun R => (hq.pP (b := b) (P := R) hbc).2.2.2
    have b1 : ∀ R : Pn, am_at (pP h b R) (b + 1) = some (AK R.2.2.2.2.1) := fun R => (PlanAt_pP h b R).2.1
    have b2 : ∀ R : Pn, am_at (pP h b R) (b + 2) = some (AI 8 (fun p => nI (R.2.2.2.2.2.1 p))) := fun R => (PlanAt_pP h b R).2.2.1
    have b3 : ∀ R : Pn, am_at (pP h b R) (b + 3) = some (AI 8 (fun p => nI (R.2.2.2.2.2.2 p))) := fun R => (PlanAt_pP h b R).2.2.2
    have sR : ∀ R : Pn, Stt (pP h b R) := fun R => hs.pP hb
    rw [e_55_34]
    simp only [e_55_0, e_55_1, e_55_2, e_55_5, e_55_8, e_55_9, e_55_10, e_55_13, e_55_16, e_55_17, e_55_18, e_55_21, e_55_24, e_55_25, e_55_26, e_55_29, e_55_32, e_55_33, e_55_35, e_55_37, e_55_40, e_55_41, e_55_44, e_55_45, e_55_46, e_55_49, e_55_50, e_55_51, e_55_52, e_55_53, e_55_56, e_55_57, e_55_58, e_55_61, e_55_62, e_55_63, e_55_64, e_55_65, e_55_68, e_55_69, e_55_70, e_55_73, e_55_74, e_55_75, e_55_76, e_55_79, e_55_82, lg_n, lg_i, lg_r, wd_nil, am_wd_i, am_wd_r, am_wd_l, am_gk_s, am_fld_s, List.getElem?_cons_zero, List.getElem?_cons_succ, am_bk_v, am_bk_n, bo_0, bo_1, am_pk_s, List.length_cons, List.length_nil, Nat.zero_add, List.set_cons_zero, List.set_cons_succ, Nat.reduceAdd, Nat.reduceLeDiff, Nat.reduceLT, e8, nI_leI (show 8 < 2 ^ 31 by omega) (show p < 2 ^ 31 by omega), if_neg (show ¬ 8 ≤ p by omega), (a0 _).1, (a0 _).2.1, (a0 _).2.2, (c0 _).1, (c0 _).2.1, (c0 _).2.2, c1, c2, c3, b1, b2, b3, qk_AK hp8, wk_AK (sR _) hp8 hkp, wt_AK hp8, set_pP1, ak_AI hp8 (show 8 < 2 ^ 31 by decide), sk_AI hp8 (show 8 < 2 ^ 31 by decide), st_AI hp8 (show 8 < 2 ^ 31 by decide), updn_map nI, set_pP2, set_pP3, mixN_s, nI_1]
    exact ih'
theorem m_planTake (hs : Stt h) (hp : PlanAt h b P) (hq : PlanAt h c Q) (hb : b + 3 < 1000000) (hbc : c + 3 < b ∨ b + 3 < c) (hk : ∀ p, p < 8 → Q.2.2.2.2.1 p < 5) : am_cal (d + 1) 55 [.ref b, .ref c] h = some (none, pP h b Q) := by
  have key : am_cal (d + 1) 55 [.ref b, .ref c] (pP h b P) = some (none, pP h b Q) := by
    refine (b_55 _ _ _).trans ?_; show am_ev _ 55 0 [some (.ref b), some (.ref c), none] [] _ = _
    have c0 : ∀ R : Pn, am_fld (am_at (pP h b R) c) 4 0 = some (.int (nI Q.1)) ∧ am_fld (am_at (pP h b R) c) 4 1 = some (.int (nI Q.2.1)) ∧ am_fld (am_at (pP h b R) c) 4 2 = some (.int (nI Q.2.2.1)) ∧ am_fld (am_at (pP h b R) c) 4 3 = some (.int (nI Q.2.2.2.1)) := fun R => by
      obtain ⟨f0, f1, f2, f3, -⟩ := fl_plan (hq.pP (b := b) (P := R) hbc)
      exact ⟨f0, f1, f2, f3⟩
    have b0 : ∀ R : Pn, am_at (pP h b R) b = some (.inr (4, [.int (nI R.1), .int (nI R.2.1), .int (nI R.2.2.1), .int (nI R.2.2.2.1), .ref (b + 1), .ref (b + 2), .ref (b + 3)])) := fun R => (PlanAt_pP h b R).1
    simp only [e_55_0, e_55_1, e_55_2, e_55_5, e_55_8, e_55_9, e_55_10, e_55_13, e_55_16, e_55_17, e_55_18, e_55_21, e_55_24, e_55_25, e_55_26, e_55_29, e_55_32, e_55_33, lg_n, lg_i, lg_r, wd_nil, am_wd_i, am_wd_r, am_wd_l, am_gk_s, am_fld_s, List.getElem?_cons_zero, List.getElem?_cons_succ, am_bk_v, am_bk_n, bo_0, bo_1, am_pk_s, List.length_cons, List.length_nil, Nat.zero_add, List.set_cons_zero, List.set_cons_succ, Nat.reduceAdd, Nat.reduceLeDiff, Nat.reduceLT, (c0 _).1, (c0 _).2.1, (c0 _).2.2.1, (c0 _).2.2.2, b0, set_pP0]
    have := l_planTake (d := d) hs hq hb hbc hk P.2.2.2.2.1 P.2.2.2.2.2.1 P.2.2.2.2.2.2 8 0 (by omega)
    have em : ∀ f g : Nat → Nat, mixN f g 0 = g := fun f g => by funext k; simp [mixN]
    rw [em, em, em] at this
    exact this
  rw [pP_self hp] at key
  exact key
def admN (P : Pn) (k f t : Nat) : Pn := (P.1, P.2.1, P.2.2.1, P.2.2.2.1 + 1, updn P.2.2.2.2.1 P.2.2.2.1 k, updn P.2.2.2.2.2.1 P.2.2.2.1 f, updn P.2.2.2.2.2.2 P.2.2.2.1 t)
theorem m_admit (hs : Stt h) (hp : PlanAt h b P) (hb : b + 3 < 1000000) {k : Nat} (hk : k < 5) (hn : P.2.2.2.1 < 8) (f t : Nat) : am_cal (d + 2) 57 [.ref b, .ref (1000002 + k), .int (nI f), .int (nI t)] h = some (none, pP h b (admN P k f t)) := by
  have key : am_cal (d + 2) 57 [.ref b, .ref (1000002 + k), .int (nI f), .int (nI t)] (pP h b P) = some (none, pP h b (admN P k f t)) := by
    refine (b_57 _ _ _).trans ?_; show am_ev _ 57 0 [some (.ref b), some (.ref (1000002 + k)), some (.int (nI f)), some (.int (nI t))] [] _ = _
    have b0 : ∀ R : Pn, am_at (pP h b R) b = some (.inr (4, [.int (nI R.1), .int (nI R.2.1), .int (nI R.2.2.1), .int (nI R.2.2.2.1), .ref (b + 1), .ref (b + 2), .ref (b + 3)])) := fun R => (PlanAt_pP h b R).1
    have b1 : ∀ R : Pn, am_at (pP h b R) (b + 1) = some (AK R.2.2.2.2.1) := fun R => (PlanAt_pP h b R).2.1
    have b2 : ∀ R : Pn, am_at (pP h b R) (b + 2) = some (AI 8 (fun p => nI (R.2.2.2.2.2.1 p))) := fun R => (PlanAt_pP h b R).2.2.1
    have b3 : ∀ R : Pn, am_at (pP h b R) (b + 3) = some (AI 8 (fun p => nI (R.2.2.2.2.2.2 p))) := fun R => (PlanAt_pP h b R).2.2.2
    have sR : ∀ R : Pn, Stt (pP h b R) := fun R => hs.pP hb
    have hc := m_isCrowded (d := d) (PlanAt_pP h b P) (show P.2.2.2.1 < 2 ^ 31 by omega)
    rw [if_neg (show ¬ 8 ≤ P.2.2.2.1 by omega)] at hc
    simp only [e_57_0, e_57_1, e_57_4, e_57_7, e_57_8, e_57_9, e_57_12, e_57_13, e_57_16, e_57_17, e_57_18, e_57_19, e_57_22, e_57_23, e_57_26, e_57_27, e_57_28, e_57_29, e_57_32, e_57_33, e_57_36, e_57_37, e_57_38, e_57_39, e_57_40, e_57_43, e_57_44, e_57_45, e_57_48, lg_n, lg_i, lg_r, wd_nil, am_wd_i, am_wd_r, am_wd_l, am_gk_s, am_fld_s, List.getElem?_cons_zero, List.getElem?_cons_succ, am_bk_v, am_bk_n, bo_0, bo_1, am_pk_s, List.length_cons, List.length_nil, Nat.zero_add, List.set_cons_zero, List.set_cons_succ, Nat.reduceAdd, Nat.reduceLeDiff, Nat.reduceLT, hc, is_c, if_true, b0, b1, b2, b3, wk_AK (sR _) hn hk, wt_AK hn, set_pP1, sk_AI hn (show 8 < 2 ^ 31 by decide), st_AI hn (show 8 < 2 ^ 31 by decide), updn_map nI, set_pP2, set_pP3, nI_1, set_pP0]
    rfl
  rw [pP_self hp] at key
  exact key
end PL
