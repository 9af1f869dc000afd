/-! sightings: kinds that fit, questions -/
def fitN (f k : Nat) (F T K : Nat → Nat) : Nat → Nat → Bool
  | 0, _ => true
  | j + 1, s => if tmN f k (F s) (T s) = K s then fitN f k F T K j (s + 1) else false
def mostN (c : Nat → Nat) : Nat → Nat
  | 0 => 0
  | k + 1 => if c k = 0 then mostN c k else max (mostN c k) (cntN (fun q => c q == c k) 5)
def codN (f m a b k : Nat) : Nat := if m.testBit k then tmN f k a b + 1 else 0
def bqS (M : Nat → Nat → Nat) (a b : Nat) (r : Nat × Nat) : Nat × Nat := if a ≠ b ∧ M a b < r.1 then (M a b, 10 * a + b + 1) else r
def bqI (M : Nat → Nat → Nat) (a : Nat) : Nat → Nat × Nat → Nat × Nat
  | 0, r => r
  | b + 1, r => bqS M a b (bqI M a b r)
def bqO (M : Nat → Nat → Nat) (f : Nat) : Nat → Nat × Nat → Nat × Nat
  | 0, r => r
  | a + 1, r => bqI M a f (bqO M f a r)
theorem tmN_le (f k a b : Nat) : tmN f k a b ≤ 61 := srchN_le _ 60 1 (by omega)
theorem mostN_le (c : Nat → Nat) : ∀ k, mostN c k ≤ 5
  | 0 => Nat.zero_le _
  | k + 1 => by
    have := mostN_le c k
    have h2 := cntN_le (fun q => c q == c k) 5
    unfold mostN
    split <;> omega
theorem cI_inj {x y : Nat} (hx : x < 2 ^ 30) (hy : y < 2 ^ 30) : cI (x + 1) = cI (y + 1) ↔ x = y := by
  cases x with
  | zero =>
    cases y with
    | zero => exact ⟨fun _ => rfl, fun _ => rfl⟩
    | succ y =>
      rw [cI_s]
      constructor
      · intro h; exact absurd h.symm (nm1 (by omega))
      · intro h; omega
  | succ x =>
    cases y with
    | zero =>
      rw [cI_s]
      constructor
      · intro h; exact absurd h (nm1 (by omega))
      · intro h; omega
    | succ y => rw [cI_s, cI_s, nI_eq (by omega) (by omega)]; omega
section SG
variable {d : Nat} {h : am_H} {v n : Nat} {F T K : Nat → Nat} {g : Nat → Int32}
theorem l_fits {f k : Nat} (hf : 1 ≤ f ∧ f ≤ 15) (hk : k < 5) (hn : n ≤ 6) (hb : ∀ s, s < n → F s < f ∧ T s < f ∧ K s < 2 ^ 31) : ∀ j s (h : am_H), s + j = n → SG h v n F T K g → ∃ h', am_ev (d + 5) 77 2 [some (.ref v), some (.int (nI f)), some (.ref (1000002 + k)), some (.int (nI s))] [] h = some (some (.int (if fitN f k F T K j s then 1 else 0)), h') ∧ SG h' v n F T K g ∧ FG h h' v := by
  intro j
  induction j with
  | zero =>
    intro s h hs hS
    obtain ⟨k0, k1, k2, k3, k4, k5, k6, k7⟩ := hS.fl
    have : s = n := by omega
    subst this
    refine ⟨h, ?_, hS, FG.rf⟩
    rw [e_77_2]
    simp only [e_77_3, e_77_4, e_77_7, e_77_45, e_77_46, lg_n, lg_i, lg_r, wd_nil, am_wd_i, am_wd_r, am_wd_l, am_gk_s, am_fld_s, List.getElem?_cons_zero, List.getElem?_cons_succ, am_bk_v, am_bk_n, bo_0, bo_1, am_pk_s, List.length_cons, List.length_nil, Nat.zero_add, List.set_cons_zero, List.set_cons_succ, Nat.reduceAdd, Nat.reduceLeDiff, Nat.reduceLT, k3, nI_leI (show s < 2 ^ 31 by omega) (show s < 2 ^ 31 by omega), Nat.le_refl, if_true, fitN]
  | succ j ih =>
    intro s h hs hS
    obtain ⟨k0, k1, k2, k3, k4, k5, k6, k7⟩ := hS.fl
    obtain ⟨b1, b2, b3⟩ := hb s (by omega)
    obtain ⟨h1, e1, S1, F1⟩ := m_timeAlone (d := d) hS hf hk b1 b2
    obtain ⟨r0, r1, r2, r3, r4, r5, r6, r7⟩ := S1.fl
    have htm := tmN_le f k (F s) (T s)
    have go : am_ev (d + 5) 77 2 [some (.ref v), some (.int (nI f)), some (.ref (1000002 + k)), some (.int (nI s))] [] h = if tmN f k (F s) (T s) = K s then am_ev (d + 5) 77 2 [some (.ref v), some (.int (nI f)), some (.ref (1000002 + k)), some (.int (nI (s + 1)))] [] h1 else some (some (.int 0), h1) := by
      rw [e_77_2]
      simp only [e_77_3, e_77_4, e_77_7, e_77_10, e_77_11, e_77_12, e_77_13, e_77_14, e_77_17, e_77_18, e_77_19, e_77_20, e_77_23, e_77_24, e_77_25, e_77_28, e_77_29, e_77_32, e_77_33, e_77_34, e_77_37, e_77_38, e_77_39, e_77_42, lg_n, lg_i, lg_r, wd_nil, am_wd_i, am_wd_r, am_wd_l, am_gk_s, am_fld_s, List.getElem?_cons_zero, List.getElem?_cons_succ, am_bk_v, am_bk_n, bo_0, bo_1, am_pk_s, List.length_cons, List.length_nil, Nat.zero_add, List.set_cons_zero, List.set_cons_succ, Nat.reduceAdd, Nat.reduceLeDiff, Nat.reduceLT, k0, k1, k3, k7, nI_leI (show n < 2 ^ 31 by omega) (show s < 2 ^ 31 by omega), if_neg (show ¬ n ≤ s by omega), hS.2.2.1, hS.2.2.2.1, ak_AI (show s < 6 by omega) (show 6 < 2 ^ 31 by decide), e1, r2, S1.2.2.2.2.1, nI_eq (show tmN f k (F s) (T s) < 2 ^ 31 by omega) b3, nI_1]
    have hN : fitN f k F T K (j + 1) s = if tmN f k (F s) (T s) = K s then fitN f k F T K j (s + 1) else false := rfl
    rw [go, hN]
    by_cases hx : tmN f k (F s) (T s) = K s
    · rw [if_pos hx, if_pos hx]
      obtain ⟨h', e', S', F'⟩ := ih (s + 1) h1 (by omega) S1
      exact ⟨h', e', S', F1.tr F'⟩
    · rw [if_neg hx, if_neg hx]
      exact ⟨h1, rfl, S1, F1⟩
theorem m_fitsAll (hS : SG h v n F T K g) {f k : Nat} (hf : 1 ≤ f ∧ f ≤ 15) (hk : k < 5) (hn : n ≤ 6) (hb : ∀ s, s < n → F s < f ∧ T s < f ∧ K s < 2 ^ 31) : ∃ h', am_cal (d + 6) 77 [.ref v, .int (nI f), .ref (1000002 + k)] h = some (some (.int (if fitN f k F T K n 0 then 1 else 0)), h') ∧ SG h' v n F T K g ∧ FG h h' v := by
  obtain ⟨h', e', S', F'⟩ := l_fits (d := d) hf hk hn hb n 0 h (by omega) hS
  refine ⟨h', ?_, S', F'⟩
  refine (b_77 _ _ _).trans ?_; show am_ev _ 77 0 [some (.ref v), some (.int (nI f)), some (.ref (1000002 + k)), none] [] _ = _
  simp only [e_77_0, e_77_1, lg_n, lg_i, lg_r, wd_nil, am_wd_i, am_wd_r, am_wd_l, am_gk_s, am_fld_s, List.getElem?_cons_zero, List.getElem?_cons_succ, am_bk_v, am_bk_n, bo_0, bo_1, am_pk_s, List.length_cons, List.length_nil, Nat.zero_add, List.set_cons_zero, List.set_cons_succ, Nat.reduceAdd, Nat.reduceLeDiff, Nat.reduceLT]
  exact e'
theorem l_fitK {f : Nat} (hf : 1 ≤ f ∧ f ≤ 15) (hn : n ≤ 6) (hb : ∀ s, s < n → F s < f ∧ T s < f ∧ K s < 2 ^ 31) : ∀ j k (h : am_H), k + j = 5 → SG h v n F T K g → ∃ h', am_ev (d + 6) 76 4 [some (.ref v), some (.int (nI f)), some (.int (nI (bitsN (fun k => fitN f k F T K n 0) k))), some (.int (nI k))] [] h = some (some (.int (nI (bitsN (fun k => fitN f k F T K n 0) 5))), h') ∧ SG h' v n F T K g ∧ FG h h' v := by
  intro j
  have e5 : (5 : Int32) = nI 5 := by decide +kernel
  induction j with
  | zero =>
    intro k h hk hS
    have : k = 5 := by omega
    subst this
    refine ⟨h, ?_, hS, FG.rf⟩
    rw [e_76_4]
    simp only [e_76_5, e_76_6, e_76_33, e_76_34, lg_n, lg_i, lg_r, wd_nil, am_wd_i, am_wd_r, am_wd_l, am_gk_s, am_fld_s, List.getElem?_cons_zero, List.getElem?_cons_succ, am_bk_v, am_bk_n, bo_0, bo_1, am_pk_s, List.length_cons, List.length_nil, Nat.zero_add, List.set_cons_zero, List.set_cons_succ, Nat.reduceAdd, Nat.reduceLeDiff, Nat.reduceLT, e5, nI_leI (show 5 < 2 ^ 31 by omega) (show 5 < 2 ^ 31 by omega), Nat.le_refl, if_true]
  | succ j ih =>
    intro k h hk hS
    obtain ⟨k0, k1, k2, k3, k4, k5, k6, k7⟩ := hS.fl
    obtain ⟨h1, e1, S1, F1⟩ := m_fitsAll (d := d) hS hf (show k < 5 by omega) hn hb
    obtain ⟨h', e', S', F'⟩ := ih (k + 1) h1 (by omega) S1
    refine ⟨h', ?_, S', F1.tr F'⟩
    rw [bitsN] at e'
    rw [e_76_4]
    by_cases hx : fitN f k F T K n 0 = true
    · rw [if_pos hx] at e1 e'
      simp only [e_76_5, e_76_6, e_76_9, e_76_10, e_76_11, e_76_12, e_76_15, e_76_18, e_76_21, e_76_22, e_76_23, e_76_24, e_76_25, e_76_26, e_76_27, e_76_30, lg_n, lg_i, lg_r, wd_nil, am_wd_i, am_wd_r, am_wd_l, am_gk_s, am_fld_s, List.getElem?_cons_zero, List.getElem?_cons_succ, am_bk_v, am_bk_n, bo_0, bo_1, am_pk_s, List.length_cons, List.length_nil, Nat.zero_add, List.set_cons_zero, List.set_cons_succ, Nat.reduceAdd, Nat.reduceLeDiff, Nat.reduceLT, e5, nI_leI (show 5 < 2 ^ 31 by omega) (show k < 2 ^ 31 by omega), if_neg (show ¬ 5 ≤ k by omega), m_numbered (show k < 5 by omega), k7, e1, one_ne, if_false, sh1 k (by omega), fa_or, nI_1]
      exact e'
    · rw [if_neg hx] at e1 e'
      rw [Nat.or_zero] at e'
      simp only [e_76_5, e_76_6, e_76_9, e_76_10, e_76_11, e_76_12, e_76_15, e_76_18, e_76_21, e_76_22, e_76_23, e_76_24, e_76_25, e_76_26, e_76_27, e_76_30, lg_n, lg_i, lg_r, wd_nil, am_wd_i, am_wd_r, am_wd_l, am_gk_s, am_fld_s, List.getElem?_cons_zero, List.getElem?_cons_succ, am_bk_v, am_bk_n, bo_0, bo_1, am_pk_s, List.length_cons, List.length_nil, Nat.zero_add, List.set_cons_zero, List.set_cons_succ, Nat.reduceAdd, Nat.reduceLeDiff, Nat.reduceLT, e5, nI_leI (show 5 < 2 ^ 31 by omega) (show k < 2 ^ 31 by omega), if_neg (show ¬ 5 ≤ k by omega), m_numbered (show k < 5 by omega), k7, e1, if_true, nI_1]
      exact e'
theorem m_fitK (hS : SG h v n F T K g) {f : Nat} (hf : 1 ≤ f ∧ f ≤ 15) (hn : n ≤ 6) (hb : ∀ s, s < n → F s < f ∧ T s < f ∧ K s < 2 ^ 31) : ∃ h', am_cal (d + 7) 76 [.ref v, .int (nI f)] h = some (some (.int (nI (bitsN (fun k => fitN f k F T K n 0) 5))), h') ∧ SG h' v n F T K g ∧ FG h h' v := by
  obtain ⟨h', e', S', F'⟩ := l_fitK (d := d) hf hn hb 5 0 h (by omega) hS
  refine ⟨h', ?_, S', F'⟩
  refine (b_76 _ _ _).trans ?_; show am_ev _ 76 0 [some (.ref v), some (.int (nI f)), none, none] [] _ = _
  simp only [e_76_0, e_76_1, e_76_2, e_76_3, lg_n, lg_i, lg_r, wd_nil, am_wd_i, am_wd_r, am_wd_l, am_gk_s, am_fld_s, List.getElem?_cons_zero, List.getElem?_cons_succ, am_bk_v, am_bk_n, bo_0, bo_1, am_pk_s, List.length_cons, List.length_nil, Nat.zero_add, List.set_cons_zero, List.set_cons_succ, Nat.reduceAdd, Nat.reduceLeDiff, Nat.reduceLT]
  exact e'
theorem l_howTook {c : Nat → Nat} (hS : SG h v n F T K (fun k => cI (c k + 1))) (hc : ∀ k, k < 5 → c k < 2 ^ 30) {x : Nat} (hx : x < 2 ^ 30) : ∀ j k, k + j = 5 → am_ev d 81 4 [some (.ref v), some (.int (cI (x + 1))), some (.int (nI (cntN (fun q => c q == x) k))), some (.int (nI k))] [] h = some (some (.int (nI (cntN (fun q => c q == x) 5))), h) := by
  obtain ⟨k0, k1, k2, k3, k4, k5, k6, k7⟩ := hS.fl
  have h8 := hS.2.2.2.2.2.2.2.1
  have e5 : (5 : Int32) = nI 5 := by decide +kernel
  intro j
  induction j with
  | zero =>
    intro k hk
    have : k = 5 := by omega
    subst this
    rw [e_81_4]
    simp only [e_81_5, e_81_6, e_81_33, e_81_34, lg_n, lg_i, lg_r, wd_nil, am_wd_i, am_wd_r, am_wd_l, am_gk_s, am_fld_s, List.getElem?_cons_zero, List.getElem?_cons_succ, am_bk_v, am_bk_n, bo_0, bo_1, am_pk_s, List.length_cons, List.length_nil, Nat.zero_add, List.set_cons_zero, List.set_cons_succ, Nat.reduceAdd, Nat.reduceLeDiff, Nat.reduceLT, e5, nI_leI (show 5 < 2 ^ 31 by omega) (show 5 < 2 ^ 31 by omega), Nat.le_refl, if_true]
  | succ j ih =>
    intro k hk
    have ih' := ih (k + 1) (by omega)
    rw [cntN] at ih'
    rw [e_81_4]
    simp only [e_81_5, e_81_6, e_81_9, e_81_10, e_81_11, e_81_14, e_81_15, e_81_16, e_81_17, e_81_20, e_81_21, e_81_24, e_81_25, e_81_26, e_81_27, e_81_30, lg_n, lg_i, lg_r, wd_nil, am_wd_i, am_wd_r, am_wd_l, am_gk_s, am_fld_s, List.getElem?_cons_zero, List.getElem?_cons_succ, am_bk_v, am_bk_n, bo_0, bo_1, am_pk_s, List.length_cons, List.length_nil, Nat.zero_add, List.set_cons_zero, List.set_cons_succ, Nat.reduceAdd, Nat.reduceLeDiff, Nat.reduceLT, e5, nI_leI (show 5 < 2 ^ 31 by omega) (show k < 2 ^ 31 by omega), if_neg (show ¬ 5 ≤ k by omega), k6, h8, ak_AI (show k < 5 by omega) (show 5 < 2 ^ 31 by decide), cI_inj (hc k (by omega)) hx, nI_1, Int32.add_zero]
    by_cases hq : c k = x
    · rw [if_pos (show (c k == x) = true by simp [hq])] at ih'
      simp only [hq, not_true_eq_false, if_false, if_true]
      exact ih'
    · rw [if_neg (show ¬ (c k == x) = true by simp [hq])] at ih'
      simp only [hq, not_false_eq_true, if_true, if_false]
      exact ih'
theorem m_howTook {c : Nat → Nat} (hS : SG h v n F T K (fun k => cI (c k + 1))) (hc : ∀ k, k < 5 → c k < 2 ^ 30) {x : Nat} (hx : x < 2 ^ 30) : am_cal (d + 1) 81 [.ref v, .int (cI (x + 1))] h = some (some (.int (nI (cntN (fun q => c q == x) 5))), h) := by
  refine (b_81 _ _ _).trans ?_; show am_ev _ 81 0 [some (.ref v), some (.int (cI (x + 1))), none, none] [] _ = _
  simp only [e_81_0, e_81_1, e_81_2, e_81_3, lg_n, lg_i, lg_r, wd_nil, am_wd_i, am_wd_r, am_wd_l, am_gk_s, am_fld_s, List.getElem?_cons_zero, List.getElem?_cons_succ, am_bk_v, am_bk_n, bo_0, bo_1, am_pk_s, List.length_cons, List.length_nil, Nat.zero_add, List.set_cons_zero, List.set_cons_succ, Nat.reduceAdd, Nat.reduceLeDiff, Nat.reduceLT]
  exact l_howTook hS hc hx 5 0 (by omega)
theorem m_max {x y : Nat} (hx : x < 2 ^ 31) (hy : y < 2 ^ 31) : am_cal (d + 1) 214 [.int (nI x), .int (nI y)] h = some (some (.int (nI (max x y))), h) := by
  refine (b_214 _ _ _).trans ?_; show am_ev _ 214 0 [some (.int (nI x)), some (.int (nI y))] [] _ = _
  simp only [e_214_0, e_214_1, e_214_2, e_214_5, e_214_6, e_214_9, e_214_10, lg_n, lg_i, lg_r, wd_nil, am_wd_i, am_wd_r, am_wd_l, am_gk_s, am_fld_s, List.getElem?_cons_zero, List.getElem?_cons_succ, am_bk_v, am_bk_n, bo_0, bo_1, am_pk_s, List.length_cons, List.length_nil, Nat.zero_add, List.set_cons_zero, List.set_cons_succ, Nat.reduceAdd, Nat.reduceLeDiff, Nat.reduceLT, nI_ltI hx hy]
  by_cases hxy : x < y
  · rw [if_pos hxy, Nat.max_eq_right (by omega)]
  · rw [if_neg hxy, Nat.max_eq_left (by omega)]
theorem m_min {x y : Nat} (hx : x < 2 ^ 31) (hy : y < 2 ^ 31) : am_cal (d + 1) 215 [.int (nI x), .int (nI y)] h = some (some (.int (nI (min x y))), h) := by
  refine (b_215 _ _ _).trans ?_; show am_ev _ 215 0 [some (.int (nI x)), some (.int (nI y))] [] _ = _
  simp only [e_215_0, e_215_1, e_215_2, e_215_5, e_215_6, e_215_9, e_215_10, lg_n, lg_i, lg_r, wd_nil, am_wd_i, am_wd_r, am_wd_l, am_gk_s, am_fld_s, List.getElem?_cons_zero, List.getElem?_cons_succ, am_bk_v, am_bk_n, bo_0, bo_1, am_pk_s, List.length_cons, List.length_nil, Nat.zero_add, List.set_cons_zero, List.set_cons_succ, Nat.reduceAdd, Nat.reduceLeDiff, Nat.reduceLT, nI_ltI hy hx]
  by_cases hxy : y < x
  · rw [if_pos hxy, Nat.min_eq_right (by omega)]
  · rw [if_neg hxy, Nat.min_eq_left (by omega)]
theorem l_alike1 {f m a b : Nat} (hf : 1 ≤ f ∧ f ≤ 15) (ha : a < f) (hb : b < f) {x5 : Option Value} (l5 : am_lg x5 = false) : ∀ j k (h : am_H) (g : Nat → Int32), k + j = 5 → SG h v n F T K g → (∀ q, q < k → g q = cI (codN f m a b q + 1)) → ∃ h', am_ev (d + 5) 80 6 [some (.ref v), some (.int (nI f)), some (.int (nI m)), some (.int (nI a)), some (.int (nI b)), x5, some (.int (nI k))] [] h = am_ev (d + 5) 80 51 [some (.ref v), some (.int (nI f)), some (.int (nI m)), some (.int (nI a)), some (.int (nI b)), x5, some (.int (nI 5))] [] h' ∧ SG h' v n F T K (fun q => cI (codN f m a b q + 1)) ∧ FG h h' v := by
  intro j
  have e5 : (5 : Int32) = nI 5 := by decide +kernel
  induction j with
  | zero =>
    intro k h g hk hS hg
    have : k = 5 := by omega
    subst this
    refine ⟨h, ?_, ?_, FG.rf⟩
    · rw [e_80_6]
      simp only [e_80_8, e_80_9, lg_n, lg_i, lg_r, wd_nil, am_wd_i, am_wd_r, am_wd_l, am_gk_s, am_fld_s, List.getElem?_cons_zero, List.getElem?_cons_succ, am_bk_v, am_bk_n, bo_0, bo_1, am_pk_s, List.length_cons, List.length_nil, Nat.zero_add, List.set_cons_zero, List.set_cons_succ, Nat.reduceAdd, Nat.reduceLeDiff, Nat.reduceLT, e5, nI_leI (show 5 < 2 ^ 31 by omega) (show 5 < 2 ^ 31 by omega), Nat.le_refl, if_true]
    · obtain ⟨h1, h2, h3, h4, h5, h6, h7, h8, h9⟩ := hS
      exact ⟨h1, h2, h3, h4, h5, h6, h7, by rw [h8, AI_cong hg], h9⟩
  | succ j ih =>
    intro k h g hk hS hg
    obtain ⟨k0, k1, k2, k3, k4, k5, k6, k7⟩ := hS.fl
    have hk5 : k < 5 := by omega
    have hgx : ∀ (x : Int32), x = cI (codN f m a b k + 1) → ∀ q, q < k + 1 → upd g k x q = cI (codN f m a b q + 1) := by
      intro x hx q hq
      unfold upd
      split
      · rename_i e; subst e; exact hx
      · exact hg q (by omega)
    by_cases hbit : m.testBit k = true
    · obtain ⟨h1, e1, S1, F1⟩ := m_timeAlone (d := d) hS hf hk5 ha hb
      have S2 := S1.times (upd g k (nI (tmN f k a b)))
      have hcod : codN f m a b k = tmN f k a b + 1 := by unfold codN; rw [if_pos hbit]
      obtain ⟨h', e', S', F'⟩ := ih (k + 1) _ _ (by omega) S2 (hgx _ (by rw [hcod, cI_s]))
      refine ⟨h', ?_, S', (F1.tr (FG.set (by omega) (by omega))).tr F'⟩
      rw [e_80_6]
      have hb0 : ¬ nI m &&& nI (2 ^ k) = 0 := by rw [bit_0 (by omega), hbit]; decide
      simp only [e_80_8, e_80_9, e_80_12, e_80_13, e_80_16, e_80_18, e_80_19, e_80_20, e_80_22, e_80_23, e_80_24, e_80_27, e_80_28, e_80_31, e_80_32, e_80_33, e_80_35, e_80_38, e_80_39, e_80_41, e_80_44, e_80_45, e_80_48, lg_n, lg_i, lg_r, wd_nil, am_wd_i, am_wd_r, am_wd_l, am_gk_s, am_fld_s, List.getElem?_cons_zero, List.getElem?_cons_succ, am_bk_v, am_bk_n, bo_0, bo_1, am_pk_s, List.length_cons, List.length_nil, Nat.zero_add, List.set_cons_zero, List.set_cons_succ, Nat.reduceAdd, Nat.reduceLeDiff, Nat.reduceLT, e5, nI_leI (show 5 < 2 ^ 31 by omega) (show k < 2 ^ 31 by omega), if_neg (show ¬ 5 ≤ k by omega), k6, k7, sh1 k (by omega), if_neg hb0, hb0, not_false_eq_true, if_true, m_numbered hk5, e1, S1.2.2.2.2.2.2.2.1, sk_AI hk5 (show 5 < 2 ^ 31 by decide), st_AI hk5 (show 5 < 2 ^ 31 by decide), l5, nI_1]
      exact e'
    · have S2 := hS.times (upd g k (-1))
      have hcod : codN f m a b k = 0 := by unfold codN; rw [if_neg hbit]
      obtain ⟨h', e', S', F'⟩ := ih (k + 1) _ _ (by omega) S2 (hgx _ (by rw [hcod]; rfl))
      refine ⟨h', ?_, S', (FG.set (by omega) (by omega)).tr F'⟩
      rw [e_80_6]
      have hb0 : nI m &&& nI (2 ^ k) = 0 := by rw [bit_0 (by omega)]; simpa using hbit
      simp only [e_80_8, e_80_9, e_80_12, e_80_13, e_80_16, e_80_18, e_80_19, e_80_20, e_80_22, e_80_23, e_80_24, e_80_27, e_80_28, e_80_31, e_80_32, e_80_33, e_80_35, e_80_38, e_80_39, e_80_41, e_80_44, e_80_45, e_80_48, lg_n, lg_i, lg_r, wd_nil, am_wd_i, am_wd_r, am_wd_l, am_gk_s, am_fld_s, List.getElem?_cons_zero, List.getElem?_cons_succ, am_bk_v, am_bk_n, bo_0, bo_1, am_pk_s, List.length_cons, List.length_nil, Nat.zero_add, List.set_cons_zero, List.set_cons_succ, Nat.reduceAdd, Nat.reduceLeDiff, Nat.reduceLT, e5, nI_leI (show 5 < 2 ^ 31 by omega) (show k < 2 ^ 31 by omega), if_neg (show ¬ 5 ≤ k by omega), k6, sh1 k (by omega), hb0, not_true_eq_false, if_true, if_false, hS.2.2.2.2.2.2.2.1, sk_AI hk5 (show 5 < 2 ^ 31 by decide), st_AI hk5 (show 5 < 2 ^ 31 by decide), l5, nI_1]
      exact e'
theorem l_alike2 {c : Nat → Nat} (hS : SG h v n F T K (fun k => cI (c k + 1))) (hc : ∀ k, k < 5 → c k < 2 ^ 30) {x1 x2 x3 x4 : Option Value} (l4 : am_lg x4 = false) : ∀ j k, k + j = 5 → am_ev (d + 1) 80 54 [some (.ref v), x1, x2, x3, x4, some (.int (nI (mostN c k))), some (.int (nI k))] [] h = some (some (.int (nI (mostN c 5))), h) := by
  obtain ⟨k0, k1, k2, k3, k4, k5, k6, k7⟩ := hS.fl
  have h8 := hS.2.2.2.2.2.2.2.1
  have e5 : (5 : Int32) = nI 5 := by decide +kernel
  intro j
  induction j with
  | zero =>
    intro k hk
    have : k = 5 := by omega
    subst this
    rw [e_80_54]
    simp only [e_80_56, e_80_57, e_80_95, e_80_97, lg_n, lg_i, lg_r, wd_nil, am_wd_i, am_wd_r, am_wd_l, am_gk_s, am_fld_s, List.getElem?_cons_zero, List.getElem?_cons_succ, am_bk_v, am_bk_n, bo_0, bo_1, am_pk_s, List.length_cons, List.length_nil, Nat.zero_add, List.set_cons_zero, List.set_cons_succ, Nat.reduceAdd, Nat.reduceLeDiff, Nat.reduceLT, e5, nI_leI (show 5 < 2 ^ 31 by omega) (show 5 < 2 ^ 31 by omega), Nat.le_refl, if_true]
  | succ j ih =>
    intro k hk
    have ih' := ih (k + 1) (by omega)
    have hck := hc k (by omega)
    have hm := mostN_le c k
    have hcn := cntN_le (fun q => c q == c k) 5
    have hN : mostN c (k + 1) = if c k = 0 then mostN c k else max (mostN c k) (cntN (fun q => c q == c k) 5) := rfl
    rw [e_80_54]
    simp only [e_80_56, e_80_57, e_80_60, e_80_61, e_80_64, e_80_66, e_80_67, e_80_68, e_80_71, e_80_73, e_80_74, e_80_75, e_80_78, e_80_80, e_80_81, e_80_84, e_80_87, e_80_89, e_80_92, lg_n, lg_i, lg_r, wd_nil, am_wd_i, am_wd_r, am_wd_l, am_gk_s, am_fld_s, List.getElem?_cons_zero, List.getElem?_cons_succ, am_bk_v, am_bk_n, bo_0, bo_1, am_pk_s, List.length_cons, List.length_nil, Nat.zero_add, List.set_cons_zero, List.set_cons_succ, Nat.reduceAdd, Nat.reduceLeDiff, Nat.reduceLT, e5, nI_leI (show 5 < 2 ^ 31 by omega) (show k < 2 ^ 31 by omega), if_neg (show ¬ 5 ≤ k by omega), k6, k7, h8, ak_AI (show k < 5 by omega) (show 5 < 2 ^ 31 by decide), cI_m1 hck, m_howTook hS hc hck, m_max (show mostN c k < 2 ^ 31 by omega) (show cntN (fun q => c q == c k) 5 < 2 ^ 31 by omega), nI_1, l4, lg_i]
    by_cases h0 : c k = 0
    · rw [if_pos h0] at hN ⊢
      rw [hN] at ih'
      exact ih'
    · rw [if_neg h0] at hN ⊢
      rw [hN] at ih'
      exact ih'
theorem codN_lt (f m a b k : Nat) : codN f m a b k < 2 ^ 30 := by
  have := tmN_le f k a b
  unfold codN
  split <;> omega
theorem m_alike (hS : SG h v n F T K g) {f m a b : Nat} (hf : 1 ≤ f ∧ f ≤ 15) (ha : a < f) (hb : b < f) : ∃ h' g', am_cal (d + 6) 80 [.ref v, .int (nI f), .int (nI m), .int (nI a), .int (nI b)] h = some (some (.int (nI (mostN (codN f m a b) 5))), h') ∧ SG h' v n F T K g' ∧ FG h h' v := by
  obtain ⟨h', e', S', F'⟩ := l_alike1 (d := d) (m := m) hf ha hb (x5 := some (.int 0)) (lg_i _) 5 0 h g (by omega) hS (fun q hq => absurd hq (Nat.not_lt_zero q))
  refine ⟨h', _, ?_, S', F'⟩
  refine (b_80 _ _ _).trans ?_; show am_ev _ 80 0 [some (.ref v), some (.int (nI f)), some (.int (nI m)), some (.int (nI a)), some (.int (nI b)), none, none] [] _ = _
  simp only [e_80_0, e_80_1, e_80_3, e_80_4, lg_n, lg_i, lg_r, wd_nil, am_wd_i, am_wd_r, am_wd_l, am_gk_s, am_fld_s, List.getElem?_cons_zero, List.getElem?_cons_succ, am_bk_v, am_bk_n, bo_0, bo_1, am_pk_s, List.length_cons, List.length_nil, Nat.zero_add, List.set_cons_zero, List.set_cons_succ, Nat.reduceAdd, Nat.reduceLeDiff, Nat.reduceLT]
  refine Eq.trans e' ?_
  simp only [e_80_51, e_80_52, lg_n, lg_i, lg_r, wd_nil, am_wd_i, am_wd_r, am_wd_l, am_gk_s, am_fld_s, List.getElem?_cons_zero, List.getElem?_cons_succ, am_bk_v, am_bk_n, bo_0, bo_1, am_pk_s, List.length_cons, List.length_nil, Nat.zero_add, List.set_cons_zero, List.set_cons_succ, Nat.reduceAdd, Nat.reduceLeDiff, Nat.reduceLT]
  exact l_alike2 S' (fun k _ => codN_lt f m a b k) (lg_i _) 5 0 (by omega)
theorem bqS_le (M : Nat → Nat → Nat) (a b : Nat) {r : Nat × Nat} (hr : r.1 ≤ 8 ∧ r.2 ≤ 200) (ha : a < 16) (hb : b < 16) : (bqS M a b r).1 ≤ 8 ∧ (bqS M a b r).2 ≤ 200 := by
  unfold bqS
  split
  · simp only; omega
  · exact hr
theorem bqI_le (M : Nat → Nat → Nat) (a : Nat) (ha : a < 16) {r : Nat × Nat} (hr : r.1 ≤ 8 ∧ r.2 ≤ 200) : ∀ b, b < 16 → (bqI M a b r).1 ≤ 8 ∧ (bqI M a b r).2 ≤ 200
  | 0, _ => hr
  | b + 1, hb => bqS_le M a b (bqI_le M a ha hr b (by omega)) ha (by omega)
theorem bqO_le (M : Nat → Nat → Nat) (f : Nat) (hf : f < 16) {r : Nat × Nat} (hr : r.1 ≤ 8 ∧ r.2 ≤ 200) : ∀ a, a < 16 → (bqO M f a r).1 ≤ 8 ∧ (bqO M f a r).2 ≤ 200
  | 0, _ => hr
  | a + 1, ha => bqI_le M a (by omega) (bqO_le M f hf hr a (by omega)) f hf
theorem l_bq1 {f m a : Nat} (hf : 1 ≤ f ∧ f ≤ 15) (ha : a < f) (r : Nat × Nat) (hr : r.1 ≤ 8 ∧ r.2 ≤ 200) : ∀ j b (h : am_H) (g : Nat → Int32) (z : Option Value), b + j = f → SG h v n F T K g → ∃ h' g' z', am_ev (d + 6) 79 20 [some (.ref v), some (.int (nI f)), some (.int (nI m)), some (.int (nI (bqI (fun a b => mostN (codN f m a b) 5) a b r).1)), some (.int (cI ((bqI (fun a b => mostN (codN f m a b) 5) a b r).2 + 1))), some (.int (nI a)), some (.int (nI b)), z] [] h = am_ev (d + 6) 79 74 [some (.ref v), some (.int (nI f)), some (.int (nI m)), some (.int (nI (bqI (fun a b => mostN (codN f m a b) 5) a f r).1)), some (.int (cI ((bqI (fun a b => mostN (codN f m a b) 5) a f r).2 + 1))), some (.int (nI a)), some (.int (nI f)), z'] [] h' ∧ SG h' v n F T K g' ∧ FG h h' v := by
  intro j
  have e10 : (10 : Int32) = nI 10 := by decide +kernel
  induction j with
  | zero =>
    intro b h g z hb hS
    have : b = f := by omega
    subst this
    refine ⟨h, g, z, ?_, hS, FG.rf⟩
    rw [e_79_20]
    simp only [e_79_22, e_79_23, lg_n, lg_i, lg_r, wd_nil, am_wd_i, am_wd_r, am_wd_l, am_gk_s, am_fld_s, List.getElem?_cons_zero, List.getElem?_cons_succ, am_bk_v, am_bk_n, bo_0, bo_1, am_pk_s, List.length_cons, List.length_nil, Nat.zero_add, List.set_cons_zero, List.set_cons_succ, Nat.reduceAdd, Nat.reduceLeDiff, Nat.reduceLT, nI_leI (show b < 2 ^ 31 by omega) (show b < 2 ^ 31 by omega), Nat.le_refl, if_true]
  | succ j ih =>
    intro b h g z hb hS
    obtain ⟨k0, k1, k2, k3, k4, k5, k6, k7⟩ := hS.fl
    have hle := bqI_le (fun a b => mostN (codN f m a b) 5) a (by omega) hr b (by omega)
    have hN : bqI (fun a b => mostN (codN f m a b) 5) a (b + 1) r = if a ≠ b ∧ mostN (codN f m a b) 5 < (bqI (fun a b => mostN (codN f m a b) 5) a b r).1 then (mostN (codN f m a b) 5, 10 * a + b + 1) else bqI (fun a b => mostN (codN f m a b) 5) a b r := rfl
    by_cases hab : a = b
    · rw [if_neg (fun z => z.1 hab)] at hN
      obtain ⟨h', g', z', e', S', F'⟩ := ih (b + 1) h g (some (.int (nI (bqI (fun a b => mostN (codN f m a b) 5) a b r).1))) (by omega) hS
      rw [hN] at e'
      refine ⟨h', g', z', ?_, S', F'⟩
      generalize bqI (fun a b => mostN (codN f m a b) 5) a b r = R at *
      rw [e_79_20]
      simp only [e_79_22, e_79_23, e_79_26, e_79_28, e_79_30, e_79_33, e_79_34, e_79_37, e_79_38, e_79_39, e_79_40, e_79_42, e_79_44, e_79_47, e_79_49, e_79_51, e_79_52, e_79_55, e_79_57, e_79_58, e_79_60, e_79_62, e_79_63, e_79_65, e_79_66, e_79_68, e_79_71, lg_n, lg_i, lg_r, wd_nil, am_wd_i, am_wd_r, am_wd_l, am_gk_s, am_fld_s, List.getElem?_cons_zero, List.getElem?_cons_succ, am_bk_v, am_bk_n, bo_0, bo_1, am_pk_s, List.length_cons, List.length_nil, Nat.zero_add, List.set_cons_zero, List.set_cons_succ, Nat.reduceAdd, Nat.reduceLeDiff, Nat.reduceLT, nI_leI (show f < 2 ^ 31 by omega) (show b < 2 ^ 31 by omega), if_neg (show ¬ f ≤ b by omega), nI_eq (show a < 2 ^ 31 by omega) (show b < 2 ^ 31 by omega), hab, not_true_eq_false, if_false, if_true, nI_leI (show R.1 < 2 ^ 31 by omega) (show R.1 < 2 ^ 31 by omega), Nat.le_refl, nI_1]
      rw [← hab] at e' ⊢
      exact e'
    · obtain ⟨h1, g1, e1, S1, F1⟩ := m_alike (d := d) (m := m) hS hf ha (show b < f by omega)
      have hmm := mostN_le (codN f m a b) 5
      obtain ⟨h', g', z', e', S', F'⟩ := ih (b + 1) h1 g1 (some (.int (nI (mostN (codN f m a b) 5)))) (by omega) S1
      refine ⟨h', g', z', ?_, S', F1.tr F'⟩
      generalize bqI (fun a b => mostN (codN f m a b) 5) a b r = R at *
      rw [e_79_20]
      simp only [e_79_22, e_79_23, e_79_26, e_79_28, e_79_30, e_79_33, e_79_34, e_79_37, e_79_38, e_79_39, e_79_40, e_79_42, e_79_44, e_79_47, e_79_49, e_79_51, e_79_52, e_79_55, e_79_57, e_79_58, e_79_60, e_79_62, e_79_63, e_79_65, e_79_66, e_79_68, e_79_71, lg_n, lg_i, lg_r, wd_nil, am_wd_i, am_wd_r, am_wd_l, am_gk_s, am_fld_s, List.getElem?_cons_zero, List.getElem?_cons_succ, am_bk_v, am_bk_n, bo_0, bo_1, am_pk_s, List.length_cons, List.length_nil, Nat.zero_add, List.set_cons_zero, List.set_cons_succ, Nat.reduceAdd, Nat.reduceLeDiff, Nat.reduceLT, nI_leI (show f < 2 ^ 31 by omega) (show b < 2 ^ 31 by omega), if_neg (show ¬ f ≤ b by omega), nI_eq (show a < 2 ^ 31 by omega) (show b < 2 ^ 31 by omega), hab, not_false_eq_true, if_true, if_false, k7, e1, nI_leI (show R.1 < 2 ^ 31 by omega) (show mostN (codN f m a b) 5 < 2 ^ 31 by omega), e10, pk_mul, nI_add, nI_1]
      by_cases hlt : mostN (codN f m a b) 5 < R.1
      · rw [if_pos ⟨hab, hlt⟩] at hN
        rw [hN, cI_s] at e'
        rw [if_neg (show ¬ R.1 ≤ mostN (codN f m a b) 5 by omega)]
        exact e'
      · rw [if_neg (fun z => hlt z.2)] at hN
        rw [hN] at e'
        rw [if_pos (show R.1 ≤ mostN (codN f m a b) 5 by omega)]
        exact e'
theorem l_bq2 {f m : Nat} (hf : 1 ≤ f ∧ f ≤ 15) (r : Nat × Nat) (hr : r.1 ≤ 8 ∧ r.2 ≤ 200) : ∀ j a (h : am_H) (g : Nat → Int32) (z6 z7 : Option Value), a + j = f → SG h v n F T K g → ∃ h' g', am_ev (d + 6) 79 11 [some (.ref v), some (.int (nI f)), some (.int (nI m)), some (.int (nI (bqO (fun a b => mostN (codN f m a b) 5) f a r).1)), some (.int (cI ((bqO (fun a b => mostN (codN f m a b) 5) f a r).2 + 1))), some (.int (nI a)), z6, z7] [] h = some (some (.int (cI ((bqO (fun a b => mostN (codN f m a b) 5) f f r).2 + 1))), h') ∧ SG h' v n F T K g' ∧ FG h h' v := by
  intro j
  induction j with
  | zero =>
    intro a h g z6 z7 ha hS
    have : a = f := by omega
    subst this
    refine ⟨h, g, ?_, hS, FG.rf⟩
    rw [e_79_11]
    simp only [e_79_13, e_79_14, e_79_80, e_79_82, lg_n, lg_i, lg_r, wd_nil, am_wd_i, am_wd_r, am_wd_l, am_gk_s, am_fld_s, List.getElem?_cons_zero, List.getElem?_cons_succ, am_bk_v, am_bk_n, bo_0, bo_1, am_pk_s, List.length_cons, List.length_nil, Nat.zero_add, List.set_cons_zero, List.set_cons_succ, Nat.reduceAdd, Nat.reduceLeDiff, Nat.reduceLT, nI_leI (show a < 2 ^ 31 by omega) (show a < 2 ^ 31 by omega), Nat.le_refl, if_true]
  | succ j ih =>
    intro a h g z6 z7 ha hS
    have hle := bqO_le (fun a b => mostN (codN f m a b) 5) f (by omega) hr a (by omega)
    obtain ⟨h1, g1, z', e1, S1, F1⟩ := l_bq1 (d := d) (m := m) hf (show a < f by omega) (bqO (fun a b => mostN (codN f m a b) 5) f a r) hle f 0 h g z7 (by omega) hS
    obtain ⟨h', g', e', S', F'⟩ := ih (a + 1) h1 g1 (some (.int (nI f))) z' (by omega) S1
    refine ⟨h', g', ?_, S', F1.tr F'⟩
    rw [e_79_11]
    simp only [e_79_13, e_79_14, e_79_17, e_79_18, lg_n, lg_i, lg_r, wd_nil, am_wd_i, am_wd_r, am_wd_l, am_gk_s, am_fld_s, List.getElem?_cons_zero, List.getElem?_cons_succ, am_bk_v, am_bk_n, bo_0, bo_1, am_pk_s, List.length_cons, List.length_nil, Nat.zero_add, List.set_cons_zero, List.set_cons_succ, Nat.reduceAdd, Nat.reduceLeDiff, Nat.reduceLT, nI_leI (show f < 2 ^ 31 by omega) (show a < 2 ^ 31 by omega), if_neg (show ¬ f ≤ a by omega)]
    refine Eq.trans e1 ?_
    simp only [e_79_74, e_79_77, lg_n, lg_i, lg_r, wd_nil, am_wd_i, am_wd_r, am_wd_l, am_gk_s, am_fld_s, List.getElem?_cons_zero, List.getElem?_cons_succ, am_bk_v, am_bk_n, bo_0, bo_1, am_pk_s, List.length_cons, List.length_nil, Nat.zero_add, List.set_cons_zero, List.set_cons_succ, Nat.reduceAdd, Nat.reduceLeDiff, Nat.reduceLT, nI_1]
    exact e'
theorem bcN (m : Nat) (hm : m < 32) : cntN (fun i => m.testBit i) 8 ≤ 8 := cntN_le _ 8
theorem m_bestQ (hS : SG h v n F T K g) {f m : Nat} (hf : 1 ≤ f ∧ f ≤ 15) (hm : m < 32) : ∃ h' g', am_cal (d + 7) 79 [.ref v, .int (nI f), .int (nI m)] h = some (some (.int (cI ((bqO (fun a b => mostN (codN f m a b) 5) f f (cntN (fun i => m.testBit i) 8, 0)).2 + 1))), h') ∧ SG h' v n F T K g' ∧ FG h h' v := by
  obtain ⟨h', g', e', S', F'⟩ := l_bq2 (d := d) (m := m) hf (cntN (fun i => m.testBit i) 8, 0) ⟨bcN m hm, Nat.zero_le _⟩ f 0 h g none none (by omega) hS
  refine ⟨h', g', ?_, S', F'⟩
  refine (b_79 _ _ _).trans ?_; show am_ev _ 79 0 [some (.ref v), some (.int (nI f)), some (.int (nI m)), none, none, none, none, none] [] _ = _
  simp only [e_79_0, e_79_1, e_79_4, e_79_5, e_79_6, e_79_8, e_79_9, lg_n, lg_i, lg_r, wd_nil, am_wd_i, am_wd_r, am_wd_l, am_gk_s, am_fld_s, List.getElem?_cons_zero, List.getElem?_cons_succ, am_bk_v, am_bk_n, bo_0, bo_1, am_pk_s, List.length_cons, List.length_nil, Nat.zero_add, List.set_cons_zero, List.set_cons_succ, Nat.reduceAdd, Nat.reduceLeDiff, Nat.reduceLT, m_bitCount (show m < 256 by omega)]
  exact e'
theorem m_note (hS : SG h v n F T K g) (hn : n < 6) (a b c : Nat) : ∃ h', am_cal (d + 1) 75 [.ref v, .int (nI a), .int (nI b), .int (nI c)] h = some (some (.int 1), h') ∧ SG h' v (n + 1) (updn F n a) (updn T n b) (updn K n c) g ∧ FG h h' v := by
  have e6 : (6 : Int32) = nI 6 := by decide +kernel
  obtain ⟨h1, h2, h3, h4, h5, ⟨D, h6, h6'⟩, h7, h8, h9⟩ := hS
  unfold sg0 at h2
  refine ⟨am_set (am_set (am_set (am_set h (v + 1) (AI 6 (fun k => nI (updn F n a k)))) (v + 2) (AI 6 (fun k => nI (updn T n b k)))) (v + 3) (AI 6 (fun k => nI (updn K n c k)))) v (sg0 v (n + 1)), ?_, ?_, ?_⟩
  · refine (b_75 _ _ _).trans ?_; show am_ev _ 75 0 [some (.ref v), some (.int (nI a)), some (.int (nI b)), some (.int (nI c))] [] _ = _
    simp only [e_75_0, e_75_1, e_75_4, e_75_6, e_75_9, e_75_10, e_75_11, e_75_12, e_75_15, e_75_16, e_75_19, e_75_20, e_75_21, e_75_22, e_75_25, e_75_26, e_75_29, e_75_30, e_75_31, e_75_32, e_75_35, e_75_36, e_75_39, e_75_40, e_75_41, e_75_42, e_75_43, e_75_46, e_75_47, e_75_48, e_75_51, e_75_52, lg_n, lg_i, lg_r, wd_nil, am_wd_i, am_wd_r, am_wd_l, am_gk_s, am_fld_s, List.getElem?_cons_zero, List.getElem?_cons_succ, am_bk_v, am_bk_n, bo_0, bo_1, am_pk_s, List.length_cons, List.length_nil, Nat.zero_add, List.set_cons_zero, List.set_cons_succ, Nat.reduceAdd, Nat.reduceLeDiff, Nat.reduceLT, h2, e6, nI_ltI (show n < 2 ^ 31 by omega) (show 6 < 2 ^ 31 by decide), if_pos hn, h3, h4, h5, sk_AI hn (show 6 < 2 ^ 31 by decide), st_AI hn (show 6 < 2 ^ 31 by decide), updn_map nI, at_set_ne (show v ≠ v + 1 by omega), at_set_ne (show v ≠ v + 2 by omega), at_set_ne (show v ≠ v + 3 by omega), at_set_ne (show v + 2 ≠ v + 1 by omega), at_set_ne (show v + 3 ≠ v + 1 by omega), at_set_ne (show v + 3 ≠ v + 2 by omega), nI_1]
    rfl
  · have hk : ∀ k, k < v ∨ v + 3 < k → am_at (am_set (am_set (am_set (am_set h (v + 1) (AI 6 (fun k => nI (updn F n a k)))) (v + 2) (AI 6 (fun k => nI (updn T n b k)))) (v + 3) (AI 6 (fun k => nI (updn K n c k)))) v (sg0 v (n + 1))) k = am_at h k := by
      intro k hk
      rw [at_set_ne (by omega), at_set_ne (by omega), at_set_ne (by omega), at_set_ne (by omega)]
    exact ⟨h1.keep (fun k _ => hk k (by omega)), at_set_eq, by rw [at_set_ne (by omega), at_set_ne (by omega), at_set_ne (by omega), at_set_eq], by rw [at_set_ne (by omega), at_set_ne (by omega), at_set_eq], by rw [at_set_ne (by omega), at_set_eq], ⟨D, h6.keep (fun k _ _ => hk k (by omega)), h6'⟩, h7.keep (fun k _ _ => hk k (by omega)), by rw [hk _ (by omega)]; exact h8, h9⟩
  · exact ((FG.set (by omega) (by omega)).tr (FG.set (by omega) (by omega))).tr ((FG.set (by omega) (by omega)).tr (FG.set (by omega) (by omega)))
theorem m_noteFull (hS : SG h v n F T K g) (hn : n = 6) (a b c : Int32) : am_cal (d + 1) 75 [.ref v, .int a, .int b, .int c] h = some (some (.int 0), h) := by
  obtain ⟨k0, k1, k2, k3, k4, k5, k6, k7⟩ := hS.fl
  have e6 : (6 : Int32) = nI 6 := by decide +kernel
  refine (b_75 _ _ _).trans ?_; show am_ev _ 75 0 [some (.ref v), some (.int a), some (.int b), some (.int c)] [] _ = _
  simp only [e_75_0, e_75_1, e_75_4, e_75_6, e_75_9, e_75_10, lg_n, lg_i, lg_r, wd_nil, am_wd_i, am_wd_r, am_wd_l, am_gk_s, am_fld_s, List.getElem?_cons_zero, List.getElem?_cons_succ, am_bk_v, am_bk_n, bo_0, bo_1, am_pk_s, List.length_cons, List.length_nil, Nat.zero_add, List.set_cons_zero, List.set_cons_succ, Nat.reduceAdd, Nat.reduceLeDiff, Nat.reduceLT, k3, e6, nI_ltI (show n < 2 ^ 31 by omega) (show 6 < 2 ^ 31 by decide), if_neg (show ¬ n < 6 by omega)]
end SG
