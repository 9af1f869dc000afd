/-! sightings: kinds that fit, questions -/
def fitN (f k : Nat) (F T K : Nat → Nat) : Nat → Nat → Bool
  | 0, _ => true
  | j + 1, s => if tmN f k (F s) (T s) = K s then fitN f k F T K j (s + 1) else false
def mostN (c : Nat → Nat) : Nat → Nat
  | 0 => 0
  | k + 1 => if c k = 0 then mostN c k else max (mostN c k) (cntN (fun q => c q == c k) 5)
def codN (f m a b k : Nat) : Nat := if m.testBit k then tmN f k a b + 1 else 0
def bqS (M : Nat → Nat → Nat) (a b : Nat) (r : Nat × Nat) : Nat × Nat := if a ≠ b ∧ M a b < r.1 then (M a b, 10 * a + b + 1) else r
def bqI (M : Nat → Nat → Nat) (a : Nat) : Nat → Nat × Nat → Nat × Nat
  | 0, r => r
  | b + 1, r => bqS M a b (bqI M a b r)
def bqO (M : Nat → Nat → Nat) (f : Nat) : Nat → Nat × Nat → Nat × Nat
  | 0, r => r
  | a + 1, r => bqI M a f (bqO M f a r)
theorem tmN_le (f k a b : Nat) : tmN f k a b ≤ 61 := srchN_le _ 60 1 (by omega)
theorem mostN_le (c : Nat → Nat) : ∀ k, mostN c k ≤ 5
  | 0 => Nat.zero_le _
  | k + 1 => by
    have := mostN_le c k
    have h2 := cntN_le (fun q => c q == c k) 5
    unfold mostN
    split <;> omega
theorem cI_inj {x y : Nat} (hx : x < 2 ^ 30) (hy : y < 2 ^ 30) : cI (x + 1) = cI (y + 1) ↔ x = y := by
  cases x with
  | zero =>
    cases y with
    | zero => exact ⟨fun _ => rfl, fun _ => rfl⟩
    | succ y =>
      rw [cI_s]
      constructor
      · intro h; exact absurd h.symm (nm1 (by omega))
      · intro h; omega
  | succ x =>
    cases y with
    | zero =>
      rw [cI_s]
      constructor
      · intro h; exact absurd h (nm1 (by omega))
      · intro h; omega
    | succ y => rw [cI_s, cI_s, nI_eq (by omega) (by omega)]; omega
section SG
variable {d : Nat} {h : am_H} {v n : Nat} {F T K : Nat → Nat} {g : Nat → Int32}
theorem l_fits {f k : Nat} (hf : 1 ≤ f ∧ f ≤ 15) (hk : k < 5) (hn : n ≤ 6) (hb : ∀ s, s < n → F s < f ∧ T s < f ∧ K s < 2 ^ 31) : ∀ j s (h : am_H), s + j = n → SG h v n F T K g → ∃ h', am_ev (d + 5) 77 2 [some (.ref v), some (.int (nI f)), some (.ref (1000002 + k)), some (.int (nI s))] [] h = some (some (.int (if fitN f k F T K j s then 1 else 0)), h') ∧ SG h' v n F T K g ∧ FG h h' v := by
  intro j
  induction j with
  | zero =>
    intro s h hs hS
    obtain ⟨k0, k1, k2, k3, k4, k5, k6, k7⟩ := hS.fl
    have : s = n := by omega
    subst this
    refine ⟨h, ?_, hS, FG.rf⟩
    rw [e_77_2]
    simp only [e_77_3, e_77_4, e_77_7, e_77_45, e_77_46, lg_n, lg_i, lg_r, wd_nil, am_wd_i, am_wd_r, am_wd_l, am_gk_s, am_fld_s, List.getElem?_cons_zero, List.getElem?_cons_succ, am_bk_v, am_bk_n, bo_0, bo_1, am_pk_s, List.length_cons, List.length_nil, Nat.zero_add, List.set_cons_zero, List.set_cons_succ, Nat.reduceAdd, Nat.reduceLeDiff, Nat.reduceLT, k3, nI_leI (show s < 2 ^ 31 by omega) (show s < 2 ^ 31 by omega), Nat.le_refl, if_true, fitN]
  | succ j ih =>
    intro s h hs hS
    obtain ⟨k0, k1, k2, k3, k4, k5, k6, k7⟩ := hS.fl
    obtain ⟨b1, b2, b3⟩ := hb s (by omega)
    obtain ⟨h1, e1, S1, F1⟩ := m_timeAlone (d := d) hS hf hk b1 b2
    obtain ⟨r0, r1, r2, r3, r4, r5, r6, r7⟩ := S1.fl
    have htm := tmN_le f k (F s) (T s)
    have go : am_ev (d + 5) 77 2 [some (.ref v), some (.int (nI f)), some (.ref (1000002 + k)), some (.int (nI s))] [] h = if tmN f k (F s) (T s) = K s then am_ev (d + 5) 77 2 [some (.ref v), some (.int (nI f)), some (.ref (1000002 + k)), some (.int (nI (s + 1)))] [] h1 else some (some (.int 0), h1) := by
      rw [e_77_2]
      simp only [e_77_3, e_77_4, e_77_7, e_77_10, e_77_11, e_77_12, e_77_13, e_77_14, e_77_17, e_77_18, e_77_19, e_77_20, e_77_23, e_77_24, e_77_25, e_77_28, e_77_29, e_77_32, e_77_33, e_77_34, e_77_37, e_77_38, e_77_39, e_77_42, lg_n, lg_i, lg_r, wd_nil, am_wd_i, am_wd_r, am_wd_l, am_gk_s, am_fld_s, List.getElem?_cons_zero, List.getElem?_cons_succ, am_bk_v, am_bk_n, bo_0, bo_1, am_pk_s, List.length_cons, List.length_nil, Nat.zero_add, List.set_cons_zero, List.set_cons_succ, Nat.reduceAdd, Nat.reduceLeDiff, Nat.reduceLT, k0, k1, k3, k7, nI_leI (show n < 2 ^ 31 by omega) (show s < 2 ^ 31 by omega), if_neg (show ¬ n ≤ s by omega), hS.2.2.1, hS.2.2.2.1, ak_AI (show s < 6 by omega) (show 6 < 2 ^ 31 by decide), e1, r2, S1.2.2.2.2.1, nI_eq (show tmN f k (F s) (T s) < 2 ^ 31 by omega) b3, nI_1]
    have hN : fitN f k F T K (j + 1) s = if tmN f k (F s) (T s) = K s then fitN f k F T K j (s + 1) else false := rfl
    rw [go, hN]
    by_cases hx : tmN f k (F s) (T s) = K s
    · rw [if_pos hx, if_pos hx]
      obtain ⟨h', e', S', F'⟩ := ih (s + 1) h1 (by omega) S1
      exact ⟨h', e', S', F1.tr F'⟩
    · rw [if_neg hx, if_neg hx]
      exact ⟨h1, rfl, S1, F1⟩
theorem m_fitsAll (hS : SG h v n F T K g) {f k : Nat} (hf : 1 ≤ f ∧ f ≤ 15) (hk : k < 5) (hn : n ≤ 6) (hb : ∀ s, s < n → F s < f ∧ T s < f ∧ K s < 2 ^ 31) : ∃ h', am_cal (d + 6) 77 [.ref v, .int (nI f), .ref (1000002 + k)] h = some (some (.int (if fitN f k F T K n 0 then 1 else 0)), h') ∧ SG h' v n F T K g ∧ FG h h' v := by
  obtain ⟨h', e', S', F'⟩ := l_fits (d := d) hf hk hn hb n 0 h (by omega) hS
  refine ⟨h', ?_, S', F'⟩
  refine (b_77 _ _ _).trans ?_; show am_ev _ 77 0 [some (.ref v), some (.int (nI f)), some (.ref (1000002 + k)), none] [] _ = _
  simp only [e_77_0, e_77_1, lg_n, lg_i, lg_r, wd_nil, am_wd_i, am_wd_r, am_wd_l, am_gk_s, am_fld_s, List.getElem?_cons_zero, List.getElem?_cons_succ, am_bk_v, am_bk_n, bo_0, bo_1, am_pk_s, List.length_cons, List.length_nil, Nat.zero_add, List.set_cons_zero, List.set_cons_succ, Nat.reduceAdd, Nat.reduceLeDiff, Nat.reduceLT]
  exact e'
theorem l_fitK {f : Nat} (hf : 1 ≤ f ∧ f ≤ 15) (hn : n ≤ 6) (hb : ∀ s, s < n → F s < f ∧ T s < f ∧ K s < 2 ^ 31) : ∀ j k (h : am_H), k + j = 5 → SG h v n F T K g → ∃ h', am_ev (d + 6) 76 4 [some (.ref v), some (.int (nI f)), some (.int (nI (bitsN (fun k => fitN f k F T K n 0) k))), some (.int (nI k))] [] h = some (some (.int (nI (bitsN (fun k => fitN f k F T K n 0) 5))), h') ∧ SG h' v n F T K g ∧ FG h h' v := by
  intro j
  have e5 : (5 : Int32) = nI 5 := by decide +kernel
  induction j with
  | zero =>
    intro k h hk hS
    have : k = 5 := by omega
    subst this
    refine ⟨h, ?_, hS, FG.rf⟩
    rw [e_76_4]
    simp only [e_76_5, e_76_6, e_76_33, e_76_34, lg_n, lg_i, lg_r, wd_nil, am_wd_i, am_wd_r, am_wd_l, am_gk_s, am_fld_s, List.getElem?_cons_zero, List.getElem?_cons_succ, am_bk_v, am_bk_n, bo_0, bo_1, am_pk_s, List.length_cons, List.length_nil, Nat.zero_add, List.set_cons_zero, List.set_cons_succ, Nat.reduceAdd, Nat.reduceLeDiff, Nat.reduceLT, e5, nI_leI (show 5 < 2 ^ 31 by omega) (show 5 < 2 ^ 31 by omega), Nat.le_refl, if_true]
  | succ j ih =>
    intro k h hk hS
    obtain ⟨k0, k1, k2, k3, k4, k5, k6, k7⟩ := hS.fl
    obtain ⟨h1, e1, S1, F1⟩ := m_fitsAll (d := d) hS hf (show k < 5 by omega) hn hb
    obtain ⟨h', e', S', F'⟩ := ih (k + 1) h1 (by omega) S1
    refine ⟨h', ?_, S', F1.tr F'⟩
    rw [bitsN] at e'
    rw [e_76_4]
    by_cases hx : fitN f k F T K n 0 = true
    · rw [if_pos hx] at e1 e'
      simp only [e_76_5, e_76_6, e_76_9, e_76_10, e_76_11, e_76_12, e_76_15, e_76_18, e_76_21, e_76_22, e_76_23, e_76_24, e_76_25, e_76_26, e_76_27, e_76_30, lg_n, lg_i, lg_r, wd_nil, am_wd_i, am_wd_r, am_wd_l, am_gk_s, am_fld_s, List.getElem?_cons_zero, List.getElem?_cons_succ, am_bk_v, am_bk_n, bo_0, bo_1, am_pk_s, List.length_cons, List.length_nil, Nat.zero_add, List.set_cons_zero, List.set_cons_succ, Nat.reduceAdd, Nat.reduceLeDiff, Nat.reduceLT, e5, nI_leI (show 5 < 2 ^ 31 by omega) (show k < 2 ^ 31 by omega), if_neg (show ¬ 5 ≤ k by omega), m_numbered (show k < 5 by omega), k7, e1, one_ne, if_false, sh1 k (by omega), fa_or, nI_1]
      exact e'
    · rw [if_neg hx] at e1 e'
      simp only [e_76_5, e_76_6, e_76_9, e_76_10, e_76_11, e_76_12, e_76_15, e_76_18, e_76_21, e_76_22, e_76_23, e_76_24, e_76_25, e_76_26, e_76_27, e_76_30, lg_n, lg_i, lg_r, wd_nil, am_wd_i, am_wd_r, am_wd_l, am_gk_s, am_fld_s, List.getElem?_cons_zero, List.getElem?_cons_succ, am_bk_v, am_bk_n, bo_0, bo_1, am_pk_s, List.length_cons, List.length_nil, Nat.zero_add, List.set_cons_zero, List.set_cons_succ, Nat.reduceAdd, Nat.reduceLeDiff, Nat.reduceLT, e5, nI_leI (show 5 < 2 ^ 31 by omega) (show k < 2 ^ 31 by omega), if_neg (show ¬ 5 ≤ k by omega), m_numbered (show k < 5 by omega), k7, e1, if_true, nI_1]
      exact e'
theorem m_fitK (hS : SG h v n F T K g) {f : Nat} (hf : 1 ≤ f ∧ f ≤ 15) (hn : n ≤ 6) (hb : ∀ s, s < n → F s < f ∧ T s < f ∧ K s < 2 ^ 31) : ∃ h', am_cal (d + 7) 76 [.ref v, .int (nI f)] h = some (some (.int (nI (bitsN (fun k => fitN f k F T K n 0) 5))), h') ∧ SG h' v n F T K g ∧ FG h h' v := by
  obtain ⟨h', e', S', F'⟩ := l_fitK (d := d) hf hn hb 5 0 h (by omega) hS
  refine ⟨h', ?_, S', F'⟩
  refine (b_76 _ _ _).trans ?_; show am_ev _ 76 0 [some (.ref v), some (.int (nI f)), none, none] [] _ = _
  simp only [e_76_0, e_76_1, e_76_2, e_76_3, lg_n, lg_i, lg_r, wd_nil, am_wd_i, am_wd_r, am_wd_l, am_gk_s, am_fld_s, List.getElem?_cons_zero, List.getElem?_cons_succ, am_bk_v, am_bk_n, bo_0, bo_1, am_pk_s, List.length_cons, List.length_nil, Nat.zero_add, List.set_cons_zero, List.set_cons_succ, Nat.reduceAdd, Nat.reduceLeDiff, Nat.reduceLT]
  exact e'
theorem l_howTook (hS : SG h v n F T K (fun k => cI (c k + 1))) {c : Nat → Nat} (hc : ∀ k, k < 5 → c k < 2 ^ 30) {x : Nat} (hx : x < 2 ^ 30) : ∀ j k, k + j = 5 → am_ev d 81 4 [some (.ref v), some (.int (cI (x + 1))), some (.int (nI (cntN (fun q => c q == x) k))), some (.int (nI k))] [] h = some (some (.int (nI (cntN (fun q => c q == x) 5))), h) := by
  sorry
end SG
