/-! the model's order: turns -/
def TU (h : am_H) (L : Nat → Nat) : Prop := am_fld (am_at h 87) 8 27 = some (.ref 106) ∧ am_is (am_at h 87) 8 = true ∧ am_at h 106 = some (AI 8 (fun i => nI (L i)))
theorem TU.set {h : am_H} {L : Nat → Nat} (hT : TU h L) (L' : Nat → Nat) : TU (am_set h 106 (AI 8 (fun i => nI (L' i)))) L' := ⟨by rw [at_set_ne (by decide)]; exact hT.1, by rw [at_set_ne (by decide)]; exact hT.2.1, at_set_eq⟩
theorem piv_ge (f : Nat → Nat) : ∀ j i, pivN f j = i + 1 → ¬ f (i + 1) < f i
  | 0, i, h => absurd h (by simp [pivN])
  | j + 1, i, h => by
    unfold pivN at h
    by_cases c : f (j + 1) < f j
    · rw [if_pos c] at h; exact piv_ge f j i h
    · rw [if_neg c] at h
      have : j = i := by omega
      subst this
      exact c
section TU
variable {d : Nat} {h : am_H} {L : Nat → Nat}
theorem l_rising : ∀ j i (h : am_H) (g : Nat → Int32), i + j = 8 → am_fld (am_at h 87) 8 27 = some (.ref 106) → am_at h 106 = some (AI 8 g) → (∀ k, k < i → g k = nI k) → am_ev d 181 2 [some (.ref 87), some (.int (nI i))] [] h = some (none, am_set h 106 (AI 8 (fun i => nI i))) := by
  have e8 : (8 : Int32) = nI 8 := by decide +kernel
  intro j
  induction j with
  | zero =>
    intro i h g hi hf h6 hg
    have : i = 8 := by omega
    subst this
    have hs : am_set h 106 (AI 8 (fun i => nI i)) = h := by
      rw [← AI_cong (f := g) (g := fun i => nI i) hg]
      exact set_self h6
    rw [e_181_2, hs]
    simp only [e_181_3, e_181_5, e_181_21, lg_n, lg_i, lg_r, wd_nil, am_wd_i, am_wd_r, am_wd_l, am_gk_s, am_fld_s, List.getElem?_cons_zero, List.getElem?_cons_succ, am_bk_v, am_bk_n, bo_0, bo_1, am_pk_s, List.length_cons, List.length_nil, Nat.zero_add, List.set_cons_zero, List.set_cons_succ, Nat.reduceAdd, Nat.reduceLeDiff, Nat.reduceLT, e8, nI_leI (show 8 < 2 ^ 31 by decide) (show 8 < 2 ^ 31 by decide), Nat.le_refl, if_true]
  | succ j ih =>
    intro i h g hi hf h6 hg
    have ih' := ih (i + 1) (am_set h 106 (AI 8 (upd g i (nI i)))) _ (by omega) (by rw [at_set_ne (by decide)]; exact hf) at_set_eq (fun k hk => by
      unfold upd
      by_cases c : k = i
      · rw [if_pos c, c]
      · rw [if_neg c]; exact hg k (by omega))
    rw [set_set] at ih'
    rw [e_181_2]
    simp only [e_181_3, e_181_5, e_181_8, e_181_9, e_181_12, e_181_13, e_181_14, e_181_15, e_181_18, lg_n, lg_i, lg_r, wd_nil, am_wd_i, am_wd_r, am_wd_l, am_gk_s, am_fld_s, List.getElem?_cons_zero, List.getElem?_cons_succ, am_bk_v, am_bk_n, bo_0, bo_1, am_pk_s, List.length_cons, List.length_nil, Nat.zero_add, List.set_cons_zero, List.set_cons_succ, Nat.reduceAdd, Nat.reduceLeDiff, Nat.reduceLT, e8, nI_leI (show 8 < 2 ^ 31 by decide) (show i < 2 ^ 31 by omega), if_neg (show ¬ 8 ≤ i by omega), hf, h6, sk_AI (show i < 8 by omega) (show 8 < 2 ^ 31 by decide), st_AI (show i < 8 by omega) (show 8 < 2 ^ 31 by decide), nI_1]
    exact ih'
theorem m_rising (hT : TU h L) : am_cal (d + 1) 181 [.ref 87] h = some (none, am_set h 106 (AI 8 (fun i => nI i))) := by
  have hl := l_rising (d := d) 8 0 h _ (by omega) hT.1 hT.2.2 (fun k hk => absurd hk (Nat.not_lt_zero k))
  refine (b_181 _ _ _).trans ?_; show am_ev _ 181 0 [some (.ref 87), none] [] _ = _
  simp only [e_181_0, e_181_1, lg_n, lg_i, lg_r, wd_nil, am_wd_i, am_wd_r, am_wd_l, am_gk_s, am_fld_s, List.getElem?_cons_zero, List.getElem?_cons_succ, am_bk_v, am_bk_n, bo_0, bo_1, am_pk_s, List.length_cons, List.length_nil, Nat.zero_add, List.set_cons_zero, List.set_cons_succ, Nat.reduceAdd, Nat.reduceLeDiff, Nat.reduceLT]
  exact hl
theorem m_swpT (hT : TU h L) {i j : Nat} (hi : i < 8) (hj : j < 8) : am_cal (d + 1) 183 [.ref 87, .int (nI i), .int (nI j)] h = some (none, am_set h 106 (AI 8 (fun k => nI (swp L i j k)))) := by
  obtain ⟨t1, t2, t3⟩ := hT
  refine (b_183 _ _ _).trans ?_; show am_ev _ 183 0 [some (.ref 87), some (.int (nI i)), some (.int (nI j)), none] [] _ = _
  simp only [e_183_0, e_183_1, e_183_4, e_183_5, e_183_6, e_183_7, e_183_8, e_183_11, e_183_12, e_183_13, e_183_16, e_183_17, e_183_18, e_183_19, e_183_20, e_183_23, e_183_24, e_183_25, e_183_26, lg_n, lg_i, lg_r, wd_nil, am_wd_i, am_wd_r, am_wd_l, am_gk_s, am_fld_s, List.getElem?_cons_zero, List.getElem?_cons_succ, am_bk_v, am_bk_n, bo_0, bo_1, am_pk_s, List.length_cons, List.length_nil, Nat.zero_add, List.set_cons_zero, List.set_cons_succ, Nat.reduceAdd, Nat.reduceLeDiff, Nat.reduceLT, t1, t3, ak_AI hi (show 8 < 2 ^ 31 by decide), ak_AI hj (show 8 < 2 ^ 31 by decide), sk_AI hi (show 8 < 2 ^ 31 by decide), sk_AI hj (show 8 < 2 ^ 31 by decide), st_AI hi (show 8 < 2 ^ 31 by decide), st_AI hj (show 8 < 2 ^ 31 by decide), at_set_ne (show 87 ≠ 106 by decide), at_set_eq, set_set]
  have : (upd (upd (fun i => nI (L i)) i (nI (L j))) j (nI (L i))) = fun k => nI (swp L i j k) := by
    funext k
    unfold upd swp
    split
    · rfl
    · split <;> rfl
  rw [this]
theorem l_pivT (hT : TU h L) (hl8 : ∀ i, i < 8 → L i < 8) {x1 x3 x4 x5 : Option Value} (l1 : am_lg x1 = false) : ∀ j, j < 6 → am_ev d 184 4 [some (.ref 87), x1, some (.int (cI (j + 1))), x3, x4, x5] [] h = am_ev d 184 31 [some (.ref 87), x1, some (.int (cI (pivN L j + 1))), x3, x4, x5] [] h := by
  obtain ⟨t1, t2, t3⟩ := hT
  intro j
  induction j with
  | zero =>
    intro hj
    rw [e_184_4]
    simp only [e_184_5, lg_n, lg_i, lg_r, wd_nil, am_wd_i, am_wd_r, am_wd_l, am_gk_s, am_fld_s, List.getElem?_cons_zero, List.getElem?_cons_succ, am_bk_v, am_bk_n, bo_0, bo_1, am_pk_s, List.length_cons, List.length_nil, Nat.zero_add, List.set_cons_zero, List.set_cons_succ, Nat.reduceAdd, Nat.reduceLeDiff, Nat.reduceLT, cI_neg (show 0 < 2 ^ 30 by decide), if_true, pivN]
  | succ j ih =>
    intro hj
    have a1 := hl8 j (by omega)
    have a2 := hl8 (j + 1) (by omega)
    have hm : nI j + (-1) = cI (j + 1) := by rw [← cI_s j, cI_m]
    rw [e_184_4]
    simp only [e_184_5, e_184_8, e_184_9, e_184_12, e_184_13, e_184_14, e_184_15, e_184_18, e_184_19, e_184_20, e_184_21, e_184_22, lg_n, lg_i, lg_r, wd_nil, am_wd_i, am_wd_r, am_wd_l, am_gk_s, am_fld_s, List.getElem?_cons_zero, List.getElem?_cons_succ, am_bk_v, am_bk_n, bo_0, bo_1, am_pk_s, List.length_cons, List.length_nil, Nat.zero_add, List.set_cons_zero, List.set_cons_succ, Nat.reduceAdd, Nat.reduceLeDiff, Nat.reduceLT, if_neg (nI_pos (show j < 2 ^ 31 by omega)), cI_s, t1, t3, nI_1, ak_AI (show j < 8 by omega) (show 8 < 2 ^ 31 by decide), ak_AI (show j + 1 < 8 by omega) (show 8 < 2 ^ 31 by decide), nI_leI (show L j < 2 ^ 31 by omega) (show L (j + 1) < 2 ^ 31 by omega)]
    by_cases hlt : L (j + 1) < L j
    · rw [if_neg (show ¬ L j ≤ L (j + 1) by omega), pivN, if_pos hlt, ← ih (by omega), e_184_25 l1, hm, e_184_28]
    · rw [if_pos (show L j ≤ L (j + 1) by omega), pivN, if_neg hlt, cI_s]
theorem l_sucT (hT : TU h L) (hl8 : ∀ i, i < 8 → L i < 8) {i : Nat} (hi : i < 6) (hge : ¬ L (i + 1) < L i) {x1 x4 x5 : Option Value} : ∀ j, i + 1 ≤ j → j < 6 → am_ev d 184 41 [some (.ref 87), x1, some (.int (nI i)), some (.int (nI j)), x4, x5] [] h = am_ev d 184 62 [some (.ref 87), x1, some (.int (nI i)), some (.int (nI (sucN L i j))), x4, x5] [] h := by
  obtain ⟨t1, t2, t3⟩ := hT
  have a1 := hl8 i (by omega)
  intro j
  induction j with
  | zero => intro h1; omega
  | succ j ih =>
    intro h1 hj
    have a2 := hl8 (j + 1) (by omega)
    rw [e_184_41]
    simp only [e_184_42, e_184_45, e_184_46, e_184_47, e_184_48, e_184_51, e_184_52, e_184_53, lg_n, lg_i, lg_r, wd_nil, am_wd_i, am_wd_r, am_wd_l, am_gk_s, am_fld_s, List.getElem?_cons_zero, List.getElem?_cons_succ, am_bk_v, am_bk_n, bo_0, bo_1, am_pk_s, List.length_cons, List.length_nil, Nat.zero_add, List.set_cons_zero, List.set_cons_succ, Nat.reduceAdd, Nat.reduceLeDiff, Nat.reduceLT, t1, t3, ak_AI (show i < 8 by omega) (show 8 < 2 ^ 31 by decide), ak_AI (show j + 1 < 8 by omega) (show 8 < 2 ^ 31 by decide), nI_leI (show L i < 2 ^ 31 by omega) (show L (j + 1) < 2 ^ 31 by omega)]
    by_cases hlt : L (j + 1) < L i
    · have hne : j ≠ i := fun z => by subst z; exact hge hlt
      rw [if_neg (show ¬ L i ≤ L (j + 1) by omega), sucN, if_pos ⟨by omega, hlt⟩, ← ih (by omega) (by omega), e_184_56 (lg_i _), pk_m1, e_184_59]
    · rw [if_pos (show L i ≤ L (j + 1) by omega), sucN, if_neg (by omega)]
theorem l_revT {x1 x2 x3 : Option Value} (hx3 : am_lg x3 = false) : ∀ m (h : am_H) (L : Nat → Nat) i j, TU h L → j < 6 → j ≤ i + m → i < 2 ^ 20 → am_ev (d + 1) 184 78 [some (.ref 87), x1, x2, x3, some (.int (nI i)), some (.int (nI j))] [] h = some (some (.int 1), am_set h 106 (AI 8 (fun k => nI (revN m L i j k)))) := by
  intro m
  induction m with
  | zero =>
    intro h L i j hT hj hji hi
    rw [e_184_78]
    simp only [e_184_80, e_184_82, e_184_102, e_184_103, lg_n, lg_i, lg_r, wd_nil, am_wd_i, am_wd_r, am_wd_l, am_gk_s, am_fld_s, List.getElem?_cons_zero, List.getElem?_cons_succ, am_bk_v, am_bk_n, bo_0, bo_1, am_pk_s, List.length_cons, List.length_nil, Nat.zero_add, List.set_cons_zero, List.set_cons_succ, Nat.reduceAdd, Nat.reduceLeDiff, Nat.reduceLT, nI_leI (show j < 2 ^ 31 by omega) (show i < 2 ^ 31 by omega), if_pos (show j ≤ i by omega), revN, set_self hT.2.2]
  | succ m ih =>
    intro h L i j hT hj hji hi
    by_cases hij : i < j
    · have hs := m_swpT (d := d) hT (show i < 8 by omega) (show j < 8 by omega)
      have ih' := ih _ _ (i + 1) (j - 1) (hT.set (swp L i j)) (by omega) (by omega) (by omega)
      rw [e_184_78]
      obtain ⟨j, rfl⟩ : ∃ j', j = j' + 1 := ⟨j - 1, by omega⟩
      simp only [e_184_80, e_184_82, e_184_85, e_184_86, e_184_88, e_184_90, e_184_93, lg_n, lg_i, lg_r, wd_nil, am_wd_i, am_wd_r, am_wd_l, am_gk_s, am_fld_s, List.getElem?_cons_zero, List.getElem?_cons_succ, am_bk_v, am_bk_n, bo_0, bo_1, am_pk_s, List.length_cons, List.length_nil, Nat.zero_add, List.set_cons_zero, List.set_cons_succ, Nat.reduceAdd, Nat.reduceLeDiff, Nat.reduceLT, nI_leI (show j + 1 < 2 ^ 31 by omega) (show i < 2 ^ 31 by omega), if_neg (show ¬ j + 1 ≤ i by omega), hT.2.1, hs, nI_1, hx3]
      rw [e_184_96 (lg_i _), pk_m1, e_184_99]
      rw [set_set] at ih'
      unfold revN
      rw [if_pos hij]
      exact ih'
    · rw [e_184_78]
      simp only [e_184_80, e_184_82, e_184_102, e_184_103, lg_n, lg_i, lg_r, wd_nil, am_wd_i, am_wd_r, am_wd_l, am_gk_s, am_fld_s, List.getElem?_cons_zero, List.getElem?_cons_succ, am_bk_v, am_bk_n, bo_0, bo_1, am_pk_s, List.length_cons, List.length_nil, Nat.zero_add, List.set_cons_zero, List.set_cons_succ, Nat.reduceAdd, Nat.reduceLeDiff, Nat.reduceLT, nI_leI (show j < 2 ^ 31 by omega) (show i < 2 ^ 31 by omega), if_pos (show j ≤ i by omega), revN, if_neg hij, set_self hT.2.2]
theorem m_nextT (hT : TU h L) (hl8 : ∀ i, i < 8 → L i < 8) {w : Nat} (hw : w ≤ 6) : am_cal (d + 2) 184 [.ref 87, .int (nI w)] h = some (match nextN w L with | none => (some (.int 0), h) | some f => (some (.int 1), am_set h 106 (AI 8 (fun k => nI (f k))))) := by
  refine (b_184 _ _ _).trans ?_; show am_ev _ 184 0 [some (.ref 87), some (.int (nI w)), none, none, none, none] [] _ = _
  have e2 : (2 : Int32) = nI 2 := by decide +kernel
  have e1 : (1 : Int32) = nI 1 := by decide +kernel
  simp only [e_184_0, e_184_1, e_184_2, e_184_3, lg_n, lg_i, lg_r, wd_nil, am_wd_i, am_wd_r, am_wd_l, am_gk_s, am_fld_s, List.getElem?_cons_zero, List.getElem?_cons_succ, am_bk_v, am_bk_n, bo_0, bo_1, am_pk_s, List.length_cons, List.length_nil, Nat.zero_add, List.set_cons_zero, List.set_cons_succ, Nat.reduceAdd, Nat.reduceLeDiff, Nat.reduceLT]
  by_cases h0 : w = 0
  · rw [h0, e_184_4]
    have en : nI 0 - 2 < 0 := by decide +kernel
    have en2 : ¬ (0 : Int32) ≤ nI 0 - 2 := by decide +kernel
    simp only [e_184_5, e_184_31, e_184_32, e_184_35, e_184_36, lg_n, lg_i, lg_r, wd_nil, am_wd_i, am_wd_r, am_wd_l, am_gk_s, am_fld_s, List.getElem?_cons_zero, List.getElem?_cons_succ, am_bk_v, am_bk_n, bo_0, bo_1, am_pk_s, List.length_cons, List.length_nil, Nat.zero_add, List.set_cons_zero, List.set_cons_succ, Nat.reduceAdd, Nat.reduceLeDiff, Nat.reduceLT, if_pos en, if_neg en2, nextN, pivN, Nat.zero_sub]
  · have hc : nI w - 2 = cI (w - 1 + 1) := by
      rcases (show w = 1 ∨ w = 2 ∨ w = 3 ∨ w = 4 ∨ w = 5 ∨ w = 6 by omega) with rfl | rfl | rfl | rfl | rfl | rfl <;> decide +kernel
    rw [hc, l_pivT hT hl8 (lg_i _) (w - 1) (by omega)]
    have hp := pivN_le L (w - 1)
    have hpg := piv_ge L (w - 1)
    unfold nextN
    cases hpv : pivN L (w - 1) with
    | zero =>
      have en2 : ¬ (0 : Int32) ≤ cI (0 + 1) := by decide +kernel
      simp only [e_184_31, e_184_32, e_184_35, e_184_36, lg_n, lg_i, lg_r, wd_nil, am_wd_i, am_wd_r, am_wd_l, am_gk_s, am_fld_s, List.getElem?_cons_zero, List.getElem?_cons_succ, am_bk_v, am_bk_n, bo_0, bo_1, am_pk_s, List.length_cons, List.length_nil, Nat.zero_add, List.set_cons_zero, List.set_cons_succ, Nat.reduceAdd, Nat.reduceLeDiff, Nat.reduceLT, if_neg en2]
    | succ i =>
      rw [hpv] at hp
      have e3 : nI w - 1 = nI (w - 1) := by rw [e1, pk_sub (by omega)]
      simp only [e_184_31, e_184_32, e_184_35, e_184_36, e_184_37, e_184_38, e_184_39, e_184_40, lg_n, lg_i, lg_r, wd_nil, am_wd_i, am_wd_r, am_wd_l, am_gk_s, am_fld_s, List.getElem?_cons_zero, List.getElem?_cons_succ, am_bk_v, am_bk_n, bo_0, bo_1, am_pk_s, List.length_cons, List.length_nil, Nat.zero_add, List.set_cons_zero, List.set_cons_succ, Nat.reduceAdd, Nat.reduceLeDiff, Nat.reduceLT, cI_s, if_pos (nI_pos' (show i < 2 ^ 31 by omega)), e3]
      rw [l_sucT hT hl8 (show i < 6 by omega) (hpg i hpv) (w - 1) (by omega) (by omega)]
      have hq := sucN_le L i (w - 1)
      have hs := m_swpT (d := d) hT (show i < 8 by omega) (show sucN L i (w - 1) < 8 by omega)
      have hT' := hT.set (swp L i (sucN L i (w - 1)))
      have hr := l_revT (d := d) (x1 := some (.int (nI w))) (x2 := some (.int (nI i))) (x3 := some (.int (nI (sucN L i (w - 1))))) (lg_i _) 6 _ _ (i + 1) (w - 1) hT' (by omega) (by omega) (by omega)
      rw [set_set] at hr
      simp only [e_184_62, e_184_63, e_184_64, e_184_65, e_184_68, e_184_69, e_184_70, e_184_71, e_184_73, e_184_74, e_184_75, e_184_76, lg_n, lg_i, lg_r, wd_nil, am_wd_i, am_wd_r, am_wd_l, am_gk_s, am_fld_s, List.getElem?_cons_zero, List.getElem?_cons_succ, am_bk_v, am_bk_n, bo_0, bo_1, am_pk_s, List.length_cons, List.length_nil, Nat.zero_add, List.set_cons_zero, List.set_cons_succ, Nat.reduceAdd, Nat.reduceLeDiff, Nat.reduceLT, hT.2.1, hs, nI_1, e3]
      exact hr
end TU
/-- those of whom something holds, rising -/
def lyT (g : Nat → Bool) (r : Nat × (Nat → Nat)) : Nat → Nat × (Nat → Nat)
  | 0 => r
  | p + 1 => if g p = true then ((lyT g r p).1 + 1, updn (lyT g r p).2 (lyT g r p).1 p) else lyT g r p
theorem lyT_1 (g : Nat → Bool) (r : Nat × (Nat → Nat)) : ∀ p, (lyT g r p).1 = r.1 + cntN g p
  | 0 => rfl
  | p + 1 => by
    have ih := lyT_1 g r p
    unfold lyT cntN
    by_cases c : g p = true
    · rw [if_pos c, if_pos c]; simp only; omega
    · rw [if_neg c, if_neg c]; omega
theorem lyT_lo (g : Nat → Bool) (r : Nat × (Nat → Nat)) : ∀ p i, i < r.1 → (lyT g r p).2 i = r.2 i
  | 0, _, _ => rfl
  | p + 1, i, hi => by
    have ih := lyT_lo g r p i hi
    have h1 := lyT_1 g r p
    unfold lyT
    by_cases c : g p = true
    · rw [if_pos c]; simp only; unfold updn; rw [if_neg (by omega)]; exact ih
    · rw [if_neg c]; exact ih
theorem lyT_hi (g : Nat → Bool) (r : Nat × (Nat → Nat)) : ∀ p i, r.1 ≤ i → i < (lyT g r p).1 → (lyT g r p).2 i < p ∧ g ((lyT g r p).2 i) = true
  | 0, i, h1, h2 => absurd h2 (by unfold lyT; omega)
  | p + 1, i, h1, h2 => by
    have ih := lyT_hi g r p i h1
    unfold lyT at h2 ⊢
    by_cases c : g p = true
    · rw [if_pos c] at h2 ⊢
      simp only at h2 ⊢
      unfold updn
      by_cases e : i = (lyT g r p).1
      · rw [if_pos e]; exact ⟨by omega, c⟩
      · rw [if_neg e]
        have := ih (by omega)
        exact ⟨by omega, this.2⟩
    · rw [if_neg c] at h2 ⊢
      have := ih h2
      exact ⟨by omega, this.2⟩
theorem lyT_off (g : Nat → Bool) (r : Nat × (Nat → Nat)) : ∀ p i, (lyT g r p).1 ≤ i → (lyT g r p).2 i = r.2 i
  | 0, _, _ => rfl
  | p + 1, i, hi => by
    have ih := lyT_off g r p i
    unfold lyT at hi ⊢
    by_cases c : g p = true
    · rw [if_pos c] at hi ⊢
      simp only at hi ⊢
      unfold updn
      rw [if_neg (by omega)]
      exact ih (by omega)
    · rw [if_neg c] at hi ⊢
      exact ih hi
theorem cnt_not (g : Nat → Bool) : ∀ p, cntN g p + cntN (fun q => !g q) p = p
  | 0 => rfl
  | p + 1 => by
    have ih := cnt_not g p
    unfold cntN
    cases g p <;> simp <;> omega
theorem cnt_mono (g : Nat → Bool) : ∀ p k, cntN g p ≤ cntN g (p + k)
  | p, 0 => Nat.le_refl _
  | p, k + 1 => by
    have := cnt_mono g p k
    rw [← Nat.add_assoc, cntN]
    omega
section MO
variable {d : Nat} {h : am_H} {f : Nat → Int32} {P : Pn} {σ : Hn}
theorem l_turnsIn {W : Nat} (hW : W < 256) {hf : Nat} (hhf : hf < 2) {r : Nat × (Nat → Nat)} (hr : r.1 + cntN (fun p => (W.testBit p == (hf == 0))) 8 ≤ 8) : ∀ j p (h : am_H), p + j = 8 → TU h (lyT (fun p => (W.testBit p == (hf == 0))) r p).2 → am_ev (d + 1) 182 18 [some (.ref 87), some (.int (nI W)), some (.int (nI (lyT (fun p => (W.testBit p == (hf == 0))) r p).1)), some (.int (nI hf)), some (.int (nI p))] [] h = am_ev (d + 1) 182 60 [some (.ref 87), some (.int (nI W)), some (.int (nI (lyT (fun p => (W.testBit p == (hf == 0))) r 8).1)), some (.int (nI hf)), some (.int (nI 8))] [] (am_set h 106 (AI 8 (fun i => nI ((lyT (fun p => (W.testBit p == (hf == 0))) r 8).2 i)))) := by
  have e8 : (8 : Int32) = nI 8 := by decide +kernel
  intro j
  induction j with
  | zero =>
    intro p h hp hT
    have : p = 8 := by omega
    subst this
    rw [set_self hT.2.2, e_182_18]
    simp only [e_182_20, e_182_22, lg_n, lg_i, lg_r, wd_nil, am_wd_i, am_wd_r, am_wd_l, am_gk_s, am_fld_s, List.getElem?_cons_zero, List.getElem?_cons_succ, am_bk_v, am_bk_n, bo_0, bo_1, am_pk_s, List.length_cons, List.length_nil, Nat.zero_add, List.set_cons_zero, List.set_cons_succ, Nat.reduceAdd, Nat.reduceLeDiff, Nat.reduceLT, e8, nI_leI (show 8 < 2 ^ 31 by decide) (show 8 < 2 ^ 31 by decide), Nat.le_refl, if_true]
  | succ j ih =>
    intro p h hp hT
    have hh := m_has (d := d) (h := h) (n := W) (k := p) (by omega) (by omega)
    have hN : lyT (fun p => (W.testBit p == (hf == 0))) r (p + 1) = if (W.testBit p == (hf == 0)) = true then ((lyT (fun p => (W.testBit p == (hf == 0))) r p).1 + 1, updn (lyT (fun p => (W.testBit p == (hf == 0))) r p).2 (lyT (fun p => (W.testBit p == (hf == 0))) r p).1 p) else lyT (fun p => (W.testBit p == (hf == 0))) r p := rfl
    have h1 := lyT_1 (fun p => (W.testBit p == (hf == 0))) r p
    by_cases c : (W.testBit p == (hf == 0)) = true
    · rw [if_pos c] at hN
      have hcm := cnt_mono (fun p => (W.testBit p == (hf == 0))) (p + 1) (8 - (p + 1))
      rw [show p + 1 + (8 - (p + 1)) = 8 by omega, cntN, if_pos c] at hcm
      have ih' := ih (p + 1) (am_set h 106 (AI 8 (fun i => nI ((lyT (fun p => (W.testBit p == (hf == 0))) r (p + 1)).2 i)))) (by omega) (hT.set _)
      rw [set_set, hN] at ih'
      generalize lyT (fun p => (W.testBit p == (hf == 0))) r p = R at *
      generalize lyT (fun p => (W.testBit p == (hf == 0))) r 8 = R8 at *
      have hu : (fun i => nI (updn R.2 R.1 p i)) = upd (fun i => nI (R.2 i)) R.1 (nI p) := by
        funext i
        unfold updn upd
        split <;> rfl
      rw [e_182_18]
      simp only [hu] at ih'
      rcases (show hf = 0 ∨ hf = 1 by omega) with rfl | rfl
      · have ct : W.testBit p = true := by simpa using c
        rw [if_pos ct] at hh
        simp only [e_182_20, e_182_22, e_182_25, e_182_26, e_182_28, e_182_31, e_182_32, e_182_35, e_182_36, e_182_39, e_182_40, e_182_43, e_182_44, e_182_47, e_182_48, e_182_50, e_182_51, e_182_54, e_182_57, lg_n, lg_i, lg_r, wd_nil, am_wd_i, am_wd_r, am_wd_l, am_gk_s, am_fld_s, List.getElem?_cons_zero, List.getElem?_cons_succ, am_bk_v, am_bk_n, bo_0, bo_1, am_pk_s, List.length_cons, List.length_nil, Nat.zero_add, List.set_cons_zero, List.set_cons_succ, Nat.reduceAdd, Nat.reduceLeDiff, Nat.reduceLT, e8, nI_leI (show 8 < 2 ^ 31 by decide) (show p < 2 ^ 31 by omega), if_neg (show ¬ 8 ≤ p by omega), hh, nI_0, not_true_eq_false, if_true, if_false, hT.1, hT.2.2, sk_AI (show R.1 < 8 by omega) (show 8 < 2 ^ 31 by decide), st_AI (show R.1 < 8 by omega) (show 8 < 2 ^ 31 by decide), nI_1] at ih' ⊢
        exact ih'
      · have ct : W.testBit p = false := by simpa using c
        rw [if_neg (by rw [ct]; decide)] at hh
        simp only [e_182_20, e_182_22, e_182_25, e_182_26, e_182_28, e_182_31, e_182_32, e_182_35, e_182_36, e_182_39, e_182_40, e_182_43, e_182_44, e_182_47, e_182_48, e_182_50, e_182_51, e_182_54, e_182_57, lg_n, lg_i, lg_r, wd_nil, am_wd_i, am_wd_r, am_wd_l, am_gk_s, am_fld_s, List.getElem?_cons_zero, List.getElem?_cons_succ, am_bk_v, am_bk_n, bo_0, bo_1, am_pk_s, List.length_cons, List.length_nil, Nat.zero_add, List.set_cons_zero, List.set_cons_succ, Nat.reduceAdd, Nat.reduceLeDiff, Nat.reduceLT, e8, nI_leI (show 8 < 2 ^ 31 by decide) (show p < 2 ^ 31 by omega), if_neg (show ¬ 8 ≤ p by omega), hh, show nI 1 = 1 by decide +kernel, one_ne, not_false_eq_true, if_true, hT.1, hT.2.2, sk_AI (show R.1 < 8 by omega) (show 8 < 2 ^ 31 by decide), st_AI (show R.1 < 8 by omega) (show 8 < 2 ^ 31 by decide), nI_1] at ih' ⊢
        exact ih'
    · rw [if_neg c] at hN
      have ih' := ih (p + 1) h (by omega) (by rw [hN]; exact hT)
      rw [hN] at ih'
      generalize lyT (fun p => (W.testBit p == (hf == 0))) r p = R at *
      generalize lyT (fun p => (W.testBit p == (hf == 0))) r 8 = R8 at *
      rw [e_182_18]
      rcases (show hf = 0 ∨ hf = 1 by omega) with rfl | rfl
      · have ct : W.testBit p = false := by simpa using c
        rw [if_neg (by rw [ct]; decide)] at hh
        simp only [e_182_20, e_182_22, e_182_25, e_182_26, e_182_28, e_182_31, e_182_32, e_182_35, e_182_36, e_182_39, e_182_40, e_182_43, e_182_44, e_182_47, e_182_48, e_182_50, e_182_51, e_182_54, e_182_57, lg_n, lg_i, lg_r, wd_nil, am_wd_i, am_wd_r, am_wd_l, am_gk_s, am_fld_s, List.getElem?_cons_zero, List.getElem?_cons_succ, am_bk_v, am_bk_n, bo_0, bo_1, am_pk_s, List.length_cons, List.length_nil, Nat.zero_add, List.set_cons_zero, List.set_cons_succ, Nat.reduceAdd, Nat.reduceLeDiff, Nat.reduceLT, e8, nI_leI (show 8 < 2 ^ 31 by decide) (show p < 2 ^ 31 by omega), if_neg (show ¬ 8 ≤ p by omega), hh, nI_0, not_true_eq_false, if_true, if_false, show ((0 : Int32) = 1) = False by decide, nI_1] at ih' ⊢
        exact ih'
      · have ct : W.testBit p = true := by simpa using c
        rw [if_pos ct] at hh
        simp only [e_182_20, e_182_22, e_182_25, e_182_26, e_182_28, e_182_31, e_182_32, e_182_35, e_182_36, e_182_39, e_182_40, e_182_43, e_182_44, e_182_47, e_182_48, e_182_50, e_182_51, e_182_54, e_182_57, lg_n, lg_i, lg_r, wd_nil, am_wd_i, am_wd_r, am_wd_l, am_gk_s, am_fld_s, List.getElem?_cons_zero, List.getElem?_cons_succ, am_bk_v, am_bk_n, bo_0, bo_1, am_pk_s, List.length_cons, List.length_nil, Nat.zero_add, List.set_cons_zero, List.set_cons_succ, Nat.reduceAdd, Nat.reduceLeDiff, Nat.reduceLT, e8, nI_leI (show 8 < 2 ^ 31 by decide) (show p < 2 ^ 31 by omega), if_neg (show ¬ 8 ≤ p by omega), hh, show nI 1 = 1 by decide +kernel, one_ne, not_false_eq_true, if_true, if_false, nI_1] at ih' ⊢
        exact ih'
end MO
