/-! the model: notes -/
def MQn (h : am_H) (Z S V TS TV : Nat → Int32) : Prop := (am_fld (am_at h 87) 8 9 = some (.ref 94) ∧ am_fld (am_at h 87) 8 10 = some (.ref 95) ∧ am_fld (am_at h 87) 8 11 = some (.ref 96) ∧ am_fld (am_at h 87) 8 30 = some (.ref 109) ∧ am_fld (am_at h 87) 8 31 = some (.ref 110) ∧ am_is (am_at h 87) 8 = true) ∧ am_at h 94 = some (AI 3 Z) ∧ am_at h 95 = some (AI 36 S) ∧ am_at h 96 = some (AI 36 V) ∧ am_at h 109 = some (AI 12 TS) ∧ am_at h 110 = some (AI 12 TV)
def FN (h h' : am_H) : Prop := h'.1 = h.1 ∧ h'.2.1 = h.2.1 ∧ ∀ k, (k < 94 ∨ (96 < k ∧ k < 109) ∨ 110 < k) → am_at h' k = am_at h k
theorem FN.rf {h : am_H} : FN h h := ⟨rfl, rfl, fun _ _ => rfl⟩
theorem FN.tr {h h' h'' : am_H} (h1 : FN h h') (h2 : FN h' h'') : FN h h'' := ⟨h2.1.trans h1.1, h2.2.1.trans h1.2.1, fun k hk => (h2.2.2 k hk).trans (h1.2.2 k hk)⟩
theorem FN.set {h : am_H} {a : Nat} {c : va_E} (ha : (94 ≤ a ∧ a ≤ 96) ∨ a = 109 ∨ a = 110) : FN h (am_set h a c) := ⟨rfl, rfl, fun k hk => at_set_ne (by omega)⟩
theorem FN.fm {h h' : am_H} (h1 : FN h h') : FM h h' := ⟨h1.1, h1.2.1, fun k hk => h1.2.2 k (by omega)⟩
section MN
variable {d : Nat} {h : am_H} {Z S V TS TV : Nat → Int32}
theorem MQn.sv (hQ : MQn h Z S V TS TV) (S' V' : Nat → Int32) : MQn (am_set (am_set h 95 (AI 36 S')) 96 (AI 36 V')) Z S' V' TS TV := by
  obtain ⟨h0, h1, h2, h3, h4, h5⟩ := hQ
  have x : am_at (am_set (am_set h 95 (AI 36 S')) 96 (AI 36 V')) 87 = am_at h 87 := by rw [at_set_ne (by decide), at_set_ne (by decide)]
  exact ⟨by rw [x]; exact h0, by rw [at_set_ne (by decide), at_set_ne (by decide)]; exact h1, by rw [at_set_ne (by decide)]; exact at_set_eq, at_set_eq, by rw [at_set_ne (by decide), at_set_ne (by decide)]; exact h4, by rw [at_set_ne (by decide), at_set_ne (by decide)]; exact h5⟩
theorem MQn.tt (hQ : MQn h Z S V TS TV) (S' V' : Nat → Int32) : MQn (am_set (am_set h 109 (AI 12 S')) 110 (AI 12 V')) Z S V S' V' := by
  obtain ⟨h0, h1, h2, h3, h4, h5⟩ := hQ
  have x : am_at (am_set (am_set h 109 (AI 12 S')) 110 (AI 12 V')) 87 = am_at h 87 := by rw [at_set_ne (by decide), at_set_ne (by decide)]
  exact ⟨by rw [x]; exact h0, by rw [at_set_ne (by decide), at_set_ne (by decide)]; exact h1, by rw [at_set_ne (by decide), at_set_ne (by decide)]; exact h2, by rw [at_set_ne (by decide), at_set_ne (by decide)]; exact h3, by rw [at_set_ne (by decide)]; exact at_set_eq, at_set_eq⟩
theorem MQn.z (hQ : MQn h Z S V TS TV) (Z' : Nat → Int32) : MQn (am_set h 94 (AI 3 Z')) Z' S V TS TV := by
  obtain ⟨h0, h1, h2, h3, h4, h5⟩ := hQ
  have x : am_at (am_set h 94 (AI 3 Z')) 87 = am_at h 87 := at_set_ne (by decide)
  exact ⟨by rw [x]; exact h0, at_set_eq, by rw [at_set_ne (by decide)]; exact h2, by rw [at_set_ne (by decide)]; exact h3, by rw [at_set_ne (by decide)]; exact h4, by rw [at_set_ne (by decide)]; exact h5⟩
def mvI (S : Nat → Int32) (hi m e : Nat) : Nat → Int32 := fun k => if e + m ≤ k ∧ k < hi + m then S (k - m) else S k
theorem mvI_s (S : Nat → Int32) {hi m e : Nat} (he : e + 1 ≤ hi) : upd (mvI S hi m (e + 1)) (e + m) (mvI S hi m (e + 1) e) = mvI S hi m e := by
  funext k
  unfold upd mvI
  by_cases c : k = e + m
  · rw [if_pos c, if_neg (by omega), if_pos (by omega), c]
    congr 1; omega
  · rw [if_neg c]
    by_cases c1 : e + 1 + m ≤ k ∧ k < hi + m
    · rw [if_pos c1, if_pos (by omega)]
    · rw [if_neg c1, if_neg (by omega)]
theorem l_makeRoom {x i m s : Nat} (hx : x < 3) (hi : i ≤ s) (hm : s + m ≤ 12) : ∀ j e (h : am_H), e = 12 * x + i + j → e ≤ 12 * x + s → MQn h Z (mvI S (12 * x + s) m e) (mvI V (12 * x + s) m e) TS TV → Z x = nI s → ∃ h', am_ev d 198 15 [some (.ref 87), some (.int (nI x)), some (.int (nI i)), some (.int (nI m)), some (.int (cI (e + 1)))] [] h = some (none, h') ∧ MQn h' (upd Z x (nI (s + m))) (mvI S (12 * x + s) m (12 * x + i)) (mvI V (12 * x + s) m (12 * x + i)) TS TV ∧ FN h h' := by
  intro j
  have e12 : (12 : Int32) = nI 12 := by decide +kernel
  have e35 : nI s + nI m = nI (s + m) := nI_add s m
  induction j with
  | zero =>
    intro e h he hes hQ hZ
    rw [Nat.add_zero] at he
    subst he
    have hQ' := hQ.z (upd Z x (nI (s + m)))
    obtain ⟨⟨f9, f10, f11, f30, f31, fis⟩, q1, q2, q3, q4, q5⟩ := hQ
    refine ⟨_, ?_, hQ', FN.set (by omega)⟩
    have hlt : cI (12 * x + i + 1) < nI (12 * x + i) := by
      cases hz : 12 * x + i with
      | zero => decide +kernel
      | succ y => rw [cI_s, nI_ltI (by omega) (by omega)]; omega
    rw [e_198_15]
    simp only [e_198_17, e_198_19, e_198_20, e_198_21, e_198_22, e_198_23, e_198_64, e_198_65, e_198_68, e_198_69, e_198_70, e_198_71, e_198_72, e_198_73, e_198_74, lg_n, lg_i, lg_r, wd_nil, am_wd_i, am_wd_r, am_wd_l, am_gk_s, am_fld_s, List.getElem?_cons_zero, List.getElem?_cons_succ, am_bk_v, am_bk_n, bo_0, bo_1, am_pk_s, List.length_cons, List.length_nil, Nat.zero_add, List.set_cons_zero, List.set_cons_succ, Nat.reduceAdd, Nat.reduceLeDiff, Nat.reduceLT, e12, pk_mul, nI_add, if_pos hlt, f9, q1, ak_AI hx (show 3 < 2 ^ 31 by decide), hZ, sk_AI hx (show 3 < 2 ^ 31 by decide), st_AI hx (show 3 < 2 ^ 31 by decide)]
  | succ j ih =>
    intro e h he hes hQ hZ
    obtain ⟨e, rfl⟩ : ∃ e', e = e' + 1 := ⟨e - 1, by omega⟩
    have hS := mvI_s S (m := m) hes
    have hV := mvI_s V (m := m) hes
    obtain ⟨h', e', Q', F'⟩ := ih e _ (by omega) (by omega) (hQ.sv (mvI S (12 * x + s) m e) (mvI V (12 * x + s) m e)) hZ
    refine ⟨h', ?_, Q', ((FN.set (by omega)).tr (FN.set (by omega))).tr F'⟩
    obtain ⟨⟨f9, f10, f11, f30, f31, fis⟩, q1, q2, q3, q4, q5⟩ := hQ
    have hnl : ¬ nI e < nI (12 * x + i) := by rw [nI_ltI (by omega) (by omega)]; omega
    have y87 : ∀ c, am_at (am_set h 95 c) 87 = am_at h 87 := fun c => at_set_ne (by decide)
    have y96 : ∀ c, am_at (am_set h 95 c) 96 = am_at h 96 := fun c => at_set_ne (by decide)
    have hm1 : nI e + (-1) = cI (e + 1) := by rw [← cI_s e, cI_m]
    rw [e_198_15]
    simp only [e_198_17, e_198_19, e_198_20, e_198_21, e_198_22, e_198_23, e_198_26, e_198_27, e_198_30, e_198_32, e_198_33, e_198_34, e_198_35, e_198_38, e_198_40, e_198_41, e_198_42, e_198_43, e_198_46, e_198_48, e_198_49, e_198_50, e_198_51, e_198_54, e_198_56, e_198_57, lg_n, lg_i, lg_r, wd_nil, am_wd_i, am_wd_r, am_wd_l, am_gk_s, am_fld_s, List.getElem?_cons_zero, List.getElem?_cons_succ, am_bk_v, am_bk_n, bo_0, bo_1, am_pk_s, List.length_cons, List.length_nil, Nat.zero_add, List.set_cons_zero, List.set_cons_succ, Nat.reduceAdd, Nat.reduceLeDiff, Nat.reduceLT, e12, pk_mul, nI_add, cI_s, if_neg hnl, f10, f11, q2, q3, y87, y96, ak_AI (show e < 36 by omega) (show 36 < 2 ^ 31 by decide), sk_AI (show e + m < 36 by omega) (show 36 < 2 ^ 31 by decide), st_AI (show e + m < 36 by omega) (show 36 < 2 ^ 31 by decide), hS, hV]
    rw [e_198_58 (lg_i _), hm1, e_198_61]
    exact e'
theorem m_makeRoom (hQ : MQn h Z S V TS TV) {x i m s : Nat} (hx : x < 3) (hi : i ≤ s) (hm : s + m ≤ 12) (hZ : Z x = nI s) : ∃ h', am_cal (d + 1) 198 [.ref 87, .int (nI x), .int (nI i), .int (nI m)] h = some (none, h') ∧ MQn h' (upd Z x (nI (s + m))) (mvI S (12 * x + s) m (12 * x + i)) (mvI V (12 * x + s) m (12 * x + i)) TS TV ∧ FN h h' := by
  have h0 : ∀ S : Nat → Int32, mvI S (12 * x + s) m (12 * x + s) = S := fun S => by funext k; unfold mvI; rw [if_neg (by omega)]
  obtain ⟨h', e', Q', F'⟩ := l_makeRoom (d := d) (Z := Z) (S := S) (V := V) (TS := TS) (TV := TV) hx hi hm (s - i) (12 * x + s) h (by omega) (by omega) (by rw [h0, h0]; exact hQ) hZ
  refine ⟨h', ?_, Q', F'⟩
  obtain ⟨⟨f9, f10, f11, f30, f31, fis⟩, q1, q2, q3, q4, q5⟩ := hQ
  have e12 : (12 : Int32) = nI 12 := by decide +kernel
  have hc : nI (12 * x + s) - 1 = cI (12 * x + s + 1) := by
    cases hz : 12 * x + s with
    | zero => decide +kernel
    | succ y => rw [nI_pred, cI_s]
  refine (b_198 _ _ _).trans ?_; show am_ev _ 198 0 [some (.ref 87), some (.int (nI x)), some (.int (nI i)), some (.int (nI m)), none] [] _ = _
  simp only [e_198_0, e_198_2, e_198_3, e_198_4, e_198_5, e_198_8, e_198_9, e_198_10, e_198_11, e_198_12, e_198_13, lg_n, lg_i, lg_r, wd_nil, am_wd_i, am_wd_r, am_wd_l, am_gk_s, am_fld_s, List.getElem?_cons_zero, List.getElem?_cons_succ, am_bk_v, am_bk_n, bo_0, bo_1, am_pk_s, List.length_cons, List.length_nil, Nat.zero_add, List.set_cons_zero, List.set_cons_succ, Nat.reduceAdd, Nat.reduceLeDiff, Nat.reduceLT, e12, pk_mul, f9, q1, ak_AI hx (show 3 < 2 ^ 31 by decide), hZ, nI_add, hc]
  exact e'
def tkI (S TS : Nat → Int32) (a i c : Nat) : Nat → Int32 := fun k => if k < c - i then S (a + i + k) else TS k
theorem l_take {x i j : Nat} (hx : x < 3) (hij : i ≤ j) (hj : j ≤ 12) : ∀ r c (h : am_H), c + r = j → i ≤ c → MQn h Z S V (tkI S TS (12 * x) i c) (tkI V TV (12 * x) i c) → ∃ h', am_ev d 203 3 [some (.ref 87), some (.int (nI x)), some (.int (nI i)), some (.int (nI j)), some (.int (nI c))] [] h = some (none, h') ∧ MQn h' Z S V (tkI S TS (12 * x) i j) (tkI V TV (12 * x) i j) ∧ FN h h' := by
  intro r
  have e12 : (12 : Int32) = nI 12 := by decide +kernel
  induction r with
  | zero =>
    intro c h hc hic hQ
    have : c = j := by omega
    subst this
    refine ⟨h, ?_, hQ, FN.rf⟩
    rw [e_203_3]
    simp only [e_203_5, e_203_6, e_203_57, lg_n, lg_i, lg_r, wd_nil, am_wd_i, am_wd_r, am_wd_l, am_gk_s, am_fld_s, List.getElem?_cons_zero, List.getElem?_cons_succ, am_bk_v, am_bk_n, bo_0, bo_1, am_pk_s, List.length_cons, List.length_nil, Nat.zero_add, List.set_cons_zero, List.set_cons_succ, Nat.reduceAdd, Nat.reduceLeDiff, Nat.reduceLT, nI_leI (show c < 2 ^ 31 by omega) (show c < 2 ^ 31 by omega), Nat.le_refl, if_true]
  | succ r ih =>
    intro c h hc hic hQ
    have hs : ∀ S TS : Nat → Int32, upd (tkI S TS (12 * x) i c) (c - i) (S (12 * x + c)) = tkI S TS (12 * x) i (c + 1) := by
      intro S TS
      funext k
      unfold upd tkI
      by_cases e : k = c - i
      · rw [if_pos e, if_pos (by omega), e]; congr 1; omega
      · rw [if_neg e]
        by_cases c1 : k < c - i
        · rw [if_pos c1, if_pos (by omega)]
        · rw [if_neg c1, if_neg (by omega)]
    obtain ⟨h', e', Q', F'⟩ := ih (c + 1) _ (by omega) (by omega) (hQ.tt (tkI S TS (12 * x) i (c + 1)) (tkI V TV (12 * x) i (c + 1)))
    refine ⟨h', ?_, Q', ((FN.set (by omega)).tr (FN.set (by omega))).tr F'⟩
    obtain ⟨⟨f9, f10, f11, f30, f31, fis⟩, q1, q2, q3, q4, q5⟩ := hQ
    have y87 : ∀ c, am_at (am_set h 109 c) 87 = am_at h 87 := fun c => at_set_ne (by decide)
    have y96 : ∀ c, am_at (am_set h 109 c) 96 = am_at h 96 := fun c => at_set_ne (by decide)
    have y110 : ∀ c, am_at (am_set h 109 c) 110 = am_at h 110 := fun c => at_set_ne (by decide)
    rw [e_203_3]
    simp only [e_203_5, e_203_6, e_203_9, e_203_10, e_203_13, e_203_15, e_203_16, e_203_17, e_203_18, e_203_21, e_203_23, e_203_24, e_203_25, e_203_27, e_203_28, e_203_29, e_203_30, e_203_31, e_203_34, e_203_36, e_203_37, e_203_38, e_203_39, e_203_42, e_203_44, e_203_45, e_203_46, e_203_48, e_203_49, e_203_50, e_203_51, e_203_54, lg_n, lg_i, lg_r, wd_nil, am_wd_i, am_wd_r, am_wd_l, am_gk_s, am_fld_s, List.getElem?_cons_zero, List.getElem?_cons_succ, am_bk_v, am_bk_n, bo_0, bo_1, am_pk_s, List.length_cons, List.length_nil, Nat.zero_add, List.set_cons_zero, List.set_cons_succ, Nat.reduceAdd, Nat.reduceLeDiff, Nat.reduceLT, nI_leI (show j < 2 ^ 31 by omega) (show c < 2 ^ 31 by omega), if_neg (show ¬ j ≤ c by omega), f30, f31, f10, f11, q2, q3, q4, q5, y87, y96, y110, pk_sub hic, e12, pk_mul, nI_add, ak_AI (show 12 * x + c < 36 by omega) (show 36 < 2 ^ 31 by decide), sk_AI (show c - i < 12 by omega) (show 12 < 2 ^ 31 by decide), st_AI (show c - i < 12 by omega) (show 12 < 2 ^ 31 by decide), hs, nI_1]
    exact e'
theorem m_take (hQ : MQn h Z S V TS TV) {x i j : Nat} (hx : x < 3) (hij : i ≤ j) (hj : j ≤ 12) : ∃ h', am_cal (d + 1) 203 [.ref 87, .int (nI x), .int (nI i), .int (nI j)] h = some (none, h') ∧ MQn h' Z S V (tkI S TS (12 * x) i j) (tkI V TV (12 * x) i j) ∧ FN h h' := by
  have h0 : ∀ S TS : Nat → Int32, tkI S TS (12 * x) i i = TS := fun S TS => by funext k; unfold tkI; rw [if_neg (by omega)]
  obtain ⟨h', e', Q', F'⟩ := l_take (d := d) (Z := Z) (S := S) (V := V) (TS := TS) (TV := TV) hx hij hj (j - i) i h (by omega) (Nat.le_refl _) (by rw [h0, h0]; exact hQ)
  refine ⟨h', ?_, Q', F'⟩
  refine (b_203 _ _ _).trans ?_; show am_ev _ 203 0 [some (.ref 87), some (.int (nI x)), some (.int (nI i)), some (.int (nI j)), none] [] _ = _
  simp only [e_203_0, e_203_1, lg_n, lg_i, lg_r, wd_nil, am_wd_i, am_wd_r, am_wd_l, am_gk_s, am_fld_s, List.getElem?_cons_zero, List.getElem?_cons_succ, am_bk_v, am_bk_n, bo_0, bo_1, am_pk_s, List.length_cons, List.length_nil, Nat.zero_add, List.set_cons_zero, List.set_cons_succ, Nat.reduceAdd, Nat.reduceLeDiff, Nat.reduceLT]
  exact e'
theorem m_lay (hQ : MQn h Z S V TS TV) {x i r : Nat} (hx : x < 3) (hi : i < 12) (hr : r < 12) : ∃ h', am_cal (d + 1) 204 [.ref 87, .int (nI x), .int (nI i), .int (nI r)] h = some (none, h') ∧ MQn h' Z (upd S (12 * x + i) (TS r)) (upd V (12 * x + i) (TV r)) TS TV ∧ FN h h' := by
  refine ⟨_, ?_, hQ.sv (upd S (12 * x + i) (TS r)) (upd V (12 * x + i) (TV r)), (FN.set (by omega)).tr (FN.set (by omega))⟩
  obtain ⟨⟨f9, f10, f11, f30, f31, fis⟩, q1, q2, q3, q4, q5⟩ := hQ
  have e12 : (12 : Int32) = nI 12 := by decide +kernel
  have y87 : ∀ c, am_at (am_set h 95 c) 87 = am_at h 87 := fun c => at_set_ne (by decide)
  have y96 : ∀ c, am_at (am_set h 95 c) 96 = am_at h 96 := fun c => at_set_ne (by decide)
  have y110 : ∀ c, am_at (am_set h 95 c) 110 = am_at h 110 := fun c => at_set_ne (by decide)
  refine (b_204 _ _ _).trans ?_; show am_ev _ 204 0 [some (.ref 87), some (.int (nI x)), some (.int (nI i)), some (.int (nI r))] [] _ = _
  simp only [e_204_0, e_204_1, e_204_4, e_204_6, e_204_7, e_204_8, e_204_9, e_204_10, e_204_11, e_204_14, e_204_15, e_204_16, e_204_17, e_204_18, e_204_21, e_204_23, e_204_24, e_204_25, e_204_26, e_204_27, e_204_28, e_204_31, e_204_32, e_204_33, e_204_34, lg_n, lg_i, lg_r, wd_nil, am_wd_i, am_wd_r, am_wd_l, am_gk_s, am_fld_s, List.getElem?_cons_zero, List.getElem?_cons_succ, am_bk_v, am_bk_n, bo_0, bo_1, am_pk_s, List.length_cons, List.length_nil, Nat.zero_add, List.set_cons_zero, List.set_cons_succ, Nat.reduceAdd, Nat.reduceLeDiff, Nat.reduceLT, f30, f31, f10, f11, q2, q3, q4, q5, y87, y96, y110, e12, pk_mul, nI_add, ak_AI hr (show 12 < 2 ^ 31 by decide), sk_AI (show 12 * x + i < 36 by omega) (show 36 < 2 ^ 31 by decide), st_AI (show 12 * x + i < 36 by omega) (show 36 < 2 ^ 31 by decide)]
end MN
