/-! looking ahead: the worst cabin; the order's helpers -/
def LB (h h' : am_H) (l b : Nat) : Prop := h' = h ∨ ∃ τ : Hn, h' = pH h l b τ
theorem LB.rf {h : am_H} {l b : Nat} : LB h h l b := Or.inl rfl
theorem LB.mk {h : am_H} {l b : Nat} (τ : Hn) : LB h (pH h l b τ) l b := Or.inr ⟨τ, rfl⟩
theorem LB.tr {h h' h'' : am_H} {l b : Nat} (h1 : LB h h' l b) (h2 : LB h' h'' l b) : LB h h'' l b := by
  rcases h2 with rfl | ⟨τ, rfl⟩
  · exact h1
  · rcases h1 with rfl | ⟨τ', rfl⟩
    · exact Or.inr ⟨τ, rfl⟩
    · exact Or.inr ⟨τ, pH_pH _ _ _ _ _⟩
theorem srchN_le (f : Nat → Bool) : ∀ j t, t + j ≤ 61 → srchN f j t ≤ 61
  | 0, _, _ => Nat.le_refl _
  | j + 1, t, h => by
    unfold srchN
    split
    · omega
    · exact srchN_le f j (t + 1) (by omega)
def lastN (P : Pn) (σ : Hn) (S : Nat) : Nat := srchN (fun t => missN P (behN P (σ.1, S, σ.2.2) t) == 0) 61 0
def wrstN (P : Pn) (σ : Hn) : Nat → Nat × Nat
  | 0 => (0, 0)
  | c + 1 => if σ.2.1.testBit c then wrstN P σ c else if (wrstN P σ c).2 < lastN P σ (σ.2.1 ||| 2 ^ c) + 1 then (c + 1, lastN P σ (σ.2.1 ||| 2 ^ c) + 1) else wrstN P σ c
theorem wrstN_le (P : Pn) (σ : Hn) : ∀ c, (wrstN P σ c).1 ≤ c ∧ (wrstN P σ c).2 ≤ 62
  | 0 => ⟨Nat.le_refl _, Nat.zero_le _⟩
  | c + 1 => by
    have ih := wrstN_le P σ c
    have := srchN_le (fun t => missN P (behN P (σ.1, σ.2.1 ||| 2 ^ c, σ.2.2) t) == 0) 61 0 (by omega)
    unfold wrstN lastN
    split
    · omega
    · split
      · simp only; omega
      · omega
theorem cI_le {t r : Nat} (ht : t < 2 ^ 30) (hr : r < 2 ^ 30) : nI t ≤ cI (r + 1) ↔ t + 1 ≤ r := by
  unfold cI
  by_cases h : r + 1 < 2
  · rw [if_pos h, i_le, nI_toInt (by omega), i_m1]; omega
  · rw [if_neg h, nI_leI (by omega) (by omega)]; omega
theorem cI_s (c : Nat) : cI (c + 1 + 1) = nI c := by unfold cI; rw [if_neg (by omega)]; rfl
theorem cI_m (c : Nat) : cI (c + 1 + 1) + (-1) = cI (c + 1) := by
  rw [cI_s]
  cases c with
  | zero => decide +kernel
  | succ c => rw [pk_m1, cI_s]
theorem cI_neg {c : Nat} (hc : c < 2 ^ 30) : cI (c + 1) < 0 ↔ c = 0 := by
  cases c with
  | zero => exact ⟨fun _ => rfl, fun _ => by decide +kernel⟩
  | succ c => rw [cI_s]; exact ⟨fun h => absurd h (nI_pos (by omega)), fun h => by omega⟩
def swp (f : Nat → Nat) (a b : Nat) : Nat → Nat := fun k => if k = b then f a else if k = a then f b else f k
def pivN (f : Nat → Nat) : Nat → Nat
  | 0 => 0
  | j + 1 => if f (j + 1) < f j then pivN f j else j + 1
def sucN (f : Nat → Nat) (i : Nat) : Nat → Nat
  | 0 => 0
  | j + 1 => if i < j + 1 ∧ f (j + 1) < f i then sucN f i j else j + 1
def revN : Nat → (Nat → Nat) → Nat → Nat → (Nat → Nat)
  | 0, f, _, _ => f
  | n + 1, f, a, b => if a < b then revN n (swp f a b) (a + 1) (b - 1) else f
/-- the line behind this one, if there is one -/
def nextN (w : Nat) (f : Nat → Nat) : Option (Nat → Nat) := match pivN f (w - 1) with
  | 0 => none
  | i + 1 => some (revN 6 (swp f i (sucN f i (w - 1))) (i + 1) (w - 1))
theorem pivN_le (f : Nat → Nat) : ∀ j, pivN f j ≤ j
  | 0 => Nat.le_refl _
  | j + 1 => by have := pivN_le f j; unfold pivN; split <;> omega
theorem sucN_le (f : Nat → Nat) (i : Nat) : ∀ j, sucN f i j ≤ j
  | 0 => Nat.le_refl _
  | j + 1 => by have := sucN_le f i j; unfold sucN; split <;> omega
def swN (P : Pn) (a b : Nat) : Bool := (P.2.2.2.2.2.1 a != P.2.2.2.2.2.1 b) || (P.2.2.2.2.1 a == P.2.2.2.2.1 b && P.2.2.2.2.2.2 a == P.2.2.2.2.2.2 b)
def likeN (P : Pn) (f : Nat → Nat) : Nat → Nat → Bool
  | 0, _ => false
  | j + 1, i => if f (i + 1) < f i ∧ swN P (f i) (f (i + 1)) = true then true else likeN P f j (i + 1)
section FO
variable {d : Nat} {h : am_H} {v n l b : Nat} {P : Pn} {σ τ : Hn} {Φ : Fo}
theorem FS.lb {h' : am_H} (hF : FS h v n l b P σ Φ) (hl : LB h h' l b) : FS h' v n l b P σ Φ := by
  rcases hl with rfl | ⟨τ, rfl⟩
  · exact hF
  · exact hF.put τ
theorem l_worst (oP : OKP P) {m0 : Nat} (oR : OKR P σ m0) (hf : P.1 ≤ 15) (hm : m0 + 62 < 2 ^ 28) : ∀ j c, c + j = 2 * P.1 → ∀ (h : am_H) (z : Option Value), FS h v n l b P σ Φ → ∃ h', am_ev (d + 5) 5 6 [some (.ref v), some (.int (cI ((wrstN P σ c).1 + 1))), some (.int (cI ((wrstN P σ c).2 + 1))), some (.int (nI c)), z] [] h = some (some (.int (cI ((wrstN P σ (2 * P.1)).1 + 1))), h') ∧ LB h h' l b := by
  intro j
  induction j with
  | zero =>
    intro c hc h z hF
    have : c = 2 * P.1 := by omega
    subst this
    refine ⟨h, ?_, LB.rf⟩
    obtain ⟨k0, k1, -⟩ := hF.fl
    obtain ⟨g0, -⟩ := fl_house hF.2.2.1
    rw [e_5_6]
    simp only [e_5_0, e_5_1, e_5_2, e_5_3, e_5_4, e_5_5, e_5_7, e_5_8, e_5_11, e_5_14, e_5_17, e_5_20, e_5_21, e_5_24, e_5_25, e_5_28, e_5_31, e_5_32, e_5_33, e_5_36, e_5_39, e_5_40, e_5_41, e_5_42, e_5_43, e_5_46, e_5_48, e_5_50, e_5_51, e_5_54, e_5_55, e_5_56, e_5_58, e_5_59, e_5_62, e_5_65, e_5_66, lg_n, lg_i, lg_r, wd_nil, am_wd_i, am_wd_r, am_wd_l, am_gk_s, am_fld_s, List.getElem?_cons_zero, List.getElem?_cons_succ, am_bk_v, am_bk_n, bo_0, bo_1, am_pk_s, List.length_cons, List.length_nil, Nat.zero_add, List.set_cons_zero, List.set_cons_succ, Nat.reduceAdd, Nat.reduceLeDiff, Nat.reduceLT, k0, g0, is_plan hF.2.1, m_ring hF.2.1, nI_leI (show 2 * P.1 < 2 ^ 31 by omega) (show 2 * P.1 < 2 ^ 31 by omega), Nat.le_refl, if_true]
  | succ j ih =>
    intro c hc h z hF
    obtain ⟨k0, k1, -, -, -, -, -, k7⟩ := hF.fl
    obtain ⟨g0, g1, g2, -⟩ := fl_house hF.2.2.1
    obtain ⟨τ', hl⟩ := m_lastArrival (d := d) hF oP oR hf hm (σ.2.1 ||| 2 ^ c)
    have hle := wrstN_le P σ c
    have hla := srchN_le (fun t => missN P (behN P (σ.1, σ.2.1 ||| 2 ^ c, σ.2.2) t) == 0) 61 0 (by omega)
    have hw : wrstN P σ (c + 1) = if σ.2.1.testBit c then wrstN P σ c else if (wrstN P σ c).2 < lastN P σ (σ.2.1 ||| 2 ^ c) + 1 then (c + 1, lastN P σ (σ.2.1 ||| 2 ^ c) + 1) else wrstN P σ c := rfl
    by_cases hsh : σ.2.1.testBit c = true
    · rw [if_pos hsh] at hw
      obtain ⟨h', e', lb'⟩ := ih (c + 1) (by omega) h z hF
      rw [hw] at e'
      refine ⟨h', ?_, lb'⟩
      rw [e_5_6]
      simp only [e_5_0, e_5_1, e_5_2, e_5_3, e_5_4, e_5_5, e_5_7, e_5_8, e_5_11, e_5_14, e_5_17, e_5_20, e_5_21, e_5_24, e_5_25, e_5_28, e_5_31, e_5_32, e_5_33, e_5_36, e_5_39, e_5_40, e_5_41, e_5_42, e_5_43, e_5_46, e_5_48, e_5_50, e_5_51, e_5_54, e_5_55, e_5_56, e_5_58, e_5_59, e_5_62, e_5_65, e_5_66, lg_n, lg_i, lg_r, wd_nil, am_wd_i, am_wd_r, am_wd_l, am_gk_s, am_fld_s, List.getElem?_cons_zero, List.getElem?_cons_succ, am_bk_v, am_bk_n, bo_0, bo_1, am_pk_s, List.length_cons, List.length_nil, Nat.zero_add, List.set_cons_zero, List.set_cons_succ, Nat.reduceAdd, Nat.reduceLeDiff, Nat.reduceLT, k0, g0, is_plan hF.2.1, is_house hF.2.2.1, m_ring hF.2.1, m_isShut hF.2.2.1 (show c < 31 by omega), nI_leI (show 2 * P.1 < 2 ^ 31 by omega) (show c < 2 ^ 31 by omega), if_neg (show ¬ 2 * P.1 ≤ c by omega), hsh, if_true, one_ne, not_false_eq_true, nI_1]
      exact e'
    · rw [if_neg hsh] at hw
      have lb1 : LB h (pH h l b τ') l b := LB.mk τ'
      have hF1 := hF.put τ'
      change am_cal (d + 5) 3 [.ref v, .int (nI (σ.2.1 ||| 2 ^ c))] h = some (some (.int (nI (lastN P σ (σ.2.1 ||| 2 ^ c)))), pH h l b τ') at hl
      change lastN P σ (σ.2.1 ||| 2 ^ c) ≤ 61 at hla
      by_cases hgt : (wrstN P σ c).2 < lastN P σ (σ.2.1 ||| 2 ^ c) + 1
      · rw [if_pos hgt] at hw
        obtain ⟨h', e', lb'⟩ := ih (c + 1) (by omega) (pH h l b τ') (some (.int (nI (lastN P σ (σ.2.1 ||| 2 ^ c))))) hF1
        rw [hw] at e'
        simp only [cI_s] at e'
        refine ⟨h', ?_, lb1.tr lb'⟩
        rw [e_5_6]
        simp only [e_5_0, e_5_1, e_5_2, e_5_3, e_5_4, e_5_5, e_5_7, e_5_8, e_5_11, e_5_14, e_5_17, e_5_20, e_5_21, e_5_24, e_5_25, e_5_28, e_5_31, e_5_32, e_5_33, e_5_36, e_5_39, e_5_40, e_5_41, e_5_42, e_5_43, e_5_46, e_5_48, e_5_50, e_5_51, e_5_54, e_5_55, e_5_56, e_5_58, e_5_59, e_5_62, e_5_65, e_5_66, lg_n, lg_i, lg_r, wd_nil, am_wd_i, am_wd_r, am_wd_l, am_gk_s, am_fld_s, List.getElem?_cons_zero, List.getElem?_cons_succ, am_bk_v, am_bk_n, bo_0, bo_1, am_pk_s, List.length_cons, List.length_nil, Nat.zero_add, List.set_cons_zero, List.set_cons_succ, Nat.reduceAdd, Nat.reduceLeDiff, Nat.reduceLT, k0, k7, g0, g2, is_plan hF.2.1, is_house hF.2.2.1, m_ring hF.2.1, m_isShut hF.2.2.1 (show c < 31 by omega), nI_leI (show 2 * P.1 < 2 ^ 31 by omega) (show c < 2 ^ 31 by omega), if_neg (show ¬ 2 * P.1 ≤ c by omega), if_neg hsh, sh1 c (by omega), fa_or, hl, cI_le (show lastN P σ (σ.2.1 ||| 2 ^ c) < 2 ^ 30 by omega) (show (wrstN P σ c).2 < 2 ^ 30 by omega), if_neg (show ¬ lastN P σ (σ.2.1 ||| 2 ^ c) + 1 ≤ (wrstN P σ c).2 by omega), not_true_eq_false, if_false, nI_1]
        exact e'
      · rw [if_neg hgt] at hw
        obtain ⟨h', e', lb'⟩ := ih (c + 1) (by omega) (pH h l b τ') (some (.int (nI (lastN P σ (σ.2.1 ||| 2 ^ c))))) hF1
        rw [hw] at e'
        refine ⟨h', ?_, lb1.tr lb'⟩
        rw [e_5_6]
        simp only [e_5_0, e_5_1, e_5_2, e_5_3, e_5_4, e_5_5, e_5_7, e_5_8, e_5_11, e_5_14, e_5_17, e_5_20, e_5_21, e_5_24, e_5_25, e_5_28, e_5_31, e_5_32, e_5_33, e_5_36, e_5_39, e_5_40, e_5_41, e_5_42, e_5_43, e_5_46, e_5_48, e_5_50, e_5_51, e_5_54, e_5_55, e_5_56, e_5_58, e_5_59, e_5_62, e_5_65, e_5_66, lg_n, lg_i, lg_r, wd_nil, am_wd_i, am_wd_r, am_wd_l, am_gk_s, am_fld_s, List.getElem?_cons_zero, List.getElem?_cons_succ, am_bk_v, am_bk_n, bo_0, bo_1, am_pk_s, List.length_cons, List.length_nil, Nat.zero_add, List.set_cons_zero, List.set_cons_succ, Nat.reduceAdd, Nat.reduceLeDiff, Nat.reduceLT, k0, k7, g0, g2, is_plan hF.2.1, is_house hF.2.2.1, m_ring hF.2.1, m_isShut hF.2.2.1 (show c < 31 by omega), nI_leI (show 2 * P.1 < 2 ^ 31 by omega) (show c < 2 ^ 31 by omega), if_neg (show ¬ 2 * P.1 ≤ c by omega), if_neg hsh, sh1 c (by omega), fa_or, hl, cI_le (show lastN P σ (σ.2.1 ||| 2 ^ c) < 2 ^ 30 by omega) (show (wrstN P σ c).2 < 2 ^ 30 by omega), if_pos (show lastN P σ (σ.2.1 ||| 2 ^ c) + 1 ≤ (wrstN P σ c).2 by omega), not_true_eq_false, if_false, nI_1]
        exact e'
theorem m_worst (hF : FS h v n l b P σ Φ) (oP : OKP P) {m0 : Nat} (oR : OKR P σ m0) (hf : P.1 ≤ 15) (hm : m0 + 62 < 2 ^ 28) : ∃ h', am_cal (d + 6) 5 [.ref v] h = some (some (.int (cI ((wrstN P σ (2 * P.1)).1 + 1))), h') ∧ LB h h' l b := by
  obtain ⟨h', e', lb⟩ := l_worst (d := d) oP oR hf hm (2 * P.1) 0 (by omega) h none hF
  refine ⟨h', ?_, lb⟩
  refine (b_5 _ _ _).trans ?_; show am_ev _ 5 0 [some (.ref v), none, none, none, none] [] _ = _
  simp only [e_5_0, e_5_1, e_5_2, e_5_3, e_5_4, e_5_5, lg_n, lg_i, lg_r, wd_nil, am_wd_i, am_wd_r, am_wd_l, am_gk_s, am_fld_s, List.getElem?_cons_zero, List.getElem?_cons_succ, am_bk_v, am_bk_n, bo_0, bo_1, am_pk_s, List.length_cons, List.length_nil, Nat.zero_add, List.set_cons_zero, List.set_cons_succ, Nat.reduceAdd, Nat.reduceLeDiff, Nat.reduceLT]
  exact e'
theorem FS.line (hF : FS h v n l b P σ Φ) (f : Nat → Nat) : FS (am_set h (v + 2) (AI 6 (fun i => nI (f i)))) v n l b P σ (Φ.1, Φ.2.1, Φ.2.2.1, Φ.2.2.2.1, f) := by
  obtain ⟨h1, h2, h3, h4, h5, ⟨h6, h7, h8, h9⟩, hgb, hgl⟩ := hF
  exact ⟨h1.keep (fun k hk => at_set_ne (by omega)), h2.keep (fun k _ _ => at_set_ne (by omega)), h3.keep (fun k _ _ => at_set_ne (by omega)), h4.keep (fun k _ _ => at_set_ne (by omega)), by rw [at_set_ne (by omega)]; exact h5, ⟨h6, h7, h8, h9⟩, by rw [at_set_ne (by omega)]; exact hgb, at_set_eq⟩
theorem set_set {h : am_H} {a : Nat} {c c' : va_E} : am_set (am_set h a c) a c' = am_set h a c' := by
  refine am_ext rfl rfl (fun k => ?_)
  simp only [am_at_set]
  split <;> rfl
theorem m_swap (hF : FS h v n l b P σ Φ) {i j : Nat} (hi : i < 6) (hj : j < 6) : am_cal (d + 1) 13 [.ref v, .int (nI i), .int (nI j)] h = some (none, am_set h (v + 2) (AI 6 (fun k => nI (swp Φ.2.2.2.2 i j k)))) := by
  refine (b_13 _ _ _).trans ?_; show am_ev _ 13 0 [some (.ref v), some (.int (nI i)), some (.int (nI j)), none] [] _ = _
  obtain ⟨-, -, -, k3, -⟩ := hF.fl
  have h7 := hF.2.2.2.2.2.2.2
  simp only [e_13_0, e_13_1, e_13_4, e_13_5, e_13_6, e_13_7, e_13_8, e_13_11, e_13_12, e_13_13, e_13_16, e_13_17, e_13_18, e_13_19, e_13_20, e_13_23, e_13_24, e_13_25, e_13_26, lg_n, lg_i, lg_r, wd_nil, am_wd_i, am_wd_r, am_wd_l, am_gk_s, am_fld_s, List.getElem?_cons_zero, List.getElem?_cons_succ, am_bk_v, am_bk_n, bo_0, bo_1, am_pk_s, List.length_cons, List.length_nil, Nat.zero_add, List.set_cons_zero, List.set_cons_succ, Nat.reduceAdd, Nat.reduceLeDiff, Nat.reduceLT, k3, h7, ak_AI hi (show 6 < 2 ^ 31 by decide), ak_AI hj (show 6 < 2 ^ 31 by decide), sk_AI hi (show 6 < 2 ^ 31 by decide), sk_AI hj (show 6 < 2 ^ 31 by decide), st_AI hi (show 6 < 2 ^ 31 by decide), st_AI hj (show 6 < 2 ^ 31 by decide), at_set_ne (show v ≠ v + 2 by omega), at_set_eq, set_set]
  have : (upd (upd (fun i => nI (Φ.2.2.2.2 i)) i (nI (Φ.2.2.2.2 j))) j (nI (Φ.2.2.2.2 i))) = fun k => nI (swp Φ.2.2.2.2 i j k) := by
    funext k
    unfold upd swp
    split
    · rfl
    · split <;> rfl
  rw [this]
theorem l_piv (hF : FS h v n l b P σ Φ) (hl8 : ∀ i, i < 6 → Φ.2.2.2.2 i < 8) {x2 x3 x4 : Option Value} : ∀ j, j < 6 → am_ev d 12 7 [some (.ref v), some (.int (cI (j + 1))), x2, x3, x4] [] h = am_ev d 12 34 [some (.ref v), some (.int (cI (pivN Φ.2.2.2.2 j + 1))), x2, x3, x4] [] h := by
  obtain ⟨-, -, -, k3, -⟩ := hF.fl
  have h7 := hF.2.2.2.2.2.2.2
  intro j
  induction j with
  | zero =>
    intro hj
    rw [e_12_7]
    simp only [e_12_0, e_12_1, e_12_4, e_12_5, e_12_6, e_12_8, e_12_11, e_12_12, e_12_15, e_12_16, e_12_17, e_12_18, e_12_21, e_12_22, e_12_23, e_12_24, e_12_25, e_12_28, e_12_31, e_12_35, e_12_38, e_12_39, e_12_40, e_12_41, e_12_44, e_12_45, e_12_46, e_12_47, e_12_48, e_12_49, e_12_52, e_12_53, e_12_56, e_12_57, e_12_58, e_12_59, e_12_62, e_12_63, e_12_64, e_12_67, e_12_70, e_12_73, e_12_74, e_12_75, e_12_76, e_12_79, e_12_80, e_12_81, e_12_82, e_12_83, e_12_84, e_12_87, e_12_88, e_12_89, e_12_91, e_12_92, e_12_94, e_12_97, e_12_98, e_12_99, e_12_101, e_12_104, e_12_107, e_12_110, e_12_113, e_12_114, lg_n, lg_i, lg_r, wd_nil, am_wd_i, am_wd_r, am_wd_l, am_gk_s, am_fld_s, List.getElem?_cons_zero, List.getElem?_cons_succ, am_bk_v, am_bk_n, bo_0, bo_1, am_pk_s, List.length_cons, List.length_nil, Nat.zero_add, List.set_cons_zero, List.set_cons_succ, Nat.reduceAdd, Nat.reduceLeDiff, Nat.reduceLT, cI_neg (show 0 < 2 ^ 30 by decide), if_true, pivN]
  | succ j ih =>
    intro hj
    have a1 := hl8 j (by omega)
    have a2 := hl8 (j + 1) (by omega)
    have hm : nI j + (-1) = cI (j + 1) := by rw [← cI_s j, cI_m]
    rw [e_12_7]
    simp only [e_12_0, e_12_1, e_12_4, e_12_5, e_12_6, e_12_8, e_12_11, e_12_12, e_12_15, e_12_16, e_12_17, e_12_18, e_12_21, e_12_22, e_12_23, e_12_24, e_12_25, e_12_31, e_12_35, e_12_38, e_12_39, e_12_40, e_12_41, e_12_44, e_12_45, e_12_46, e_12_47, e_12_48, e_12_49, e_12_52, e_12_53, e_12_56, e_12_57, e_12_58, e_12_59, e_12_62, e_12_63, e_12_64, e_12_67, e_12_70, e_12_73, e_12_74, e_12_75, e_12_76, e_12_79, e_12_80, e_12_81, e_12_82, e_12_83, e_12_84, e_12_87, e_12_88, e_12_89, e_12_91, e_12_92, e_12_94, e_12_97, e_12_98, e_12_99, e_12_101, e_12_104, e_12_107, e_12_110, e_12_113, e_12_114, lg_n, lg_i, lg_r, wd_nil, am_wd_i, am_wd_r, am_wd_l, am_gk_s, am_fld_s, List.getElem?_cons_zero, List.getElem?_cons_succ, am_bk_v, am_bk_n, bo_0, bo_1, am_pk_s, List.length_cons, List.length_nil, Nat.zero_add, List.set_cons_zero, List.set_cons_succ, Nat.reduceAdd, Nat.reduceLeDiff, Nat.reduceLT, if_neg (nI_pos (show j < 2 ^ 31 by omega)), cI_s, k3, h7, nI_1, ak_AI (show j < 6 by omega) (show 6 < 2 ^ 31 by decide), ak_AI (show j + 1 < 6 by omega) (show 6 < 2 ^ 31 by decide), nI_leI (show Φ.2.2.2.2 j < 2 ^ 31 by omega) (show Φ.2.2.2.2 (j + 1) < 2 ^ 31 by omega)]
    by_cases hlt : Φ.2.2.2.2 (j + 1) < Φ.2.2.2.2 j
    · rw [if_neg (show ¬ Φ.2.2.2.2 j ≤ Φ.2.2.2.2 (j + 1) by omega), pivN, if_pos hlt, ← ih (by omega), e_12_28 (lg_r v), hm, e_12_31]
    · rw [if_pos (show Φ.2.2.2.2 j ≤ Φ.2.2.2.2 (j + 1) by omega), pivN, if_neg hlt, cI_s]
theorem l_suc (hF : FS h v n l b P σ Φ) (hl8 : ∀ i, i < 6 → Φ.2.2.2.2 i < 8) {i : Nat} (hi : i < 6) {x3 x4 : Option Value} : ∀ j, j < 6 → am_ev d 12 47 [some (.ref v), some (.int (nI i)), some (.int (nI j)), x3, x4] [] h = am_ev d 12 73 [some (.ref v), some (.int (nI i)), some (.int (nI (sucN Φ.2.2.2.2 i j))), x3, x4] [] h := by
  obtain ⟨-, -, -, k3, -⟩ := hF.fl
  have h7 := hF.2.2.2.2.2.2.2
  have a1 := hl8 i hi
  intro j
  induction j with
  | zero =>
    intro hj
    rw [e_12_47]
    simp only [e_12_0, e_12_1, e_12_4, e_12_5, e_12_6, e_12_7, e_12_8, e_12_11, e_12_12, e_12_15, e_12_16, e_12_17, e_12_18, e_12_21, e_12_22, e_12_23, e_12_24, e_12_25, e_12_28, e_12_31, e_12_34, e_12_35, e_12_38, e_12_39, e_12_40, e_12_41, e_12_44, e_12_45, e_12_46, e_12_48, e_12_49, e_12_52, e_12_53, e_12_56, e_12_57, e_12_58, e_12_59, e_12_62, e_12_63, e_12_64, e_12_67, e_12_70, e_12_74, e_12_75, e_12_76, e_12_79, e_12_80, e_12_81, e_12_82, e_12_83, e_12_84, e_12_87, e_12_88, e_12_89, e_12_91, e_12_92, e_12_94, e_12_97, e_12_98, e_12_99, e_12_101, e_12_104, e_12_107, e_12_110, e_12_113, e_12_114, lg_n, lg_i, lg_r, wd_nil, am_wd_i, am_wd_r, am_wd_l, am_gk_s, am_fld_s, List.getElem?_cons_zero, List.getElem?_cons_succ, am_bk_v, am_bk_n, bo_0, bo_1, am_pk_s, List.length_cons, List.length_nil, Nat.zero_add, List.set_cons_zero, List.set_cons_succ, Nat.reduceAdd, Nat.reduceLeDiff, Nat.reduceLT, nI_leI (show 0 < 2 ^ 31 by omega) (show i < 2 ^ 31 by omega), if_pos (Nat.zero_le i), sucN]
  | succ j ih =>
    intro hj
    have a2 := hl8 (j + 1) hj
    rw [e_12_47]
    simp only [e_12_0, e_12_1, e_12_4, e_12_5, e_12_6, e_12_7, e_12_8, e_12_11, e_12_12, e_12_15, e_12_16, e_12_17, e_12_18, e_12_21, e_12_22, e_12_23, e_12_24, e_12_25, e_12_28, e_12_31, e_12_34, e_12_35, e_12_38, e_12_39, e_12_40, e_12_41, e_12_44, e_12_45, e_12_46, e_12_48, e_12_49, e_12_52, e_12_53, e_12_56, e_12_57, e_12_58, e_12_59, e_12_62, e_12_63, e_12_64, e_12_70, e_12_74, e_12_75, e_12_76, e_12_79, e_12_80, e_12_81, e_12_82, e_12_83, e_12_84, e_12_87, e_12_88, e_12_89, e_12_91, e_12_92, e_12_94, e_12_97, e_12_98, e_12_99, e_12_101, e_12_104, e_12_107, e_12_110, e_12_113, e_12_114, lg_n, lg_i, lg_r, wd_nil, am_wd_i, am_wd_r, am_wd_l, am_gk_s, am_fld_s, List.getElem?_cons_zero, List.getElem?_cons_succ, am_bk_v, am_bk_n, bo_0, bo_1, am_pk_s, List.length_cons, List.length_nil, Nat.zero_add, List.set_cons_zero, List.set_cons_succ, Nat.reduceAdd, Nat.reduceLeDiff, Nat.reduceLT, nI_leI (show j + 1 < 2 ^ 31 by omega) (show i < 2 ^ 31 by omega), k3, h7, ak_AI hi (show 6 < 2 ^ 31 by decide), ak_AI hj (show 6 < 2 ^ 31 by decide), nI_leI (show Φ.2.2.2.2 i < 2 ^ 31 by omega) (show Φ.2.2.2.2 (j + 1) < 2 ^ 31 by omega)]
    by_cases hij : j + 1 ≤ i
    · rw [if_pos hij, sucN, if_neg (by omega)]
    · rw [if_neg hij]
      by_cases hlt : Φ.2.2.2.2 (j + 1) < Φ.2.2.2.2 i
      · rw [if_neg (show ¬ Φ.2.2.2.2 i ≤ Φ.2.2.2.2 (j + 1) by omega), sucN, if_pos ⟨by omega, hlt⟩, ← ih (by omega), e_12_67 (lg_i _), pk_m1, e_12_70]
      · rw [if_pos (show Φ.2.2.2.2 i ≤ Φ.2.2.2.2 (j + 1) by omega), sucN, if_neg (by omega)]
theorem l_rev {x1 x2 : Option Value} (hx1 : am_lg x1 = false) (hx2 : am_lg x2 = false) : ∀ m (h : am_H) (Φ : Fo) i j, FS h v n l b P σ Φ → j < 6 → j ≤ i + m → i < 2 ^ 20 → am_ev (d + 1) 12 91 [some (.ref v), x1, x2, some (.int (nI i)), some (.int (nI j))] [] h = some (some (.int 1), am_set h (v + 2) (AI 6 (fun k => nI (revN m Φ.2.2.2.2 i j k)))) := by
  intro m
  induction m with
  | zero =>
    intro h Φ i j hF hj hji hi
    rw [e_12_91]
    simp only [e_12_0, e_12_1, e_12_4, e_12_5, e_12_6, e_12_7, e_12_8, e_12_11, e_12_12, e_12_15, e_12_16, e_12_17, e_12_18, e_12_21, e_12_22, e_12_23, e_12_24, e_12_25, e_12_28, e_12_31, e_12_34, e_12_35, e_12_38, e_12_39, e_12_40, e_12_41, e_12_44, e_12_45, e_12_46, e_12_47, e_12_48, e_12_49, e_12_52, e_12_53, e_12_56, e_12_57, e_12_58, e_12_59, e_12_62, e_12_63, e_12_64, e_12_67, e_12_70, e_12_73, e_12_74, e_12_75, e_12_76, e_12_79, e_12_80, e_12_81, e_12_82, e_12_83, e_12_84, e_12_87, e_12_88, e_12_89, e_12_92, e_12_94, e_12_97, e_12_98, e_12_99, e_12_101, e_12_104, e_12_107, e_12_110, e_12_113, e_12_114, lg_n, lg_i, lg_r, wd_nil, am_wd_i, am_wd_r, am_wd_l, am_gk_s, am_fld_s, List.getElem?_cons_zero, List.getElem?_cons_succ, am_bk_v, am_bk_n, bo_0, bo_1, am_pk_s, List.length_cons, List.length_nil, Nat.zero_add, List.set_cons_zero, List.set_cons_succ, Nat.reduceAdd, Nat.reduceLeDiff, Nat.reduceLT, nI_leI (show j < 2 ^ 31 by omega) (show i < 2 ^ 31 by omega), if_pos (show j ≤ i by omega), revN]
    refine congrArg (fun z => some (some (Value.int 1), z)) (am_ext rfl rfl (fun k => ?_))
    rw [am_at_set]
    split
    · rename_i hk; subst hk; rw [hF.2.2.2.2.2.2.2]
    · rfl
  | succ m ih =>
    intro h Φ i j hF hj hji hi
    obtain ⟨-, -, -, -, -, -, -, k7⟩ := hF.fl
    by_cases hij : i < j
    · have hs := m_swap (d := d) hF (show i < 6 by omega) hj
      have hF' := hF.line (swp Φ.2.2.2.2 i j)
      have ih' := ih _ _ (i + 1) (j - 1) hF' (by omega) (by omega) (by omega)
      rw [e_12_91]
      obtain ⟨j, rfl⟩ : ∃ j', j = j' + 1 := ⟨j - 1, by omega⟩
      simp only [e_12_0, e_12_1, e_12_4, e_12_5, e_12_6, e_12_7, e_12_8, e_12_11, e_12_12, e_12_15, e_12_16, e_12_17, e_12_18, e_12_21, e_12_22, e_12_23, e_12_24, e_12_25, e_12_28, e_12_31, e_12_34, e_12_35, e_12_38, e_12_39, e_12_40, e_12_41, e_12_44, e_12_45, e_12_46, e_12_47, e_12_48, e_12_49, e_12_52, e_12_53, e_12_56, e_12_57, e_12_58, e_12_59, e_12_62, e_12_63, e_12_64, e_12_67, e_12_70, e_12_73, e_12_74, e_12_75, e_12_76, e_12_79, e_12_80, e_12_81, e_12_82, e_12_83, e_12_84, e_12_87, e_12_88, e_12_89, e_12_92, e_12_94, e_12_97, e_12_98, e_12_99, e_12_101, e_12_104, e_12_110, e_12_113, e_12_114, lg_n, lg_i, lg_r, wd_nil, am_wd_i, am_wd_r, am_wd_l, am_gk_s, am_fld_s, List.getElem?_cons_zero, List.getElem?_cons_succ, am_bk_v, am_bk_n, bo_0, bo_1, am_pk_s, List.length_cons, List.length_nil, Nat.zero_add, List.set_cons_zero, List.set_cons_succ, Nat.reduceAdd, Nat.reduceLeDiff, Nat.reduceLT, nI_leI (show j + 1 < 2 ^ 31 by omega) (show i < 2 ^ 31 by omega), if_neg (show ¬ j + 1 ≤ i by omega), k7, hs, nI_1, hx1, hx2]
      rw [e_12_107 (lg_i _), pk_m1, e_12_110]
      rw [set_set] at ih'
      unfold revN
      rw [if_pos hij]
      exact ih'
    · rw [e_12_91]
      simp only [e_12_0, e_12_1, e_12_4, e_12_5, e_12_6, e_12_7, e_12_8, e_12_11, e_12_12, e_12_15, e_12_16, e_12_17, e_12_18, e_12_21, e_12_22, e_12_23, e_12_24, e_12_25, e_12_28, e_12_31, e_12_34, e_12_35, e_12_38, e_12_39, e_12_40, e_12_41, e_12_44, e_12_45, e_12_46, e_12_47, e_12_48, e_12_49, e_12_52, e_12_53, e_12_56, e_12_57, e_12_58, e_12_59, e_12_62, e_12_63, e_12_64, e_12_67, e_12_70, e_12_73, e_12_74, e_12_75, e_12_76, e_12_79, e_12_80, e_12_81, e_12_82, e_12_83, e_12_84, e_12_87, e_12_88, e_12_89, e_12_92, e_12_94, e_12_97, e_12_98, e_12_99, e_12_101, e_12_104, e_12_107, e_12_110, e_12_113, e_12_114, lg_n, lg_i, lg_r, wd_nil, am_wd_i, am_wd_r, am_wd_l, am_gk_s, am_fld_s, List.getElem?_cons_zero, List.getElem?_cons_succ, am_bk_v, am_bk_n, bo_0, bo_1, am_pk_s, List.length_cons, List.length_nil, Nat.zero_add, List.set_cons_zero, List.set_cons_succ, Nat.reduceAdd, Nat.reduceLeDiff, Nat.reduceLT, nI_leI (show j < 2 ^ 31 by omega) (show i < 2 ^ 31 by omega), if_pos (show j ≤ i by omega), revN, if_neg hij]
      refine congrArg (fun z => some (some (Value.int 1), z)) (am_ext rfl rfl (fun k => ?_))
      rw [am_at_set]
      split
      · rename_i hk; subst hk; rw [hF.2.2.2.2.2.2.2]
      · rfl
theorem m_nextLine (hF : FS h v n l b P σ Φ) (hl8 : ∀ i, i < 6 → Φ.2.2.2.2 i < 8) (hw : Φ.1 ≤ 6) : am_cal (d + 2) 12 [.ref v] h = some (match nextN Φ.1 Φ.2.2.2.2 with | none => (some (.int 0), h) | some f => (some (.int 1), am_set h (v + 2) (AI 6 (fun k => nI (f k))))) := by
  refine (b_12 _ _ _).trans ?_; show am_ev _ 12 0 [some (.ref v), none, none, none, none] [] _ = _
  obtain ⟨-, -, -, k3, k4, -, -, k7⟩ := hF.fl
  have e2 : (2 : Int32) = nI 2 := by decide +kernel
  have e1 : (1 : Int32) = nI 1 := by decide +kernel
  simp only [e_12_0, e_12_1, e_12_4, e_12_5, e_12_6, lg_n, lg_i, lg_r, wd_nil, am_wd_i, am_wd_r, am_wd_l, am_gk_s, am_fld_s, List.getElem?_cons_zero, List.getElem?_cons_succ, am_bk_v, am_bk_n, bo_0, bo_1, am_pk_s, List.length_cons, List.length_nil, Nat.zero_add, List.set_cons_zero, List.set_cons_succ, Nat.reduceAdd, Nat.reduceLeDiff, Nat.reduceLT, k4]
  by_cases h0 : Φ.1 = 0
  · rw [h0, e_12_7]
    have en : nI 0 - 2 < 0 := by decide +kernel
    have en2 : ¬ (0 : Int32) ≤ nI 0 - 2 := by decide +kernel
    simp only [e_12_0, e_12_1, e_12_4, e_12_5, e_12_6, e_12_8, e_12_11, e_12_12, e_12_15, e_12_16, e_12_17, e_12_18, e_12_21, e_12_22, e_12_23, e_12_24, e_12_25, e_12_28, e_12_31, e_12_34, e_12_35, e_12_38, e_12_39, e_12_40, e_12_41, e_12_44, e_12_45, e_12_46, e_12_47, e_12_48, e_12_49, e_12_52, e_12_53, e_12_56, e_12_57, e_12_58, e_12_59, e_12_62, e_12_63, e_12_64, e_12_67, e_12_70, e_12_73, e_12_74, e_12_75, e_12_76, e_12_79, e_12_80, e_12_81, e_12_82, e_12_83, e_12_84, e_12_87, e_12_88, e_12_89, e_12_91, e_12_92, e_12_94, e_12_97, e_12_98, e_12_99, e_12_101, e_12_104, e_12_107, e_12_110, e_12_113, e_12_114, lg_n, lg_i, lg_r, wd_nil, am_wd_i, am_wd_r, am_wd_l, am_gk_s, am_fld_s, List.getElem?_cons_zero, List.getElem?_cons_succ, am_bk_v, am_bk_n, bo_0, bo_1, am_pk_s, List.length_cons, List.length_nil, Nat.zero_add, List.set_cons_zero, List.set_cons_succ, Nat.reduceAdd, Nat.reduceLeDiff, Nat.reduceLT, if_pos en, if_neg en2, nextN, pivN, Nat.zero_sub]
  · have hc : nI Φ.1 - 2 = cI (Φ.1 - 1 + 1) := by
      have := hw
      generalize Φ.1 = w at *
      rcases (show w = 1 ∨ w = 2 ∨ w = 3 ∨ w = 4 ∨ w = 5 ∨ w = 6 by omega) with rfl | rfl | rfl | rfl | rfl | rfl <;> decide +kernel
    rw [hc, l_piv hF hl8 (Φ.1 - 1) (by omega)]
    have hp := pivN_le Φ.2.2.2.2 (Φ.1 - 1)
    unfold nextN
    cases hpv : pivN Φ.2.2.2.2 (Φ.1 - 1) with
    | zero =>
      have en2 : ¬ (0 : Int32) ≤ cI (0 + 1) := by decide +kernel
      simp only [e_12_0, e_12_1, e_12_4, e_12_5, e_12_6, e_12_8, e_12_11, e_12_12, e_12_15, e_12_16, e_12_17, e_12_18, e_12_21, e_12_22, e_12_23, e_12_24, e_12_25, e_12_28, e_12_31, e_12_34, e_12_35, e_12_38, e_12_39, e_12_40, e_12_41, e_12_44, e_12_45, e_12_46, e_12_48, e_12_49, e_12_52, e_12_53, e_12_56, e_12_57, e_12_58, e_12_59, e_12_62, e_12_63, e_12_64, e_12_67, e_12_70, e_12_73, e_12_74, e_12_75, e_12_76, e_12_79, e_12_80, e_12_81, e_12_82, e_12_83, e_12_84, e_12_87, e_12_88, e_12_89, e_12_92, e_12_94, e_12_97, e_12_98, e_12_99, e_12_101, e_12_104, e_12_107, e_12_110, e_12_113, e_12_114, lg_n, lg_i, lg_r, wd_nil, am_wd_i, am_wd_r, am_wd_l, am_gk_s, am_fld_s, List.getElem?_cons_zero, List.getElem?_cons_succ, am_bk_v, am_bk_n, bo_0, bo_1, am_pk_s, List.length_cons, List.length_nil, Nat.zero_add, List.set_cons_zero, List.set_cons_succ, Nat.reduceAdd, Nat.reduceLeDiff, Nat.reduceLT, if_neg en2]
    | succ i =>
      rw [hpv] at hp
      have e3 : nI Φ.1 - 1 = nI (Φ.1 - 1) := by rw [e1, pk_sub (by omega)]
      simp only [e_12_34, e_12_35, e_12_38, e_12_39, e_12_40, e_12_41, e_12_44, e_12_45, e_12_46, lg_n, lg_i, lg_r, wd_nil, am_wd_i, am_wd_r, am_wd_l, am_gk_s, am_fld_s, List.getElem?_cons_zero, List.getElem?_cons_succ, am_bk_v, am_bk_n, bo_0, bo_1, am_pk_s, List.length_cons, List.length_nil, Nat.zero_add, List.set_cons_zero, List.set_cons_succ, Nat.reduceAdd, Nat.reduceLeDiff, Nat.reduceLT, cI_s, if_pos (nI_pos' (show i < 2 ^ 31 by omega)), k4, e3]
      rw [l_suc hF hl8 (show i < 6 by omega) (Φ.1 - 1) (by omega)]
      have hq := sucN_le Φ.2.2.2.2 i (Φ.1 - 1)
      have hs := m_swap (d := d) hF (show i < 6 by omega) (show sucN Φ.2.2.2.2 i (Φ.1 - 1) < 6 by omega)
      have hF' := hF.line (swp Φ.2.2.2.2 i (sucN Φ.2.2.2.2 i (Φ.1 - 1)))
      obtain ⟨-, -, -, -, k4', -⟩ := hF'.fl
      have hr := l_rev (d := d) (x1 := some (.int (nI i))) (x2 := some (.int (nI (sucN Φ.2.2.2.2 i (Φ.1 - 1))))) (lg_i _) (lg_i _) 6 _ _ (i + 1) (Φ.1 - 1) hF' (by omega) (by omega) (by omega)
      rw [set_set] at hr
      simp only [e_12_73, e_12_74, e_12_75, e_12_76, e_12_79, e_12_80, e_12_81, e_12_82, e_12_83, e_12_84, e_12_87, e_12_88, e_12_89, lg_n, lg_i, lg_r, wd_nil, am_wd_i, am_wd_r, am_wd_l, am_gk_s, am_fld_s, List.getElem?_cons_zero, List.getElem?_cons_succ, am_bk_v, am_bk_n, bo_0, bo_1, am_pk_s, List.length_cons, List.length_nil, Nat.zero_add, List.set_cons_zero, List.set_cons_succ, Nat.reduceAdd, Nat.reduceLeDiff, Nat.reduceLT, k7, hs, nI_1, k4', e3]
      exact hr
theorem m_mayChange (hF : FS h v n l b P σ Φ) (oP : OKP P) {p q : Nat} (hp : p < P.2.2.2.1) (hq : q < P.2.2.2.1) : am_cal (d + 1) 11 [.ref v, .int (nI p), .int (nI q)] h = some (some (.int (if swN P p q then 1 else 0)), h) := by
  refine (b_11 _ _ _).trans ?_; show am_ev _ 11 0 [some (.ref v), some (.int (nI p)), some (.int (nI q)), none, none, none] [] _ = _
  obtain ⟨k0, -⟩ := hF.fl
  obtain ⟨g0, -⟩ := fl_house hF.2.2.1
  obtain ⟨-, -, -, -, f4, f5, f6⟩ := fl_plan hF.2.1
  have hn := oP.2.2.2.1
  have hp8 : p < 8 := by omega
  have hq8 : q < 8 := by omega
  have b1 := oP.2.2.2.2.2 p hp
  have b2 := oP.2.2.2.2.2 q hq
  have hP := oP.2.1
  have c1 := oP.2.2.2.2.1 p hp8
  have c2 := oP.2.2.2.2.1 q hq8
  have r1 : 1000001 < 1000002 + P.2.2.2.2.1 p ∧ 1000002 + P.2.2.2.2.1 p < 1000007 := by omega
  have r2 : 1000001 < 1000002 + P.2.2.2.2.1 q ∧ 1000002 + P.2.2.2.2.1 q < 1000007 := by omega
  have r3 : (1000002 + P.2.2.2.2.1 p = 1000002 + P.2.2.2.2.1 q) ↔ P.2.2.2.2.1 p = P.2.2.2.2.1 q := by omega
  simp only [e_11_0, e_11_1, e_11_4, e_11_7, e_11_8, e_11_9, e_11_12, e_11_13, e_11_14, e_11_15, e_11_18, e_11_19, e_11_20, e_11_23, e_11_24, e_11_27, e_11_28, e_11_30, e_11_31, e_11_34, e_11_35, e_11_36, e_11_37, e_11_40, e_11_41, e_11_42, e_11_45, e_11_46, e_11_49, e_11_50, e_11_51, e_11_52, e_11_55, e_11_56, e_11_57, e_11_60, e_11_61, e_11_64, e_11_65, e_11_67, e_11_69, e_11_72, e_11_74, e_11_77, e_11_78, e_11_81, e_11_82, lg_n, lg_i, lg_r, wd_nil, am_wd_i, am_wd_r, am_wd_l, am_gk_s, am_fld_s, List.getElem?_cons_zero, List.getElem?_cons_succ, am_bk_v, am_bk_n, bo_0, bo_1, am_pk_s, List.length_cons, List.length_nil, Nat.zero_add, List.set_cons_zero, List.set_cons_succ, Nat.reduceAdd, Nat.reduceLeDiff, Nat.reduceLT, k0, g0, f4, f5, f6, hF.2.1.2.1, hF.2.1.2.2.1, hF.2.1.2.2.2, ak_AI hp8 (show 8 < 2 ^ 31 by decide), ak_AI hq8 (show 8 < 2 ^ 31 by decide), qk_AK hp8, qk_AK hq8, nI_eq (show P.2.2.2.2.2.1 p < 2 ^ 31 by omega) (show P.2.2.2.2.2.1 q < 2 ^ 31 by omega), nI_eq (show P.2.2.2.2.2.2 p < 2 ^ 31 by omega) (show P.2.2.2.2.2.2 q < 2 ^ 31 by omega), r1, r2, r3, and_self]
  unfold swN
  by_cases t1 : P.2.2.2.2.2.1 p = P.2.2.2.2.2.1 q <;> by_cases t2 : P.2.2.2.2.1 p = P.2.2.2.2.1 q <;> by_cases t3 : P.2.2.2.2.2.2 p = P.2.2.2.2.2.2 q <;> simp [t1, t2, t3]
theorem l_like (hF : FS h v n l b P σ Φ) (oP : OKP P) (hl8 : ∀ i, i < Φ.1 → Φ.2.2.2.2 i < P.2.2.2.1) (hw : Φ.1 ≤ 6) : ∀ j i, i + j = Φ.1 - 1 → am_ev (d + 1) 10 2 [some (.ref v), some (.int (nI i))] [] h = some (some (.int (if likeN P Φ.2.2.2.2 j i then 1 else 0)), h) := by
  obtain ⟨-, -, -, k3, k4, -, -, k7⟩ := hF.fl
  have h7 := hF.2.2.2.2.2.2.2
  have hn := oP.2.2.2.1
  intro j
  induction j with
  | zero =>
    intro i hi
    rw [e_10_2]
    simp only [e_10_0, e_10_1, e_10_3, e_10_4, e_10_5, e_10_6, e_10_9, e_10_12, e_10_13, e_10_16, e_10_17, e_10_18, e_10_19, e_10_22, e_10_23, e_10_24, e_10_25, e_10_26, e_10_29, e_10_30, e_10_31, e_10_34, e_10_35, e_10_36, e_10_37, e_10_40, e_10_41, e_10_42, e_10_43, e_10_44, e_10_47, e_10_50, e_10_51, e_10_52, e_10_55, e_10_58, e_10_59, lg_n, lg_i, lg_r, wd_nil, am_wd_i, am_wd_r, am_wd_l, am_gk_s, am_fld_s, List.getElem?_cons_zero, List.getElem?_cons_succ, am_bk_v, am_bk_n, bo_0, bo_1, am_pk_s, List.length_cons, List.length_nil, Nat.zero_add, List.set_cons_zero, List.set_cons_succ, Nat.reduceAdd, Nat.reduceLeDiff, Nat.reduceLT, k4, nI_1, nI_leI (show Φ.1 < 2 ^ 31 by omega) (show i + 1 < 2 ^ 31 by omega), if_pos (show Φ.1 ≤ i + 1 by omega), likeN]
    rfl
  | succ j ih =>
    intro i hi
    have ih' := ih (i + 1) (by omega)
    have a1 := hl8 i (by omega)
    have a2 := hl8 (i + 1) (by omega)
    rw [e_10_2]
    simp only [e_10_0, e_10_1, e_10_3, e_10_4, e_10_5, e_10_6, e_10_9, e_10_12, e_10_13, e_10_16, e_10_17, e_10_18, e_10_19, e_10_22, e_10_23, e_10_24, e_10_25, e_10_26, e_10_29, e_10_30, e_10_31, e_10_34, e_10_35, e_10_36, e_10_37, e_10_40, e_10_41, e_10_42, e_10_43, e_10_44, e_10_47, e_10_50, e_10_51, e_10_52, e_10_55, e_10_58, e_10_59, lg_n, lg_i, lg_r, wd_nil, am_wd_i, am_wd_r, am_wd_l, am_gk_s, am_fld_s, List.getElem?_cons_zero, List.getElem?_cons_succ, am_bk_v, am_bk_n, bo_0, bo_1, am_pk_s, List.length_cons, List.length_nil, Nat.zero_add, List.set_cons_zero, List.set_cons_succ, Nat.reduceAdd, Nat.reduceLeDiff, Nat.reduceLT, k3, k4, k7, h7, nI_1, nI_leI (show Φ.1 < 2 ^ 31 by omega) (show i + 1 < 2 ^ 31 by omega), if_neg (show ¬ Φ.1 ≤ i + 1 by omega), ak_AI (show i < 6 by omega) (show 6 < 2 ^ 31 by decide), ak_AI (show i + 1 < 6 by omega) (show 6 < 2 ^ 31 by decide), nI_leI (show Φ.2.2.2.2 i < 2 ^ 31 by omega) (show Φ.2.2.2.2 (i + 1) < 2 ^ 31 by omega), m_mayChange hF oP a1 a2, z_if]
    have hL : likeN P Φ.2.2.2.2 (j + 1) i = if Φ.2.2.2.2 (i + 1) < Φ.2.2.2.2 i ∧ swN P (Φ.2.2.2.2 i) (Φ.2.2.2.2 (i + 1)) = true then true else likeN P Φ.2.2.2.2 j (i + 1) := rfl
    by_cases hlt : Φ.2.2.2.2 (i + 1) < Φ.2.2.2.2 i
    · rw [if_neg (show ¬ Φ.2.2.2.2 i ≤ Φ.2.2.2.2 (i + 1) by omega)]
      by_cases hsw : swN P (Φ.2.2.2.2 i) (Φ.2.2.2.2 (i + 1)) = true
      · rw [if_pos ⟨hlt, hsw⟩] at hL
        rw [if_neg (not_not_intro hsw), hL]
        rfl
      · rw [if_neg (fun z => hsw z.2)] at hL
        rw [if_pos hsw, hL]
        exact ih'
    · rw [if_neg (fun z => hlt z.1)] at hL
      rw [if_pos (show Φ.2.2.2.2 i ≤ Φ.2.2.2.2 (i + 1) by omega), hL]
      exact ih'
theorem m_like (hF : FS h v n l b P σ Φ) (oP : OKP P) (hl8 : ∀ i, i < Φ.1 → Φ.2.2.2.2 i < P.2.2.2.1) (hw : Φ.1 ≤ 6) : am_cal (d + 2) 10 [.ref v] h = some (some (.int (if likeN P Φ.2.2.2.2 (Φ.1 - 1) 0 then 1 else 0)), h) := by
  refine (b_10 _ _ _).trans ?_; show am_ev _ 10 0 [some (.ref v), none] [] _ = _
  simp only [e_10_0, e_10_1, lg_n, lg_i, lg_r, wd_nil, am_wd_i, am_wd_r, am_wd_l, am_gk_s, am_fld_s, List.getElem?_cons_zero, List.getElem?_cons_succ, am_bk_v, am_bk_n, bo_0, bo_1, am_pk_s, List.length_cons, List.length_nil, Nat.zero_add, List.set_cons_zero, List.set_cons_succ, Nat.reduceAdd, Nat.reduceLeDiff, Nat.reduceLT]
  exact l_like hF oP hl8 hw (Φ.1 - 1) 0 (by omega)
end FO
