/-! the model: one alone, kinds -/
def raT (f k b : Nat) : Nat → Nat → Nat → Option Nat
  | 0, _, _ => none
  | j + 1, p, r => if flr f ((p + 1) % (2 * f)) = b ∧ (k ≠ 3 ∨ 2 * f ≤ r + 1) then some (r + 2) else raT f k b j ((p + 1) % (2 * f)) (r + 1)
theorem one_1 (f k a b : Nat) : oneN f k a b 1 = (cabA f 1 (if k = 3 ∨ a < b then a else 2 * f - 1 - a) + 2, 0) := rfl
theorem one_s (f k a b t : Nat) : oneN f k a b (t + 1) = if (oneN f k a b t).1 = 0 then (cabA f (t + 1) (if k = 3 ∨ a < b then a else 2 * f - 1 - a) + 2, 0)
    else if (oneN f k a b t).1 = 1 then oneN f k a b t
    else if (k ≠ 3 ∨ 2 * f ≤ (oneN f k a b t).2 + 1) ∧ flr f (plc f (t + 1) ((oneN f k a b t).1 - 2)) = b then (1, (oneN f k a b t).2 + 1)
    else ((oneN f k a b t).1, (oneN f k a b t).2 + 1) := rfl
theorem ra_tm {f k a b p : Nat} (hf : 2 ≤ f) (hp : p < 2 * f) (hpe : p = if k = 3 ∨ a < b then a else 2 * f - 1 - a) : ∀ j r, oneN f k a b (r + 1) = (cabA f 1 p + 2, r) → (∃ q, r < q ∧ q ≤ r + j ∧ flr f ((p + q) % (2 * f)) = b ∧ (k ≠ 3 ∨ 2 * f ≤ q)) → raT f k b j ((p + r) % (2 * f)) r = some (srchN (fun t => (oneN f k a b t).1 == 1) j (r + 2)) := by
  intro j
  induction j with
  | zero =>
    rintro r - ⟨q, q1, q2, -⟩
    omega
  | succ j ih =>
    rintro r h1 ⟨q, q1, q2, q3, q4⟩
    have hs := one_s f k a b (r + 1)
    rw [h1] at hs
    simp only at hs
    rw [if_neg (by omega), if_neg (by omega), Nat.add_sub_cancel] at hs
    have hpl : plc f (r + 1 + 1) (cabA f 1 p) = (p + r + 1) % (2 * f) := by
      unfold plc cabA
      rw [Nat.mod_eq_of_lt (show 1 < 2 * f by omega), Nat.mod_add_mod, show p + 2 * f - 1 + (r + 1 + 1) = p + r + 1 + 2 * f by omega, Nat.add_mod_right]
    rw [hpl] at hs
    have hm : ((p + r) % (2 * f) + 1) % (2 * f) = (p + r + 1) % (2 * f) := Nat.mod_add_mod _ _ _
    unfold raT srchN
    rw [hm]
    by_cases hc : flr f ((p + r + 1) % (2 * f)) = b ∧ (k ≠ 3 ∨ 2 * f ≤ r + 1)
    · rw [if_pos hc]
      rw [if_pos hc.symm] at hs
      rw [hs]
      rfl
    · rw [if_neg hc]
      rw [if_neg (fun z => hc z.symm)] at hs
      rw [hs, if_neg (by simp)]
      refine ih (r + 1) (by rw [hs]) ⟨q, ?_, by omega, q3, q4⟩
      by_cases hq : q = r + 1
      · subst hq
        exact absurd ⟨q3, q4⟩ hc
      · omega
theorem ra_eq {f k a b : Nat} (hf : 2 ≤ f ∧ f ≤ 7) (ha : a < f) (hb : b < f) : raT f k b 59 (if k = 3 ∨ a < b then a else 2 * f - 1 - a) 0 = some (tmN f k a b) := by
  have hp : (if k = 3 ∨ a < b then a else 2 * f - 1 - a) < 2 * f := by split <;> omega
  have h := ra_tm (f := f) (k := k) (a := a) (b := b) hf.1 hp rfl 59 0 (one_1 f k a b)
  generalize (if k = 3 ∨ a < b then a else 2 * f - 1 - a) = p at *
  simp only [Nat.add_zero, Nat.mod_eq_of_lt hp, Nat.zero_add] at h
  rw [h ⟨2 * f + (b + 2 * f - p) % (2 * f), by omega, by have := Nat.mod_lt (b + 2 * f - p) (show 0 < 2 * f by omega); omega, ?_, Or.inr (by omega)⟩]
  · unfold tmN
    rw [show srchN (fun t => (oneN f k a b t).fst == 1) 60 1 = if (oneN f k a b 1).fst == 1 then 1 else srchN (fun t => (oneN f k a b t).fst == 1) 59 2 from rfl, one_1, if_neg (by simp)]
  · rw [← Nat.add_assoc, Nat.add_mod_mod, show p + 2 * f + (b + 2 * f - p) = b + 2 * f + 2 * f by omega, Nat.add_mod_right, Nat.add_mod_right, Nat.mod_eq_of_lt (by omega)]
    unfold flr
    rw [if_pos hb]
section MI
variable {d : Nat} {h : am_H} {P : Pn} {σ : Hn} {u : Nat} {pa : Nat → Hn} {kp : Nat → Bool} {ke : Nat → Hn} {t : Nat → Nat} {n sn : Nat} {sF sT sK : Nat → Nat} {nz : Nat → Nat} {nt : Nat → Nat → Nat} {f : Nat → Int32} {L : Nat → Nat}
theorem l_alone (hM : MB h f L) (hP : RowP f 0 P) (hf : 2 ≤ P.1 ∧ P.1 ≤ 7) {k b : Nat} (hk : k < 5) (hb : b < P.1) {x2 : Option Value} : ∀ j p r v (x8 : Option Value), am_lg x8 = false → p < 2 * P.1 → r + j ≤ 60 → raT P.1 k b j p r = some v → am_ev (d + 1) 191 40 [some (.ref 87), some (.int (nI k)), x2, some (.int (nI b)), some (.int (nI p)), some (.int (nI (r + 1))), some (.int (nI r)), some (.int 0), x8] [] h = some (some (.int (nI v)), h) := by
  have hpl := m_places (d := d) hM hP
  obtain ⟨m0, m1, m2, m3, m4⟩ := hM
  have h26 := hP.1
  rw [Nat.zero_add] at h26
  have e26 : (26 : Int32) = nI 26 := by decide +kernel
  have e3 : (3 : Int32) = nI 3 := by decide +kernel
  intro j
  induction j with
  | zero => intro p r v x8 _ _ _ hr; exact absurd hr (by simp [raT])
  | succ j ih =>
    intro p r v x8 l8 hp hr hv
    have hlt := Nat.mod_lt (p + 1) (show 0 < 2 * P.1 by omega)
    unfold raT at hv
    have hfl : flr P.1 ((p + 1) % (2 * P.1)) < P.1 := by unfold flr; split <;> omega
    have ih' := ih ((p + 1) % (2 * P.1)) (r + 1)
    have hsub : nI (2 * P.1) - 1 - nI ((p + 1) % (2 * P.1)) = nI (2 * P.1 - 1 - (p + 1) % (2 * P.1)) := by rw [show (1 : Int32) = nI 1 by decide +kernel, pk_sub (by omega), pk_sub (by omega)]
    rw [e_191_40]
    simp only [e_191_42, e_191_45, e_191_48, e_191_51, e_191_53, e_191_54, e_191_55, e_191_56, e_191_59, e_191_60, e_191_62, e_191_64, e_191_65, e_191_68, e_191_70, e_191_71, e_191_74, e_191_76, e_191_79, e_191_80, e_191_83, e_191_84, e_191_85, e_191_87, e_191_88, e_191_90, e_191_92, e_191_93, e_191_96, e_191_97, e_191_98, e_191_101, e_191_103, e_191_104, e_191_107, e_191_110, e_191_111, e_191_114, e_191_115, e_191_117, lg_n, lg_i, lg_r, wd_nil, am_wd_i, am_wd_r, am_wd_l, am_gk_s, am_fld_s, List.getElem?_cons_zero, List.getElem?_cons_succ, am_bk_v, am_bk_n, bo_0, bo_1, am_pk_s, List.length_cons, List.length_nil, Nat.zero_add, List.set_cons_zero, List.set_cons_succ, Nat.reduceAdd, Nat.reduceLeDiff, Nat.reduceLT, l8, if_true, nI_1, m0, m2, m3, e26, e3, ak_AI (show 26 < 392 by decide) (show 392 < 2 ^ 31 by decide), h26, hpl, if_neg (nI_ne0 (show 0 < 2 * P.1 by omega) (show 2 * P.1 < 2 ^ 31 by omega)), pk_rem (show p + 1 < 2 ^ 31 by omega) (show 0 < 2 * P.1 by omega) (show 2 * P.1 < 2 ^ 31 by omega), nI_leI (show P.1 < 2 ^ 31 by omega) (show (p + 1) % (2 * P.1) < 2 ^ 31 by omega), hsub, nI_eq (show k < 2 ^ 31 by omega) (show 3 < 2 ^ 31 by decide), nI_ltI (show r + 1 < 2 ^ 31 by omega) (show 2 * P.1 < 2 ^ 31 by omega)]
    generalize hq : (p + 1) % (2 * P.1) = q at *
    have hd : ∀ x8 : Option Value, am_ev (d + 1) 191 40 [some (.ref 87), some (.int (nI k)), x2, some (.int (nI b)), some (.int (nI q)), some (.int (nI (r + 1 + 1))), some (.int (nI (r + 1))), some (.int 1), x8] [] h = some (some (.int (nI (r + 2))), h) := by
      intro x8
      rw [e_191_40]
      simp only [e_191_42, e_191_120, e_191_122, lg_n, lg_i, lg_r, wd_nil, am_wd_i, am_wd_r, am_wd_l, am_gk_s, am_fld_s, List.getElem?_cons_zero, List.getElem?_cons_succ, am_bk_v, am_bk_n, bo_0, bo_1, am_pk_s, List.length_cons, List.length_nil, Nat.zero_add, List.set_cons_zero, List.set_cons_succ, Nat.reduceAdd, Nat.reduceLeDiff, Nat.reduceLT, one_ne, if_false]
    have key : ∀ w, flr P.1 q = w → (if nI w = nI b then (if k = 3 then (if r + 1 < 2 * P.1 then am_ev (d + 1) 191 40 [some (.ref 87), some (.int (nI k)), x2, some (.int (nI b)), some (.int (nI q)), some (.int (nI (r + 1 + 1))), some (.int (nI (r + 1))), some (.int 0), some (.int (nI w))] [] h else am_ev (d + 1) 191 40 [some (.ref 87), some (.int (nI k)), x2, some (.int (nI b)), some (.int (nI q)), some (.int (nI (r + 1 + 1))), some (.int (nI (r + 1))), some (.int 1), some (.int (nI w))] [] h) else am_ev (d + 1) 191 40 [some (.ref 87), some (.int (nI k)), x2, some (.int (nI b)), some (.int (nI q)), some (.int (nI (r + 1 + 1))), some (.int (nI (r + 1))), some (.int 1), some (.int (nI w))] [] h) else am_ev (d + 1) 191 40 [some (.ref 87), some (.int (nI k)), x2, some (.int (nI b)), some (.int (nI q)), some (.int (nI (r + 1 + 1))), some (.int (nI (r + 1))), some (.int 0), some (.int (nI w))] [] h) = some (some (.int (nI v)), h) := by
      intro w hw
      rw [hw] at hv hfl
      rw [hd]
      have hi : ∀ hv' : raT P.1 k b j q (r + 1) = some v, _ := fun hv' => ih' v (some (.int (nI w))) (lg_i _) hlt (by omega) hv'
      by_cases hwb : w = b
      · rw [if_pos (by rw [hwb])]
        by_cases hk3 : k = 3
        · rw [if_pos hk3]
          by_cases hrr : r + 1 < 2 * P.1
          · rw [if_neg (by omega)] at hv
            rw [if_pos hrr]
            exact hi hv
          · rw [if_pos ⟨hwb, Or.inr (by omega)⟩, Option.some.injEq] at hv
            rw [if_neg hrr, hv]
        · rw [if_pos ⟨hwb, Or.inl hk3⟩, Option.some.injEq] at hv
          rw [if_neg hk3, hv]
      · rw [if_neg (fun z => hwb z.1)] at hv
        rw [if_neg (by rw [nI_eq (by omega) (by omega)]; exact hwb)]
        exact hi hv
    by_cases hc : q < P.1
    · rw [if_neg (show ¬ P.1 ≤ q by omega)]
      exact key q (by unfold flr; rw [if_pos hc])
    · rw [if_pos (show P.1 ≤ q by omega)]
      exact key _ (by unfold flr; rw [if_neg hc])
theorem m_alone (hM : MB h f L) (hP : RowP f 0 P) (hf : 2 ≤ P.1 ∧ P.1 ≤ 7) {k a b : Nat} (hk : k < 5) (ha : a < P.1) (hb : b < P.1) : am_cal (d + 2) 191 [.ref 87, .int (nI k), .int (nI a), .int (nI b)] h = some (some (.int (nI (tmN P.1 k a b))), h) := by
  have hpl := m_places (d := d) hM hP
  have m2 := hM.2.2.1
  have hl := l_alone (d := d) hM hP hf hk hb (x2 := some (.int (nI a))) 59 (if k = 3 ∨ a < b then a else 2 * P.1 - 1 - a) 0 _ none lg_n (by split <;> omega) (by omega) (ra_eq hf ha hb)
  have hu1 := m_looksUp (d := d) (h := h) hk true
  have hu0 := m_looksUp (d := d) (h := h) hk false
  simp only [if_true, Bool.false_eq_true, if_false, Bool.or_true, Bool.or_false, decide_eq_true_eq] at hu1 hu0
  have hsub : nI (2 * P.1) - 1 - nI a = nI (2 * P.1 - 1 - a) := by rw [show (1 : Int32) = nI 1 by decide +kernel, pk_sub (by omega), pk_sub (by omega)]
  refine (b_191 _ _ _).trans ?_; show am_ev _ 191 0 [some (.ref 87), some (.int (nI k)), some (.int (nI a)), some (.int (nI b)), none, none, none, none, none] [] _ = _
  by_cases hab : a < b
  · rw [if_pos (Or.inr hab)] at hl
    simp only [e_191_0, e_191_1, e_191_2, e_191_3, e_191_6, e_191_7, e_191_10, e_191_11, e_191_14, e_191_17, e_191_18, e_191_21, e_191_22, e_191_25, e_191_26, e_191_27, e_191_28, e_191_29, e_191_31, e_191_32, e_191_34, e_191_35, e_191_37, e_191_38, lg_n, lg_i, lg_r, wd_nil, am_wd_i, am_wd_r, am_wd_l, am_gk_s, am_fld_s, List.getElem?_cons_zero, List.getElem?_cons_succ, am_bk_v, am_bk_n, bo_0, bo_1, am_pk_s, List.length_cons, List.length_nil, Nat.zero_add, List.set_cons_zero, List.set_cons_succ, Nat.reduceAdd, Nat.reduceLeDiff, Nat.reduceLT, nI_leI (show b < 2 ^ 31 by omega) (show a < 2 ^ 31 by omega), if_neg (show ¬ b ≤ a by omega), hu1, one_ne, if_false, if_true]
    exact hl
  · by_cases hk3 : k = 3
    · rw [if_pos hk3] at hu0
      rw [if_pos (Or.inl hk3)] at hl
      simp only [e_191_0, e_191_1, e_191_2, e_191_3, e_191_6, e_191_7, e_191_10, e_191_11, e_191_14, e_191_17, e_191_18, e_191_21, e_191_22, e_191_25, e_191_26, e_191_27, e_191_28, e_191_29, e_191_31, e_191_32, e_191_34, e_191_35, e_191_37, e_191_38, lg_n, lg_i, lg_r, wd_nil, am_wd_i, am_wd_r, am_wd_l, am_gk_s, am_fld_s, List.getElem?_cons_zero, List.getElem?_cons_succ, am_bk_v, am_bk_n, bo_0, bo_1, am_pk_s, List.length_cons, List.length_nil, Nat.zero_add, List.set_cons_zero, List.set_cons_succ, Nat.reduceAdd, Nat.reduceLeDiff, Nat.reduceLT, nI_leI (show b < 2 ^ 31 by omega) (show a < 2 ^ 31 by omega), if_pos (show b ≤ a by omega), hu0, one_ne, if_false, if_true]
      exact hl
    · rw [if_neg hk3] at hu0
      rw [if_neg (by omega)] at hl
      simp only [e_191_0, e_191_1, e_191_2, e_191_3, e_191_6, e_191_7, e_191_10, e_191_11, e_191_14, e_191_17, e_191_18, e_191_21, e_191_22, e_191_25, e_191_26, e_191_27, e_191_28, e_191_29, e_191_31, e_191_32, e_191_34, e_191_35, e_191_37, e_191_38, lg_n, lg_i, lg_r, wd_nil, am_wd_i, am_wd_r, am_wd_l, am_gk_s, am_fld_s, List.getElem?_cons_zero, List.getElem?_cons_succ, am_bk_v, am_bk_n, bo_0, bo_1, am_pk_s, List.length_cons, List.length_nil, Nat.zero_add, List.set_cons_zero, List.set_cons_succ, Nat.reduceAdd, Nat.reduceLeDiff, Nat.reduceLT, nI_leI (show b < 2 ^ 31 by omega) (show a < 2 ^ 31 by omega), if_pos (show b ≤ a by omega), hu0, one_ne, if_false, if_true, m2, hpl, hsub]
      exact hl
theorem fitN_f {f k : Nat} {F T K : Nat → Nat} : ∀ j s, fitN f k F T K j s = true ↔ ∀ i, s ≤ i → i < s + j → tmN f k (F i) (T i) = K i
  | 0, s => ⟨fun _ i h1 h2 => by omega, fun _ => rfl⟩
  | j + 1, s => by
    unfold fitN
    by_cases hc : tmN f k (F s) (T s) = K s
    · rw [if_pos hc, fitN_f j (s + 1)]
      constructor
      · intro h i h1 h2
        by_cases hi : i = s
        · subst hi; exact hc
        · exact h i (by omega) (by omega)
      · intro h i h1 h2
        exact h i (by omega) (by omega)
    · rw [if_neg hc]
      constructor
      · intro h; exact absurd h (by decide)
      · intro h; exact absurd (h s (Nat.le_refl _) (by omega)) hc
theorem l_kinds1 (hM : MB h f L) (hP : RowP f 0 P) (hf : 2 ≤ P.1 ∧ P.1 ≤ 7) (hT : MTx h t sF sT sK) (k5 : am_fld (am_at h 87) 8 5 = some (.int (nI sn))) (k6 : am_fld (am_at h 87) 8 6 = some (.ref 91)) (k7 : am_fld (am_at h 87) 8 7 = some (.ref 92)) (k8 : am_fld (am_at h 87) 8 8 = some (.ref 93)) (hsn : sn ≤ 6) (hb : ∀ s, s < sn → sF s < P.1 ∧ sT s < P.1 ∧ sF s ≠ sT s ∧ 1 ≤ sK s ∧ sK s ≤ 60) {k : Nat} (hk : k < 5) {x1 : Option Value} (l1 : am_lg x1 = false) : ∀ j s (b : Bool), s + j = sn → (b = true ↔ ∀ i, i < s → tmN P.1 k (sF i) (sT i) = sK i) → am_ev (d + 2) 192 14 [some (.ref 87), x1, some (.int (nI k)), some (.int (if b then 1 else 0)), some (.int (nI s))] [] h = am_ev (d + 2) 192 68 [some (.ref 87), x1, some (.int (nI k)), some (.int (if fitN P.1 k sF sT sK sn 0 then 1 else 0)), some (.int (nI sn))] [] h := by
  have m2 := hM.2.2.1
  obtain ⟨t1, t2, t3, t4⟩ := hT
  intro j
  induction j with
  | zero =>
    intro s b hs hbb
    have : s = sn := by omega
    subst this
    have : b = fitN P.1 k sF sT sK s 0 := by
      rw [Bool.eq_iff_iff, hbb, fitN_f]
      exact ⟨fun z i _ h2 => z i (by omega), fun z i h2 => z i (by omega) (by omega)⟩
    rw [this, e_192_14]
    simp only [e_192_16, e_192_17, e_192_20, lg_n, lg_i, lg_r, wd_nil, am_wd_i, am_wd_r, am_wd_l, am_gk_s, am_fld_s, List.getElem?_cons_zero, List.getElem?_cons_succ, am_bk_v, am_bk_n, bo_0, bo_1, am_pk_s, List.length_cons, List.length_nil, Nat.zero_add, List.set_cons_zero, List.set_cons_succ, Nat.reduceAdd, Nat.reduceLeDiff, Nat.reduceLT, k5, nI_leI (show s < 2 ^ 31 by omega) (show s < 2 ^ 31 by omega), Nat.le_refl, if_true]
  | succ j ih =>
    intro s b hs hbb
    obtain ⟨b1, b2, b3, b4, b5⟩ := hb s (by omega)
    have hal := m_alone (d := d) hM hP hf hk b1 b2
    have htm := tmN_le P.1 k (sF s) (sT s)
    rw [e_192_14]
    cases b with
    | false =>
      have ih' := ih (s + 1) false (by omega) ⟨fun z => absurd z (by decide), fun z => absurd (hbb.2 (fun i hi => z i (by omega))) (by decide)⟩
      simp only [Bool.false_eq_true, if_false] at ih' ⊢
      simp only [e_192_16, e_192_17, e_192_20, e_192_23, e_192_24, e_192_27, e_192_28, e_192_29, e_192_30, e_192_33, e_192_35, e_192_36, e_192_37, e_192_40, e_192_42, e_192_43, e_192_46, e_192_47, e_192_50, e_192_52, e_192_53, e_192_56, e_192_57, e_192_60, e_192_61, e_192_62, e_192_65, lg_n, lg_i, lg_r, wd_nil, am_wd_i, am_wd_r, am_wd_l, am_gk_s, am_fld_s, List.getElem?_cons_zero, List.getElem?_cons_succ, am_bk_v, am_bk_n, bo_0, bo_1, am_pk_s, List.length_cons, List.length_nil, Nat.zero_add, List.set_cons_zero, List.set_cons_succ, Nat.reduceAdd, Nat.reduceLeDiff, Nat.reduceLT, k5, nI_leI (show sn < 2 ^ 31 by omega) (show s < 2 ^ 31 by omega), if_neg (show ¬ sn ≤ s by omega), if_true, nI_1]
      exact ih'
    | true =>
      have hbt := hbb.1 rfl
      by_cases hc : tmN P.1 k (sF s) (sT s) = sK s
      · have ih' := ih (s + 1) true (by omega) ⟨fun _ i hi => by
          by_cases hi' : i = s
          · subst hi'; exact hc
          · exact hbt i (by omega), fun _ => rfl⟩
        simp only [if_true] at ih' ⊢
        simp only [e_192_16, e_192_17, e_192_20, e_192_23, e_192_24, e_192_27, e_192_28, e_192_29, e_192_30, e_192_33, e_192_35, e_192_36, e_192_37, e_192_40, e_192_42, e_192_43, e_192_46, e_192_47, e_192_50, e_192_52, e_192_53, e_192_56, e_192_57, e_192_60, e_192_61, e_192_62, e_192_65, lg_n, lg_i, lg_r, wd_nil, am_wd_i, am_wd_r, am_wd_l, am_gk_s, am_fld_s, List.getElem?_cons_zero, List.getElem?_cons_succ, am_bk_v, am_bk_n, bo_0, bo_1, am_pk_s, List.length_cons, List.length_nil, Nat.zero_add, List.set_cons_zero, List.set_cons_succ, Nat.reduceAdd, Nat.reduceLeDiff, Nat.reduceLT, k5, k6, k7, k8, m2, t2, t3, t4, nI_leI (show sn < 2 ^ 31 by omega) (show s < 2 ^ 31 by omega), if_neg (show ¬ sn ≤ s by omega), one_ne, if_false, if_true, ak_AI (show s < 6 by omega) (show 6 < 2 ^ 31 by decide), hal, hc, nI_1]
        exact ih'
      · have ih' := ih (s + 1) false (by omega) ⟨fun z => absurd z (by decide), fun z => absurd (z s (by omega)) hc⟩
        simp only [Bool.false_eq_true, if_false, if_true] at ih' ⊢
        simp only [e_192_16, e_192_17, e_192_20, e_192_23, e_192_24, e_192_27, e_192_28, e_192_29, e_192_30, e_192_33, e_192_35, e_192_36, e_192_37, e_192_40, e_192_42, e_192_43, e_192_46, e_192_47, e_192_50, e_192_52, e_192_53, e_192_56, e_192_57, e_192_60, e_192_61, e_192_62, e_192_65, lg_n, lg_i, lg_r, wd_nil, am_wd_i, am_wd_r, am_wd_l, am_gk_s, am_fld_s, List.getElem?_cons_zero, List.getElem?_cons_succ, am_bk_v, am_bk_n, bo_0, bo_1, am_pk_s, List.length_cons, List.length_nil, Nat.zero_add, List.set_cons_zero, List.set_cons_succ, Nat.reduceAdd, Nat.reduceLeDiff, Nat.reduceLT, k5, k6, k7, k8, m2, t2, t3, t4, nI_leI (show sn < 2 ^ 31 by omega) (show s < 2 ^ 31 by omega), if_neg (show ¬ sn ≤ s by omega), one_ne, if_false, if_true, ak_AI (show s < 6 by omega) (show 6 < 2 ^ 31 by decide), hal, nI_eq (show tmN P.1 k (sF s) (sT s) < 2 ^ 31 by omega) (show sK s < 2 ^ 31 by omega), hc, nI_1]
        exact ih'
theorem l_kinds2 (hM : MB h f L) (hP : RowP f 0 P) (hf : 2 ≤ P.1 ∧ P.1 ≤ 7) (hT : MTx h t sF sT sK) (k5 : am_fld (am_at h 87) 8 5 = some (.int (nI sn))) (k6 : am_fld (am_at h 87) 8 6 = some (.ref 91)) (k7 : am_fld (am_at h 87) 8 7 = some (.ref 92)) (k8 : am_fld (am_at h 87) 8 8 = some (.ref 93)) (hsn : sn ≤ 6) (hb : ∀ s, s < sn → sF s < P.1 ∧ sT s < P.1 ∧ sF s ≠ sT s ∧ 1 ≤ sK s ∧ sK s ≤ 60) : ∀ j k (x3 x4 : Option Value), am_lg x3 = false → am_lg x4 = false → k + j = 5 → am_ev (d + 2) 192 4 [some (.ref 87), some (.int (nI (bitsN (fun k => fitN P.1 k sF sT sK sn 0) k))), some (.int (nI k)), x3, x4] [] h = some (some (.int (nI (bitsN (fun k => fitN P.1 k sF sT sK sn 0) 5))), h) := by
  have e5 : (5 : Int32) = nI 5 := by decide +kernel
  intro j
  induction j with
  | zero =>
    intro k x3 x4 l3 l4 hk
    have : k = 5 := by omega
    subst this
    rw [e_192_4]
    simp only [e_192_5, e_192_6, e_192_88, e_192_89, lg_n, lg_i, lg_r, wd_nil, am_wd_i, am_wd_r, am_wd_l, am_gk_s, am_fld_s, List.getElem?_cons_zero, List.getElem?_cons_succ, am_bk_v, am_bk_n, bo_0, bo_1, am_pk_s, List.length_cons, List.length_nil, Nat.zero_add, List.set_cons_zero, List.set_cons_succ, Nat.reduceAdd, Nat.reduceLeDiff, Nat.reduceLT, e5, nI_leI (show 5 < 2 ^ 31 by decide) (show 5 < 2 ^ 31 by decide), Nat.le_refl, if_true]
  | succ j ih =>
    intro k x3 x4 l3 l4 hk
    have ih' := ih (k + 1) (some (.int (if fitN P.1 k sF sT sK sn 0 then 1 else 0))) (some (.int (nI sn))) (lg_i _) (lg_i _) (by omega)
    have hl := l_kinds1 (d := d) hM hP hf hT k5 k6 k7 k8 hsn hb (show k < 5 by omega) (x1 := some (.int (nI (bitsN (fun k => fitN P.1 k sF sT sK sn 0) k)))) (lg_i _) sn 0 true (by omega) ⟨fun _ i hi => absurd hi (Nat.not_lt_zero i), fun _ => rfl⟩
    rw [if_pos rfl, nI_0] at hl
    rw [bitsN] at ih'
    rw [e_192_4]
    simp only [e_192_5, e_192_6, e_192_9, e_192_10, e_192_11, e_192_12, lg_n, lg_i, lg_r, wd_nil, am_wd_i, am_wd_r, am_wd_l, am_gk_s, am_fld_s, List.getElem?_cons_zero, List.getElem?_cons_succ, am_bk_v, am_bk_n, bo_0, bo_1, am_pk_s, List.length_cons, List.length_nil, Nat.zero_add, List.set_cons_zero, List.set_cons_succ, Nat.reduceAdd, Nat.reduceLeDiff, Nat.reduceLT, l3, l4, e5, nI_leI (show 5 < 2 ^ 31 by decide) (show k < 2 ^ 31 by omega), if_neg (show ¬ 5 ≤ k by omega)]
    refine Eq.trans hl ?_
    by_cases hc : fitN P.1 k sF sT sK sn 0 = true
    · simp only [hc, if_true] at ih' ⊢
      simp only [e_192_68, e_192_69, e_192_70, e_192_73, e_192_74, e_192_75, e_192_76, e_192_79, e_192_80, e_192_81, e_192_82, e_192_85, lg_n, lg_i, lg_r, wd_nil, am_wd_i, am_wd_r, am_wd_l, am_gk_s, am_fld_s, List.getElem?_cons_zero, List.getElem?_cons_succ, am_bk_v, am_bk_n, bo_0, bo_1, am_pk_s, List.length_cons, List.length_nil, Nat.zero_add, List.set_cons_zero, List.set_cons_succ, Nat.reduceAdd, Nat.reduceLeDiff, Nat.reduceLT, one_ne, if_false, sh1 k (by omega), fa_or, nI_1]
      exact ih'
    · simp only [hc, if_false, Bool.false_eq_true, Nat.or_zero] at ih' ⊢
      simp only [e_192_68, e_192_69, e_192_70, e_192_73, e_192_74, e_192_75, e_192_76, e_192_79, e_192_80, e_192_81, e_192_82, e_192_85, lg_n, lg_i, lg_r, wd_nil, am_wd_i, am_wd_r, am_wd_l, am_gk_s, am_fld_s, List.getElem?_cons_zero, List.getElem?_cons_succ, am_bk_v, am_bk_n, bo_0, bo_1, am_pk_s, List.length_cons, List.length_nil, Nat.zero_add, List.set_cons_zero, List.set_cons_succ, Nat.reduceAdd, Nat.reduceLeDiff, Nat.reduceLT, if_true, Int32.or_zero, nI_1]
      exact ih'
theorem n_kinds (hM : MI h P σ u pa kp ke t n sn sF sT sK nz nt) (hD : OKD P) (hsn : sn ≤ 6) (hb : ∀ s, s < sn → sF s < P.1 ∧ sT s < P.1 ∧ sF s ≠ sT s ∧ 1 ≤ sK s ∧ sK s ≤ 60) : am_cal (d + 3) 192 [.ref 87] h = some (some (.int (nI (bitsN (fun k => fitN P.1 k sF sT sK sn 0) 5))), h) := by
  obtain ⟨⟨fi, be, rF, rP, cl, dg, h1⟩, ⟨f, h2, h2'⟩, h3, h4, h5, h6⟩ := id hM
  obtain ⟨oP, q1, q2, -⟩ := hD
  have hB := hM.mb h2
  obtain ⟨k0, k1, k2, k3, k4, k5, k6, k7, k8, -⟩ := md_fl h1
  have hl := l_kinds2 (d := d) hB h2'.1 ⟨q1, q2⟩ h4 k5 k6 k7 k8 hsn hb 5 0 none none lg_n lg_n (by omega)
  refine (b_192 _ _ _).trans ?_; show am_ev _ 192 0 [some (.ref 87), none, none, none, none] [] _ = _
  simp only [e_192_0, e_192_1, e_192_2, e_192_3, lg_n, lg_i, lg_r, wd_nil, am_wd_i, am_wd_r, am_wd_l, am_gk_s, am_fld_s, List.getElem?_cons_zero, List.getElem?_cons_succ, am_bk_v, am_bk_n, bo_0, bo_1, am_pk_s, List.length_cons, List.length_nil, Nat.zero_add, List.set_cons_zero, List.set_cons_succ, Nat.reduceAdd, Nat.reduceLeDiff, Nat.reduceLT]
  exact hl
end MI
