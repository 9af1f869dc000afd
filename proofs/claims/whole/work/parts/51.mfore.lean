/-! the model: looking ahead -/
def whN (g : Nat → Bool) : Nat → Nat
  | 0 => 61
  | n + 1 => if whN g n = 61 ∧ g n = true then n else whN g n
theorem whN_le (g : Nat → Bool) : ∀ n, n ≤ 61 → whN g n ≤ 61
  | 0, _ => Nat.le_refl _
  | n + 1, h => by
    have := whN_le g n (by omega)
    unfold whN
    split <;> omega
theorem whN_stay (g : Nat → Bool) (n : Nat) (h : whN g n ≠ 61) : ∀ k, whN g (n + k) = whN g n
  | 0 => rfl
  | k + 1 => by
    show (if whN g (n + k) = 61 ∧ g (n + k) = true then n + k else whN g (n + k)) = _
    rw [whN_stay g n h k, if_neg (fun z => h z.1)]
theorem srch_wh (g : Nat → Bool) : ∀ j t, t + j = 61 → whN g t = 61 → srchN g j t = whN g 61
  | 0, t, h, hw => by
    have : t = 61 := by omega
    subst this
    rw [hw]; rfl
  | j + 1, t, h, hw => by
    unfold srchN
    by_cases hg : g t = true
    · rw [if_pos hg]
      have h1 : whN g (t + 1) = t := by
        show (if whN g t = 61 ∧ g t = true then t else whN g t) = t
        rw [if_pos ⟨hw, hg⟩]
      have := whN_stay g (t + 1) (by omega) j
      rw [show t + 1 + j = 61 by omega, h1] at this
      exact this.symm
    · rw [if_neg hg]
      refine srch_wh g j (t + 1) (by omega) ?_
      show (if whN g t = 61 ∧ g t = true then t else whN g t) = 61
      rw [if_neg (fun z => hg z.2), hw]
def FW (h h' : am_H) : Prop := h'.1 = h.1 ∧ h'.2.1 = h.2.1 ∧ ∀ k, k ≠ 88 → k ≠ 107 → am_at h' k = am_at h k
theorem FW.rf {h : am_H} : FW h h := ⟨rfl, rfl, fun _ _ _ => rfl⟩
theorem FW.tr {h h' h'' : am_H} (h1 : FW h h') (h2 : FW h' h'') : FW h h'' := ⟨h2.1.trans h1.1, h2.2.1.trans h1.2.1, fun k a b => (h2.2.2 k a b).trans (h1.2.2 k a b)⟩
theorem FW.set {h : am_H} {a : Nat} {c : va_E} (ha : a = 88 ∨ a = 107) : FW h (am_set h a c) := ⟨rfl, rfl, fun k _ _ => at_set_ne (by omega)⟩
theorem FW.fm {h h' : am_H} (h1 : FW h h') : FM h h' := ⟨h1.1, h1.2.1, fun k hk => h1.2.2 k (by omega) (by omega)⟩
theorem MB.fw {h h' : am_H} {f f' : Nat → Int32} {L : Nat → Nat} (hM : MB h f L) (hF : FW h h') (h88 : am_at h' 88 = some (AI 392 f')) : MB h' f' L := by
  obtain ⟨h1, h2, h3, h4, h5⟩ := hM
  have k87 := hF.2.2 87 (by decide) (by decide)
  exact ⟨by rw [k87]; exact h1, by rw [k87]; exact h2, by rw [k87]; exact h3, h88, by rw [hF.2.2 106 (by decide) (by decide)]; exact h5⟩
section MF
variable {d : Nat} {h : am_H} {f : Nat → Int32} {L : Nat → Nat} {P : Pn} {σ τ : Hn}
theorem l_when0 (hf28 : am_fld (am_at h 87) 8 28 = some (.ref 107)) : ∀ j i (g : Nat → Int32) (h' : am_H), i + j = 8 → am_at h' 87 = am_at h 87 → am_at h' 107 = some (AI 8 g) → (∀ p, p < i → g p = 61) → ∀ z, am_ev d 175 2 [some (.ref 87), some (.int (nI i)), z] [] h' = am_ev d 175 22 [some (.ref 87), some (.int (nI 8)), z] [] (am_set h' 107 (AI 8 (fun p => nI ((fun _ => 61) p)))) := by
  intro j
  have e8 : (8 : Int32) = nI 8 := by decide +kernel
  induction j with
  | zero =>
    intro i g h' hi h87 h107 hg z
    have : i = 8 := by omega
    subst this
    have hgg : AI 8 g = AI 8 (fun p => nI ((fun _ => 61) p)) := AI_cong (fun p hp => by rw [hg p hp]; rfl)
    rw [e_175_2, ← hgg, set_self h107]
    simp only [e_175_3, e_175_5, lg_n, lg_i, lg_r, wd_nil, am_wd_i, am_wd_r, am_wd_l, am_gk_s, am_fld_s, List.getElem?_cons_zero, List.getElem?_cons_succ, am_bk_v, am_bk_n, bo_0, bo_1, am_pk_s, List.length_cons, List.length_nil, Nat.zero_add, List.set_cons_zero, List.set_cons_succ, Nat.reduceAdd, Nat.reduceLeDiff, Nat.reduceLT, e8, nI_leI (show 8 < 2 ^ 31 by decide) (show 8 < 2 ^ 31 by decide), Nat.le_refl, if_true]
  | succ j ih =>
    intro i g h' hi h87 h107 hg z
    have ih' := ih (i + 1) (upd g i 61) (am_set h' 107 (AI 8 (upd g i 61))) (by omega) (by rw [at_set_ne (by decide)]; exact h87) at_set_eq (fun p hp => by
      by_cases e : p = i
      · subst e; exact pk_us
      · rw [pk_un e]; exact hg p (by omega)) z
    rw [set_set] at ih'
    rw [e_175_2]
    simp only [e_175_3, e_175_5, e_175_8, e_175_9, e_175_12, e_175_13, e_175_15, e_175_16, e_175_19, lg_n, lg_i, lg_r, wd_nil, am_wd_i, am_wd_r, am_wd_l, am_gk_s, am_fld_s, List.getElem?_cons_zero, List.getElem?_cons_succ, am_bk_v, am_bk_n, bo_0, bo_1, am_pk_s, List.length_cons, List.length_nil, Nat.zero_add, List.set_cons_zero, List.set_cons_succ, Nat.reduceAdd, Nat.reduceLeDiff, Nat.reduceLT, e8, nI_leI (show 8 < 2 ^ 31 by decide) (show i < 2 ^ 31 by omega), if_neg (show ¬ 8 ≤ i by omega), h87, hf28, h107, sk_AI (show i < 8 by omega) (show 8 < 2 ^ 31 by decide), st_AI (show i < 8 by omega) (show 8 < 2 ^ 31 by decide), nI_1]
    exact ih'
/-- one look at who is there -/
theorem l_whenIn (hn : P.2.2.2.1 ≤ 8) {n : Nat} (hn61 : n ≤ 61) (W : Nat → Nat) (hW : ∀ p, W p ≤ 61) (hf28 : am_fld (am_at h 87) 8 28 = some (.ref 107)) : ∀ j i (g : Nat → Nat) (h' : am_H), i + j = P.2.2.2.1 → MB h' f L → RowP f 0 P → RowH f 366 τ → am_at h' 87 = am_at h 87 → am_at h' 107 = some (AI 8 (fun p => nI (g p))) → (∀ p, g p = if p < i then (if W p = 61 ∧ τ.2.2.1 p = 1 then n else W p) else W p) → ∃ g' : Nat → Nat, am_ev d 175 32 [some (.ref 87), some (.int (nI n)), some (.int (nI i))] [] h' = am_ev d 175 90 [some (.ref 87), some (.int (nI n)), some (.int (nI P.2.2.2.1))] [] (am_set h' 107 (AI 8 (fun p => nI (g' p)))) ∧ ∀ p, g' p = if p < P.2.2.2.1 then (if W p = 61 ∧ τ.2.2.1 p = 1 then n else W p) else W p := by
  intro j
  have e28 : (28 : Int32) = nI 28 := by decide +kernel
  have e366 : (366 : Int32) = nI 366 := by decide +kernel
  induction j with
  | zero =>
    intro i g h' hi hM hP hR h87 h107 hg
    have : i = P.2.2.2.1 := by omega
    subst this
    obtain ⟨m0, m1, m2, m3, m4⟩ := hM
    have h28 := hP.2.2.1
    rw [Nat.zero_add] at h28
    refine ⟨g, ?_, hg⟩
    rw [e_175_32, set_self h107]
    simp only [e_175_33, e_175_34, e_175_37, e_175_39, e_175_40, lg_n, lg_i, lg_r, wd_nil, am_wd_i, am_wd_r, am_wd_l, am_gk_s, am_fld_s, List.getElem?_cons_zero, List.getElem?_cons_succ, am_bk_v, am_bk_n, bo_0, bo_1, am_pk_s, List.length_cons, List.length_nil, Nat.zero_add, List.set_cons_zero, List.set_cons_succ, Nat.reduceAdd, Nat.reduceLeDiff, Nat.reduceLT, m0, m3, e28, ak_AI (show 28 < 392 by decide) (show 392 < 2 ^ 31 by decide), h28, nI_leI (show P.2.2.2.1 < 2 ^ 31 by omega) (show P.2.2.2.1 < 2 ^ 31 by omega), Nat.le_refl, if_true]
  | succ j ih =>
    intro i g h' hi hM hP hR h87 h107 hg
    have hi8 : i < 8 := by omega
    have h28 := hP.2.2.1
    rw [Nat.zero_add] at h28
    obtain ⟨a1, a2, a3⟩ := hR.1 i hi8
    have hgi : g i = W i := by rw [hg i, if_neg (by omega)]
    have hWi := hW i
    have hM' : MB (am_set h' 107 (AI 8 (fun p => nI (updn g i (if W i = 61 ∧ τ.2.2.1 i = 1 then n else W i) p)))) f L := hM.fw (FW.set (Or.inr rfl)) (by rw [at_set_ne (by decide)]; exact hM.2.2.2.1)
    obtain ⟨g', e', hg'⟩ := ih (i + 1) (updn g i (if W i = 61 ∧ τ.2.2.1 i = 1 then n else W i)) _ (by omega) hM' hP hR (by rw [at_set_ne (by decide)]; exact h87) at_set_eq (fun p => by
      unfold updn
      by_cases e : p = i
      · subst e; rw [if_pos rfl, if_pos (Nat.lt_succ_self p)]
      · rw [if_neg e, hg p]
        have : p < i + 1 ↔ p < i := by omega
        simp only [this])
    rw [set_set] at e'
    refine ⟨g', ?_, hg'⟩
    obtain ⟨m0, m1, m2, m3, m4⟩ := hM
    have h87f : am_fld (am_at h' 87) 8 28 = some (.ref 107) := by rw [h87]; exact hf28
    rw [e_175_32]
    simp only [e_175_33, e_175_34, e_175_37, e_175_39, e_175_40, e_175_43, e_175_44, e_175_47, e_175_48, e_175_49, e_175_52, e_175_53, e_175_54, e_175_56, e_175_59, e_175_60, e_175_63, e_175_66, e_175_67, e_175_68, e_175_69, e_175_70, e_175_73, e_175_74, e_175_77, e_175_78, e_175_81, e_175_82, e_175_83, e_175_84, e_175_87, lg_n, lg_i, lg_r, wd_nil, am_wd_i, am_wd_r, am_wd_l, am_gk_s, am_fld_s, List.getElem?_cons_zero, List.getElem?_cons_succ, am_bk_v, am_bk_n, bo_0, bo_1, am_pk_s, List.length_cons, List.length_nil, Nat.zero_add, List.set_cons_zero, List.set_cons_succ, Nat.reduceAdd, Nat.reduceLeDiff, Nat.reduceLT, m0, m3, e28, e366, i61, nI_add, ak_AI (show 28 < 392 by decide) (show 392 < 2 ^ 31 by decide), h28, nI_leI (show P.2.2.2.1 < 2 ^ 31 by omega) (show i < 2 ^ 31 by omega), if_neg (show ¬ P.2.2.2.1 ≤ i by omega), h87f, h107, ak_AI hi8 (show 8 < 2 ^ 31 by decide), ak_AI (show 366 + i < 392 by omega) (show 392 < 2 ^ 31 by decide), a1, hgi, nI_eq (show W i < 2 ^ 31 by omega) (show 61 < 2 ^ 31 by decide), sI_2, sk_AI hi8 (show 8 < 2 ^ 31 by decide), st_AI hi8 (show 8 < 2 ^ 31 by decide), updn_map nI, nI_1]
    by_cases c1 : W i = 61
    · rw [if_pos c1]
      by_cases c2 : τ.2.2.1 i = 1
      · rw [if_pos c2]
        rw [if_pos ⟨c1, c2⟩] at e'
        exact e'
      · rw [if_neg c2]
        rw [if_neg (fun z => c2 z.2)] at e'
        exact e'
    · rw [if_neg c1]
      rw [if_neg (fun z => c1 z.1)] at e'
      exact e'
theorem l_whenOut (oP : OKP P) {m0 : Nat} (oR : OKR P σ m0) (hm0 : m0 + 64 < 2 ^ 28) (hf : P.1 ≤ 15) (hS : σ.2.1 < 2 ^ 31) (hL : ∀ i, i < P.2.2.2.1 → L i < P.2.2.2.1) (hf28 : am_fld (am_at h 87) 8 28 = some (.ref 107)) : ∀ j i (f : Nat → Int32) (g : Nat → Nat) (h' : am_H) (z : Option Value), i + j = 61 → MB h' f L → RowP f 0 P → RowH f 366 (stpN P L σ i) → am_at h' 87 = am_at h 87 → am_at h' 107 = some (AI 8 (fun p => nI (g p))) → (∀ p, g p = if p < P.2.2.2.1 then whN (fun t => (stpN P L σ t).2.2.1 p == 1) i else 61) → ∃ (h'' : am_H) (f'' : Nat → Int32) (g'' : Nat → Nat), am_ev (d + 5) 175 24 [some (.ref 87), some (.int (nI i)), z] [] h' = some (none, h'') ∧ MB h'' f'' L ∧ RS f f'' 366 ∧ RowH f'' 366 (stpN P L σ 61) ∧ am_at h'' 107 = some (AI 8 (fun p => nI (g'' p))) ∧ (∀ p, p < P.2.2.2.1 → g'' p = whN (fun t => (stpN P L σ t).2.2.1 p == 1) 61) ∧ FW h' h'' := by
  have hn := oP.2.2.2.1
  intro j
  induction j with
  | zero =>
    intro i f g h' z hi hM hP hR h87 h107 hg
    have : i = 61 := by omega
    subst this
    refine ⟨h', f, g, ?_, hM, RS.rf, hR, h107, fun p hp => by rw [hg p, if_pos hp], FW.rf⟩
    rw [e_175_24]
    simp only [e_175_25, e_175_27, e_175_104, lg_n, lg_i, lg_r, wd_nil, am_wd_i, am_wd_r, am_wd_l, am_gk_s, am_fld_s, List.getElem?_cons_zero, List.getElem?_cons_succ, am_bk_v, am_bk_n, bo_0, bo_1, am_pk_s, List.length_cons, List.length_nil, Nat.zero_add, List.set_cons_zero, List.set_cons_succ, Nat.reduceAdd, Nat.reduceLeDiff, Nat.reduceLT, i61, nI_leI (show 61 < 2 ^ 31 by decide) (show 61 < 2 ^ 31 by decide), Nat.le_refl, if_true]
  | succ j ih =>
    intro i f g h' z hi hM hP hR h87 h107 hg
    have hW : ∀ p, g p ≤ 61 := fun p => by
      rw [hg p]
      split
      · exact whN_le _ _ (by omega)
      · omega
    obtain ⟨g1, e1, hg1⟩ := l_whenIn (d := d + 5) (h := h) (τ := stpN P L σ i) hn (n := i) (by omega) g hW hf28 P.2.2.2.1 0 g h' (by omega) hM hP hR h87 h107 (fun p => by rw [if_neg (by omega)])
    have hM1 : MB (am_set h' 107 (AI 8 (fun p => nI (g1 p)))) f L := hM.fw (FW.set (Or.inr rfl)) (by rw [at_set_ne (by decide)]; exact hM.2.2.2.1)
    have hsS : ∀ i, (stpN P L σ i).2.1 = σ.2.1 := fun i => by
      induction i with
      | zero => rfl
      | succ i ihh => show (advN P L P.2.2.2.1 (stpN P L σ i)).2.1 = _; rw [(advN_1 P L P.2.2.2.1 (stpN P L σ i)).2, ihh]
    obtain ⟨f2, e2, R2, S2⟩ := m_stepsM (d := d) hM1 hP hR oP (oR.stp (L := L) oP.1 i) (N := 1) (by omega) (by omega) hf (by rw [hsS]; exact hS) hL
    have R2' : RowH f2 366 (stpN P L σ (i + 1)) := R2
    have F12 : FW h' (am_set (am_set h' 107 (AI 8 (fun p => nI (g1 p)))) 88 (AI 392 f2)) := (FW.set (Or.inr rfl)).tr (FW.set (Or.inl rfl))
    obtain ⟨h'', f'', g'', e', M', S', R', q1, q2, F'⟩ := ih (i + 1) f2 g1 _ (some (.int (nI P.2.2.2.1))) (by omega) (hM1.set f2) (hP.rs hn (by omega) S2) R2' (by rw [at_set_ne (by decide), at_set_ne (by decide)]; exact h87) (by rw [at_set_ne (by decide)]; exact at_set_eq) (fun p => by
      rw [hg1 p]
      by_cases hp : p < P.2.2.2.1
      · rw [if_pos hp, if_pos hp, hg p, if_pos hp]
        show _ = (if whN (fun t => (stpN P L σ t).2.2.1 p == 1) i = 61 ∧ ((stpN P L σ i).2.2.1 p == 1) = true then i else whN (fun t => (stpN P L σ t).2.2.1 p == 1) i)
        simp only [beq_iff_eq]
      · rw [if_neg hp, if_neg hp, hg p, if_neg hp])
    refine ⟨h'', f'', g'', ?_, M', S2.tr S', R', q1, q2, F12.tr F'⟩
    rw [e_175_24]
    simp only [e_175_25, e_175_27, e_175_30, e_175_31, lg_n, lg_i, lg_r, wd_nil, am_wd_i, am_wd_r, am_wd_l, am_gk_s, am_fld_s, List.getElem?_cons_zero, List.getElem?_cons_succ, am_bk_v, am_bk_n, bo_0, bo_1, am_pk_s, List.length_cons, List.length_nil, Nat.zero_add, List.set_cons_zero, List.set_cons_succ, Nat.reduceAdd, Nat.reduceLeDiff, Nat.reduceLT, i61, nI_leI (show 61 < 2 ^ 31 by decide) (show i < 2 ^ 31 by omega), if_neg (show ¬ 61 ≤ i by omega)]
    refine Eq.trans e1 ?_
    obtain ⟨w0, w1, w2, w3, w4⟩ := hM1
    rw [show nI 1 = 1 by decide +kernel] at e2
    simp only [e_175_90, e_175_91, e_175_94, e_175_95, e_175_98, e_175_101, lg_n, lg_i, lg_r, wd_nil, am_wd_i, am_wd_r, am_wd_l, am_gk_s, am_fld_s, List.getElem?_cons_zero, List.getElem?_cons_succ, am_bk_v, am_bk_n, bo_0, bo_1, am_pk_s, List.length_cons, List.length_nil, Nat.zero_add, List.set_cons_zero, List.set_cons_succ, Nat.reduceAdd, Nat.reduceLeDiff, Nat.reduceLT, show (366 : Int32) = nI 366 by decide +kernel, w2, e2, nI_1]
    exact e'
theorem m_layWhen (hM : MB h f L) (hP : RowP f 0 P) (hR : RowH f 366 σ) (oP : OKP P) {m0 : Nat} (oR : OKR P σ m0) (hm0 : m0 + 64 < 2 ^ 28) (hf : P.1 ≤ 15) (hS : σ.2.1 < 2 ^ 31) (hL : ∀ i, i < P.2.2.2.1 → L i < P.2.2.2.1) (hf28 : am_fld (am_at h 87) 8 28 = some (.ref 107)) {g : Nat → Int32} (h107 : am_at h 107 = some (AI 8 g)) : ∃ (h' : am_H) (f' : Nat → Int32) (g' : Nat → Nat), am_cal (d + 6) 175 [.ref 87] h = some (none, h') ∧ MB h' f' L ∧ RS f f' 366 ∧ RowH f' 366 (stpN P L σ 61) ∧ am_at h' 107 = some (AI 8 (fun p => nI (g' p))) ∧ (∀ p, p < P.2.2.2.1 → g' p = srchN (fun t => (stpN P L σ t).2.2.1 p == 1) 61 0) ∧ FW h h' := by
  have hl0 := l_when0 (d := d + 5) hf28 8 0 g h (by omega) rfl h107 (fun p hp => absurd hp (Nat.not_lt_zero p)) none
  have hM1 : MB (am_set h 107 (AI 8 (fun p => nI ((fun _ => 61) p)))) f L := hM.fw (FW.set (Or.inr rfl)) (by rw [at_set_ne (by decide)]; exact hM.2.2.2.1)
  obtain ⟨h', f', g', e', M', S', R', q1, q2, F'⟩ := l_whenOut (d := d) (h := h) oP oR hm0 hf hS hL hf28 61 0 f (fun _ => 61) _ none (by omega) hM1 hP hR (at_set_ne (by decide)) at_set_eq (fun p => by simp [whN])
  refine ⟨h', f', g', ?_, M', S', R', q1, fun p hp => by rw [q2 p hp, srch_wh _ 61 0 (by omega) rfl], (FW.set (Or.inr rfl)).tr F'⟩
  refine (b_175 _ _ _).trans ?_; show am_ev _ 175 0 [some (.ref 87), none, none] [] _ = _
  simp only [e_175_0, e_175_1, lg_n, lg_i, lg_r, wd_nil, am_wd_i, am_wd_r, am_wd_l, am_gk_s, am_fld_s, List.getElem?_cons_zero, List.getElem?_cons_succ, am_bk_v, am_bk_n, bo_0, bo_1, am_pk_s, List.length_cons, List.length_nil, Nat.zero_add, List.set_cons_zero, List.set_cons_succ, Nat.reduceAdd, Nat.reduceLeDiff, Nat.reduceLT]
  refine Eq.trans hl0 ?_
  simp only [e_175_22, e_175_23, lg_n, lg_i, lg_r, wd_nil, am_wd_i, am_wd_r, am_wd_l, am_gk_s, am_fld_s, List.getElem?_cons_zero, List.getElem?_cons_succ, am_bk_v, am_bk_n, bo_0, bo_1, am_pk_s, List.length_cons, List.length_nil, Nat.zero_add, List.set_cons_zero, List.set_cons_succ, Nat.reduceAdd, Nat.reduceLeDiff, Nat.reduceLT]
  exact e'
def maxN (g : Nat → Nat) : Nat → Nat
  | 0 => 0
  | k + 1 => max (maxN g k) (g k)
theorem maxN_cong {g g' : Nat → Nat} : ∀ {n : Nat}, (∀ k, k < n → g k = g' k) → maxN g n = maxN g' n
  | 0, _ => rfl
  | n + 1, h => by rw [maxN, maxN, maxN_cong (fun k hk => h k (by omega)), h n (by omega)]
theorem maxN_le {g : Nat → Nat} {B : Nat} : ∀ {n : Nat}, (∀ k, k < n → g k ≤ B) → maxN g n ≤ B
  | 0, _ => Nat.zero_le _
  | n + 1, h => by
    have := maxN_le (n := n) (fun k hk => h k (by omega))
    have := h n (by omega)
    unfold maxN
    omega
theorem l_latest (hM : MB h f L) (hP : RowP f 0 P) (hn : P.2.2.2.1 ≤ 8) {g : Nat → Nat} (hg : ∀ p, p < P.2.2.2.1 → g p ≤ 61) (hf28 : am_fld (am_at h 87) 8 28 = some (.ref 107)) (h107 : am_at h 107 = some (AI 8 (fun p => nI (g p)))) : ∀ j i, i + j = P.2.2.2.1 → am_ev d 176 4 [some (.ref 87), some (.int (nI (maxN g i))), some (.int (nI i))] [] h = some (some (.int (nI (maxN g P.2.2.2.1))), h) := by
  obtain ⟨m0, m1, m2, m3, m4⟩ := hM
  have h28 := hP.2.2.1
  rw [Nat.zero_add] at h28
  have e28 : (28 : Int32) = nI 28 := by decide +kernel
  intro j
  induction j with
  | zero =>
    intro i hi
    have : i = P.2.2.2.1 := by omega
    subst this
    rw [e_176_4]
    simp only [e_176_5, e_176_6, e_176_9, e_176_11, e_176_12, e_176_42, e_176_43, lg_n, lg_i, lg_r, wd_nil, am_wd_i, am_wd_r, am_wd_l, am_gk_s, am_fld_s, List.getElem?_cons_zero, List.getElem?_cons_succ, am_bk_v, am_bk_n, bo_0, bo_1, am_pk_s, List.length_cons, List.length_nil, Nat.zero_add, List.set_cons_zero, List.set_cons_succ, Nat.reduceAdd, Nat.reduceLeDiff, Nat.reduceLT, m0, m3, e28, ak_AI (show 28 < 392 by decide) (show 392 < 2 ^ 31 by decide), h28, nI_leI (show P.2.2.2.1 < 2 ^ 31 by omega) (show P.2.2.2.1 < 2 ^ 31 by omega), Nat.le_refl, if_true]
  | succ j ih =>
    intro i hi
    have ih' := ih (i + 1) (by omega)
    rw [maxN] at ih'
    have hgi := hg i (by omega)
    have hmi := maxN_le (g := g) (B := 61) (n := i) (fun k hk => hg k (by omega))
    rw [e_176_4]
    simp only [e_176_5, e_176_6, e_176_9, e_176_11, e_176_12, e_176_15, e_176_16, e_176_19, e_176_20, e_176_21, e_176_22, e_176_25, e_176_26, e_176_29, e_176_30, e_176_31, e_176_34, e_176_35, e_176_36, e_176_39, lg_n, lg_i, lg_r, wd_nil, am_wd_i, am_wd_r, am_wd_l, am_gk_s, am_fld_s, List.getElem?_cons_zero, List.getElem?_cons_succ, am_bk_v, am_bk_n, bo_0, bo_1, am_pk_s, List.length_cons, List.length_nil, Nat.zero_add, List.set_cons_zero, List.set_cons_succ, Nat.reduceAdd, Nat.reduceLeDiff, Nat.reduceLT, m0, m3, e28, ak_AI (show 28 < 392 by decide) (show 392 < 2 ^ 31 by decide), h28, nI_leI (show P.2.2.2.1 < 2 ^ 31 by omega) (show i < 2 ^ 31 by omega), if_neg (show ¬ P.2.2.2.1 ≤ i by omega), hf28, h107, ak_AI (show i < 8 by omega) (show 8 < 2 ^ 31 by decide), nI_leI (show g i < 2 ^ 31 by omega) (show maxN g i < 2 ^ 31 by omega), nI_1]
    by_cases c : g i ≤ maxN g i
    · rw [if_pos c]
      rw [Nat.max_eq_left c] at ih'
      exact ih'
    · rw [if_neg c]
      rw [Nat.max_eq_right (by omega)] at ih'
      exact ih'
theorem m_latest (hM : MB h f L) (hP : RowP f 0 P) (hn : P.2.2.2.1 ≤ 8) {g : Nat → Nat} (hg : ∀ p, p < P.2.2.2.1 → g p ≤ 61) (hf28 : am_fld (am_at h 87) 8 28 = some (.ref 107)) (h107 : am_at h 107 = some (AI 8 (fun p => nI (g p)))) : am_cal (d + 1) 176 [.ref 87] h = some (some (.int (nI (maxN g P.2.2.2.1))), h) := by
  refine (b_176 _ _ _).trans ?_; show am_ev _ 176 0 [some (.ref 87), none, none] [] _ = _
  simp only [e_176_0, e_176_1, e_176_2, e_176_3, lg_n, lg_i, lg_r, wd_nil, am_wd_i, am_wd_r, am_wd_l, am_gk_s, am_fld_s, List.getElem?_cons_zero, List.getElem?_cons_succ, am_bk_v, am_bk_n, bo_0, bo_1, am_pk_s, List.length_cons, List.length_nil, Nat.zero_add, List.set_cons_zero, List.set_cons_succ, Nat.reduceAdd, Nat.reduceLeDiff, Nat.reduceLT]
  exact l_latest hM hP hn hg hf28 h107 P.2.2.2.1 0 (by omega)
end MF
