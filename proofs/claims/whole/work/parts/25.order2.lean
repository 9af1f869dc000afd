/-! looking ahead: the order -/
theorem zo0 : (0 : Int32) = 0 ∨ (0 : Int32) = 1 := Or.inl rfl
theorem zo1 : (1 : Int32) = 0 ∨ (1 : Int32) = 1 := Or.inr rfl
def FV (h h' : am_H) (v l : Nat) : Prop := h'.1 = h.1 ∧ h'.2.1 = h.2.1 ∧ ∀ k, (k < v ∨ (v + 2 < k ∧ k < l) ∨ l + 3 < k) → am_at h' k = am_at h k
theorem FV.rf {h : am_H} {v l : Nat} : FV h h v l := ⟨rfl, rfl, fun _ _ => rfl⟩
theorem FV.tr {h h' h'' : am_H} {v l : Nat} (h1 : FV h h' v l) (h2 : FV h' h'' v l) : FV h h'' v l := ⟨h2.1.trans h1.1, h2.2.1.trans h1.2.1, fun k hk => (h2.2.2 k hk).trans (h1.2.2 k hk)⟩
theorem FV.set {h : am_H} {v l a : Nat} {c : va_E} (h1 : v ≤ a) (h2 : a ≤ v + 2) (h3 : v + 2 < l) : FV h (am_set h a c) v l := ⟨rfl, rfl, fun k hk => at_set_ne (by omega)⟩
theorem FV.pH {h : am_H} {v l b : Nat} (hvl : v + 2 < l) (τ : Hn) : FV h (pH h l b τ) v l := ⟨rfl, rfl, fun k hk => at_pH_ne (by omega)⟩
theorem FV.lb {h h' : am_H} {v l b : Nat} (hvl : v + 2 < l) (hl : LB h h' l b) : FV h h' v l := by
  rcases hl with rfl | ⟨τ, rfl⟩
  · exact FV.rf
  · exact FV.pH hvl τ
def noR (P : Pn) (σ : Hn) : Bool := bitsN (fun q => sI (σ.2.2.1 q) == 1) P.2.2.2.1 == 0
def tgN (P : Pn) (w : Nat) (f : Nat → Nat) (L : Nat) : Nat → Nat → Nat → Nat → Hn → Nat
  | 0, _, T, _, _ => T
  | j + 1, t, T, u, st => if T < L then (if missN P st = 0 then T else if 2 * P.1 < (if noR P st then u + 1 else 0) then T + missN P st * (61 - t) else tgN P w f L j (t + 1) (T + missN P st) (if noR P st then u + 1 else 0) (advN P f w st)) else T
theorem missN_le {P : Pn} {σ : Hn} (hn : P.2.2.2.1 ≤ 8) : missN P σ ≤ 8 := by unfold missN; omega
theorem tgN_le (P : Pn) (w : Nat) (f : Nat → Nat) (L : Nat) (hn : P.2.2.2.1 ≤ 8) : ∀ j t T u st, t + j = 61 → T ≤ 8 * t → tgN P w f L j t T u st ≤ 488
  | 0, t, T, u, st, h1, h2 => by unfold tgN; omega
  | j + 1, t, T, u, st, h1, h2 => by
    have hm := missN_le (σ := st) hn
    have ih := fun u' => tgN_le P w f L hn j (t + 1) (T + missN P st) u' (advN P f w st) (by omega) (by omega)
    unfold tgN
    generalize (if noR P st = true then u + 1 else 0) = u' at *
    split
    · split
      · omega
      · split
        · have : missN P st * (61 - t) ≤ 8 * (61 - t) := Nat.mul_le_mul_right _ hm
          omega
        · exact ih _
    · omega
def upN (P : Pn) (σ : Hn) (f0 : Nat → Nat) : Nat → Nat × (Nat → Nat)
  | 0 => (0, f0)
  | p + 1 => if (upN P σ f0 p).1 < 6 ∧ p < P.2.2.2.1 ∧ σ.2.2.1 p = 0 then ((upN P σ f0 p).1 + 1, updn (upN P σ f0 p).2 (upN P σ f0 p).1 p) else upN P σ f0 p
theorem upN_full (P : Pn) (σ : Hn) (f0 : Nat → Nat) (p : Nat) (h : 6 ≤ (upN P σ f0 p).1) : ∀ k, upN P σ f0 (p + k) = upN P σ f0 p
  | 0 => rfl
  | k + 1 => by
    show upN P σ f0 (p + k + 1) = _
    rw [upN, upN_full P σ f0 p h k, if_neg (by omega)]
theorem upN_le (P : Pn) (σ : Hn) (f0 : Nat → Nat) : ∀ p, (upN P σ f0 p).1 ≤ 6
  | 0 => Nat.zero_le _
  | p + 1 => by
    have := upN_le P σ f0 p
    unfold upN
    split
    · simp only; omega
    · exact this
theorem upN_bd (P : Pn) (σ : Hn) (f0 : Nat → Nat) : ∀ p i, i < (upN P σ f0 p).1 → (upN P σ f0 p).2 i < P.2.2.2.1 ∧ σ.2.2.1 ((upN P σ f0 p).2 i) = 0
  | 0, i, h => absurd h (Nat.not_lt_zero _)
  | p + 1, i, h => by
    have ih := upN_bd P σ f0 p
    unfold upN at h ⊢
    by_cases hc : (upN P σ f0 p).1 < 6 ∧ p < P.2.2.2.1 ∧ σ.2.2.1 p = 0
    · rw [if_pos hc] at h ⊢
      simp only at h ⊢
      unfold updn
      by_cases hi : i = (upN P σ f0 p).1
      · rw [if_pos hi]; exact hc.2
      · rw [if_neg hi]; exact ih i (by omega)
    · rw [if_neg hc] at h ⊢
      exact ih i h
theorem upN_8 (P : Pn) (σ : Hn) (f0 : Nat → Nat) (hn : P.2.2.2.1 ≤ 8) (h0 : ∀ i, i < 6 → f0 i < 8) : ∀ p i, i < 6 → (upN P σ f0 p).2 i < 8
  | 0, i, h => h0 i h
  | p + 1, i, h => by
    have ih := upN_8 P σ f0 hn h0 p
    unfold upN
    split
    · rename_i hc
      simp only
      unfold updn
      split
      · omega
      · exact ih i h
    · exact ih i h
def ordN (P : Pn) (σ : Hn) (w : Nat) : Nat → Nat → (Nat → Nat) → (Nat → Nat) → Nat × (Nat → Nat) × (Nat → Nat)
  | 0, L, be, f => (L, be, f)
  | j + 1, L, be, f =>
    let T := if likeN P f (w - 1) 0 then L else tgN P w f L 61 0 0 0 σ
    match nextN w f with
    | none => (if T < L then T else L, if T < L then (fun k => if k < w then f k else be k) else be, f)
    | some f' => ordN P σ w j (if T < L then T else L) (if T < L then (fun k => if k < w then f k else be k) else be) f'
theorem swp_bd {f : Nat → Nat} {W N a b : Nat} (hf : ∀ i, i < W → f i < N) (ha : a < W) (hb : b < W) : ∀ i, i < W → swp f a b i < N := by
  intro i hi
  unfold swp
  split
  · exact hf a ha
  · split
    · exact hf b hb
    · exact hf i hi
theorem revN_bd {W N : Nat} : ∀ m (f : Nat → Nat) a b, (∀ i, i < W → f i < N) → b < W → ∀ i, i < W → revN m f a b i < N
  | 0, f, a, b, hf, hb => hf
  | m + 1, f, a, b, hf, hb => by
    unfold revN
    split
    · exact revN_bd m _ (a + 1) (b - 1) (swp_bd hf (by omega) hb) (by omega)
    · exact hf
theorem nextN_bd {w W N : Nat} {f f' : Nat → Nat} (hf : ∀ i, i < W → f i < N) (hw : w ≤ W) (he : nextN w f = some f') : ∀ i, i < W → f' i < N := by
  unfold nextN at he
  have hp := pivN_le f (w - 1)
  cases hpv : pivN f (w - 1) with
  | zero => rw [hpv] at he; cases he
  | succ i =>
    rw [hpv] at he hp
    simp only [Option.some.injEq] at he
    subst he
    have hq := sucN_le f i (w - 1)
    exact revN_bd 6 _ _ _ (swp_bd hf (by omega) (by omega)) (by omega)
section FO
variable {d : Nat} {h : am_H} {v n l b : Nat} {P : Pn} {σ τ : Hn} {Φ : Fo}
theorem FS.obj (hF : FS h v n l b P σ Φ) (w m : Nat) (k : Int32) : FS (am_set h v (fore0 v n l (w, m, k, Φ.2.2.2))) v n l b P σ (w, m, k, Φ.2.2.2) := by
  obtain ⟨h1, h2, h3, h4, h5, ⟨h6, h7, h8, h9⟩, hgb, hgl⟩ := hF
  exact ⟨h1.keep (fun k hk => at_set_ne (by omega)), h2.keep (fun k _ _ => at_set_ne (by omega)), h3.keep (fun k _ _ => at_set_ne (by omega)), h4.keep (fun k _ _ => at_set_ne (by omega)), at_set_eq, ⟨h6, h7, h8, h9⟩, by rw [at_set_ne (by omega)]; exact hgb, by rw [at_set_ne (by omega)]; exact hgl⟩
theorem FS.best (hF : FS h v n l b P σ Φ) (f : Nat → Nat) : FS (am_set h (v + 1) (AI 6 (fun i => nI (f i)))) v n l b P σ (Φ.1, Φ.2.1, Φ.2.2.1, f, Φ.2.2.2.2) := by
  obtain ⟨h1, h2, h3, h4, h5, ⟨h6, h7, h8, h9⟩, hgb, hgl⟩ := hF
  exact ⟨h1.keep (fun k hk => at_set_ne (by omega)), h2.keep (fun k _ _ => at_set_ne (by omega)), h3.keep (fun k _ _ => at_set_ne (by omega)), h4.keep (fun k _ _ => at_set_ne (by omega)), by rw [at_set_ne (by omega)]; exact h5, ⟨h6, h7, h8, h9⟩, at_set_eq, by rw [at_set_ne (by omega)]; exact hgl⟩
theorem l_lineUp (oP : OKP P) (f0 : Nat → Nat) : ∀ j p, p + j = 8 → ∀ (h : am_H) (Φ : Fo), FS h v n l b P σ Φ → Φ.1 = (upN P σ f0 p).1 → Φ.2.2.2.2 = (upN P σ f0 p).2 → ∃ h', am_ev (d + 1) 8 7 [some (.ref v), some (.int (nI p))] [] h = some (none, h') ∧ FS h' v n l b P σ ((upN P σ f0 8).1, Φ.2.1, Φ.2.2.1, Φ.2.2.2.1, (upN P σ f0 8).2) ∧ FV h h' v l := by
  intro j
  have e8 : (8 : Int32) = nI 8 := by decide +kernel
  have e6 : (6 : Int32) = nI 6 := by decide +kernel
  have hn := oP.2.2.2.1
  induction j with
  | zero =>
    intro p hp h Φ hF hw hl
    have : p = 8 := by omega
    subst this
    refine ⟨h, ?_, ?_, FV.rf⟩
    · rw [e_8_7]
      simp only [e_8_0, e_8_1, e_8_2, e_8_5, e_8_6, e_8_8, e_8_10, e_8_13, e_8_14, e_8_17, e_8_19, e_8_22, e_8_23, e_8_26, e_8_27, e_8_30, e_8_33, e_8_34, e_8_37, e_8_38, e_8_41, e_8_42, e_8_43, e_8_44, e_8_45, e_8_48, e_8_49, e_8_50, e_8_53, e_8_56, e_8_59, lg_n, lg_i, lg_r, wd_nil, am_wd_i, am_wd_r, am_wd_l, am_gk_s, am_fld_s, List.getElem?_cons_zero, List.getElem?_cons_succ, am_bk_v, am_bk_n, bo_0, bo_1, am_pk_s, List.length_cons, List.length_nil, Nat.zero_add, List.set_cons_zero, List.set_cons_succ, Nat.reduceAdd, Nat.reduceLeDiff, Nat.reduceLT, e8, nI_leI (show 8 < 2 ^ 31 by omega) (show 8 < 2 ^ 31 by omega), Nat.le_refl, if_true]
    · rw [← hw, ← hl]; exact hF
  | succ j ih =>
    intro p hp h Φ hF hw hl
    obtain ⟨k0, -, -, k3, k4, -, -, k7⟩ := hF.fl
    have hle := upN_le P σ f0 p
    by_cases h6 : 6 ≤ Φ.1
    · have hu := upN_full P σ f0 p (by omega) (j + 1)
      rw [show p + (j + 1) = 8 by omega] at hu
      refine ⟨h, ?_, ?_, FV.rf⟩
      · rw [e_8_7]
        simp only [e_8_0, e_8_1, e_8_2, e_8_5, e_8_6, e_8_8, e_8_10, e_8_13, e_8_14, e_8_17, e_8_19, e_8_22, e_8_23, e_8_26, e_8_27, e_8_30, e_8_33, e_8_34, e_8_37, e_8_38, e_8_41, e_8_42, e_8_43, e_8_44, e_8_45, e_8_48, e_8_49, e_8_50, e_8_53, e_8_56, e_8_59, lg_n, lg_i, lg_r, wd_nil, am_wd_i, am_wd_r, am_wd_l, am_gk_s, am_fld_s, List.getElem?_cons_zero, List.getElem?_cons_succ, am_bk_v, am_bk_n, bo_0, bo_1, am_pk_s, List.length_cons, List.length_nil, Nat.zero_add, List.set_cons_zero, List.set_cons_succ, Nat.reduceAdd, Nat.reduceLeDiff, Nat.reduceLT, k4, e8, e6, nI_leI (show 8 < 2 ^ 31 by omega) (show p < 2 ^ 31 by omega), if_neg (show ¬ 8 ≤ p by omega), nI_leI (show 6 < 2 ^ 31 by omega) (show Φ.1 < 2 ^ 31 by omega), if_pos h6]
      · rw [hu, ← hw, ← hl]; exact hF
    · have hup : upN P σ f0 (p + 1) = if (upN P σ f0 p).1 < 6 ∧ p < P.2.2.2.1 ∧ σ.2.2.1 p = 0 then ((upN P σ f0 p).1 + 1, updn (upN P σ f0 p).2 (upN P σ f0 p).1 p) else upN P σ f0 p := rfl
      by_cases hwt : p < P.2.2.2.1 ∧ σ.2.2.1 p = 0
      · rw [if_pos ⟨by omega, hwt⟩] at hup
        have h7 := hF.2.2.2.2.2.2.2
        have hF1 := (hF.line (updn Φ.2.2.2.2 Φ.1 p)).obj (Φ.1 + 1) Φ.2.1 Φ.2.2.1
        obtain ⟨h', e', F', V'⟩ := ih (p + 1) (by omega) _ _ hF1 (by rw [hup, hw]) (by rw [hup, hw, hl])
        have h60 := (hF.line (updn Φ.2.2.2.2 Φ.1 p)).2.2.2.2.1
        unfold fore0 at h60
        refine ⟨h', ?_, F', FV.tr (FV.tr (FV.set (by omega) (by omega) hF.2.2.2.2.2.1.2.2.1) (FV.set (by omega) (by omega) hF.2.2.2.2.2.1.2.2.1)) V'⟩
        rw [e_8_7]
        simp only [e_8_0, e_8_1, e_8_2, e_8_5, e_8_6, e_8_8, e_8_10, e_8_13, e_8_14, e_8_17, e_8_19, e_8_22, e_8_23, e_8_26, e_8_27, e_8_30, e_8_33, e_8_34, e_8_37, e_8_38, e_8_41, e_8_42, e_8_43, e_8_44, e_8_45, e_8_48, e_8_49, e_8_50, e_8_53, e_8_56, e_8_59, lg_n, lg_i, lg_r, wd_nil, am_wd_i, am_wd_r, am_wd_l, am_gk_s, am_fld_s, List.getElem?_cons_zero, List.getElem?_cons_succ, am_bk_v, am_bk_n, bo_0, bo_1, am_pk_s, List.length_cons, List.length_nil, Nat.zero_add, List.set_cons_zero, List.set_cons_succ, Nat.reduceAdd, Nat.reduceLeDiff, Nat.reduceLT, k0, k3, k4, e8, e6, nI_leI (show 8 < 2 ^ 31 by omega) (show p < 2 ^ 31 by omega), if_neg (show ¬ 8 ≤ p by omega), nI_leI (show 6 < 2 ^ 31 by omega) (show Φ.1 < 2 ^ 31 by omega), if_neg h6, is_house hF.2.2.1, m_isWaiting hF.2.1 hF.2.2.1 hn (show p < 2 ^ 20 by omega), if_pos hwt, one_ne, if_false, h7, sk_AI (show Φ.1 < 6 by omega) (show 6 < 2 ^ 31 by decide), st_AI (show Φ.1 < 6 by omega) (show 6 < 2 ^ 31 by decide), updn_map nI, h60, nI_1]
        exact e'
      · rw [if_neg (fun z => hwt z.2)] at hup
        obtain ⟨h', e', F', V'⟩ := ih (p + 1) (by omega) h Φ hF (by rw [hup, hw]) (by rw [hup, hl])
        refine ⟨h', ?_, F', V'⟩
        rw [e_8_7]
        simp only [e_8_0, e_8_1, e_8_2, e_8_5, e_8_6, e_8_8, e_8_10, e_8_13, e_8_14, e_8_17, e_8_19, e_8_22, e_8_23, e_8_26, e_8_27, e_8_30, e_8_33, e_8_34, e_8_37, e_8_38, e_8_41, e_8_42, e_8_43, e_8_44, e_8_45, e_8_48, e_8_49, e_8_50, e_8_53, e_8_56, e_8_59, lg_n, lg_i, lg_r, wd_nil, am_wd_i, am_wd_r, am_wd_l, am_gk_s, am_fld_s, List.getElem?_cons_zero, List.getElem?_cons_succ, am_bk_v, am_bk_n, bo_0, bo_1, am_pk_s, List.length_cons, List.length_nil, Nat.zero_add, List.set_cons_zero, List.set_cons_succ, Nat.reduceAdd, Nat.reduceLeDiff, Nat.reduceLT, k0, k3, k4, e8, e6, nI_leI (show 8 < 2 ^ 31 by omega) (show p < 2 ^ 31 by omega), if_neg (show ¬ 8 ≤ p by omega), nI_leI (show 6 < 2 ^ 31 by omega) (show Φ.1 < 2 ^ 31 by omega), if_neg h6, is_house hF.2.2.1, m_isWaiting hF.2.1 hF.2.2.1 hn (show p < 2 ^ 20 by omega), if_neg hwt, if_true, nI_1]
        exact e'
theorem m_lineUp (hF : FS h v n l b P σ Φ) (oP : OKP P) : ∃ h', am_cal (d + 2) 8 [.ref v] h = some (none, h') ∧ FS h' v n l b P σ ((upN P σ Φ.2.2.2.2 8).1, Φ.2.1, Φ.2.2.1, Φ.2.2.2.1, (upN P σ Φ.2.2.2.2 8).2) ∧ FV h h' v l := by
  have hF1 := hF.obj 0 Φ.2.1 Φ.2.2.1
  obtain ⟨h', e', F', V'⟩ := l_lineUp (d := d) oP Φ.2.2.2.2 8 0 (by omega) _ _ hF1 rfl rfl
  refine ⟨h', ?_, F', FV.tr (FV.set (Nat.le_refl _) (by omega) hF.2.2.2.2.2.1.2.2.1) V'⟩
  refine (b_8 _ _ _).trans ?_; show am_ev _ 8 0 [some (.ref v), none] [] _ = _
  have h5 := hF.2.2.2.2.1
  unfold fore0 at h5
  simp only [e_8_0, e_8_1, e_8_2, e_8_5, e_8_6, lg_n, lg_i, lg_r, wd_nil, am_wd_i, am_wd_r, am_wd_l, am_gk_s, am_fld_s, List.getElem?_cons_zero, List.getElem?_cons_succ, am_bk_v, am_bk_n, bo_0, bo_1, am_pk_s, List.length_cons, List.length_nil, Nat.zero_add, List.set_cons_zero, List.set_cons_succ, Nat.reduceAdd, Nat.reduceLeDiff, Nat.reduceLT, h5]
  exact e'
theorem l_together (oP : OKP P) (hf : P.1 ≤ 15) {m0 : Nat} (hm : m0 + 62 < 2 ^ 28) (hw : Φ.1 ≤ 6) (hL : Φ.2.1 < 2 ^ 20) (hl8 : ∀ i, i < Φ.1 → Φ.2.2.2.2 i < 8) : ∀ j t T u (st : Hn) (z : Option Value) (h : am_H), t + j = 61 → T ≤ 8 * t → u ≤ t → OKR P st (m0 + t) → FS h v n l b P σ Φ → HouseAt h l b st → ∃ τ', am_ev (d + 4) 9 17 [some (.ref v), some (.int (nI T)), some (.int (nI u)), some (.int (nI t)), z] [] h = some (some (.int (nI (tgN P Φ.1 Φ.2.2.2.2 Φ.2.1 j t T u st))), pH h l b τ') := by
  intro j
  have hn := oP.2.2.2.1
  induction j with
  | zero =>
    intro t T u st z h ht hT hu oR hF hh
    have : t = 61 := by omega
    subst this
    refine ⟨st, ?_⟩
    rw [pH_self hh, e_9_17]
    simp only [e_9_0, e_9_1, e_9_4, e_9_5, e_9_8, e_9_11, e_9_12, e_9_13, e_9_14, e_9_15, e_9_16, e_9_18, e_9_20, e_9_23, e_9_24, e_9_25, e_9_28, e_9_31, e_9_32, e_9_35, e_9_38, e_9_40, e_9_42, e_9_45, e_9_48, e_9_49, e_9_52, e_9_53, e_9_56, e_9_59, e_9_60, e_9_61, e_9_62, e_9_65, e_9_66, e_9_67, e_9_68, e_9_69, e_9_72, e_9_75, e_9_78, e_9_81, e_9_82, e_9_84, e_9_86, e_9_87, e_9_88, e_9_89, e_9_90, e_9_91, e_9_92, e_9_94, e_9_95, e_9_96, e_9_97, e_9_100, e_9_101, e_9_104, e_9_105, e_9_108, e_9_111, e_9_114, e_9_117, e_9_118, lg_n, lg_i, lg_r, wd_nil, am_wd_i, am_wd_r, am_wd_l, am_gk_s, am_fld_s, List.getElem?_cons_zero, List.getElem?_cons_succ, am_bk_v, am_bk_n, bo_0, bo_1, am_pk_s, List.length_cons, List.length_nil, Nat.zero_add, List.set_cons_zero, List.set_cons_succ, Nat.reduceAdd, Nat.reduceLeDiff, Nat.reduceLT, i60, nI_ltI (show 60 < 2 ^ 31 by omega) (show 61 < 2 ^ 31 by omega), Nat.reduceLT, if_true, tgN]
  | succ j ih =>
    intro t T u st z h ht hT hu oR hF hh
    obtain ⟨k0, k1, -, k3, k4, k5, -, k7⟩ := hF.fl
    obtain ⟨g0, -⟩ := fl_house hF.2.2.1
    have hmi := missN_le (σ := st) hn
    have hnt := m_notThere (d := d + 2) hF.2.1 hh hn
    rw [show P.2.2.2.1 - cntN (fun p => st.2.2.1 p == 1) P.2.2.2.1 = missN P st from rfl] at hnt
    have hpw := m_peopleWho (d := d + 3) hF.2.1 hh hn 1
    have hb := bitsN_lt (fun q => sI (st.2.2.1 q) == 1) P.2.2.2.1
    have hb2 : 2 ^ P.2.2.2.1 ≤ 2 ^ 8 := Nat.pow_le_pow_right (by decide) hn
    unfold tgN
    by_cases hTL : T < Φ.2.1
    · rw [if_pos hTL]
      by_cases hm0 : missN P st = 0
      · refine ⟨st, ?_⟩
        rw [pH_self hh, if_pos hm0, e_9_17]
        simp only [e_9_0, e_9_1, e_9_4, e_9_5, e_9_8, e_9_11, e_9_12, e_9_13, e_9_14, e_9_15, e_9_16, e_9_18, e_9_20, e_9_23, e_9_24, e_9_25, e_9_28, e_9_31, e_9_32, e_9_35, e_9_38, e_9_40, e_9_42, e_9_45, e_9_48, e_9_49, e_9_52, e_9_53, e_9_56, e_9_59, e_9_60, e_9_61, e_9_62, e_9_65, e_9_66, e_9_67, e_9_68, e_9_69, e_9_72, e_9_75, e_9_78, e_9_81, e_9_82, e_9_84, e_9_86, e_9_87, e_9_88, e_9_89, e_9_90, e_9_91, e_9_92, e_9_94, e_9_95, e_9_96, e_9_97, e_9_100, e_9_101, e_9_104, e_9_105, e_9_108, e_9_111, e_9_114, e_9_117, e_9_118, lg_n, lg_i, lg_r, wd_nil, am_wd_i, am_wd_r, am_wd_l, am_gk_s, am_fld_s, List.getElem?_cons_zero, List.getElem?_cons_succ, am_bk_v, am_bk_n, bo_0, bo_1, am_pk_s, List.length_cons, List.length_nil, Nat.zero_add, List.set_cons_zero, List.set_cons_succ, Nat.reduceAdd, Nat.reduceLeDiff, Nat.reduceLT, i60, nI_ltI (show 60 < 2 ^ 31 by omega) (show t < 2 ^ 31 by omega), if_neg (show ¬ 60 < t by omega), k1, k5, nI_leI (show Φ.2.1 < 2 ^ 31 by omega) (show T < 2 ^ 31 by omega), if_neg (show ¬ Φ.2.1 ≤ T by omega), is_house hh, hnt, z_nI (show missN P st < 2 ^ 31 by omega), if_pos hm0]
      · rw [if_neg hm0]
        have key : ∀ u', u' ≤ t + 1 → (if noR P st then u + 1 else 0) = u' → am_ev (d + 4) 9 17 [some (.ref v), some (.int (nI T)), some (.int (nI u)), some (.int (nI t)), z] [] h = am_ev (d + 4) 9 67 [some (.ref v), some (.int (nI T)), some (.int (nI u')), some (.int (nI t)), some (.int (nI (missN P st)))] [] h := by
          intro u' hu' hue
          rw [e_9_17]
          simp only [e_9_0, e_9_1, e_9_4, e_9_5, e_9_8, e_9_11, e_9_12, e_9_13, e_9_14, e_9_15, e_9_16, e_9_18, e_9_20, e_9_23, e_9_24, e_9_25, e_9_28, e_9_31, e_9_32, e_9_35, e_9_38, e_9_40, e_9_42, e_9_45, e_9_48, e_9_49, e_9_52, e_9_53, e_9_56, e_9_59, e_9_60, e_9_61, e_9_62, e_9_65, e_9_66, e_9_68, e_9_69, e_9_72, e_9_75, e_9_78, e_9_81, e_9_82, e_9_84, e_9_86, e_9_87, e_9_88, e_9_89, e_9_90, e_9_91, e_9_92, e_9_94, e_9_95, e_9_96, e_9_97, e_9_100, e_9_101, e_9_104, e_9_105, e_9_108, e_9_111, e_9_114, e_9_117, e_9_118, lg_n, lg_i, lg_r, wd_nil, am_wd_i, am_wd_r, am_wd_l, am_gk_s, am_fld_s, List.getElem?_cons_zero, List.getElem?_cons_succ, am_bk_v, am_bk_n, bo_0, bo_1, am_pk_s, List.length_cons, List.length_nil, Nat.zero_add, List.set_cons_zero, List.set_cons_succ, Nat.reduceAdd, Nat.reduceLeDiff, Nat.reduceLT, i60, nI_ltI (show 60 < 2 ^ 31 by omega) (show t < 2 ^ 31 by omega), if_neg (show ¬ 60 < t by omega), k1, k5, nI_leI (show Φ.2.1 < 2 ^ 31 by omega) (show T < 2 ^ 31 by omega), if_neg (show ¬ Φ.2.1 ≤ T by omega), is_house hh, hnt, z_nI (show missN P st < 2 ^ 31 by omega), if_neg hm0, hpw, z_nI (show bitsN (fun q => sI (st.2.2.1 q) == 1) P.2.2.2.1 < 2 ^ 31 by omega), nI_1]
          by_cases hr : bitsN (fun q => sI (st.2.2.1 q) == 1) P.2.2.2.1 = 0
          · rw [if_pos (show noR P st = true by unfold noR; rw [hr]; rfl)] at hue
            rw [if_pos hr, hue]
          · rw [if_neg (show ¬ noR P st = true by unfold noR; rw [beq_iff_eq]; exact hr)] at hue
            rw [if_neg hr, ← hue]
            rfl
        have hu' : (if noR P st then u + 1 else 0) ≤ t + 1 := by split <;> omega
        generalize hue : (if noR P st then u + 1 else 0) = u' at hu' ⊢
        have key' := key u' hu' hue
        by_cases hur : 2 * P.1 < u'
        · refine ⟨st, ?_⟩
          rw [pH_self hh, if_pos hur, key']
          simp only [e_9_0, e_9_1, e_9_4, e_9_5, e_9_8, e_9_11, e_9_12, e_9_13, e_9_14, e_9_15, e_9_16, e_9_18, e_9_20, e_9_23, e_9_24, e_9_25, e_9_28, e_9_31, e_9_32, e_9_35, e_9_38, e_9_40, e_9_42, e_9_45, e_9_48, e_9_49, e_9_52, e_9_53, e_9_56, e_9_59, e_9_60, e_9_61, e_9_62, e_9_65, e_9_66, e_9_67, e_9_68, e_9_69, e_9_72, e_9_75, e_9_78, e_9_81, e_9_82, e_9_84, e_9_86, e_9_87, e_9_88, e_9_89, e_9_90, e_9_91, e_9_92, e_9_94, e_9_95, e_9_96, e_9_97, e_9_100, e_9_101, e_9_104, e_9_105, e_9_108, e_9_111, e_9_114, e_9_117, e_9_118, lg_n, lg_i, lg_r, wd_nil, am_wd_i, am_wd_r, am_wd_l, am_gk_s, am_fld_s, List.getElem?_cons_zero, List.getElem?_cons_succ, am_bk_v, am_bk_n, bo_0, bo_1, am_pk_s, List.length_cons, List.length_nil, Nat.zero_add, List.set_cons_zero, List.set_cons_succ, Nat.reduceAdd, Nat.reduceLeDiff, Nat.reduceLT, k0, g0, is_plan hF.2.1, m_ring hF.2.1, nI_leI (show u' < 2 ^ 31 by omega) (show 2 * P.1 < 2 ^ 31 by omega), if_neg (show ¬ u' ≤ 2 * P.1 by omega), i61]
          rw [pk_sub (by omega), pk_mul, nI_add]
        · rw [if_neg hur, key']
          have hal := m_advance (d := d) (n := Φ.1) (m := 6) (l := v + 2) (L := Φ.2.2.2.2) hF.1 hF.2.1 hh oP oR (by omega) (by have := hF.2.2.2.2.2.1; omega) hF.2.2.2.2.2.1.2.2.2 hf (Or.inl rfl) hF.2.2.2.2.2.2.2 (fun i hi => ar_at (show i < 6 by omega)) (by have := hF.2.2.2.2.2.1; omega) (fun i hi => Nat.lt_trans (hl8 i hi) (by decide)) hw (by decide)
          obtain ⟨τ', e'⟩ := ih (t + 1) (T + missN P st) u' (advN P Φ.2.2.2.2 Φ.1 st) (some (.int (nI (missN P st)))) (pH h l b (advN P Φ.2.2.2.2 Φ.1 st)) (by omega) (by omega) (by omega) (oR.adv oP.1 _) (hF.put _) (HouseAt_pH _ _ _ _)
          rw [pH_pH] at e'
          refine ⟨τ', ?_⟩
          simp only [e_9_0, e_9_1, e_9_4, e_9_5, e_9_8, e_9_11, e_9_12, e_9_13, e_9_14, e_9_15, e_9_16, e_9_18, e_9_20, e_9_23, e_9_24, e_9_25, e_9_28, e_9_31, e_9_32, e_9_35, e_9_38, e_9_40, e_9_42, e_9_45, e_9_48, e_9_49, e_9_52, e_9_53, e_9_56, e_9_59, e_9_60, e_9_61, e_9_62, e_9_65, e_9_66, e_9_67, e_9_68, e_9_69, e_9_72, e_9_75, e_9_78, e_9_81, e_9_82, e_9_84, e_9_86, e_9_87, e_9_88, e_9_89, e_9_90, e_9_91, e_9_92, e_9_94, e_9_95, e_9_96, e_9_97, e_9_100, e_9_101, e_9_104, e_9_105, e_9_108, e_9_111, e_9_114, e_9_117, e_9_118, lg_n, lg_i, lg_r, wd_nil, am_wd_i, am_wd_r, am_wd_l, am_gk_s, am_fld_s, List.getElem?_cons_zero, List.getElem?_cons_succ, am_bk_v, am_bk_n, bo_0, bo_1, am_pk_s, List.length_cons, List.length_nil, Nat.zero_add, List.set_cons_zero, List.set_cons_succ, Nat.reduceAdd, Nat.reduceLeDiff, Nat.reduceLT, k0, k1, k3, k4, g0, is_plan hF.2.1, m_ring hF.2.1, nI_leI (show u' < 2 ^ 31 by omega) (show 2 * P.1 < 2 ^ 31 by omega), if_pos (show u' ≤ 2 * P.1 by omega), is_house hh, hal, nI_add, nI_1]
          exact e'
    · refine ⟨st, ?_⟩
      rw [pH_self hh, if_neg hTL, e_9_17]
      simp only [e_9_0, e_9_1, e_9_4, e_9_5, e_9_8, e_9_11, e_9_12, e_9_13, e_9_14, e_9_15, e_9_16, e_9_18, e_9_20, e_9_23, e_9_24, e_9_25, e_9_28, e_9_31, e_9_32, e_9_35, e_9_38, e_9_40, e_9_42, e_9_45, e_9_48, e_9_49, e_9_52, e_9_53, e_9_56, e_9_59, e_9_60, e_9_61, e_9_62, e_9_65, e_9_66, e_9_67, e_9_68, e_9_69, e_9_72, e_9_75, e_9_78, e_9_81, e_9_82, e_9_84, e_9_86, e_9_87, e_9_88, e_9_89, e_9_90, e_9_91, e_9_92, e_9_94, e_9_95, e_9_96, e_9_97, e_9_100, e_9_101, e_9_104, e_9_105, e_9_108, e_9_111, e_9_114, e_9_117, e_9_118, lg_n, lg_i, lg_r, wd_nil, am_wd_i, am_wd_r, am_wd_l, am_gk_s, am_fld_s, List.getElem?_cons_zero, List.getElem?_cons_succ, am_bk_v, am_bk_n, bo_0, bo_1, am_pk_s, List.length_cons, List.length_nil, Nat.zero_add, List.set_cons_zero, List.set_cons_succ, Nat.reduceAdd, Nat.reduceLeDiff, Nat.reduceLT, i60, nI_ltI (show 60 < 2 ^ 31 by omega) (show t < 2 ^ 31 by omega), if_neg (show ¬ 60 < t by omega), k5, nI_leI (show Φ.2.1 < 2 ^ 31 by omega) (show T < 2 ^ 31 by omega), if_pos (show Φ.2.1 ≤ T by omega)]
theorem m_together (hF : FS h v n l b P σ Φ) (oP : OKP P) (hf : P.1 ≤ 15) {m0 : Nat} (oR : OKR P σ m0) (hm : m0 + 62 < 2 ^ 28) (hw : Φ.1 ≤ 6) (hL : Φ.2.1 < 2 ^ 20) (hl8 : ∀ i, i < Φ.1 → Φ.2.2.2.2 i < 8) : ∃ τ', am_cal (d + 5) 9 [.ref v] h = some (some (.int (nI (tgN P Φ.1 Φ.2.2.2.2 Φ.2.1 61 0 0 0 σ))), pH h l b τ') := by
  obtain ⟨τ', e'⟩ := l_together (d := d) (v := v) (n := n) (l := l) (b := b) (σ := σ) oP hf hm hw hL hl8 61 0 0 0 σ none (pH h l b σ) (by omega) (by omega) (by omega) oR (hF.put σ) (HouseAt_pH _ _ _ _)
  rw [pH_pH] at e'
  refine ⟨τ', ?_⟩
  refine (b_9 _ _ _).trans ?_; show am_ev _ 9 0 [some (.ref v), none, none, none, none] [] _ = _
  obtain ⟨k0, k1, -⟩ := hF.fl
  simp only [e_9_0, e_9_1, e_9_4, e_9_5, e_9_8, e_9_11, e_9_12, e_9_13, e_9_14, e_9_15, e_9_16, lg_n, lg_i, lg_r, wd_nil, am_wd_i, am_wd_r, am_wd_l, am_gk_s, am_fld_s, List.getElem?_cons_zero, List.getElem?_cons_succ, am_bk_v, am_bk_n, bo_0, bo_1, am_pk_s, List.length_cons, List.length_nil, Nat.zero_add, List.set_cons_zero, List.set_cons_succ, Nat.reduceAdd, Nat.reduceLeDiff, Nat.reduceLT, k0, k1, is_raw hF.2.2.2.1, m_takeNow hF]
  exact e'
theorem ar_cpyw {w : Nat} {f g : Nat → Int32} (hw : w ≤ 6) : va_cpy (ar 6 f) (ar 6 g) 0 0 w = ar 6 (fun k => if k < w then f k else g k) := by
  funext k
  by_cases hk : k < w
  · rw [pk_cpy_in (by omega) (by omega), ar_at (by omega), Nat.zero_add, Nat.sub_zero, ar_at (by omega), if_pos hk]
  · rw [pk_cpy_out (by omega)]
    unfold ar
    split
    · simp only [if_neg hk]
    · rfl
theorem c_7_74 {ls : am_L} {a c w : Nat} {f g : Nat → Int32} (hw : w ≤ 6) (h0 : am_at h c = some (AI 6 f)) (h1 : am_at h a = some (AI 6 g)) : am_ev (d + 1) 7 74 ls [.int (nI w), .int 0, .ref a, .int 0, .ref c] h = am_ev (d + 1) 7 77 ls [] (am_set h a (AI 6 (fun k => if k < w then f k else g k))) := by
  have := e_7_74 (d := d) (ls := ls) (st := []) (sp := 0) (dp := 0) (n := w) (by simp [am_wd]) h0 h1 (by omega) (by omega) (by decide)
  rw [ar_cpyw hw] at this
  exact this
theorem l_find (oP : OKP P) (hf : P.1 ≤ 15) {m0 : Nat} (oR : OKR P σ m0) (hm : m0 + 62 < 2 ^ 28) : ∀ j (t : Nat) (z : Option Value) (h : am_H) (Φ : Fo), t + j = 720 → FS h v n l b P σ Φ → Φ.1 ≤ 6 → Φ.2.1 ≤ 489 → (∀ i, i < 6 → Φ.2.2.2.2 i < 8) → (∀ i, i < Φ.1 → Φ.2.2.2.2 i < P.2.2.2.1) → ∃ h', am_ev (d + 5) 7 21 [some (.ref v), some (.int (nI t)), z] [] h = some (none, h') ∧ FS h' v n l b P σ (Φ.1, (ordN P σ Φ.1 j Φ.2.1 Φ.2.2.2.1 Φ.2.2.2.2).1, 1, (ordN P σ Φ.1 j Φ.2.1 Φ.2.2.2.1 Φ.2.2.2.2).2) ∧ FV h h' v l := by
  intro j
  have hn := oP.2.2.2.1
  have e720 : (720 : Int32) = nI 720 := by decide +kernel
  have fin : ∀ (x1 x2 : Option Value) (h : am_H) (Φ : Fo), FS h v n l b P σ Φ → am_ev (d + 5) 7 93 [some (.ref v), x1, x2] [] h = some (none, am_set h v (fore0 v n l (Φ.1, Φ.2.1, 1, Φ.2.2.2))) ∧ FS (am_set h v (fore0 v n l (Φ.1, Φ.2.1, 1, Φ.2.2.2))) v n l b P σ (Φ.1, Φ.2.1, 1, Φ.2.2.2) ∧ FV h (am_set h v (fore0 v n l (Φ.1, Φ.2.1, 1, Φ.2.2.2))) v l := by
    intro x1 x2 h Φ hF
    have h5 := hF.2.2.2.2.1
    unfold fore0 at h5
    refine ⟨?_, hF.obj _ _ _, FV.set (Nat.le_refl _) (by omega) hF.2.2.2.2.2.1.2.2.1⟩
    simp only [e_7_93, e_7_94, e_7_95, e_7_98, lg_n, lg_i, lg_r, wd_nil, am_wd_i, am_wd_r, am_wd_l, am_gk_s, am_fld_s, List.getElem?_cons_zero, List.getElem?_cons_succ, am_bk_v, am_bk_n, bo_0, bo_1, am_pk_s, List.length_cons, List.length_nil, Nat.zero_add, List.set_cons_zero, List.set_cons_succ, Nat.reduceAdd, Nat.reduceLeDiff, Nat.reduceLT, h5, eq_self, or_true]
    rfl
  induction j with
  | zero =>
    intro t z h Φ ht hF hw hL hl8 hlp
    have : t = 720 := by omega
    subst this
    obtain ⟨a1, a2, a3⟩ := fin (some (.int (nI 720))) z h Φ hF
    refine ⟨_, ?_, a2, a3⟩
    rw [e_7_21]
    simp only [e_7_22, e_7_25, lg_n, lg_i, lg_r, wd_nil, am_wd_i, am_wd_r, am_wd_l, am_gk_s, am_fld_s, List.getElem?_cons_zero, List.getElem?_cons_succ, am_bk_v, am_bk_n, bo_0, bo_1, am_pk_s, List.length_cons, List.length_nil, Nat.zero_add, List.set_cons_zero, List.set_cons_succ, Nat.reduceAdd, Nat.reduceLeDiff, Nat.reduceLT, e720, nI_leI (show 720 < 2 ^ 31 by omega) (show 720 < 2 ^ 31 by omega), if_pos (Nat.le_refl 720)]
    exact a1
  | succ j ih =>
    intro t z h Φ ht hF hw hL hl8 hlp
    obtain ⟨-, -, -, -, k4, k5, -, k7⟩ := hF.fl
    have hlk := m_like (d := d + 3) hF oP hlp hw
    obtain ⟨τ', htg⟩ := m_together (d := d) hF oP hf oR hm hw (by omega) (fun i hi => by have := hlp i hi; omega)
    have hT : ∃ T h1, T = (if likeN P Φ.2.2.2.2 (Φ.1 - 1) 0 then Φ.2.1 else tgN P Φ.1 Φ.2.2.2.2 Φ.2.1 61 0 0 0 σ) ∧ T ≤ 489 ∧ LB h h1 l b ∧ am_ev (d + 5) 7 21 [some (.ref v), some (.int (nI t)), z] [] h = am_ev (d + 5) 7 47 [some (.ref v), some (.int (nI t)), some (.int (nI T))] [] h1 := by
      by_cases hl : likeN P Φ.2.2.2.2 (Φ.1 - 1) 0 = true
      · refine ⟨Φ.2.1, h, by rw [if_pos hl], hL, LB.rf, ?_⟩
        rw [e_7_21]
        simp only [e_7_22, e_7_25, e_7_28, e_7_29, e_7_32, e_7_35, e_7_36, e_7_39, e_7_42, e_7_43, e_7_46, lg_n, lg_i, lg_r, wd_nil, am_wd_i, am_wd_r, am_wd_l, am_gk_s, am_fld_s, List.getElem?_cons_zero, List.getElem?_cons_succ, am_bk_v, am_bk_n, bo_0, bo_1, am_pk_s, List.length_cons, List.length_nil, Nat.zero_add, List.set_cons_zero, List.set_cons_succ, Nat.reduceAdd, Nat.reduceLeDiff, Nat.reduceLT, e720, nI_leI (show 720 < 2 ^ 31 by omega) (show t < 2 ^ 31 by omega), if_neg (show ¬ 720 ≤ t by omega), k5, k7, hlk, if_pos hl, one_ne, if_false]
      · have := tgN_le P Φ.1 Φ.2.2.2.2 Φ.2.1 hn 61 0 0 0 σ (by omega) (by omega)
        refine ⟨_, pH h l b τ', by rw [if_neg hl], by omega, LB.mk _, ?_⟩
        rw [e_7_21]
        simp only [e_7_22, e_7_25, e_7_28, e_7_29, e_7_32, e_7_35, e_7_36, e_7_39, e_7_42, e_7_43, e_7_46, lg_n, lg_i, lg_r, wd_nil, am_wd_i, am_wd_r, am_wd_l, am_gk_s, am_fld_s, List.getElem?_cons_zero, List.getElem?_cons_succ, am_bk_v, am_bk_n, bo_0, bo_1, am_pk_s, List.length_cons, List.length_nil, Nat.zero_add, List.set_cons_zero, List.set_cons_succ, Nat.reduceAdd, Nat.reduceLeDiff, Nat.reduceLT, e720, nI_leI (show 720 < 2 ^ 31 by omega) (show t < 2 ^ 31 by omega), if_neg (show ¬ 720 ≤ t by omega), k5, k7, hlk, if_neg hl, htg, if_true]
    obtain ⟨T, h1, hTe, hT9, hlb, hev⟩ := hT
    have hF1 := hF.lb hlb
    obtain ⟨-, -, r2, r3, r4, r5, -, r7⟩ := hF1.fl
    have hU : ∃ h2, am_ev (d + 5) 7 47 [some (.ref v), some (.int (nI t)), some (.int (nI T))] [] h1 = am_ev (d + 5) 7 77 [some (.ref v), some (.int (nI t)), some (.int (nI T))] [] h2 ∧ FS h2 v n l b P σ (Φ.1, if T < Φ.2.1 then T else Φ.2.1, Φ.2.2.1, if T < Φ.2.1 then (fun k => if k < Φ.1 then Φ.2.2.2.2 k else Φ.2.2.2.1 k) else Φ.2.2.2.1, Φ.2.2.2.2) ∧ FV h1 h2 v l := by
      by_cases hlt : T < Φ.2.1
      · have hF2 := hF1.obj Φ.1 T Φ.2.2.1
        obtain ⟨-, -, s2, s3, s4, s5, -, s7⟩ := hF2.fl
        have h5 := hF1.2.2.2.2.1
        unfold fore0 at h5
        refine ⟨am_set (am_set h1 v (fore0 v n l (Φ.1, T, Φ.2.2.1, Φ.2.2.2))) (v + 1) (AI 6 (fun i => nI ((fun k => if k < Φ.1 then Φ.2.2.2.2 k else Φ.2.2.2.1 k) i))), ?_, ?_, FV.tr (FV.set (Nat.le_refl _) (by omega) hF.2.2.2.2.2.1.2.2.1) (FV.set (by omega) (by omega) hF.2.2.2.2.2.1.2.2.1)⟩
        · have hc := c_7_74 (d := d + 4) (ls := [some (.ref v), some (.int (nI t)), some (.int (nI T))]) hw hF2.2.2.2.2.2.2.2 hF2.2.2.2.2.2.2.1
          have hfe : (fun k => if k < Φ.1 then nI (Φ.2.2.2.2 k) else nI (Φ.2.2.2.1 k)) = fun i => nI ((fun k => if k < Φ.1 then Φ.2.2.2.2 k else Φ.2.2.2.1 k) i) := by
            funext k
            simp only
            split <;> rfl
          simp only [e_7_47, e_7_48, e_7_49, e_7_52, e_7_55, e_7_56, e_7_57, lg_n, lg_i, lg_r, wd_nil, am_wd_i, am_wd_r, am_wd_l, am_gk_s, am_fld_s, List.getElem?_cons_zero, List.getElem?_cons_succ, am_bk_v, am_bk_n, bo_0, bo_1, am_pk_s, List.length_cons, List.length_nil, Nat.zero_add, List.set_cons_zero, List.set_cons_succ, Nat.reduceAdd, Nat.reduceLeDiff, Nat.reduceLT, r5, nI_leI (show Φ.2.1 < 2 ^ 31 by omega) (show T < 2 ^ 31 by omega), if_neg (show ¬ Φ.2.1 ≤ T by omega), h5]
          change am_ev (d + 5) 7 60 _ _ (am_set h1 v (fore0 v n l (Φ.1, T, Φ.2.2.1, Φ.2.2.2))) = _
          simp only [e_7_60, e_7_61, e_7_64, e_7_65, e_7_66, e_7_69, e_7_70, e_7_71, lg_n, lg_i, lg_r, wd_nil, am_wd_i, am_wd_r, am_wd_l, am_gk_s, am_fld_s, List.getElem?_cons_zero, List.getElem?_cons_succ, am_bk_v, am_bk_n, bo_0, bo_1, am_pk_s, List.length_cons, List.length_nil, Nat.zero_add, List.set_cons_zero, List.set_cons_succ, Nat.reduceAdd, Nat.reduceLeDiff, Nat.reduceLT, s2, s3, s4]
          refine Eq.trans hc ?_
          rw [hfe]
        · rw [if_pos hlt, if_pos hlt]
          exact hF2.best _
      · refine ⟨h1, ?_, ?_, FV.rf⟩
        · simp only [e_7_47, e_7_48, e_7_49, e_7_52, e_7_55, e_7_56, e_7_57, lg_n, lg_i, lg_r, wd_nil, am_wd_i, am_wd_r, am_wd_l, am_gk_s, am_fld_s, List.getElem?_cons_zero, List.getElem?_cons_succ, am_bk_v, am_bk_n, bo_0, bo_1, am_pk_s, List.length_cons, List.length_nil, Nat.zero_add, List.set_cons_zero, List.set_cons_succ, Nat.reduceAdd, Nat.reduceLeDiff, Nat.reduceLT, r5, nI_leI (show Φ.2.1 < 2 ^ 31 by omega) (show T < 2 ^ 31 by omega), if_pos (show Φ.2.1 ≤ T by omega)]
        · rw [if_neg hlt, if_neg hlt]; exact hF1
    obtain ⟨h2, hev2, hF2, hV2⟩ := hU
    obtain ⟨-, -, -, -, -, -, -, s7⟩ := hF2.fl
    have hnx := m_nextLine (d := d + 3) hF2 hl8 hw
    have hVa : FV h h2 v l := (FV.lb hF.2.2.2.2.2.1.2.2.1 hlb).tr hV2
    rw [hev, hev2]
    unfold ordN
    rw [← hTe]
    simp only
    simp only at hnx
    cases hne : nextN Φ.1 Φ.2.2.2.2 with
    | none =>
      rw [hne] at hnx
      obtain ⟨a1, a2, a3⟩ := fin (some (.int (nI t))) (some (.int (nI T))) h2 _ hF2
      refine ⟨_, ?_, a2, hVa.tr a3⟩
      simp only [e_7_77, e_7_78, e_7_81, e_7_84, e_7_87, e_7_90, lg_n, lg_i, lg_r, wd_nil, am_wd_i, am_wd_r, am_wd_l, am_gk_s, am_fld_s, List.getElem?_cons_zero, List.getElem?_cons_succ, am_bk_v, am_bk_n, bo_0, bo_1, am_pk_s, List.length_cons, List.length_nil, Nat.zero_add, List.set_cons_zero, List.set_cons_succ, Nat.reduceAdd, Nat.reduceLeDiff, Nat.reduceLT, s7, hnx, if_true, not_true_eq_false, if_false]
      exact a1
    | some f' =>
      rw [hne] at hnx
      have hF3 := hF2.line f'
      obtain ⟨h', e', F', V'⟩ := ih (t + 1) (some (.int (nI T))) _ _ (by omega) hF3 hw (by simp only; split <;> omega) (nextN_bd hl8 hw hne) (nextN_bd hlp (Nat.le_refl _) hne)
      refine ⟨h', ?_, F', (hVa.tr (FV.set (by omega) (by omega) hF.2.2.2.2.2.1.2.2.1)).tr V'⟩
      simp only [e_7_77, e_7_78, e_7_81, e_7_84, e_7_87, e_7_90, lg_n, lg_i, lg_r, wd_nil, am_wd_i, am_wd_r, am_wd_l, am_gk_s, am_fld_s, List.getElem?_cons_zero, List.getElem?_cons_succ, am_bk_v, am_bk_n, bo_0, bo_1, am_pk_s, List.length_cons, List.length_nil, Nat.zero_add, List.set_cons_zero, List.set_cons_succ, Nat.reduceAdd, Nat.reduceLeDiff, Nat.reduceLT, s7, hnx, one_ne, not_false_eq_true, if_true, if_false, nI_1]
      exact e'
theorem m_findOrder (hF : FS h v n l b P σ Φ) (oP : OKP P) (hf : P.1 ≤ 15) {m0 : Nat} (oR : OKR P σ m0) (hm : m0 + 62 < 2 ^ 28) (hk : Φ.2.2.1 = 0) (hl8 : ∀ i, i < 6 → Φ.2.2.2.2 i < 8) : ∃ h', am_cal (d + 6) 7 [.ref v] h = some (none, h') ∧ FS h' v n l b P σ ((upN P σ Φ.2.2.2.2 8).1, (ordN P σ (upN P σ Φ.2.2.2.2 8).1 720 489 Φ.2.2.2.1 (upN P σ Φ.2.2.2.2 8).2).1, 1, (ordN P σ (upN P σ Φ.2.2.2.2 8).1 720 489 Φ.2.2.2.1 (upN P σ Φ.2.2.2.2 8).2).2) ∧ FV h h' v l := by
  obtain ⟨N, hN⟩ : ∃ N : Nat, N = 720 := ⟨_, rfl⟩
  rw [← hN]
  obtain ⟨-, -, -, -, -, -, k6, k7⟩ := hF.fl
  obtain ⟨h1, e1, F1, V1⟩ := m_lineUp (d := d + 3) hF oP
  have a1 := upN_le P σ Φ.2.2.2.2 8
  have a2 := upN_8 P σ Φ.2.2.2.2 oP.2.2.2.1 hl8 8
  have a3 := fun i hi => (upN_bd P σ Φ.2.2.2.2 8 i hi).1
  generalize upN P σ Φ.2.2.2.2 8 = U at *
  have F2 := F1.obj U.1 489 Φ.2.2.1
  obtain ⟨h', e', F', V'⟩ := l_find (d := d) oP hf oR hm N 0 none _ _ (by omega) F2 a1 (Nat.le_refl _) a2 a3
  refine ⟨h', ?_, F', (V1.tr (FV.set (Nat.le_refl _) (by omega) hF.2.2.2.2.2.1.2.2.1)).tr V'⟩
  have h5 := F1.2.2.2.2.1
  unfold fore0 at h5
  have e489 : (489 : Int32) = nI 489 := by decide +kernel
  refine (b_7 _ _ _).trans ?_; show am_ev _ 7 0 [some (.ref v), none, none] [] _ = _
  simp only [e_7_0, e_7_1, e_7_4, e_7_7, e_7_8, e_7_9, e_7_12, e_7_13, e_7_16, e_7_19, e_7_20, lg_n, lg_i, lg_r, wd_nil, am_wd_i, am_wd_r, am_wd_l, am_gk_s, am_fld_s, List.getElem?_cons_zero, List.getElem?_cons_succ, am_bk_v, am_bk_n, bo_0, bo_1, am_pk_s, List.length_cons, List.length_nil, Nat.zero_add, List.set_cons_zero, List.set_cons_succ, Nat.reduceAdd, Nat.reduceLeDiff, Nat.reduceLT, k6, k7, hk, if_true, e1, h5, e489]
  unfold fore0 at e'
  simp only [hk] at e'
  exact e'
theorem m_findKnown (hF : FS h v n l b P σ Φ) (hk : Φ.2.2.1 = 1) : am_cal (d + 1) 7 [.ref v] h = some (none, h) := by
  obtain ⟨-, -, -, -, -, -, k6, k7⟩ := hF.fl
  refine (b_7 _ _ _).trans ?_; show am_ev _ 7 0 [some (.ref v), none, none] [] _ = _
  simp only [e_7_0, e_7_1, e_7_4, e_7_7, e_7_8, lg_n, lg_i, lg_r, wd_nil, am_wd_i, am_wd_r, am_wd_l, am_gk_s, am_fld_s, List.getElem?_cons_zero, List.getElem?_cons_succ, am_bk_v, am_bk_n, bo_0, bo_1, am_pk_s, List.length_cons, List.length_nil, Nat.zero_add, List.set_cons_zero, List.set_cons_succ, Nat.reduceAdd, Nat.reduceLeDiff, Nat.reduceLT, k6, hk, one_ne, if_false]
end FO
