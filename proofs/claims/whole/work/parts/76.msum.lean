/-! the model's order: laid turns, the sum of all -/
theorem cnt_ge {P : Pn} {g : Nat → Bool} (hg : ∀ q, P.2.2.2.1 ≤ q → g q = false) : ∀ k, cntN g (P.2.2.2.1 + k) = cntN g P.2.2.2.1
  | 0 => rfl
  | k + 1 => by
    rw [← Nat.add_assoc, cntN, cnt_ge hg k, if_neg (by rw [hg _ (by omega)]; decide), Nat.add_zero]
def wtN (P : Pn) (σ : Hn) (q : Nat) : Bool := decide (q < P.2.2.2.1) && σ.2.2.1 q == 0
def tnN (P : Pn) (σ : Hn) (L : Nat → Nat) : Nat → Nat := (lyT (fun q => !wtN P σ q) (lyT (wtN P σ) (0, L) 8) 8).2
theorem up_lyT (P : Pn) (σ : Hn) (L f0 : Nat → Nat) : ∀ p, cntN (wtN P σ) p ≤ 6 → (lyT (wtN P σ) (0, L) p).1 = (upN P σ f0 p).1 ∧ ∀ i, i < (upN P σ f0 p).1 → (lyT (wtN P σ) (0, L) p).2 i = (upN P σ f0 p).2 i
  | 0, _ => ⟨rfl, fun i hi => absurd hi (Nat.not_lt_zero i)⟩
  | p + 1, h => by
    have hc : cntN (wtN P σ) (p + 1) = cntN (wtN P σ) p + (if wtN P σ p = true then 1 else 0) := rfl
    obtain ⟨i1, i2⟩ := up_lyT P σ L f0 p (by omega)
    have h1 := lyT_1 (wtN P σ) (0, L) p
    simp only [Nat.zero_add] at h1
    unfold lyT upN
    by_cases c : wtN P σ p = true
    · rw [if_pos c] at hc
      have c' : p < P.2.2.2.1 ∧ σ.2.2.1 p = 0 := by
        unfold wtN at c
        rw [Bool.and_eq_true, decide_eq_true_eq, beq_iff_eq] at c
        exact c
      rw [if_pos c, if_pos ⟨by omega, c'⟩]
      refine ⟨by simp only; omega, fun i hi => ?_⟩
      simp only at hi ⊢
      unfold updn
      rw [i1]
      by_cases e : i = (upN P σ f0 p).1
      · rw [if_pos e, if_pos e]
      · rw [if_neg e, if_neg e]; exact i2 i (by omega)
    · have c' : ¬ (p < P.2.2.2.1 ∧ σ.2.2.1 p = 0) := by
        unfold wtN at c
        rw [Bool.and_eq_true, decide_eq_true_eq, beq_iff_eq] at c
        exact c
      rw [if_neg c, if_neg (fun z => c' z.2)]
      exact ⟨i1, i2⟩
theorem wt_ge (P : Pn) (σ : Hn) : ∀ q, P.2.2.2.1 ≤ q → wtN P σ q = false := by
  intro q hq
  unfold wtN
  rw [decide_eq_false (by omega)]
  rfl
theorem wt_cnt {P : Pn} {σ : Hn} (hn : P.2.2.2.1 ≤ 8) : cntN (wtN P σ) 8 = cntN (fun q => σ.2.2.1 q == 0) P.2.2.2.1 := cnt_8 hn
theorem tn_hi {P : Pn} {σ : Hn} {R : Nat × (Nat → Nat)} (hn : P.2.2.2.1 ≤ 8) (hR : R.1 = cntN (wtN P σ) 8) : ∀ p, p ≤ 8 → ∀ i, R.1 ≤ i → i < (lyT (fun q => !wtN P σ q) R p).1 → (lyT (fun q => !wtN P σ q) R p).2 i < P.2.2.2.1 ∨ P.2.2.2.1 ≤ i
  | 0, _, i, h1, h2 => absurd h2 (by unfold lyT; omega)
  | p + 1, hp, i, h1, h2 => by
    have ih := tn_hi hn hR p (by omega) i h1
    have l1 := lyT_1 (fun q => !wtN P σ q) R p
    have l2 := cnt_not (wtN P σ) p
    unfold lyT at h2 ⊢
    by_cases c : (!wtN P σ p) = true
    · rw [if_pos c] at h2 ⊢
      simp only at h2 ⊢
      unfold updn
      by_cases e : i = (lyT (fun q => !wtN P σ q) R p).1
      · rw [if_pos e]
        by_cases hpn : p < P.2.2.2.1
        · exact Or.inl hpn
        · right
          have g1 := cnt_ge (wt_ge P σ) (p - P.2.2.2.1)
          have g2 := cnt_ge (wt_ge P σ) (8 - P.2.2.2.1)
          rw [show P.2.2.2.1 + (p - P.2.2.2.1) = p by omega] at g1
          rw [show P.2.2.2.1 + (8 - P.2.2.2.1) = 8 by omega] at g2
          omega
      · rw [if_neg e]; exact ih (by omega)
    · rw [if_neg c] at h2 ⊢
      exact ih h2
theorem tn_ok {P : Pn} {σ : Hn} (hn : P.2.2.2.1 ≤ 8) (L f0 : Nat → Nat) : (cntN (fun q => σ.2.2.1 q == 0) P.2.2.2.1 ≤ 6 → ∀ i, i < cntN (fun q => σ.2.2.1 q == 0) P.2.2.2.1 → tnN P σ L i = (upN P σ f0 8).2 i) ∧ (∀ i, i < 8 → tnN P σ L i < 8) ∧ (∀ i, i < P.2.2.2.1 → tnN P σ L i < P.2.2.2.1) ∧ ∀ i, cntN (fun q => σ.2.2.1 q == 0) P.2.2.2.1 ≤ i → i < P.2.2.2.1 → σ.2.2.1 (tnN P σ L i) ≠ 0 := by
  rw [← wt_cnt hn]
  have a1 := lyT_1 (wtN P σ) (0, L) 8
  simp only [Nat.zero_add] at a1
  have a2 := lyT_1 (fun q => !wtN P σ q) (lyT (wtN P σ) (0, L) 8) 8
  have a3 := cnt_not (wtN P σ) 8
  have hlo : ∀ i, i < cntN (wtN P σ) 8 → tnN P σ L i = (lyT (wtN P σ) (0, L) 8).2 i := fun i hi => lyT_lo _ _ 8 i (by omega)
  have hw1 : ∀ q, wtN P σ q = true → q < P.2.2.2.1 := by
    intro q c
    unfold wtN at c
    rw [Bool.and_eq_true, decide_eq_true_eq, beq_iff_eq] at c
    exact c.1
  have hlo2 : ∀ i, i < cntN (wtN P σ) 8 → tnN P σ L i < P.2.2.2.1 := by
    intro i hi
    rw [hlo i hi]
    exact hw1 _ (lyT_hi (wtN P σ) (0, L) 8 i (Nat.zero_le _) (by omega)).2
  have hhi : ∀ i, cntN (wtN P σ) 8 ≤ i → i < 8 → tnN P σ L i < 8 ∧ wtN P σ (tnN P σ L i) = false := by
    intro i h1 h2
    have := lyT_hi (fun q => !wtN P σ q) (lyT (wtN P σ) (0, L) 8) 8 i (by omega) (by omega)
    exact ⟨this.1, by have h7 := this.2; rw [Bool.not_eq_true'] at h7; exact h7⟩
  have hb : ∀ i, i < P.2.2.2.1 → tnN P σ L i < P.2.2.2.1 := by
    intro i hi
    by_cases c : i < cntN (wtN P σ) 8
    · exact hlo2 i c
    · rcases tn_hi (R := lyT (wtN P σ) (0, L) 8) hn a1 8 (Nat.le_refl _) i (by omega) (by omega) with z | z
      · exact z
      · omega
  refine ⟨fun h6 i hi => ?_, fun i hi => ?_, hb, fun i h1 h2 => ?_⟩
  · obtain ⟨u1, u2⟩ := up_lyT P σ L f0 8 h6
    rw [hlo i hi, u2 i (by omega)]
  · by_cases c : i < cntN (wtN P σ) 8
    · have := hlo2 i c; omega
    · exact (hhi i (by omega) hi).1
  · have h3 := hb i h2
    have h4 := (hhi i h1 (by omega)).2
    unfold wtN at h4
    rw [decide_eq_true h3, Bool.true_and, beq_eq_false_iff_ne] at h4
    exact h4
theorem look_nz {P : Pn} {L : Nat → Nat} {p : Nat} : ∀ n (σ : Hn), σ.2.2.1 p ≠ 0 → (lookN P L n σ).2.2.1 p ≠ 0
  | 0, _, h => h
  | n + 1, σ, h => by
    have ih := look_nz (P := P) (L := L) n σ h
    show (lookN1 P (lookN P L n σ) (L n)).2.2.1 p ≠ 0
    unfold lookN1
    by_cases c : choiceN P (lookN P L n σ) (L n) = 0
    · rw [if_pos c]; exact ih
    · rw [if_neg c]
      unfold putN updn
      simp only
      by_cases e : p = L n
      · rw [if_pos e]; omega
      · rw [if_neg e]; exact ih
theorem look_rest {P : Pn} {L : Nat → Nat} {w : Nat} {σ : Hn} (h : ∀ i, w ≤ i → i < P.2.2.2.1 → σ.2.2.1 (L i) ≠ 0) : ∀ k, w + k ≤ P.2.2.2.1 → lookN P L (w + k) σ = lookN P L w σ
  | 0, _ => rfl
  | k + 1, hk => by
    show lookN1 P (lookN P L (w + k) σ) (L (w + k)) = _
    rw [look_rest h k (by omega)]
    exact lookN1_id (fun z => look_nz w σ (h (w + k) (by omega) (by omega)) z.2)
theorem out_nz {P : Pn} {σ : Hn} {p : Nat} (h : σ.2.2.1 p ≠ 0) : (letOutN P σ).2.2.1 p ≠ 0 := by
  show outX P σ.1 σ.2.2.1 σ.2.2.2 P.2.2.2.1 p ≠ 0
  unfold outX
  split
  · decide
  · exact h
theorem sm_turns {P : Pn} {L f : Nat → Nat} {w : Nat} (hw : w ≤ P.2.2.2.1) (hLf : ∀ i, i < w → L i = f i) : ∀ j (st : Hn), (∀ i, w ≤ i → i < P.2.2.2.1 → st.2.2.1 (L i) ≠ 0) → smS P P.2.2.2.1 L j st = smS P w f j st
  | 0, _, _ => rfl
  | j + 1, st, h => by
    have ha : advN P L P.2.2.2.1 st = advN P f w st := by
      unfold advN
      have := look_rest (P := P) (L := L) (w := w) (σ := letOutN P (st.1 + 1, st.2)) (fun i h1 h2 => out_nz (h i h1 h2)) (P.2.2.2.1 - w) (by omega)
      rw [show w + (P.2.2.2.1 - w) = P.2.2.2.1 by omega] at this
      rw [this]
      exact look_congr w _ hLf
    have hn : ∀ i, w ≤ i → i < P.2.2.2.1 → (advN P f w st).2.2.1 (L i) ≠ 0 := fun i h1 h2 => look_nz w _ (out_nz (σ := (st.1 + 1, st.2)) (h i h1 h2))
    unfold smS
    rw [ha, sm_turns hw hLf j _ hn]
theorem stp_front (P : Pn) (L : Nat → Nat) (σ : Hn) : ∀ t, stpN P L (advN P L P.2.2.2.1 σ) t = stpN P L σ (t + 1)
  | 0 => rfl
  | t + 1 => by
    show advN P L P.2.2.2.1 (stpN P L (advN P L P.2.2.2.1 σ) t) = advN P L P.2.2.2.1 (stpN P L σ (t + 1))
    rw [stp_front P L σ t]
theorem sm_stp (P : Pn) (L : Nat → Nat) : ∀ j (σ : Hn), smS P P.2.2.2.1 L (j + 1) σ = smS P P.2.2.2.1 L j σ + missN P (stpN P L σ j)
  | 0, σ => by
    show missN P σ + 0 = 0 + missN P σ
    omega
  | j + 1, σ => by
    have ih := sm_stp P L j (advN P L P.2.2.2.1 σ)
    have e1 : smS P P.2.2.2.1 L (j + 1 + 1) σ = missN P σ + smS P P.2.2.2.1 L (j + 1) (advN P L P.2.2.2.1 σ) := rfl
    have e2 : smS P P.2.2.2.1 L (j + 1) σ = missN P σ + smS P P.2.2.2.1 L j (advN P L P.2.2.2.1 σ) := rfl
    rw [e1, e2, ih, stp_front]
    omega
theorem sm_sum (P : Pn) (L : Nat → Nat) (σ : Hn) : ∀ j, smS P P.2.2.2.1 L j σ = sumN (fun t => missN P (stpN P L σ t)) j
  | 0 => rfl
  | j + 1 => by rw [sm_stp, sm_sum P L σ j, sumN]
theorem sum_lt {s : Nat} : ∀ n, sumN (fun t => if s ≤ t then 0 else 1) n = min s n
  | 0 => by rw [Nat.min_zero]; rfl
  | n + 1 => by
    rw [sumN, sum_lt n]
    by_cases c : s ≤ n
    · rw [if_pos c]; omega
    · rw [if_neg c]; omega
theorem miss_sum (P : Pn) (σ : Hn) : missN P σ = sumN (fun p => if σ.2.2.1 p = 1 then 0 else 1) P.2.2.2.1 := by
  have h : ∀ n, cntN (fun p => σ.2.2.1 p == 1) n + sumN (fun p => if σ.2.2.1 p = 1 then 0 else 1) n = n := by
    intro n
    induction n with
    | zero => rfl
    | succ n ih =>
      rw [cntN, sumN]
      by_cases c : σ.2.2.1 n = 1
      · rw [if_pos (by simp [c]), if_pos c]; omega
      · rw [if_neg (by simp [c]), if_neg c]; omega
  have := h P.2.2.2.1
  unfold missN
  omega
theorem sum_srch (P : Pn) (L : Nat → Nat) (σ : Hn) : sumN (fun p => srchN (fun t => (stpN P L σ t).2.2.1 p == 1) 61 0) P.2.2.2.1 = smS P P.2.2.2.1 L 61 σ := by
  rw [sm_sum]
  have e1 : ∀ t, missN P (stpN P L σ t) = sumN (fun p => if (stpN P L σ t).2.2.1 p = 1 then 0 else 1) P.2.2.2.1 := fun t => miss_sum P _
  rw [sumN_cong (fun t _ => e1 t), ← sumN_swap]
  refine sumN_cong (fun p _ => ?_)
  have hle := srchN_le (fun t => (stpN P L σ t).2.2.1 p == 1) 61 0 (by omega)
  have := sum_lt (s := srchN (fun t => (stpN P L σ t).2.2.1 p == 1) 61 0) 61
  rw [Nat.min_eq_left hle] at this
  rw [← this]
  refine sumN_cong (fun t ht => ?_)
  have hi := there_iff (P := P) (L := L) (σ := σ) (p := p) ht
  simp only [hi]
section MO
variable {d : Nat} {h : am_H} {f : Nat → Int32} {L : Nat → Nat} {P : Pn} {σ : Hn}
theorem MB.tu (hB : MB h f L) : TU h L := ⟨hB.2.1, hB.2.2.1, hB.2.2.2.2⟩
theorem m_layTurns (hB : MB h f L) (hP : RowP f 0 P) (hR : RowH f 0 σ) (hn : P.2.2.2.1 ≤ 8) : am_cal (d + 2) 182 [.ref 87] h = some (some (.int (nI (cntN (fun q => σ.2.2.1 q == 0) P.2.2.2.1))), am_set h 106 (AI 8 (fun i => nI (tnN P σ L i)))) := by
  have hth := m_those (d := d) hB hP hR hn 0
  have hWl := bitsN_lt (fun q => sI (σ.2.2.1 q) == 0) P.2.2.2.1
  have hW : bitsN (fun q => sI (σ.2.2.1 q) == 0) P.2.2.2.1 < 256 := Nat.lt_of_lt_of_le hWl (Nat.pow_le_pow_right (by decide) hn)
  have hbit : ∀ p, (bitsN (fun q => sI (σ.2.2.1 q) == 0) P.2.2.2.1).testBit p = wtN P σ p := by
    intro p
    rw [bitsN_bit]
    unfold wtN
    congr 1
    rw [Bool.eq_iff_iff, beq_iff_eq, beq_iff_eq]
    exact sI_0 _
  have hcn := cnt_bits14 (fun q => sI (σ.2.2.1 q) == 0) (show P.2.2.2.1 ≤ 14 by omega)
  have hcn2 : cntN (fun q => sI (σ.2.2.1 q) == 0) P.2.2.2.1 = cntN (fun q => σ.2.2.1 q == 0) P.2.2.2.1 := cntN_cong (fun p _ => by
    rw [Bool.eq_iff_iff, beq_iff_eq, beq_iff_eq]
    exact sI_0 _)
  have hbi := fun h' : am_H => m_bits (d := d) (h := h') (n := bitsN (fun q => sI (σ.2.2.1 q) == 0) P.2.2.2.1) (by omega)
  simp only [hcn, hcn2] at hbi
  have a1 := lyT_1 (wtN P σ) (0, L) 8
  simp only [Nat.zero_add] at a1
  have a3 := cnt_not (wtN P σ) 8
  have a4 := cntN_le (wtN P σ) 8
  generalize bitsN (fun q => sI (σ.2.2.1 q) == 0) P.2.2.2.1 = W at *
  have g0 : (fun p => (W.testBit p == ((0 : Nat) == 0))) = wtN P σ := by
    funext p
    rw [hbit p]
    cases wtN P σ p <;> rfl
  have g1 : (fun p => (W.testBit p == ((1 : Nat) == 0))) = fun p => !wtN P σ p := by
    funext p
    rw [hbit p]
    cases wtN P σ p <;> rfl
  have p1 := l_turnsIn (d := d) hW (hf := 0) (by decide) (r := (0, L)) (by rw [g0]; simp only; omega) 8 0 h (by omega) hB.tu
  rw [g0] at p1
  have p2 := l_turnsIn (d := d) hW (hf := 1) (by decide) (r := lyT (wtN P σ) (0, L) 8) (by rw [g1]; omega) 8 0 (am_set h 106 (AI 8 (fun i => nI ((lyT (wtN P σ) (0, L) 8).2 i)))) (by omega) (hB.tu.set _)
  rw [g1, set_set] at p2
  have e2 : (2 : Int32) = nI 2 := by decide +kernel
  have q1 : lyT (wtN P σ) (0, L) 0 = (0, L) := rfl
  have q2 : lyT (fun p => !wtN P σ p) (lyT (wtN P σ) (0, L) 8) 0 = lyT (wtN P σ) (0, L) 8 := rfl
  rw [q1] at p1
  rw [q2] at p2
  simp only [nI_0] at p1 p2
  refine (b_182 _ _ _).trans ?_; show am_ev _ 182 0 [some (.ref 87), none, none, none, none] [] _ = _
  simp only [e_182_0, e_182_1, e_182_2, e_182_5, e_182_6, e_182_7, e_182_8, e_182_9, lg_n, lg_i, lg_r, wd_nil, am_wd_i, am_wd_r, am_wd_l, am_gk_s, am_fld_s, List.getElem?_cons_zero, List.getElem?_cons_succ, am_bk_v, am_bk_n, bo_0, bo_1, am_pk_s, List.length_cons, List.length_nil, Nat.zero_add, List.set_cons_zero, List.set_cons_succ, Nat.reduceAdd, Nat.reduceLeDiff, Nat.reduceLT, hB.2.2.1, hth]
  rw [e_182_10]
  simp only [e_182_11, e_182_12, e_182_15, e_182_16, lg_n, lg_i, lg_r, wd_nil, am_wd_i, am_wd_r, am_wd_l, am_gk_s, am_fld_s, List.getElem?_cons_zero, List.getElem?_cons_succ, am_bk_v, am_bk_n, bo_0, bo_1, am_pk_s, List.length_cons, List.length_nil, Nat.zero_add, List.set_cons_zero, List.set_cons_succ, Nat.reduceAdd, Nat.reduceLeDiff, Nat.reduceLT, e2, show nI 0 = 0 from nI_0, show ¬ (nI 2 ≤ (0 : Int32)) by decide +kernel, if_false]
  refine Eq.trans p1 ?_
  simp only [e_182_60, e_182_63, lg_n, lg_i, lg_r, wd_nil, am_wd_i, am_wd_r, am_wd_l, am_gk_s, am_fld_s, List.getElem?_cons_zero, List.getElem?_cons_succ, am_bk_v, am_bk_n, bo_0, bo_1, am_pk_s, List.length_cons, List.length_nil, Nat.zero_add, List.set_cons_zero, List.set_cons_succ, Nat.reduceAdd, Nat.reduceLeDiff, Nat.reduceLT, Int32.zero_add]
  rw [e_182_10]
  simp only [e_182_11, e_182_12, e_182_15, e_182_16, lg_n, lg_i, lg_r, wd_nil, am_wd_i, am_wd_r, am_wd_l, am_gk_s, am_fld_s, List.getElem?_cons_zero, List.getElem?_cons_succ, am_bk_v, am_bk_n, bo_0, bo_1, am_pk_s, List.length_cons, List.length_nil, Nat.zero_add, List.set_cons_zero, List.set_cons_succ, Nat.reduceAdd, Nat.reduceLeDiff, Nat.reduceLT, e2, show ¬ (nI 2 ≤ (1 : Int32)) by decide +kernel, if_false]
  refine Eq.trans p2 ?_
  simp only [e_182_60, e_182_63, lg_n, lg_i, lg_r, wd_nil, am_wd_i, am_wd_r, am_wd_l, am_gk_s, am_fld_s, List.getElem?_cons_zero, List.getElem?_cons_succ, am_bk_v, am_bk_n, bo_0, bo_1, am_pk_s, List.length_cons, List.length_nil, Nat.zero_add, List.set_cons_zero, List.set_cons_succ, Nat.reduceAdd, Nat.reduceLeDiff, Nat.reduceLT]
  rw [e_182_10]
  simp only [e_182_11, e_182_12, e_182_66, e_182_67, e_182_70, lg_n, lg_i, lg_r, wd_nil, am_wd_i, am_wd_r, am_wd_l, am_gk_s, am_fld_s, List.getElem?_cons_zero, List.getElem?_cons_succ, am_bk_v, am_bk_n, bo_0, bo_1, am_pk_s, List.length_cons, List.length_nil, Nat.zero_add, List.set_cons_zero, List.set_cons_succ, Nat.reduceAdd, Nat.reduceLeDiff, Nat.reduceLT, e2, show (nI 2 ≤ (1 : Int32) + 1) by decide +kernel, if_true, hbi]
  rfl
theorem l_sumA (hB : MB h f L) (hP : RowP f 0 P) (hn : P.2.2.2.1 ≤ 8) {g : Nat → Nat} (hf28 : am_fld (am_at h 87) 8 28 = some (.ref 107)) (h107 : am_at h 107 = some (AI 8 (fun p => nI (g p)))) : ∀ j p, p + j = P.2.2.2.1 → am_ev d 185 12 [some (.ref 87), some (.int (nI (sumN g p))), some (.int (nI p))] [] h = some (some (.int (nI (sumN g P.2.2.2.1))), h) := by
  obtain ⟨m0, m1, m2, m3, m4⟩ := hB
  have h28 := hP.2.2.1
  rw [Nat.zero_add] at h28
  have e28 : (28 : Int32) = nI 28 := by decide +kernel
  intro j
  induction j with
  | zero =>
    intro p hp
    have : p = P.2.2.2.1 := by omega
    subst this
    rw [e_185_12]
    simp only [e_185_13, e_185_14, e_185_17, e_185_19, e_185_20, e_185_38, e_185_39, lg_n, lg_i, lg_r, wd_nil, am_wd_i, am_wd_r, am_wd_l, am_gk_s, am_fld_s, List.getElem?_cons_zero, List.getElem?_cons_succ, am_bk_v, am_bk_n, bo_0, bo_1, am_pk_s, List.length_cons, List.length_nil, Nat.zero_add, List.set_cons_zero, List.set_cons_succ, Nat.reduceAdd, Nat.reduceLeDiff, Nat.reduceLT, m0, m3, e28, ak_AI (show 28 < 392 by decide) (show 392 < 2 ^ 31 by decide), h28, nI_leI (show P.2.2.2.1 < 2 ^ 31 by omega) (show P.2.2.2.1 < 2 ^ 31 by omega), Nat.le_refl, if_true]
  | succ j ih =>
    intro p hp
    have ih' := ih (p + 1) (by omega)
    rw [sumN] at ih'
    rw [e_185_12]
    simp only [e_185_13, e_185_14, e_185_17, e_185_19, e_185_20, e_185_23, e_185_24, e_185_25, e_185_28, e_185_29, e_185_30, e_185_31, e_185_32, e_185_35, lg_n, lg_i, lg_r, wd_nil, am_wd_i, am_wd_r, am_wd_l, am_gk_s, am_fld_s, List.getElem?_cons_zero, List.getElem?_cons_succ, am_bk_v, am_bk_n, bo_0, bo_1, am_pk_s, List.length_cons, List.length_nil, Nat.zero_add, List.set_cons_zero, List.set_cons_succ, Nat.reduceAdd, Nat.reduceLeDiff, Nat.reduceLT, m0, m3, e28, ak_AI (show 28 < 392 by decide) (show 392 < 2 ^ 31 by decide), h28, nI_leI (show P.2.2.2.1 < 2 ^ 31 by omega) (show p < 2 ^ 31 by omega), if_neg (show ¬ P.2.2.2.1 ≤ p by omega), hf28, h107, ak_AI (show p < 8 by omega) (show 8 < 2 ^ 31 by decide), nI_add, nI_1]
    exact ih'
theorem m_sumAll (hB : MB h f L) (hP : RowP f 0 P) (hR : RowH f 0 σ) (hD : OKD P) (hO : HOK P σ) (hL : ∀ i, i < P.2.2.2.1 → L i < P.2.2.2.1) (hf28 : am_fld (am_at h 87) 8 28 = some (.ref 107)) {g : Nat → Int32} (h107 : am_at h 107 = some (AI 8 g)) : ∃ (h' : am_H) (f' g' : Nat → Int32), am_cal (d + 7) 185 [.ref 87] h = some (some (.int (nI (smS P P.2.2.2.1 L 61 σ))), h') ∧ MB h' f' L ∧ RS f f' 366 ∧ am_at h' 107 = some (AI 8 g') ∧ FW h h' := by
  obtain ⟨oP, q1, q2, q3⟩ := hD
  have hn := oP.2.2.2.1
  have ht := m_layTried (d := d + 4) hB
  have R1 := hR.cp 366
  have S1 := cpI_RS f 0 366
  have hB1 := hB.set (cpI f 0 366 26)
  have f281 : am_fld (am_at (am_set h 88 (AI 392 (cpI f 0 366 26))) 87) 8 28 = some (.ref 107) := by rw [at_set_ne (by decide)]; exact hf28
  obtain ⟨h2, f2, g2, e2, M2, S2, R2, q107, hg, F2⟩ := m_layWhen (d := d) hB1 (hP.rs hn (by omega) S1) R1 oP hO.1 (by have := hO.2.1; omega) (by omega) (by have := hO.2.2; omega) hL f281 (g := g) (by rw [at_set_ne (by decide)]; exact h107)
  have F12 : FW h h2 := (FW.set (Or.inl rfl)).tr F2
  have S12 := S1.tr S2
  have hs := l_sumA (d := d + 6) M2 (hP.rs hn (by omega) S12) hn (by rw [F12.2.2 _ (by decide) (by decide)]; exact hf28) q107 P.2.2.2.1 0 (by omega)
  rw [sumN_cong hg, sum_srch, show sumN g2 0 = 0 from rfl, nI_0] at hs
  refine ⟨h2, f2, _, ?_, M2, S12, q107, F12⟩
  refine (b_185 _ _ _).trans ?_; show am_ev _ 185 0 [some (.ref 87), none, none] [] _ = _
  simp only [e_185_0, e_185_1, e_185_4, e_185_5, e_185_8, e_185_9, e_185_10, e_185_11, lg_n, lg_i, lg_r, wd_nil, am_wd_i, am_wd_r, am_wd_l, am_gk_s, am_fld_s, List.getElem?_cons_zero, List.getElem?_cons_succ, am_bk_v, am_bk_n, bo_0, bo_1, am_pk_s, List.length_cons, List.length_nil, Nat.zero_add, List.set_cons_zero, List.set_cons_succ, Nat.reduceAdd, Nat.reduceLeDiff, Nat.reduceLT, hB.2.2.1, ht, hB1.2.2.1, e2]
  exact hs
end MO
