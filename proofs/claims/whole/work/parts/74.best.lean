/-! order: the best line, by class and by model alike -/
theorem inC_ok {c : Nat} : ∀ {j i : Nat}, inC c j i = true → ∀ q, q < j → dcN c q ≠ dcN c i
  | 0, _, _, q, hq => absurd hq (Nat.not_lt_zero q)
  | j + 1, i, h, q, hq => by
    unfold inC at h
    rw [Bool.and_eq_true] at h
    by_cases e : q = j
    · subst e
      intro z
      have h1 := h.1
      rw [z, Nat.beq_refl] at h1
      exact absurd h1 (by decide)
    · exact inC_ok h.2 q (by omega)
theorem okC_ok {w c : Nat} : ∀ {n : Nat}, okC w c n = true → ∀ i, i < n → dcN c i < w ∧ ∀ q, q < i → dcN c q ≠ dcN c i
  | 0, _, i, hi => absurd hi (Nat.not_lt_zero i)
  | n + 1, h, i, hi => by
    unfold okC at h
    rw [Bool.and_eq_true, Bool.and_eq_true] at h
    by_cases e : i = n
    · subst e
      exact ⟨Nat.le_of_ble_eq_true h.1.2, inC_ok h.2⟩
    · exact okC_ok h.1.1 i (by omega)
theorem dsC_ok {w : Nat} {seen : List Nat} {c : Nat} : ∀ {n : Nat}, dsC w seen c n = true → ∀ i, i < n → dcN c (i + 1) < dcN c i → (∃ k, k < seen.length ∧ seen.getD k 0 = swC c i) ∧ ∀ m, m < w → dcN (swC c i) m = swp (dcN c) i (i + 1) m
  | 0, _, i, hi, _ => absurd hi (Nat.not_lt_zero i)
  | n + 1, h, i, hi, hd => by
    unfold dsC at h
    rw [Bool.and_eq_true] at h
    by_cases e : i = n
    · subst e
      have h2 := h.2
      rw [if_pos hd, Bool.and_eq_true] at h2
      exact ⟨memL_iff h2.1, eqW_iff h2.2⟩
    · exact dsC_ok h.1 i (by omega) hd
theorem dsA_ok {w : Nat} : ∀ (l seen : List Nat), dsA w seen l = true → ∀ k, k < l.length → okC w (l.getD k 0) w = true ∧ ∀ i, i < w - 1 → dcN (l.getD k 0) (i + 1) < dcN (l.getD k 0) i → ∃ c', ((∃ q, q < seen.length ∧ seen.getD q 0 = c') ∨ ∃ q, q < k ∧ l.getD q 0 = c') ∧ ∀ m, m < w → dcN c' m = swp (dcN (l.getD k 0)) i (i + 1) m
  | [], _, _, k, hk => absurd hk (Nat.not_lt_zero k)
  | c :: r, seen, h, k, hk => by
    unfold dsA at h
    rw [Bool.and_eq_true, Bool.and_eq_true] at h
    cases k with
    | zero =>
      refine ⟨h.1.1, fun i hi hd => ?_⟩
      obtain ⟨a1, a2⟩ := dsC_ok h.1.2 i hi hd
      exact ⟨swC c i, Or.inl a1, a2⟩
    | succ k =>
      obtain ⟨b1, b2⟩ := dsA_ok r (c :: seen) h.2 k (by simp only [List.length_cons] at hk; omega)
      refine ⟨b1, fun i hi hd => ?_⟩
      obtain ⟨c', b3, b4⟩ := b2 i hi hd
      refine ⟨c', ?_, b4⟩
      rcases b3 with ⟨q, q1, q2⟩ | ⟨q, q1, q2⟩
      · cases q with
        | zero => exact Or.inr ⟨0, by omega, q2⟩
        | succ q => exact Or.inl ⟨q, by simp only [List.length_cons] at q1; omega, q2⟩
      · exact Or.inr ⟨q + 1, by omega, q2⟩
theorem piv_rel {w : Nat} {l f g : Nat → Nat} (hm : ∀ a b, a < w → b < w → (l a < l b ↔ a < b)) (hg : ∀ i, i < w → g i < w) (hf : ∀ i, i < w → f i = l (g i)) : ∀ j, j < w → pivN f j = pivN g j
  | 0, _ => rfl
  | j + 1, hj => by
    have ih := piv_rel hm hg hf j (by omega)
    unfold pivN
    rw [hf (j + 1) hj, hf j (by omega), ih]
    simp only [hm _ _ (hg (j + 1) hj) (hg j (by omega))]
theorem suc_rel {w : Nat} {l f g : Nat → Nat} (hm : ∀ a b, a < w → b < w → (l a < l b ↔ a < b)) (hg : ∀ i, i < w → g i < w) (hf : ∀ i, i < w → f i = l (g i)) {i : Nat} (hi : i < w) : ∀ j, j < w → sucN f i j = sucN g i j
  | 0, _ => rfl
  | j + 1, hj => by
    have ih := suc_rel hm hg hf hi j (by omega)
    unfold sucN
    rw [hf (j + 1) hj, hf i hi, ih]
    simp only [hm _ _ (hg (j + 1) hj) (hg i hi)]
theorem swp_rel {w : Nat} {l f g : Nat → Nat} (hf : ∀ i, i < w → f i = l (g i)) {a b : Nat} (ha : a < w) (hb : b < w) : (∀ i, i < w → swp f a b i = l (swp g a b i)) ∧ ∀ i, w ≤ i → swp f a b i = f i := by
  refine ⟨fun i hi => ?_, fun i hi => ?_⟩
  · unfold swp
    by_cases c1 : i = b
    · rw [if_pos c1, if_pos c1, hf a ha]
    · rw [if_neg c1, if_neg c1]
      by_cases c2 : i = a
      · rw [if_pos c2, if_pos c2, hf b hb]
      · rw [if_neg c2, if_neg c2, hf i hi]
  · unfold swp
    rw [if_neg (by omega), if_neg (by omega)]
theorem rev_rel {w : Nat} {l : Nat → Nat} : ∀ n {f g : Nat → Nat} {a b : Nat}, (∀ i, i < w → f i = l (g i)) → b < w → (∀ i, i < w → revN n f a b i = l (revN n g a b i)) ∧ ∀ i, w ≤ i → revN n f a b i = f i
  | 0, f, g, a, b, hf, _ => ⟨hf, fun _ _ => rfl⟩
  | n + 1, f, g, a, b, hf, hb => by
    unfold revN
    by_cases c : a < b
    · rw [if_pos c, if_pos c]
      obtain ⟨s1, s2⟩ := swp_rel (a := a) (b := b) hf (by omega) hb
      obtain ⟨r1, r2⟩ := rev_rel n (a := a + 1) (b := b - 1) s1 (by omega)
      exact ⟨r1, fun i hi => (r2 i hi).trans (s2 i hi)⟩
    · rw [if_neg c, if_neg c]
      exact ⟨hf, fun _ _ => rfl⟩
theorem next_rel {w : Nat} {l f g : Nat → Nat} (hm : ∀ a b, a < w → b < w → (l a < l b ↔ a < b)) (hg : ∀ i, i < w → g i < w) (hf : ∀ i, i < w → f i = l (g i)) : (nextN w g = none → nextN w f = none) ∧ ∀ g', nextN w g = some g' → ∃ f', nextN w f = some f' ∧ (∀ i, i < w → f' i = l (g' i)) ∧ ∀ i, w ≤ i → f' i = f i := by
  by_cases hw : w = 0
  · subst hw
    exact ⟨fun _ => rfl, fun g' h => absurd h (by simp [nextN, pivN])⟩
  · have hp := piv_rel hm hg hf (w - 1) (by omega)
    have hl := pivN_le g (w - 1)
    unfold nextN
    rw [hp]
    cases hc : pivN g (w - 1) with
    | zero => exact ⟨fun _ => rfl, fun g' h => absurd h (by simp)⟩
    | succ i =>
      rw [hc] at hl
      refine ⟨fun h => absurd h (by simp), fun g' h => ?_⟩
      simp only [Option.some.injEq] at h
      subst h
      have hs := suc_rel hm hg hf (i := i) (by omega) (w - 1) (by omega)
      have hsl := sucN_le g i (w - 1)
      simp only [hs]
      obtain ⟨s1, s2⟩ := swp_rel (a := i) (b := sucN g i (w - 1)) hf (by omega) (by omega)
      obtain ⟨r1, r2⟩ := rev_rel 6 (a := i + 1) (b := w - 1) s1 (by omega)
      exact ⟨_, rfl, r1, fun q hq => (r2 q hq).trans (s2 q hq)⟩
/-- the k-th line of w people -/
def lnN (w : Nat) (l : Nat → Nat) (k : Nat) : Nat → Nat := fun i => l (dcN ((prT w).getD k 0) i)
theorem ln_next {w : Nat} (hw : w < 7) {l f : Nat → Nat} (hm : ∀ a b, a < w → b < w → (l a < l b ↔ a < b)) {k : Nat} (hk : k < (prT w).length) (hf : ∀ i, i < w → f i = lnN w l k i) : (k + 1 = (prT w).length → nextN w f = none) ∧ (k + 1 < (prT w).length → ∃ f', nextN w f = some f' ∧ (∀ i, i < w → f' i = lnN w l (k + 1) i) ∧ ∀ i, w ≤ i → f' i = f i) := by
  obtain ⟨p1, p2, p3, p4, p5⟩ := prT_ok w hw
  obtain ⟨c1, c2⟩ := chN_ok _ p1 k hk
  obtain ⟨d1, d2⟩ := dsA_ok _ _ p2 k hk
  obtain ⟨n1, n2⟩ := next_rel (l := l) (f := f) (g := dcN ((prT w).getD k 0)) hm (fun i hi => (okC_ok d1 i hi).1) hf
  refine ⟨fun z => n1 (c2 z), fun z => ?_⟩
  obtain ⟨g, g1, g2⟩ := c1 z
  obtain ⟨f', e1, e2, e3⟩ := n2 g g1
  exact ⟨f', e1, fun i hi => by rw [e2 i hi, g2 i hi]; rfl, e3⟩
theorem ln_0 {w : Nat} (hw : w < 7) {l : Nat → Nat} : ∀ i, i < w → lnN w l 0 i = l i := by
  intro i hi
  obtain ⟨p1, p2, p3, p4, p5⟩ := prT_ok w hw
  unfold lnN
  rw [eqW_iff p5 i hi]
theorem like_ex {P : Pn} {f : Nat → Nat} : ∀ j i, likeN P f j i = true → ∃ q, i ≤ q ∧ q < i + j ∧ f (q + 1) < f q ∧ swN P (f q) (f (q + 1)) = true
  | 0, i, h => absurd h (by simp [likeN])
  | j + 1, i, h => by
    unfold likeN at h
    by_cases c : f (i + 1) < f i ∧ swN P (f i) (f (i + 1)) = true
    · exact ⟨i, Nat.le_refl _, by omega, c⟩
    · rw [if_neg c] at h
      obtain ⟨q, q1, q2, q3⟩ := like_ex j (i + 1) h
      exact ⟨q, by omega, by omega, q3⟩
theorem ln_like {P : Pn} {σ : Hn} {w : Nat} (hw : w < 7) (oP : OKP P) {l f : Nat → Nat} (hm : ∀ a b, a < w → b < w → (l a < l b ↔ a < b)) (hl : ∀ a, a < w → l a < P.2.2.2.1 ∧ σ.2.2.1 (l a) = 0) {k : Nat} (hk : k < (prT w).length) (hf : ∀ i, i < w → f i = lnN w l k i) (hlk : likeN P f (w - 1) 0 = true) (j : Nat) : ∃ k', k' < k ∧ smS P w (lnN w l k') j σ = smS P w (lnN w l k) j σ := by
  obtain ⟨p1, p2, p3, p4, p5⟩ := prT_ok w hw
  obtain ⟨d1, d2⟩ := dsA_ok _ _ p2 k hk
  have hb := fun i hi => (okC_ok d1 i hi).1
  obtain ⟨q, q1, q2, q3, q4⟩ := like_ex (w - 1) 0 hlk
  rw [hf q (by omega), hf (q + 1) (by omega)] at q3 q4
  have hd : dcN ((prT w).getD k 0) (q + 1) < dcN ((prT w).getD k 0) q := (hm _ _ (hb (q + 1) (by omega)) (hb q (by omega))).1 q3
  obtain ⟨c', e1, e2⟩ := d2 q (by omega) hd
  rcases e1 with ⟨r, r1, r2⟩ | ⟨r, r1, r2⟩
  · exact absurd r1 (by simp)
  · refine ⟨r, r1, ?_⟩
    have hinj : ∀ m r, m < w → r < w → lnN w l k m = lnN w l k r → m = r := by
      intro m r hm1 hr1 hz
      have b1 := hb m hm1
      have b2 := hb r hr1
      have hz' : l (dcN ((prT w).getD k 0) m) = l (dcN ((prT w).getD k 0) r) := hz
      have m1 := hm _ _ b1 b2
      have m2 := hm _ _ b2 b1
      have he : dcN ((prT w).getD k 0) m = dcN ((prT w).getD k 0) r := by omega
      by_cases c1 : m < r
      · exact absurd he ((okC_ok d1 r hr1).2 m c1)
      · by_cases c2 : r < m
        · exact absurd he.symm ((okC_ok d1 m hm1).2 r c2)
        · omega
    rw [← sw_sum (i := q) (f := lnN w l k) oP (fun m hm1 => hl _ (hb m hm1)) hinj (by omega) q4 j]
    refine smS_congr (fun τ => adv_congr (fun m hm1 => ?_) τ) j σ
    unfold lnN
    rw [r2, e2 m hm1]
    unfold swp
    by_cases c1 : m = q + 1
    · rw [if_pos c1, if_pos c1]
    · rw [if_neg c1, if_neg c1]
      by_cases c2 : m = q
      · rw [if_pos c2, if_pos c2]
      · rw [if_neg c2, if_neg c2]
def bsN (S : Nat → Nat) : Nat → Nat × Nat
  | 0 => (489, 0)
  | k + 1 => if S k < (bsN S k).1 then (S k, k) else bsN S k
theorem bsN_le (S : Nat → Nat) : ∀ k k', k' < k → (bsN S k).1 ≤ S k'
  | 0, k', h => absurd h (Nat.not_lt_zero k')
  | k + 1, k', h => by
    have ih := bsN_le S k
    unfold bsN
    by_cases c : S k < (bsN S k).1
    · rw [if_pos c]
      by_cases e : k' = k
      · subst e; exact Nat.le_refl _
      · have := ih k' (by omega)
        simp only
        omega
    · rw [if_neg c]
      by_cases e : k' = k
      · subst e; omega
      · exact ih k' (by omega)
theorem bsN_lt (S : Nat → Nat) : ∀ k, (bsN S k).1 ≤ 489 ∧ ((bsN S k).2 = 0 ∨ (bsN S k).2 < k)
  | 0 => ⟨Nat.le_refl _, Or.inl rfl⟩
  | k + 1 => by
    have ih := bsN_lt S k
    unfold bsN
    split
    · simp only; omega
    · exact ⟨ih.1, by omega⟩
theorem ord_best {P : Pn} {σ : Hn} {w : Nat} (hw : w < 7) (oP : OKP P) {l : Nat → Nat} (hm : ∀ a b, a < w → b < w → (l a < l b ↔ a < b)) (hl : ∀ a, a < w → l a < P.2.2.2.1 ∧ σ.2.2.1 (l a) = 0) : ∀ j k (be f : Nat → Nat), k < (prT w).length → (prT w).length ≤ k + j → (∀ i, i < w → f i = lnN w l k i) → (0 < k → ∀ m, m < w → be m = lnN w l (bsN (fun k => smS P w (lnN w l k) 61 σ) k).2 m) → (ordN P σ w j (bsN (fun k => smS P w (lnN w l k) 61 σ) k).1 be f).1 = (bsN (fun k => smS P w (lnN w l k) 61 σ) (prT w).length).1 ∧ ∀ m, m < w → (ordN P σ w j (bsN (fun k => smS P w (lnN w l k) 61 σ) k).1 be f).2.1 m = lnN w l (bsN (fun k => smS P w (lnN w l k) 61 σ) (prT w).length).2 m
  | 0, k, be, f, hk, hj, _, _ => absurd hj (by omega)
  | j + 1, k, be, f, hk, hj, hf, hbe => by
    obtain ⟨n1, n2⟩ := ln_next hw hm hk hf
    have hS : smS P w f 61 σ = smS P w (lnN w l k) 61 σ := smS_congr (fun τ => adv_congr hf τ) 61 σ
    have htg := tg_ok (P := P) (w := w) (f := f) (L := (bsN (fun k => smS P w (lnN w l k) 61 σ) k).1) oP.1 61 0 0 0 σ (by omega) (Nat.zero_le _) (fun _ k hk => absurd hk (Nat.not_lt_zero k))
    rw [Nat.zero_add, hS] at htg
    have hlk := ln_like hw oP hm hl hk hf
    have hmin := bsN_le (fun k => smS P w (lnN w l k) 61 σ) k
    have hs8 := smS_le (P := P) (w := w) (f := lnN w l k) oP.2.2.2.1 61 σ
    have hBk : bsN (fun k => smS P w (lnN w l k) 61 σ) (k + 1) = if smS P w (lnN w l k) 61 σ < (bsN (fun k => smS P w (lnN w l k) 61 σ) k).1 then (smS P w (lnN w l k) 61 σ, k) else bsN (fun k => smS P w (lnN w l k) 61 σ) k := rfl
    have hstep : (if (if likeN P f (w - 1) 0 = true then (bsN (fun k => smS P w (lnN w l k) 61 σ) k).1 else tgN P w f (bsN (fun k => smS P w (lnN w l k) 61 σ) k).1 61 0 0 0 σ) < (bsN (fun k => smS P w (lnN w l k) 61 σ) k).1 then (if likeN P f (w - 1) 0 = true then (bsN (fun k => smS P w (lnN w l k) 61 σ) k).1 else tgN P w f (bsN (fun k => smS P w (lnN w l k) 61 σ) k).1 61 0 0 0 σ) else (bsN (fun k => smS P w (lnN w l k) 61 σ) k).1) = (bsN (fun k => smS P w (lnN w l k) 61 σ) (k + 1)).1 ∧ ∀ m, m < w → (if (if likeN P f (w - 1) 0 = true then (bsN (fun k => smS P w (lnN w l k) 61 σ) k).1 else tgN P w f (bsN (fun k => smS P w (lnN w l k) 61 σ) k).1 61 0 0 0 σ) < (bsN (fun k => smS P w (lnN w l k) 61 σ) k).1 then (fun k => if k < w then f k else be k) else be) m = lnN w l (bsN (fun k => smS P w (lnN w l k) 61 σ) (k + 1)).2 m := by
      have hk0 : k = 0 → (bsN (fun k => smS P w (lnN w l k) 61 σ) k).1 = 489 := fun z => by rw [z]; rfl
      rw [hBk]
      generalize bsN (fun k => smS P w (lnN w l k) 61 σ) k = B at *
      by_cases c1 : likeN P f (w - 1) 0 = true
      · simp only [if_pos c1]
        obtain ⟨k', z1, z2⟩ := hlk c1 61
        have := hmin k' z1
        rw [if_neg (Nat.lt_irrefl _), if_neg (by omega)]
        refine ⟨rfl, fun m hm1 => ?_⟩
        rw [if_neg (Nat.lt_irrefl _)]
        exact hbe (by omega) m hm1
      · simp only [if_neg c1]
        by_cases c2 : smS P w (lnN w l k) 61 σ < B.1
        · rw [htg.1 c2, if_pos c2, if_pos c2]
          refine ⟨rfl, fun m hm1 => ?_⟩
          rw [if_pos c2]
          simp only [if_pos hm1]
          exact hf m hm1
        · have := htg.2 (by omega)
          rw [if_neg (by omega), if_neg c2]
          refine ⟨rfl, fun m hm1 => ?_⟩
          rw [if_neg (by omega)]
          refine hbe ?_ m hm1
          have := hk0
          omega
    by_cases hlast : k + 1 = (prT w).length
    · have hno := n1 hlast
      have hR : ordN P σ w (j + 1) (bsN (fun k => smS P w (lnN w l k) 61 σ) k).1 be f = (if (if likeN P f (w - 1) 0 = true then (bsN (fun k => smS P w (lnN w l k) 61 σ) k).1 else tgN P w f (bsN (fun k => smS P w (lnN w l k) 61 σ) k).1 61 0 0 0 σ) < (bsN (fun k => smS P w (lnN w l k) 61 σ) k).1 then (if likeN P f (w - 1) 0 = true then (bsN (fun k => smS P w (lnN w l k) 61 σ) k).1 else tgN P w f (bsN (fun k => smS P w (lnN w l k) 61 σ) k).1 61 0 0 0 σ) else (bsN (fun k => smS P w (lnN w l k) 61 σ) k).1, if (if likeN P f (w - 1) 0 = true then (bsN (fun k => smS P w (lnN w l k) 61 σ) k).1 else tgN P w f (bsN (fun k => smS P w (lnN w l k) 61 σ) k).1 61 0 0 0 σ) < (bsN (fun k => smS P w (lnN w l k) 61 σ) k).1 then (fun k => if k < w then f k else be k) else be, f) := by
        rw [ordN]
        simp only [hno]
      rw [hR, ← hlast]
      exact hstep
    · obtain ⟨f', e1, e2, e3⟩ := n2 (by omega)
      have hR : ordN P σ w (j + 1) (bsN (fun k => smS P w (lnN w l k) 61 σ) k).1 be f = ordN P σ w j (bsN (fun k => smS P w (lnN w l k) 61 σ) (k + 1)).1 (if (if likeN P f (w - 1) 0 = true then (bsN (fun k => smS P w (lnN w l k) 61 σ) k).1 else tgN P w f (bsN (fun k => smS P w (lnN w l k) 61 σ) k).1 61 0 0 0 σ) < (bsN (fun k => smS P w (lnN w l k) 61 σ) k).1 then (fun k => if k < w then f k else be k) else be) f' := by
        rw [ordN]
        simp only [e1]
        rw [hstep.1]
      rw [hR]
      exact ord_best hw oP hm hl j (k + 1) _ f' (by omega) (by omega) e2 (fun _ => hstep.2)
theorem up_mono (P : Pn) (σ : Hn) (f0 : Nat → Nat) : ∀ p, (∀ i, i < (upN P σ f0 p).1 → (upN P σ f0 p).2 i < p) ∧ ∀ a b, a < b → b < (upN P σ f0 p).1 → (upN P σ f0 p).2 a < (upN P σ f0 p).2 b
  | 0 => ⟨fun i hi => absurd hi (Nat.not_lt_zero i), fun a b _ hb => absurd hb (Nat.not_lt_zero b)⟩
  | p + 1 => by
    obtain ⟨i1, i2⟩ := up_mono P σ f0 p
    unfold upN
    by_cases hc : (upN P σ f0 p).1 < 6 ∧ p < P.2.2.2.1 ∧ σ.2.2.1 p = 0
    · rw [if_pos hc]
      simp only
      unfold updn
      refine ⟨fun i hi => ?_, fun a b hab hb => ?_⟩
      · by_cases e : i = (upN P σ f0 p).1
        · rw [if_pos e]; omega
        · rw [if_neg e]; have := i1 i (by omega); omega
      · rw [if_neg (by omega)]
        by_cases e : b = (upN P σ f0 p).1
        · rw [if_pos e]; exact i1 a (by omega)
        · rw [if_neg e]; exact i2 a b hab (by omega)
    · rw [if_neg hc]
      exact ⟨fun i hi => by have := i1 i hi; omega, i2⟩
theorem up_ind (P : Pn) (σ : Hn) (f0 g0 : Nat → Nat) : ∀ p, (upN P σ f0 p).1 = (upN P σ g0 p).1 ∧ ∀ i, i < (upN P σ f0 p).1 → (upN P σ f0 p).2 i = (upN P σ g0 p).2 i
  | 0 => ⟨rfl, fun i hi => absurd hi (Nat.not_lt_zero i)⟩
  | p + 1 => by
    obtain ⟨i1, i2⟩ := up_ind P σ f0 g0 p
    unfold upN
    rw [← i1]
    by_cases hc : (upN P σ f0 p).1 < 6 ∧ p < P.2.2.2.1 ∧ σ.2.2.1 p = 0
    · rw [if_pos hc, if_pos hc]
      refine ⟨rfl, fun i hi => ?_⟩
      simp only at hi ⊢
      unfold updn
      by_cases e : i = (upN P σ f0 p).1
      · rw [if_pos e, if_pos e]
      · rw [if_neg e, if_neg e]; exact i2 i (by omega)
    · rw [if_neg hc, if_neg hc]
      exact ⟨i1, i2⟩
theorem up_cnt (P : Pn) (σ : Hn) (f0 : Nat → Nat) : ∀ p, (upN P σ f0 p).1 = min 6 (cntN (fun q => decide (q < P.2.2.2.1) && σ.2.2.1 q == 0) p)
  | 0 => rfl
  | p + 1 => by
    have ih := up_cnt P σ f0 p
    unfold upN cntN
    by_cases hc : p < P.2.2.2.1 ∧ σ.2.2.1 p = 0
    · rw [if_pos (show (decide (p < P.2.2.2.1) && σ.2.2.1 p == 0) = true by simp [hc.1, hc.2])]
      by_cases h6 : (upN P σ f0 p).1 < 6
      · rw [if_pos ⟨h6, hc⟩]
        simp only
        omega
      · rw [if_neg (fun z => h6 z.1)]
        omega
    · rw [if_neg (fun z => hc z.2), if_neg (show ¬ (decide (p < P.2.2.2.1) && σ.2.2.1 p == 0) = true by simpa using hc)]
      exact ih
theorem cnt_8 {P : Pn} {σ : Hn} (hn : P.2.2.2.1 ≤ 8) : cntN (fun q => decide (q < P.2.2.2.1) && σ.2.2.1 q == 0) 8 = cntN (fun q => σ.2.2.1 q == 0) P.2.2.2.1 := by
  have h1 : ∀ k, cntN (fun q => decide (q < P.2.2.2.1) && σ.2.2.1 q == 0) (P.2.2.2.1 + k) = cntN (fun q => decide (q < P.2.2.2.1) && σ.2.2.1 q == 0) P.2.2.2.1 := by
    intro k
    induction k with
    | zero => rfl
    | succ k ih =>
      rw [← Nat.add_assoc, cntN, ih, if_neg (fun z => by rw [Bool.and_eq_true, decide_eq_true_eq] at z; omega), Nat.add_zero]
  have := h1 (8 - P.2.2.2.1)
  rw [show P.2.2.2.1 + (8 - P.2.2.2.1) = 8 by omega] at this
  rw [this]
  exact cntN_cong (fun k hk => by simp [hk])
