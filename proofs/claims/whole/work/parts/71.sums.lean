/-! order: all arrivals together, told at once -/
def sumN (g : Nat → Nat) : Nat → Nat
  | 0 => 0
  | n + 1 => sumN g n + g n
theorem sumN_cong {g g' : Nat → Nat} : ∀ {n : Nat}, (∀ k, k < n → g k = g' k) → sumN g n = sumN g' n
  | 0, _ => rfl
  | n + 1, h => by rw [sumN, sumN, sumN_cong (fun k hk => h k (by omega)), h n (by omega)]
theorem sumN_add (g g' : Nat → Nat) : ∀ n, sumN (fun k => g k + g' k) n = sumN g n + sumN g' n
  | 0 => rfl
  | n + 1 => by rw [sumN, sumN, sumN, sumN_add g g' n]; omega
theorem sumN_0 : ∀ n, sumN (fun _ => 0) n = 0
  | 0 => rfl
  | n + 1 => by rw [sumN, sumN_0 n]
theorem sumN_swap (c : Nat → Nat → Nat) (m : Nat) : ∀ n, sumN (fun p => sumN (fun t => c p t) m) n = sumN (fun t => sumN (fun p => c p t) n) m
  | 0 => by rw [show (fun t => sumN (fun p => c p t) 0) = fun _ => 0 from rfl, sumN_0]; rfl
  | n + 1 => by
    rw [sumN, sumN_swap c m n]
    rw [← sumN_add]
    rfl
theorem sumN_out (g : Nat → Nat) (a : Nat) : ∀ n, sumN g n = sumN (fun k => if k = a then 0 else g k) n + (if a < n then g a else 0)
  | 0 => rfl
  | n + 1 => by
    rw [sumN, sumN, sumN_out g a n]
    by_cases h : n = a
    · subst h
      rw [if_neg (Nat.lt_irrefl n), if_pos rfl, if_pos (by omega)]
    · rw [if_neg h]
      by_cases h2 : a < n
      · rw [if_pos h2, if_pos (by omega)]; omega
      · rw [if_neg h2, if_neg (by omega)]; omega
def trp (a b k : Nat) : Nat := if k = a then b else if k = b then a else k
theorem trp_lt {a b k n : Nat} (ha : a < n) (hb : b < n) (hk : k < n) : trp a b k < n := by
  unfold trp
  repeat' split
  all_goals omega
theorem trp_inv (a b k : Nat) : trp a b (trp a b k) = k := by
  unfold trp
  by_cases h1 : k = a
  · rw [if_pos h1]
    by_cases h2 : b = a
    · rw [if_pos h2]; omega
    · rw [if_neg h2, if_pos rfl]; omega
  · rw [if_neg h1]
    by_cases h2 : k = b
    · rw [if_pos h2, if_pos rfl]; omega
    · rw [if_neg h2, if_neg h1, if_neg h2]
theorem sumN_trp (g : Nat → Nat) {a b n : Nat} (ha : a < n) (hb : b < n) : sumN (fun k => g (trp a b k)) n = sumN g n := by
  by_cases hab : a = b
  · subst hab
    refine sumN_cong (fun k _ => ?_)
    unfold trp
    by_cases h : k = a
    · rw [if_pos h, h]
    · rw [if_neg h, if_neg h]
  · rw [sumN_out (fun k => g (trp a b k)) a, sumN_out (fun k => if k = a then 0 else g (trp a b k)) b, sumN_out g a, sumN_out (fun k => if k = a then 0 else g k) b, if_pos ha, if_pos hb, if_pos hb]
    have e1 : sumN (fun k => if k = b then 0 else if k = a then 0 else g (trp a b k)) n = sumN (fun k => if k = b then 0 else if k = a then 0 else g k) n := by
      refine sumN_cong (fun k _ => ?_)
      by_cases h1 : k = b
      · rw [if_pos h1, if_pos h1]
      · rw [if_neg h1, if_neg h1]
        by_cases h2 : k = a
        · rw [if_pos h2, if_pos h2]
        · rw [if_neg h2, if_neg h2]
          unfold trp
          rw [if_neg h2, if_neg h1]
    rw [e1]
    rw [if_neg (fun z => hab z.symm), if_neg (fun z => hab z.symm)]
    have t1 : trp a b a = b := by unfold trp; rw [if_pos rfl]
    have t2 : trp a b b = a := by unfold trp; rw [if_neg (fun z => hab z.symm), if_pos rfl]
    rw [t1, t2]
    rw [if_pos ha]
    omega
theorem cnt_sum (g : Nat → Bool) : ∀ n, cntN g n = sumN (fun k => if g k = true then 1 else 0) n
  | 0 => rfl
  | n + 1 => by rw [cntN, sumN, cnt_sum g n]
theorem used_sum (kd x : Nat → Nat) (c : Nat) : ∀ n, usedN kd x c n = sumN (fun k => if x k = c + 2 then ktak (kd k) else 0) n
  | 0 => rfl
  | n + 1 => by rw [usedN, sumN, used_sum kd x c n]
theorem bits_0 (g : Nat → Bool) : ∀ n, bitsN g n = 0 ↔ ∀ k, k < n → g k = false
  | 0 => ⟨fun _ k hk => absurd hk (Nat.not_lt_zero k), fun _ => rfl⟩
  | n + 1 => by
    have ih := bits_0 g n
    rw [bitsN]
    constructor
    · intro h k hk
      have h1 : bitsN g n = 0 := by
        have := Nat.left_le_or (n := bitsN g n) (m := if g n = true then 2 ^ n else 0)
        omega
      by_cases hn : k = n
      · subst hn
        rw [h1, Nat.zero_or] at h
        by_cases hg : g k = true
        · rw [if_pos hg] at h
          have := Nat.pow_pos (n := k) (show 0 < 2 by decide)
          omega
        · simpa using hg
      · exact ih.1 h1 k (by omega)
    · intro h
      rw [ih.2 (fun k hk => h k (by omega)), h n (by omega), if_neg (by decide)]
      rfl
theorem noR_iff (P : Pn) (σ : Hn) : noR P σ = true ↔ ∀ q, q < P.2.2.2.1 → σ.2.2.1 q < 2 := by
  unfold noR
  rw [beq_iff_eq, bits_0]
  constructor
  · intro h q hq
    have := h q hq
    rw [beq_eq_false_iff_ne] at this
    by_cases c : σ.2.2.1 q < 2
    · exact c
    · exact absurd ((sI_1 _).2 (by omega)) this
  · intro h q hq
    have := h q hq
    rw [beq_eq_false_iff_ne]
    intro z
    have := (sI_1 _).1 z
    omega
theorem miss_0 (P : Pn) (σ : Hn) : missN P σ = 0 ↔ ∀ p, p < P.2.2.2.1 → σ.2.2.1 p = 1 := by
  have h1 := cntN_le (fun p => σ.2.2.1 p == 1) P.2.2.2.1
  have h2 := cntN_all (g := fun p => σ.2.2.1 p == 1) P.2.2.2.1
  simp only [beq_iff_eq] at h2
  unfold missN
  rw [← h2]
  omega
def smS (P : Pn) (w : Nat) (f : Nat → Nat) : Nat → Hn → Nat
  | 0, _ => 0
  | j + 1, st => missN P st + smS P w f j (advN P f w st)
theorem smS_le {P : Pn} {w : Nat} {f : Nat → Nat} (hn : P.2.2.2.1 ≤ 8) : ∀ j st, smS P w f j st ≤ 8 * j
  | 0, _ => Nat.le_refl _
  | j + 1, st => by
    have h1 := missN_le (σ := st) hn
    have h2 := smS_le (w := w) (f := f) hn j (advN P f w st)
    unfold smS
    omega
theorem smS_there {P : Pn} {w : Nat} {f : Nat → Nat} : ∀ j st, missN P st = 0 → smS P w f j st = 0
  | 0, _, _ => rfl
  | j + 1, st, h => by
    unfold smS
    rw [h, smS_there j _ ((miss_0 _ _).2 (fun p hp => adv_there ((miss_0 _ _).1 h p hp)))]
theorem letOut_id {P : Pn} {σ : Hn} (h : ∀ q, q < P.2.2.2.1 → σ.2.2.1 q < 2) : letOutN P σ = σ := by
  unfold letOutN
  have e1 : outX P σ.1 σ.2.2.1 σ.2.2.2 P.2.2.2.1 = σ.2.2.1 := by
    funext q
    unfold outX outN
    rw [if_neg]
    intro z
    have := h q z.1
    have := (of_decide_eq_true z.2).1
    omega
  have e2 : outY σ.2.2.1 σ.2.2.2 P.2.2.2.1 = σ.2.2.2 := by
    funext q
    unfold outY
    rw [if_neg]
    intro z
    have := h q z.1
    omega
  rw [e1, e2]
theorem choice_p {P : Pn} {σ : Hn} {p : Nat} (h : choiceN P σ p ≠ 0) : p < P.2.2.2.1 := by
  unfold choiceN at h
  by_cases c : p < P.2.2.2.1 ∧ σ.2.2.1 p = 0
  · exact c.1
  · rw [if_neg c] at h; exact absurd rfl h
theorem look_id {P : Pn} {f : Nat → Nat} : ∀ n (σ : Hn), (∀ q, q < P.2.2.2.1 → (lookN P f n σ).2.2.1 q < 2) → lookN P f n σ = σ ∧ ∀ i, i < n → choiceN P σ (f i) = 0
  | 0, σ, _ => ⟨rfl, fun i hi => absurd hi (Nat.not_lt_zero i)⟩
  | n + 1, σ, h => by
    have hl : lookN P f (n + 1) σ = lookN1 P (lookN P f n σ) (f n) := rfl
    rw [hl] at h ⊢
    have hc : choiceN P (lookN P f n σ) (f n) = 0 := by
      by_cases c : choiceN P (lookN P f n σ) (f n) = 0
      · exact c
      · have := h (f n) (choice_p c)
        unfold lookN1 at this
        rw [if_neg c] at this
        unfold putN updn at this
        simp only [if_true] at this
        omega
    have hl1 : lookN1 P (lookN P f n σ) (f n) = lookN P f n σ := by unfold lookN1; rw [if_pos hc]
    rw [hl1] at h ⊢
    obtain ⟨i1, i2⟩ := look_id n σ h
    rw [i1] at hc
    refine ⟨i1, fun i hi => ?_⟩
    by_cases hin : i = n
    · subst hin; exact hc
    · exact i2 i (by omega)
theorem look_all0 {P : Pn} {f : Nat → Nat} : ∀ n (σ : Hn), (∀ i, i < n → choiceN P σ (f i) = 0) → lookN P f n σ = σ
  | 0, _, _ => rfl
  | n + 1, σ, h => by
    have hl : lookN P f (n + 1) σ = lookN1 P (lookN P f n σ) (f n) := rfl
    rw [hl, look_all0 n σ (fun i hi => h i (by omega))]
    unfold lookN1
    rw [if_pos (h n (by omega))]
theorem choice_mod {P : Pn} {s s' : Nat} {τ : Nat × (Nat → Nat) × (Nat → Nat)} {p : Nat} (h : s % (2 * P.1) = s' % (2 * P.1)) : choiceN P (s, τ) p = choiceN P (s', τ) p := by
  have hc : ∀ q, cabA P.1 s q = cabA P.1 s' q := by
    intro q
    unfold cabA
    rw [h]
  have hf : ∀ k c, fitsN P (s, τ) k c = fitsN P (s', τ) k c := fun _ _ => rfl
  unfold choiceN
  simp only [hc, hf]
theorem miss_s {P : Pn} {s s' : Nat} {τ : Nat × (Nat → Nat) × (Nat → Nat)} : missN P (s, τ) = missN P (s', τ) := rfl
theorem smS_still {P : Pn} {w : Nat} {f : Nat → Nat} {τ : Nat × (Nat → Nat) × (Nat → Nat)} (h1 : ∀ q, q < P.2.2.2.1 → τ.2.1 q < 2) (h2 : ∀ s i, i < w → choiceN P (s, τ) (f i) = 0) : ∀ j s, smS P w f j (s, τ) = missN P (s, τ) * j
  | 0, s => rfl
  | j + 1, s => by
    have ha : advN P f w (s, τ) = (s + 1, τ) := by
      unfold advN
      rw [letOut_id (σ := (s + 1, τ)) h1]
      exact look_all0 w _ (fun i hi => h2 (s + 1) i hi)
    unfold smS
    rw [ha, smS_still h1 h2 j (s + 1), Nat.mul_add, Nat.mul_one, Nat.add_comm]
    rfl
theorem tg_ok {P : Pn} {w : Nat} {f : Nat → Nat} {L : Nat} (hf : 1 ≤ P.1) : ∀ j t T u (st : Hn), t + j = 61 → u ≤ st.1 → (noR P st = true → ∀ k, k < u → ∀ i, i < w → choiceN P (st.1 - k, st.2) (f i) = 0) → (T + smS P w f j st < L → tgN P w f L j t T u st = T + smS P w f j st) ∧ (L ≤ T + smS P w f j st → L ≤ tgN P w f L j t T u st)
  | 0, t, T, u, st, _, _, _ => ⟨fun _ => rfl, fun h => h⟩
  | j + 1, t, T, u, st, ht, hu, hJ => by
    have hN : tgN P w f L (j + 1) t T u st = if T < L then (if missN P st = 0 then T else if 2 * P.1 < (if noR P st then u + 1 else 0) then T + missN P st * (61 - t) else tgN P w f L j (t + 1) (T + missN P st) (if noR P st then u + 1 else 0) (advN P f w st)) else T := rfl
    rw [hN]
    by_cases hT : T < L
    · rw [if_pos hT]
      by_cases hm : missN P st = 0
      · rw [if_pos hm, smS_there (j + 1) st hm]
        exact ⟨fun _ => rfl, fun h => h⟩
      · rw [if_neg hm]
        have hS : smS P w f (j + 1) st = missN P st + smS P w f j (advN P f w st) := rfl
        have hs1 : (advN P f w st).1 = st.1 + 1 := by
          have hl : ∀ n (σ : Hn), (lookN P f n σ).1 = σ.1 := by
            intro n
            induction n with
            | zero => intro σ; rfl
            | succ n ih =>
              intro σ
              show (lookN1 P (lookN P f n σ) (f n)).1 = σ.1
              unfold lookN1
              split
              · exact ih σ
              · exact ih σ
          unfold advN
          rw [hl]
          rfl
        by_cases hr : noR P st = true
        · rw [if_pos hr]
          have hr' := (noR_iff P st).1 hr
          by_cases hsc : 2 * P.1 < u + 1
          · rw [if_pos hsc]
            have hst : ∀ s i, i < w → choiceN P (s, st.2) (f i) = 0 := by
              intro s i hi
              have hk := hJ hr ((st.1 + 2 * P.1 - s % (2 * P.1)) % (2 * P.1)) (by have := Nat.mod_lt (st.1 + 2 * P.1 - s % (2 * P.1)) (show 0 < 2 * P.1 by omega); omega) i hi
              rw [← choice_mod (s := s)] at hk
              · exact hk
              · have h1 := Nat.mod_lt s (show 0 < 2 * P.1 by omega)
                have h2 := Nat.mod_lt (st.1 + 2 * P.1 - s % (2 * P.1)) (show 0 < 2 * P.1 by omega)
                have h3 := Nat.div_add_mod (st.1 + 2 * P.1 - s % (2 * P.1)) (2 * P.1)
                generalize (st.1 + 2 * P.1 - s % (2 * P.1)) % (2 * P.1) = m at *
                generalize hq : (st.1 + 2 * P.1 - s % (2 * P.1)) / (2 * P.1) = q at *
                generalize hz : s % (2 * P.1) = z at *
                have h4 : st.1 - m + 2 * P.1 = z + 2 * P.1 * q := by omega
                rw [← Nat.add_mod_right (st.1 - m), h4, Nat.add_mul_mod_self_left, Nat.mod_eq_of_lt h1]
            have hsm := smS_still (w := w) (f := f) (τ := st.2) hr' hst (j + 1) st.1
            have hsm' : smS P w f (j + 1) st = missN P st * (j + 1) := hsm
            rw [hsm', show 61 - t = j + 1 by omega]
            exact ⟨fun _ => rfl, fun h => h⟩
          · rw [if_neg hsc]
            have ih := tg_ok (w := w) (f := f) (L := L) hf j (t + 1) (T + missN P st) (u + 1) (advN P f w st) (by omega) (by omega) (by
              intro hr2 k hk i hi
              have hr2' := (noR_iff P _).1 hr2
              have hlo : letOutN P (st.1 + 1, st.2) = (st.1 + 1, st.2) := letOut_id (σ := (st.1 + 1, st.2)) hr'
              have hav : advN P f w st = lookN P f w (st.1 + 1, st.2) := by unfold advN; rw [hlo]
              rw [hav] at hr2' ⊢
              obtain ⟨a1, a2⟩ := look_id w (st.1 + 1, st.2) hr2'
              rw [a1]
              cases k with
              | zero => exact a2 i hi
              | succ k =>
                have := hJ hr k (by omega) i hi
                rw [show st.1 + 1 - (k + 1) = st.1 - k by omega]
                exact this)
            rw [hS, ← Nat.add_assoc]
            exact ih
        · rw [if_neg hr, if_neg (by omega)]
          have ih := tg_ok (w := w) (f := f) (L := L) hf j (t + 1) (T + missN P st) 0 (advN P f w st) (by omega) (by omega) (fun _ k hk => absurd hk (Nat.not_lt_zero k))
          rw [hS, ← Nat.add_assoc]
          exact ih
    · rw [if_neg hT]
      exact ⟨fun h => by omega, fun _ => by omega⟩
