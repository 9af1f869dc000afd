/-! order: neighbours who may change places -/
theorem look_congr {P : Pn} {f f' : Nat → Nat} : ∀ n (σ : Hn), (∀ i, i < n → f i = f' i) → lookN P f n σ = lookN P f' n σ
  | 0, _, _ => rfl
  | n + 1, σ, h => by
    show lookN1 P (lookN P f n σ) (f n) = lookN1 P (lookN P f' n σ) (f' n)
    rw [look_congr n σ (fun i hi => h i (by omega)), h n (by omega)]
theorem adv_congr {P : Pn} {f f' : Nat → Nat} {w : Nat} (h : ∀ i, i < w → f i = f' i) (σ : Hn) : advN P f w σ = advN P f' w σ := look_congr w _ h
theorem smS_congr {P : Pn} {f f' : Nat → Nat} {w : Nat} (h : ∀ σ, advN P f w σ = advN P f' w σ) : ∀ j (σ : Hn), smS P w f j σ = smS P w f' j σ
  | 0, _ => rfl
  | j + 1, σ => by
    unfold smS
    rw [h σ, smS_congr h j]
theorem cabA_eq {f s a : Nat} (ha : a < 2 * f) : cabA f s a = if s % (2 * f) ≤ a then a - s % (2 * f) else a + 2 * f - s % (2 * f) := by
  have hr := Nat.mod_lt s (show 0 < 2 * f by omega)
  unfold cabA
  generalize s % (2 * f) = r at *
  by_cases c : r ≤ a
  · rw [if_pos c, show a + 2 * f - r = a - r + 2 * f by omega, Nat.add_mod_right, Nat.mod_eq_of_lt (by omega)]
  · rw [if_neg c, Nat.mod_eq_of_lt (by omega)]
theorem cabA_inj {f s a b : Nat} (ha : a < 2 * f) (hb : b < 2 * f) (h : cabA f s a = cabA f s b) : a = b := by
  have hr := Nat.mod_lt s (show 0 < 2 * f by omega)
  rw [cabA_eq ha, cabA_eq hb] at h
  generalize s % (2 * f) = r at *
  split at h <;> split at h <;> omega
theorem fits_put {P : Pn} {σ : Hn} {p d k e : Nat} (hx : σ.2.2.1 p = 0) (hde : d ≠ e) : fitsN P (putN σ p (d + 2)) k e = fitsN P σ k e := by
  have hxx : ∀ r, (updn σ.2.2.1 p (d + 2) r = e + 2) ↔ (σ.2.2.1 r = e + 2) := by
    intro r
    unfold updn
    by_cases c : r = p
    · rw [if_pos c, c, hx]; omega
    · rw [if_neg c]
  have hu : usedN P.2.2.2.2.1 (updn σ.2.2.1 p (d + 2)) e P.2.2.2.1 = usedN P.2.2.2.2.1 σ.2.2.1 e P.2.2.2.1 := by
    rw [used_sum, used_sum]
    exact sumN_cong (fun r _ => by simp only [hxx])
  have hb : bitsN (fun q => updn σ.2.2.1 p (d + 2) q == e + 2) P.2.2.2.1 = bitsN (fun q => σ.2.2.1 q == e + 2) P.2.2.2.1 := bitsN_cong (fun r _ => by
    rw [Bool.eq_iff_iff, beq_iff_eq, beq_iff_eq]
    exact hxx r)
  unfold fitsN
  show (!σ.2.1.testBit e && decide (usedN P.2.2.2.2.1 (updn σ.2.2.1 p (d + 2)) e P.2.2.2.1 + ktak k ≤ P.2.1) && (k != 1 || bitsN (fun q => updn σ.2.2.1 p (d + 2) q == e + 2) P.2.2.2.1 == 0)) = _
  rw [hu, hb]
theorem choice_cab {P : Pn} {σ : Hn} {p : Nat} (h : choiceN P σ p ≠ 0) : choiceN P σ p = cabA P.1 σ.1 (P.2.2.2.2.2.1 p) + 1 ∨ choiceN P σ p = cabA P.1 σ.1 (2 * P.1 - 1 - P.2.2.2.2.2.1 p) + 1 := by
  unfold choiceN at h ⊢
  simp only at h ⊢
  by_cases c : p < P.2.2.2.1 ∧ σ.2.2.1 p = 0
  · rw [if_pos c] at h ⊢
    by_cases uf : P.2.2.2.2.1 p = 3 ∨ P.2.2.2.2.2.1 p < P.2.2.2.2.2.2 p
    · simp only [if_pos uf] at h ⊢
      by_cases g1 : fitsN P σ (P.2.2.2.2.1 p) (cabA P.1 σ.1 (P.2.2.2.2.2.1 p)) = true
      · rw [if_pos g1]; exact Or.inl rfl
      · rw [if_neg g1] at h ⊢
        by_cases g2 : (P.2.2.2.2.1 p = 3 ∨ P.2.2.2.2.1 p = 4) ∧ fitsN P σ (P.2.2.2.2.1 p) (cabA P.1 σ.1 (2 * P.1 - 1 - P.2.2.2.2.2.1 p)) = true
        · rw [if_pos g2]; exact Or.inr rfl
        · rw [if_neg g2] at h; exact absurd rfl h
    · simp only [if_neg uf] at h ⊢
      by_cases g1 : fitsN P σ (P.2.2.2.2.1 p) (cabA P.1 σ.1 (2 * P.1 - 1 - P.2.2.2.2.2.1 p)) = true
      · rw [if_pos g1]; exact Or.inr rfl
      · rw [if_neg g1] at h ⊢
        by_cases g2 : (P.2.2.2.2.1 p = 3 ∨ P.2.2.2.2.1 p = 4) ∧ fitsN P σ (P.2.2.2.2.1 p) (cabA P.1 σ.1 (P.2.2.2.2.2.1 p)) = true
        · rw [if_pos g2]; exact Or.inl rfl
        · rw [if_neg g2] at h; exact absurd rfl h
  · rw [if_neg c] at h
    exact absurd rfl h
theorem choice_put {P : Pn} {σ : Hn} {p q : Nat} (oP : OKP P) (hq : q < P.2.2.2.1) (hpq : p ≠ q) (hF : P.2.2.2.2.2.1 p ≠ P.2.2.2.2.2.1 q) (h : choiceN P σ p ≠ 0) : choiceN P (putN σ p (choiceN P σ p + 1)) q = choiceN P σ q := by
  have hp := choice_p h
  have hx := choiceN_0 h
  have f1 := (oP.2.2.2.2.2 p hp).1
  have f2 := (oP.2.2.2.2.2 q hq).1
  obtain ⟨d, hd⟩ : ∃ d, choiceN P σ p = d + 1 := ⟨choiceN P σ p - 1, by omega⟩
  have hcab := choice_cab h
  rw [hd] at hcab ⊢
  have n1 : d ≠ cabA P.1 σ.1 (P.2.2.2.2.2.1 q) := by
    intro z
    rcases hcab with c | c
    · have := cabA_inj (f := P.1) (s := σ.1) (a := P.2.2.2.2.2.1 p) (b := P.2.2.2.2.2.1 q) (by omega) (by omega) (by omega)
      omega
    · have := cabA_inj (f := P.1) (s := σ.1) (a := 2 * P.1 - 1 - P.2.2.2.2.2.1 p) (b := P.2.2.2.2.2.1 q) (by omega) (by omega) (by omega)
      omega
  have n2 : d ≠ cabA P.1 σ.1 (2 * P.1 - 1 - P.2.2.2.2.2.1 q) := by
    intro z
    rcases hcab with c | c
    · have := cabA_inj (f := P.1) (s := σ.1) (a := P.2.2.2.2.2.1 p) (b := 2 * P.1 - 1 - P.2.2.2.2.2.1 q) (by omega) (by omega) (by omega)
      omega
    · have := cabA_inj (f := P.1) (s := σ.1) (a := 2 * P.1 - 1 - P.2.2.2.2.2.1 p) (b := 2 * P.1 - 1 - P.2.2.2.2.2.1 q) (by omega) (by omega) (by omega)
      omega
  have hxq : (putN σ p (d + 1 + 1)).2.2.1 q = σ.2.2.1 q := by
    unfold putN updn
    simp only
    rw [if_neg (fun z => hpq z.symm)]
  have hs1 : (putN σ p (d + 1 + 1)).1 = σ.1 := rfl
  have g1 := fun k => fits_put (P := P) (k := k) hx n1
  have g2 := fun k => fits_put (P := P) (k := k) hx n2
  unfold choiceN
  simp only [hxq, hs1]
  by_cases c : P.2.2.2.2.1 q = 3 ∨ P.2.2.2.2.2.1 q < P.2.2.2.2.2.2 q
  · simp only [if_pos c, g1, g2]
  · simp only [if_neg c, g1, g2]
theorem look_comm {P : Pn} {σ : Hn} {p q : Nat} (oP : OKP P) (hp : p < P.2.2.2.1) (hq : q < P.2.2.2.1) (hpq : p ≠ q) (hF : P.2.2.2.2.2.1 p ≠ P.2.2.2.2.2.1 q) : lookN1 P (lookN1 P σ p) q = lookN1 P (lookN1 P σ q) p := by
  have e1 : ∀ (τ : Hn) r, lookN1 P τ r = if choiceN P τ r = 0 then τ else putN τ r (choiceN P τ r + 1) := fun _ _ => rfl
  rw [e1 σ p, e1 σ q]
  by_cases c1 : choiceN P σ p = 0
  · rw [if_pos c1, e1 σ q]
    by_cases c2 : choiceN P σ q = 0
    · rw [if_pos c2, e1 σ p, if_pos c1]
    · rw [if_neg c2, e1 _ p, choice_put oP hp (fun z => hpq z.symm) (fun z => hF z.symm) c2, if_pos c1]
  · rw [if_neg c1, e1 _ q, choice_put oP hq hpq hF c1]
    by_cases c2 : choiceN P σ q = 0
    · rw [if_pos c2, if_pos c2, e1 σ p, if_neg c1]
    · rw [if_neg c2, if_neg c2, e1 _ p, choice_put oP hp (fun z => hpq z.symm) (fun z => hF z.symm) c2, if_neg c1]
      unfold putN
      simp only
      have hu : ∀ (x : Nat → Nat) (a b : Nat), updn (updn x p a) q b = updn (updn x q b) p a := by
        intro x a b
        funext r
        unfold updn
        by_cases d1 : r = p
        · rw [if_neg (by omega), if_pos d1, if_pos d1]
        · rw [if_neg d1, if_neg d1]
      rw [hu, hu]
theorem look_swp {P : Pn} {f : Nat → Nat} {i : Nat} (hc : ∀ τ, lookN1 P (lookN1 P τ (f i)) (f (i + 1)) = lookN1 P (lookN1 P τ (f (i + 1))) (f i)) (σ : Hn) : ∀ k, lookN P (swp f i (i + 1)) (i + 2 + k) σ = lookN P f (i + 2 + k) σ
  | 0 => by
    show lookN1 P (lookN1 P (lookN P (swp f i (i + 1)) i σ) (swp f i (i + 1) i)) (swp f i (i + 1) (i + 1)) = lookN1 P (lookN1 P (lookN P f i σ) (f i)) (f (i + 1))
    have h0 : lookN P (swp f i (i + 1)) i σ = lookN P f i σ := look_congr i σ (fun k hk => by unfold swp; rw [if_neg (by omega), if_neg (by omega)])
    have h1 : swp f i (i + 1) i = f (i + 1) := by unfold swp; rw [if_neg (by omega), if_pos rfl]
    have h2 : swp f i (i + 1) (i + 1) = f i := by unfold swp; rw [if_pos rfl]
    rw [h0, h1, h2, hc]
  | k + 1 => by
    show lookN1 P (lookN P (swp f i (i + 1)) (i + 2 + k) σ) (swp f i (i + 1) (i + 2 + k)) = lookN1 P (lookN P f (i + 2 + k) σ) (f (i + 2 + k))
    rw [look_swp hc σ k]
    have : swp f i (i + 1) (i + 2 + k) = f (i + 2 + k) := by unfold swp; rw [if_neg (by omega), if_neg (by omega)]
    rw [this]
def twR (a b : Nat) (τ τ' : Hn) : Prop := τ'.1 = τ.1 ∧ τ'.2.1 = τ.2.1 ∧ (∀ r, τ'.2.2.1 r = τ.2.2.1 (trp a b r)) ∧ ∀ r, 2 ≤ τ'.2.2.1 r → τ'.2.2.2 r = τ.2.2.2 (trp a b r)
section TW
variable {P : Pn} {a b : Nat}
theorem trp_iff (ha : a < P.2.2.2.1) (hb : b < P.2.2.2.1) (r : Nat) : trp a b r < P.2.2.2.1 ↔ r < P.2.2.2.1 := ⟨fun h => by have := trp_lt ha hb h; rw [trp_inv] at this; exact this, fun h => trp_lt ha hb h⟩
theorem tw_let (ha : a < P.2.2.2.1) (hb : b < P.2.2.2.1) (hK : ∀ r, P.2.2.2.2.1 (trp a b r) = P.2.2.2.2.1 r) (hT : ∀ r, P.2.2.2.2.2.2 (trp a b r) = P.2.2.2.2.2.2 r) {τ τ' : Hn} (h : twR a b τ τ') : twR a b (letOutN P τ) (letOutN P τ') := by
  obtain ⟨h1, h2, h3, h4⟩ := h
  have ho : ∀ r, outN P τ'.1 τ'.2.2.1 τ'.2.2.2 r = outN P τ.1 τ.2.2.1 τ.2.2.2 (trp a b r) := by
    intro r
    unfold outN
    rw [h1, h3 r, hK, hT]
    by_cases c : 2 ≤ τ.2.2.1 (trp a b r)
    · rw [h4 r (by rw [h3 r]; exact c)]
    · simp [c]
  have hx : ∀ r, outX P τ'.1 τ'.2.2.1 τ'.2.2.2 P.2.2.2.1 r = outX P τ.1 τ.2.2.1 τ.2.2.2 P.2.2.2.1 (trp a b r) := by
    intro r
    unfold outX
    rw [ho r, h3 r]
    simp only [trp_iff ha hb]
  refine ⟨h1, h2, hx, fun r hr => ?_⟩
  have hr2 : 2 ≤ τ'.2.2.1 r := by
    have : outX P τ'.1 τ'.2.2.1 τ'.2.2.2 P.2.2.2.1 r = (letOutN P τ').2.2.1 r := rfl
    rw [← this] at hr
    unfold outX at hr
    split at hr
    · omega
    · exact hr
  show outY τ'.2.2.1 τ'.2.2.2 P.2.2.2.1 r = outY τ.2.2.1 τ.2.2.2 P.2.2.2.1 (trp a b r)
  unfold outY
  rw [h3 r, h4 r hr2]
  simp only [trp_iff ha hb]
theorem tw_fits (ha : a < P.2.2.2.1) (hb : b < P.2.2.2.1) (hK : ∀ r, P.2.2.2.2.1 (trp a b r) = P.2.2.2.2.1 r) {τ τ' : Hn} (h : twR a b τ τ') (k c : Nat) : fitsN P τ' k c = fitsN P τ k c := by
  obtain ⟨h1, h2, h3, h4⟩ := h
  have hu : usedN P.2.2.2.2.1 τ'.2.2.1 c P.2.2.2.1 = usedN P.2.2.2.2.1 τ.2.2.1 c P.2.2.2.1 := by
    rw [used_sum, used_sum, ← sumN_trp (fun k => if τ.2.2.1 k = c + 2 then ktak (P.2.2.2.2.1 k) else 0) ha hb]
    refine sumN_cong (fun r _ => ?_)
    rw [h3 r, hK]
  have hbt : (bitsN (fun q => τ'.2.2.1 q == c + 2) P.2.2.2.1 == 0) = (bitsN (fun q => τ.2.2.1 q == c + 2) P.2.2.2.1 == 0) := by
    rw [Bool.eq_iff_iff, beq_iff_eq, beq_iff_eq, bits_0, bits_0]
    constructor
    · intro z r hr
      have := z (trp a b r) (trp_lt ha hb hr)
      rw [h3, trp_inv] at this
      exact this
    · intro z r hr
      rw [h3 r]
      exact z (trp a b r) (trp_lt ha hb hr)
  unfold fitsN
  rw [h2, hu, hbt]
theorem tw_choice (ha : a < P.2.2.2.1) (hb : b < P.2.2.2.1) (hK : ∀ r, P.2.2.2.2.1 (trp a b r) = P.2.2.2.2.1 r) (hF : ∀ r, P.2.2.2.2.2.1 (trp a b r) = P.2.2.2.2.2.1 r) (hT : ∀ r, P.2.2.2.2.2.2 (trp a b r) = P.2.2.2.2.2.2 r) {τ τ' : Hn} (h : twR a b τ τ') (r : Nat) : choiceN P τ' r = choiceN P τ (trp a b r) := by
  have hf := fun k c => tw_fits ha hb hK h k c
  obtain ⟨h1, h2, h3, h4⟩ := h
  unfold choiceN
  simp only [h1, h3 r, hK, hF, hT, hf, trp_iff ha hb]
theorem tw_look1 (ha : a < P.2.2.2.1) (hb : b < P.2.2.2.1) (hK : ∀ r, P.2.2.2.2.1 (trp a b r) = P.2.2.2.2.1 r) (hF : ∀ r, P.2.2.2.2.2.1 (trp a b r) = P.2.2.2.2.2.1 r) (hT : ∀ r, P.2.2.2.2.2.2 (trp a b r) = P.2.2.2.2.2.2 r) {τ τ' : Hn} (h : twR a b τ τ') (r : Nat) : twR a b (lookN1 P τ (trp a b r)) (lookN1 P τ' r) := by
  have hc := tw_choice ha hb hK hF hT h r
  unfold lookN1
  rw [hc]
  by_cases c : choiceN P τ (trp a b r) = 0
  · rw [if_pos c, if_pos c]; exact h
  · rw [if_neg c, if_neg c]
    obtain ⟨h1, h2, h3, h4⟩ := h
    generalize choiceN P τ (trp a b r) = v at *
    have hi : ∀ q, trp a b q = trp a b r ↔ q = r := fun q => ⟨fun z => by have := congrArg (trp a b) z; rw [trp_inv, trp_inv] at this; exact this, fun z => by rw [z]⟩
    refine ⟨h1, h2, fun q => ?_, fun q hq => ?_⟩
    · show updn τ'.2.2.1 r (v + 1) q = updn τ.2.2.1 (trp a b r) (v + 1) (trp a b q)
      unfold updn
      simp only [hi, h3 q]
    · show updn τ'.2.2.2 r 0 q = updn τ.2.2.2 (trp a b r) 0 (trp a b q)
      have hq' : 2 ≤ updn τ'.2.2.1 r (v + 1) q := hq
      unfold updn at hq' ⊢
      simp only [hi]
      by_cases d : q = r
      · rw [if_pos d, if_pos d]
      · rw [if_neg d, if_neg d]
        rw [if_neg d] at hq'
        exact h4 q hq'
theorem tw_look (ha : a < P.2.2.2.1) (hb : b < P.2.2.2.1) (hK : ∀ r, P.2.2.2.2.1 (trp a b r) = P.2.2.2.2.1 r) (hF : ∀ r, P.2.2.2.2.2.1 (trp a b r) = P.2.2.2.2.2.1 r) (hT : ∀ r, P.2.2.2.2.2.2 (trp a b r) = P.2.2.2.2.2.2 r) {f f' : Nat → Nat} : ∀ n {τ τ' : Hn}, (∀ i, i < n → f' i = trp a b (f i)) → twR a b τ τ' → twR a b (lookN P f n τ) (lookN P f' n τ')
  | 0, _, _, _, h => h
  | n + 1, τ, τ', hf, h => by
    have ih := tw_look ha hb hK hF hT n (fun i hi => hf i (by omega)) h
    have := tw_look1 ha hb hK hF hT ih (f' n)
    rw [hf n (by omega), trp_inv] at this
    show twR a b (lookN1 P (lookN P f n τ) (f n)) (lookN1 P (lookN P f' n τ') (f' n))
    rw [hf n (by omega)]
    exact this
theorem tw_sum (ha : a < P.2.2.2.1) (hb : b < P.2.2.2.1) (hK : ∀ r, P.2.2.2.2.1 (trp a b r) = P.2.2.2.2.1 r) (hF : ∀ r, P.2.2.2.2.2.1 (trp a b r) = P.2.2.2.2.2.1 r) (hT : ∀ r, P.2.2.2.2.2.2 (trp a b r) = P.2.2.2.2.2.2 r) {f f' : Nat → Nat} {w : Nat} (hf : ∀ i, i < w → f' i = trp a b (f i)) : ∀ j {τ τ' : Hn}, twR a b τ τ' → smS P w f' j τ' = smS P w f j τ
  | 0, _, _, _ => rfl
  | j + 1, τ, τ', h => by
    have hm : missN P τ' = missN P τ := by
      unfold missN
      rw [cnt_sum, cnt_sum, ← sumN_trp (fun k => if (τ.2.2.1 k == 1) = true then 1 else 0) ha hb]
      congr 1
      refine sumN_cong (fun r _ => ?_)
      rw [h.2.2.1 r]
    have h' : twR a b (τ.1 + 1, τ.2) (τ'.1 + 1, τ'.2) := ⟨by rw [h.1], h.2.1, h.2.2.1, h.2.2.2⟩
    have ha' : twR a b (advN P f w τ) (advN P f' w τ') := tw_look ha hb hK hF hT w hf (tw_let ha hb hK hT h')
    unfold smS
    rw [hm, tw_sum ha hb hK hF hT hf j ha']
end TW
theorem sw_sum {P : Pn} {σ : Hn} {w i : Nat} {f : Nat → Nat} (oP : OKP P) (hf : ∀ m, m < w → f m < P.2.2.2.1 ∧ σ.2.2.1 (f m) = 0) (hinj : ∀ m q, m < w → q < w → f m = f q → m = q) (hi : i + 1 < w) (hs : swN P (f i) (f (i + 1)) = true) (j : Nat) : smS P w (swp f i (i + 1)) j σ = smS P w f j σ := by
  obtain ⟨a1, a2⟩ := hf i (by omega)
  obtain ⟨b1, b2⟩ := hf (i + 1) (by omega)
  have hne : f i ≠ f (i + 1) := fun z => by have := hinj i (i + 1) (by omega) (by omega) z; omega
  by_cases hF : P.2.2.2.2.2.1 (f i) = P.2.2.2.2.2.1 (f (i + 1))
  · unfold swN at hs
    rw [Bool.or_eq_true, bne_iff_ne, Bool.and_eq_true, beq_iff_eq, beq_iff_eq] at hs
    have hs' : P.2.2.2.2.1 (f i) = P.2.2.2.2.1 (f (i + 1)) ∧ P.2.2.2.2.2.2 (f i) = P.2.2.2.2.2.2 (f (i + 1)) := by
      rcases hs with z | z
      · exact absurd hF z
      · exact z
    have hall : ∀ g : Nat → Nat, g (f i) = g (f (i + 1)) → ∀ r, g (trp (f i) (f (i + 1)) r) = g r := by
      intro g hg r
      unfold trp
      by_cases c1 : r = f i
      · rw [if_pos c1, c1, hg]
      · rw [if_neg c1]
        by_cases c2 : r = f (i + 1)
        · rw [if_pos c2, c2, hg]
        · rw [if_neg c2]
    refine tw_sum a1 b1 (hall _ hs'.1) (hall _ hF) (hall _ hs'.2) (f := f) (f' := swp f i (i + 1)) (fun m hm => ?_) j ⟨rfl, rfl, fun r => (hall _ (by rw [a2, b2]) r).symm, fun r hr => ?_⟩
    · unfold swp trp
      by_cases c1 : m = i + 1
      · rw [if_pos c1, c1, if_neg (fun z => hne z.symm), if_pos rfl]
      · rw [if_neg c1]
        by_cases c2 : m = i
        · rw [if_pos c2, c2, if_pos rfl]
        · rw [if_neg c2, if_neg (fun z => c2 (hinj m i hm (by omega) z)), if_neg (fun z => c1 (hinj m (i + 1) hm hi z))]
    · unfold trp
      rw [if_neg (fun z => by rw [z, a2] at hr; omega), if_neg (fun z => by rw [z, b2] at hr; omega)]
  · refine smS_congr (fun τ => ?_) j σ
    have := look_swp (P := P) (f := f) (i := i) (fun τ => look_comm oP a1 b1 hne hF) (letOutN P (τ.1 + 1, τ.2)) (w - (i + 2))
    rw [show i + 2 + (w - (i + 2)) = w by omega] at this
    exact this
