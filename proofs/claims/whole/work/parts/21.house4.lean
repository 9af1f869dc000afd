/-! a house: a step, beginnings, copies -/
def letOutN (P : Pn) (σ : Hn) : Hn := (σ.1, σ.2.1, outX P σ.1 σ.2.2.1 σ.2.2.2 P.2.2.2.1, outY σ.2.2.1 σ.2.2.2 P.2.2.2.1)
def lookN1 (P : Pn) (σ : Hn) (p : Nat) : Hn := if choiceN P σ p = 0 then σ else putN σ p (choiceN P σ p + 1)
/-- those at places below n of the line look, in its order -/
def lookN (P : Pn) (l : Nat → Nat) : Nat → Hn → Hn
  | 0, σ => σ
  | n + 1, σ => lookN1 P (lookN P l n σ) (l n)
def advN (P : Pn) (l : Nat → Nat) (n : Nat) (σ : Hn) : Hn := lookN P l n (letOutN P (σ.1 + 1, σ.2))
theorem cabA_lt {f s p : Nat} (hf : 1 ≤ f) : cabA f s p < 2 * f := Nat.mod_lt _ (by omega)
theorem choiceN_le {P : Pn} {σ : Hn} {p : Nat} (hf : 1 ≤ P.1) : choiceN P σ p ≤ 2 * P.1 := by
  have := fun q => cabA_lt (f := P.1) (s := σ.1) (p := q) hf
  unfold choiceN
  simp only
  have h1 := this (P.2.2.2.2.2.1 p)
  have h2 := this (2 * P.1 - 1 - P.2.2.2.2.2.1 p)
  repeat' split
  all_goals omega
theorem choiceN_ne {P : Pn} {σ : Hn} {p : Nat} (h : choiceN P σ p ≠ 0) : p < P.2.2.2.1 := by
  unfold choiceN at h
  by_cases hw : p < P.2.2.2.1 ∧ σ.2.2.1 p = 0
  · exact hw.1
  · rw [if_neg hw] at h; exact absurd rfl h
/-- what is sure of a house, with a bound of the steps ridden -/
def OKR (P : Pn) (σ : Hn) (m : Nat) : Prop := σ.1 ≤ m ∧ ∀ p, p < 8 → σ.2.2.1 p < 2 * P.1 + 2 ∧ σ.2.2.2 p ≤ m
theorem OKR.ok {P : Pn} {σ : Hn} {m : Nat} (h : OKR P σ m) (hm : m < 2 ^ 28) (hf : P.1 < 2 ^ 20) : OKH P σ := ⟨by have := h.1; omega, fun p hp => by have := h.2 p hp; omega⟩
theorem OKR.put {P : Pn} {σ : Hn} {m p x : Nat} (h : OKR P σ m) (hx : x < 2 * P.1 + 2) : OKR P (putN σ p x) m := by
  refine ⟨h.1, fun q hq => ?_⟩
  have := h.2 q hq
  unfold putN updn
  simp only
  constructor
  · split <;> omega
  · split <;> omega
theorem OKR.look1 {P : Pn} {σ : Hn} {m p : Nat} (h : OKR P σ m) (hf : 1 ≤ P.1) : OKR P (lookN1 P σ p) m := by
  unfold lookN1
  split
  · exact h
  · exact h.put (by have := choiceN_le (P := P) (σ := σ) (p := p) hf; omega)
theorem OKR.look {P : Pn} {σ : Hn} {m : Nat} {l : Nat → Nat} (h : OKR P σ m) (hf : 1 ≤ P.1) : ∀ n, OKR P (lookN P l n σ) m
  | 0 => h
  | n + 1 => (OKR.look h hf n).look1 hf
theorem OKR.letOut {P : Pn} {σ : Hn} {m : Nat} (h : OKR P σ m) (hf : 1 ≤ P.1) : OKR P (letOutN P σ) (m + 1) := by
  refine ⟨by have := h.1; unfold letOutN; simp only; omega, fun q hq => ?_⟩
  have := h.2 q hq
  unfold letOutN outX outY
  simp only
  constructor
  · split <;> omega
  · split <;> omega
theorem OKR.adv {P : Pn} {σ : Hn} {m : Nat} {l : Nat → Nat} (h : OKR P σ m) (hf : 1 ≤ P.1) (n : Nat) : OKR P (advN P l n σ) (m + 1) := by
  unfold advN
  have h1 : OKR P (letOutN P (σ.1 + 1, σ.2)) (m + 1) := by
    refine ⟨by have := h.1; unfold letOutN; simp only; omega, fun q hq => ?_⟩
    have := h.2 q hq
    unfold letOutN outX outY
    simp only
    constructor
    · split <;> omega
    · split <;> omega
  exact h1.look hf n
section HS
variable {d : Nat} {h : am_H} {a b : Nat} {P : Pn} {σ : Hn}
theorem m_letOut (hs : Stt h) (hp : PlanAt h b P) (hh : HouseAt h a b σ) (oP : OKP P) (oH : OKH P σ) (hab : b + 3 < a) (ha : a + 3 < 1000000) : am_cal (d + 3) 30 [.ref a] h = some (none, pH h a b (letOutN P σ)) := by
  refine (b_30 _ _ _).trans ?_; show am_ev _ 30 0 [some (.ref a), none, none] [] _ = _
  simp only [e_30_0, e_30_1, lg_n, lg_i, lg_r, wd_nil, am_wd_i, am_wd_r, am_wd_l, am_gk_s, am_fld_s, List.getElem?_cons_zero, List.getElem?_cons_succ, am_bk_v, am_bk_n, bo_0, bo_1, am_pk_s, List.length_cons, List.length_nil, Nat.zero_add, List.set_cons_zero, List.set_cons_succ, Nat.reduceAdd, Nat.reduceLeDiff, Nat.reduceLT]
  have := l_letOut (d := d) hs hp hh oP oH hab ha P.2.2.2.1 0 (by omega) none
  have e1 : outX P σ.1 σ.2.2.1 σ.2.2.2 0 = σ.2.2.1 := by funext q; unfold outX; simp
  have e2 : outY σ.2.2.1 σ.2.2.2 0 = σ.2.2.2 := by funext q; unfold outY; simp
  rw [e1, e2, nI_0, show (σ.1, σ.2.1, σ.2.2.1, σ.2.2.2) = σ from rfl, pH_self hh] at this
  exact this
theorem l_advance (hs : Stt h) (hp : PlanAt h b P) (hh : HouseAt h a b σ) (oP : OKP P) {m0 : Nat} (oH : OKR P σ m0) (hm0 : m0 < 2 ^ 28) (hab : b + 3 < a) (ha : a + 3 < 1000000) (hf : P.1 ≤ 15) {l m n tg : Nat} {g : Nat → Int32} {L : Nat → Nat} (htg : tg = 0 ∨ tg = 10) (hl : am_at h l = some (.inl (tg, m, .inl g))) (hgL : ∀ i, i < n → g i = nI (L i)) (hla : l < a ∨ a + 3 < l) (hL : ∀ i, i < n → L i < 2 ^ 20) (hnm : n ≤ m) (hm : m < 2 ^ 31) : ∀ j i, i + j = n → ∀ z, am_ev (d + 3) 29 16 [some (.ref a), some (.ref l), some (.int (nI n)), some (.int (nI i)), z] [] (pH h a b (lookN P L i σ)) = some (none, pH h a b (lookN P L n σ)) := by
  intro j
  induction j with
  | zero =>
    intro i hij z
    have : i = n := by omega
    subst this
    rw [e_29_16]
    simp only [e_29_0, e_29_1, e_29_2, e_29_5, e_29_6, e_29_7, e_29_10, e_29_11, e_29_14, e_29_15, e_29_17, e_29_18, e_29_21, e_29_22, e_29_23, e_29_24, e_29_27, e_29_28, e_29_29, e_29_30, e_29_31, e_29_34, e_29_36, e_29_38, e_29_39, e_29_42, e_29_43, e_29_44, e_29_45, e_29_46, e_29_47, e_29_49, e_29_52, e_29_55, e_29_58, lg_n, lg_i, lg_r, wd_nil, am_wd_i, am_wd_r, am_wd_l, am_gk_s, am_fld_s, List.getElem?_cons_zero, List.getElem?_cons_succ, am_bk_v, am_bk_n, bo_0, bo_1, am_pk_s, List.length_cons, List.length_nil, Nat.zero_add, List.set_cons_zero, List.set_cons_succ, Nat.reduceAdd, Nat.reduceLeDiff, Nat.reduceLT, nI_leI (show i < 2 ^ 31 by omega) (show i < 2 ^ 31 by omega), Nat.le_refl, if_true]
  | succ j ih =>
    intro i hij z
    have oR := oH.look (l := L) oP.1 i
    have ih' := ih (i + 1) (by omega)
    have hLi := hL i (by omega)
    generalize hg : pH h a b (lookN P L i σ) = h'
    have hs' : Stt h' := hg ▸ hs.pH ha
    have hp' : PlanAt h' b P := hg ▸ hp.pH (by omega)
    have hh' := hg ▸ HouseAt_pH h a b (lookN P L i σ)
    have hl' : am_at h' l = some (.inl (tg, m, .inl g)) := by rw [← hg, at_pH_ne hla]; exact hl
    have hak : ∀ k, am_ak (some (.inl (tg, m, .inl g))) 0 10 (nI i) k = k (nI (L i)) := fun k => by rw [am_ak_s g k htg (by omega) hm, hgL i (by omega)]
    have hcI : cI (choiceN P (lookN P L i σ) (L i) + 1) = -1 ↔ choiceN P (lookN P L i σ) (L i) = 0 := by
      have := choiceN_le (P := P) (σ := lookN P L i σ) (p := L i) oP.1
      have := oP.2.1
      unfold cI
      by_cases h0 : choiceN P (lookN P L i σ) (L i) = 0
      · simp [h0]
      · rw [if_neg (by omega), i_eq, nI_toInt (by omega), i_m1]
        omega
    rw [e_29_16]
    have hsI : ∀ y, sI (y + 1 + 1) = 1 := fun y => (sI_1 _).2 (by omega)
    simp only [e_29_0, e_29_1, e_29_2, e_29_5, e_29_6, e_29_7, e_29_10, e_29_11, e_29_14, e_29_15, e_29_17, e_29_18, e_29_21, e_29_22, e_29_24, e_29_27, e_29_28, e_29_29, e_29_30, e_29_31, e_29_34, e_29_36, e_29_38, e_29_39, e_29_42, e_29_43, e_29_44, e_29_45, e_29_46, e_29_47, e_29_49, e_29_52, e_29_55, e_29_58, e_29_23 hl', lg_n, lg_i, lg_r, wd_nil, am_wd_i, am_wd_r, am_wd_l, am_gk_s, am_fld_s, List.getElem?_cons_zero, List.getElem?_cons_succ, am_bk_v, am_bk_n, bo_0, bo_1, am_pk_s, List.length_cons, List.length_nil, Nat.zero_add, List.set_cons_zero, List.set_cons_succ, Nat.reduceAdd, Nat.reduceLeDiff, Nat.reduceLT, nI_leI (show n < 2 ^ 31 by omega) (show i < 2 ^ 31 by omega), if_neg (show ¬ n ≤ i by omega), nI_leI (show m < 2 ^ 31 by omega) (show i < 2 ^ 31 by omega), if_neg (show ¬ m ≤ i by omega), hl', hak, is_house hh', m_choiceOf hs' hp' hh' oP (oR.ok hm0 oP.2.1) hf hLi, hcI, nI_1]
    by_cases hc : choiceN P (lookN P L i σ) (L i) = 0
    · rw [if_pos hc, ← hg]
      have : lookN P L (i + 1) σ = lookN P L i σ := by rw [lookN, lookN1, if_pos hc]
      rw [← this]
      exact ih' _
    · have h8 := choiceN_ne hc
      have hn8 := oP.2.2.2.1
      have hpu := m_put (d := d + 2) hh' (show L i < 8 by omega) (choiceN P (lookN P L i σ) (L i) + 1)
      have e1 : sI (choiceN P (lookN P L i σ) (L i) + 1) = 1 := (sI_1 _).2 (by omega)
      rw [e1] at hpu
      rw [if_neg hc]
      simp only [e_29_49, e_29_52, e_29_55, e_29_58, lg_n, lg_i, lg_r, wd_nil, am_wd_i, am_wd_r, am_wd_l, am_gk_s, am_fld_s, List.getElem?_cons_zero, List.getElem?_cons_succ, am_bk_v, am_bk_n, bo_0, bo_1, am_pk_s, List.length_cons, List.length_nil, Nat.zero_add, List.set_cons_zero, List.set_cons_succ, Nat.reduceAdd, Nat.reduceLeDiff, Nat.reduceLT, hpu, nI_1]
      have : lookN P L (i + 1) σ = putN (lookN P L i σ) (L i) (choiceN P (lookN P L i σ) (L i) + 1) := by rw [lookN, lookN1, if_neg hc]
      rw [← this, ← hg, pH_pH]
      exact ih' _
theorem set_hd (hh : HouseAt h a b σ) (s t : Nat) : am_set h a (.inr (1, [.ref b, .int (nI s), .int (nI t), .ref (a + 1), .ref (a + 2), .ref (a + 3)])) = pH h a b (s, t, σ.2.2) := by
  have := rH_s0 (h := h) (a := a) (b := b) (s := nI σ.1) (t := nI σ.2.1) (f := fun p => sI (σ.2.2.1 p)) (g := fun p => cI (σ.2.2.1 p)) (r := fun p => nI (σ.2.2.2 p)) (s' := nI s) (t' := nI t)
  rw [← pH_rH, pH_self hh] at this
  exact this
theorem m_advance (hs : Stt h) (hp : PlanAt h b P) (hh : HouseAt h a b σ) (oP : OKP P) {m0 : Nat} (oH : OKR P σ m0) (hm0 : m0 + 1 < 2 ^ 28) (hab : b + 3 < a) (ha : a + 3 < 1000000) (hf : P.1 ≤ 15) {l m n tg : Nat} {g : Nat → Int32} {L : Nat → Nat} (htg : tg = 0 ∨ tg = 10) (hl : am_at h l = some (.inl (tg, m, .inl g))) (hgL : ∀ i, i < n → g i = nI (L i)) (hla : l < a ∨ a + 3 < l) (hL : ∀ i, i < n → L i < 2 ^ 20) (hnm : n ≤ m) (hm : m < 2 ^ 31) : am_cal (d + 4) 29 [.ref a, .ref l, .int (nI n)] h = some (none, pH h a b (advN P L n σ)) := by
  refine (b_29 _ _ _).trans ?_; show am_ev _ 29 0 [some (.ref a), some (.ref l), some (.int (nI n)), none, none] [] _ = _
  have h0 := hh.1
  unfold house0 at h0
  have o1 : OKR P (σ.1 + 1, σ.2) (m0 + 1) := ⟨by have := oH.1; simp only; omega, fun q hq => by have := oH.2 q hq; simp only; omega⟩
  have h1 := HouseAt_pH h a b (σ.1 + 1, σ.2)
  have hs1 : Stt (pH h a b (σ.1 + 1, σ.2)) := hs.pH ha
  have hp1 : PlanAt (pH h a b (σ.1 + 1, σ.2)) b P := hp.pH (by omega)
  have hl1 := m_letOut (d := d) hs1 hp1 h1 oP (o1.ok hm0 oP.2.1) hab ha
  rw [pH_pH] at hl1
  simp only [e_29_0, e_29_1, e_29_2, e_29_5, e_29_6, e_29_7, e_29_10, e_29_11, e_29_14, e_29_15, lg_n, lg_i, lg_r, wd_nil, am_wd_i, am_wd_r, am_wd_l, am_gk_s, am_fld_s, List.getElem?_cons_zero, List.getElem?_cons_succ, am_bk_v, am_bk_n, bo_0, bo_1, am_pk_s, List.length_cons, List.length_nil, Nat.zero_add, List.set_cons_zero, List.set_cons_succ, Nat.reduceAdd, Nat.reduceLeDiff, Nat.reduceLT, h0, nI_1, set_hd hh, is_house h1, hl1]
  have o2 : OKR P (letOutN P (σ.1 + 1, σ.2)) (m0 + 1) := (OKR.adv (l := L) oH oP.1 0 :)
  have h2 := HouseAt_pH h a b (letOutN P (σ.1 + 1, σ.2))
  have := l_advance (d := d) (hs.pH ha) (hp.pH (by omega)) h2 oP o2 hm0 hab ha hf (l := l) (m := m) (n := n) (L := L) htg (by rw [at_pH_ne hla]; exact hl) hgL hla hL hnm hm n 0 (by omega) none
  rw [pH_pH, pH_pH] at this
  exact this
theorem l_begin (hh : HouseAt h a b σ) : ∀ j i, i + j = 8 → am_ev (d + 1) 15 18 [some (.ref a), some (.int (nI i))] [] (pH h a b (σ.1, σ.2.1, (fun p => if p < i then 0 else σ.2.2.1 p), (fun p => if p < i then 0 else σ.2.2.2 p))) = some (none, pH h a b (σ.1, σ.2.1, (fun p => if p < 8 then 0 else σ.2.2.1 p), (fun p => if p < 8 then 0 else σ.2.2.2 p))) := by
  intro j
  have e8 : (8 : Int32) = nI 8 := by decide +kernel
  induction j with
  | zero =>
    intro i hij
    have : i = 8 := by omega
    subst this
    rw [e_15_18]
    simp only [e_15_0, e_15_1, e_15_2, e_15_5, e_15_6, e_15_7, e_15_10, e_15_13, e_15_16, e_15_17, e_15_19, e_15_21, e_15_24, e_15_25, e_15_26, e_15_27, e_15_28, e_15_31, e_15_34, e_15_37, lg_n, lg_i, lg_r, wd_nil, am_wd_i, am_wd_r, am_wd_l, am_gk_s, am_fld_s, List.getElem?_cons_zero, List.getElem?_cons_succ, am_bk_v, am_bk_n, bo_0, bo_1, am_pk_s, List.length_cons, List.length_nil, Nat.zero_add, List.set_cons_zero, List.set_cons_succ, Nat.reduceAdd, Nat.reduceLeDiff, Nat.reduceLT, e8, nI_leI (show 8 < 2 ^ 31 by omega) (show 8 < 2 ^ 31 by omega), Nat.le_refl, if_true]
  | succ j ih =>
    intro i hij
    have ih' := ih (i + 1) (by omega)
    have hpu := m_put (d := d) (HouseAt_pH h a b (σ.1, σ.2.1, (fun p => if p < i then 0 else σ.2.2.1 p), (fun p => if p < i then 0 else σ.2.2.2 p))) (show i < 8 by omega) 0
    rw [pH_pH, show sI 0 = 0 from rfl, show cI 0 = -1 from rfl] at hpu
    rw [e_15_18]
    simp only [e_15_0, e_15_1, e_15_2, e_15_5, e_15_6, e_15_7, e_15_10, e_15_13, e_15_16, e_15_17, e_15_19, e_15_21, e_15_24, e_15_25, e_15_26, e_15_27, e_15_28, e_15_31, e_15_34, e_15_37, lg_n, lg_i, lg_r, wd_nil, am_wd_i, am_wd_r, am_wd_l, am_gk_s, am_fld_s, List.getElem?_cons_zero, List.getElem?_cons_succ, am_bk_v, am_bk_n, bo_0, bo_1, am_pk_s, List.length_cons, List.length_nil, Nat.zero_add, List.set_cons_zero, List.set_cons_succ, Nat.reduceAdd, Nat.reduceLeDiff, Nat.reduceLT, e8, nI_leI (show 8 < 2 ^ 31 by omega) (show i < 2 ^ 31 by omega), if_neg (show ¬ 8 ≤ i by omega), is_house (HouseAt_pH h a b (σ.1, σ.2.1, (fun p => if p < i then 0 else σ.2.2.1 p), (fun p => if p < i then 0 else σ.2.2.2 p))), hpu, nI_1]
    have e1 : ∀ x : Nat → Nat, updn (fun p => if p < i then 0 else x p) i 0 = fun p => if p < i + 1 then 0 else x p := by
      intro x
      funext q
      unfold updn
      by_cases hq : q = i
      · subst hq; simp
      · have : q < i + 1 ↔ q < i := by omega
        simp only [if_neg hq, this]
    unfold putN
    simp only [e1]
    exact ih'
theorem AI_cong {n : Nat} {f g : Nat → Int32} (h : ∀ p, p < n → f p = g p) : AI n f = AI n g := by unfold AI; rw [ar_cong h]
theorem pH_cong (h : am_H) (a b s t : Nat) {x y x' y' : Nat → Nat} (hx : ∀ p, p < 8 → x p = x' p) (hy : ∀ p, p < 8 → y p = y' p) : pH h a b (s, t, x, y) = pH h a b (s, t, x', y') := by
  unfold pH
  simp only
  rw [AI_cong (f := fun p => sI (x p)) (g := fun p => sI (x' p)) (fun p hp => by rw [hx p hp]), AI_cong (f := fun p => cI (x p)) (g := fun p => cI (x' p)) (fun p hp => by rw [hx p hp]), AI_cong (f := fun p => nI (y p)) (g := fun p => nI (y' p)) (fun p hp => by rw [hy p hp])]
theorem m_begin (hp : PlanAt h b P) (hh : HouseAt h a b σ) (hab : b + 3 < a) : am_cal (d + 2) 15 [.ref a] h = some (none, pH h a b (0, P.2.2.1, (fun _ => 0), (fun _ => 0))) := by
  refine (b_15 _ _ _).trans ?_; show am_ev _ 15 0 [some (.ref a), none] [] _ = _
  have h0 := hh.1
  unfold house0 at h0
  obtain ⟨-, -, f2, -⟩ := fl_plan hp
  have e1 := set_hd hh 0 σ.2.1
  rw [nI_0] at e1
  have h1 := HouseAt_pH h a b (0, σ.2.1, σ.2.2)
  have h10 := h1.1
  unfold house0 at h10
  have hp1 : PlanAt (pH h a b (0, σ.2.1, σ.2.2)) b P := hp.pH (by omega)
  obtain ⟨-, -, f2', -⟩ := fl_plan hp1
  have e2 := set_hd h1 0 P.2.2.1
  rw [pH_pH] at e2
  simp only [nI_0] at e2 h10
  simp only [e_15_0, e_15_1, e_15_2, e_15_5, e_15_6, e_15_7, e_15_10, e_15_13, e_15_16, e_15_17, lg_n, lg_i, lg_r, wd_nil, am_wd_i, am_wd_r, am_wd_l, am_gk_s, am_fld_s, List.getElem?_cons_zero, List.getElem?_cons_succ, am_bk_v, am_bk_n, bo_0, bo_1, am_pk_s, List.length_cons, List.length_nil, Nat.zero_add, List.set_cons_zero, List.set_cons_succ, Nat.reduceAdd, Nat.reduceLeDiff, Nat.reduceLT, h0, e1, h10, f2', e2]
  have := l_begin (d := d) (HouseAt_pH h a b (0, P.2.2.1, σ.2.2)) 8 0 (by omega)
  simp only [pH_pH, Nat.not_lt_zero, if_false] at this
  refine Eq.trans this ?_
  rw [pH_cong h a b 0 P.2.2.1 (x' := fun _ => 0) (y' := fun _ => 0) (fun p hp => by simp [hp]) (fun p hp => by simp [hp])]
theorem l_leave (hh : HouseAt h a b σ) {q : Nat} (hq : q < 2 ^ 31) : ∀ j i, i + j = 8 → am_ev (d + 1) 18 2 [some (.ref a), some (.int (nI q)), some (.int (nI i))] [] (pH h a b (σ.1, σ.2.1, (fun p => if p < i then (if p = q then 0 else 1) else σ.2.2.1 p), (fun p => if p < i then 0 else σ.2.2.2 p))) = some (none, pH h a b (σ.1, σ.2.1, (fun p => if p < 8 then (if p = q then 0 else 1) else σ.2.2.1 p), (fun p => if p < 8 then 0 else σ.2.2.2 p))) := by
  intro j
  have e8 : (8 : Int32) = nI 8 := by decide +kernel
  induction j with
  | zero =>
    intro i hij
    have : i = 8 := by omega
    subst this
    rw [e_18_2]
    simp only [e_18_0, e_18_1, e_18_3, e_18_5, e_18_8, e_18_9, e_18_10, e_18_11, e_18_12, e_18_15, e_18_16, e_18_19, e_18_20, e_18_21, e_18_24, e_18_27, e_18_30, lg_n, lg_i, lg_r, wd_nil, am_wd_i, am_wd_r, am_wd_l, am_gk_s, am_fld_s, List.getElem?_cons_zero, List.getElem?_cons_succ, am_bk_v, am_bk_n, bo_0, bo_1, am_pk_s, List.length_cons, List.length_nil, Nat.zero_add, List.set_cons_zero, List.set_cons_succ, Nat.reduceAdd, Nat.reduceLeDiff, Nat.reduceLT, e8, nI_leI (show 8 < 2 ^ 31 by omega) (show 8 < 2 ^ 31 by omega), Nat.le_refl, if_true]
  | succ j ih =>
    intro i hij
    have ih' := ih (i + 1) (by omega)
    have hpu := fun x => m_put (d := d) (HouseAt_pH h a b (σ.1, σ.2.1, (fun p => if p < i then (if p = q then 0 else 1) else σ.2.2.1 p), (fun p => if p < i then 0 else σ.2.2.2 p))) (show i < 8 by omega) x
    have hpu0 := hpu 0
    have hpu1 := hpu 1
    rw [pH_pH, show sI 0 = 0 from rfl, show cI 0 = -1 from rfl] at hpu0
    rw [pH_pH, show sI 1 = 2 from rfl, show cI 1 = -1 from rfl] at hpu1
    rw [e_18_2]
    simp only [e_18_0, e_18_1, e_18_3, e_18_5, e_18_8, e_18_9, e_18_10, e_18_11, e_18_12, e_18_15, e_18_16, e_18_19, e_18_20, e_18_21, e_18_24, e_18_27, e_18_30, lg_n, lg_i, lg_r, wd_nil, am_wd_i, am_wd_r, am_wd_l, am_gk_s, am_fld_s, List.getElem?_cons_zero, List.getElem?_cons_succ, am_bk_v, am_bk_n, bo_0, bo_1, am_pk_s, List.length_cons, List.length_nil, Nat.zero_add, List.set_cons_zero, List.set_cons_succ, Nat.reduceAdd, Nat.reduceLeDiff, Nat.reduceLT, e8, nI_leI (show 8 < 2 ^ 31 by omega) (show i < 2 ^ 31 by omega), if_neg (show ¬ 8 ≤ i by omega), is_house (HouseAt_pH h a b (σ.1, σ.2.1, (fun p => if p < i then (if p = q then 0 else 1) else σ.2.2.1 p), (fun p => if p < i then 0 else σ.2.2.2 p))), hpu0, hpu1, nI_1, nI_eq (show i < 2 ^ 31 by omega) hq]
    have e1 : ∀ x y : Nat → Nat, updn (fun p => if p < i then y p else x p) i (y i) = fun p => if p < i + 1 then y p else x p := by
      intro x y
      funext q
      unfold updn
      by_cases hq : q = i
      · subst hq; simp
      · have : q < i + 1 ↔ q < i := by omega
        simp only [if_neg hq, this]
    have e2 := e1 σ.2.2.2 (fun _ => 0)
    have e3 := e1 σ.2.2.1 (fun p => if p = q then 0 else 1)
    unfold putN
    simp only at e2 e3 ⊢
    rw [e2]
    by_cases hiq : i = q
    · rw [if_pos hiq] at e3 ⊢
      rw [e3]
      exact ih'
    · rw [if_neg hiq] at e3 ⊢
      rw [e3]
      exact ih'
theorem m_leaveAlone (hh : HouseAt h a b σ) {q : Nat} (hq : q < 2 ^ 31) : am_cal (d + 2) 18 [.ref a, .int (nI q)] h = some (none, pH h a b (σ.1, σ.2.1, (fun p => if p = q then 0 else 1), (fun _ => 0))) := by
  refine (b_18 _ _ _).trans ?_; show am_ev _ 18 0 [some (.ref a), some (.int (nI q)), none] [] _ = _
  simp only [e_18_0, e_18_1, lg_n, lg_i, lg_r, wd_nil, am_wd_i, am_wd_r, am_wd_l, am_gk_s, am_fld_s, List.getElem?_cons_zero, List.getElem?_cons_succ, am_bk_v, am_bk_n, bo_0, bo_1, am_pk_s, List.length_cons, List.length_nil, Nat.zero_add, List.set_cons_zero, List.set_cons_succ, Nat.reduceAdd, Nat.reduceLeDiff, Nat.reduceLT]
  have := l_leave (d := d) hh hq 8 0 (by omega)
  simp only [Nat.not_lt_zero, if_false] at this
  rw [show (σ.1, σ.2.1, (fun p => σ.2.2.1 p), (fun p => σ.2.2.2 p)) = σ from rfl, pH_self hh, nI_0] at this
  refine Eq.trans this ?_
  rw [pH_cong h a b σ.1 σ.2.1 (x' := fun p => if p = q then 0 else 1) (y' := fun _ => 0) (fun p hp => by simp [hp]) (fun p hp => by simp [hp])]
theorem c_16_28 {d : Nat} {ls : am_L} {h : am_H} {a c : Nat} {f g : Nat → Int32} (h0 : am_at h c = some (AI 8 f)) (h1 : am_at h a = some (AI 8 g)) : am_ev (d + 1) 16 28 ls [.int 8, .int 0, .ref a, .int 0, .ref c] h = am_ev (d + 1) 16 31 ls [] (am_set h a (AI 8 f)) := by
  have := e_16_28 (d := d) (ls := ls) (st := []) (sp := 0) (dp := 0) (n := 8) (by simp [am_wd]) h0 h1 (by decide) (by decide) (by decide)
  rw [ar_cpy] at this
  exact this
theorem c_16_43 {d : Nat} {ls : am_L} {h : am_H} {a c : Nat} {f g : Nat → Int32} (h0 : am_at h c = some (AI 8 f)) (h1 : am_at h a = some (AI 8 g)) : am_ev (d + 1) 16 43 ls [.int 8, .int 0, .ref a, .int 0, .ref c] h = am_ev (d + 1) 16 46 ls [] (am_set h a (AI 8 f)) := by
  have := e_16_43 (d := d) (ls := ls) (st := []) (sp := 0) (dp := 0) (n := 8) (by simp [am_wd]) h0 h1 (by decide) (by decide) (by decide)
  rw [ar_cpy] at this
  exact this
theorem c_16_58 {d : Nat} {ls : am_L} {h : am_H} {a c : Nat} {f g : Nat → Int32} (h0 : am_at h c = some (AI 8 f)) (h1 : am_at h a = some (AI 8 g)) : am_ev (d + 1) 16 58 ls [.int 8, .int 0, .ref a, .int 0, .ref c] h = am_ev (d + 1) 16 61 ls [] (am_set h a (AI 8 f)) := by
  have := e_16_58 (d := d) (ls := ls) (st := []) (sp := 0) (dp := 0) (n := 8) (by simp [am_wd]) h0 h1 (by decide) (by decide) (by decide)
  rw [ar_cpy] at this
  exact this
theorem m_takeH {c e : Nat} {τ : Hn} (hh : HouseAt h a b σ) (hc : HouseAt h c e τ) (hac : a + 3 < c ∨ c + 3 < a) : am_cal (d + 2) 16 [.ref a, .ref c] h = some (none, pH h a b τ) := by
  have key : ∀ (s t : Int32) (f g r : Nat → Int32), am_cal (d + 2) 16 [.ref a, .ref c] (rH h a b s t f g r) = some (none, pH h a b τ) := by
    intro s t f g r
    refine (b_16 _ _ _).trans ?_; show am_ev _ 16 0 [some (.ref a), some (.ref c)] [] _ = _
    have hc0 := hc.1
    unfold house0 at hc0
    have c0 : ∀ (s t : Int32) (f g r : Nat → Int32), am_at (rH h a b s t f g r) c = some (.inr (1, [.ref e, .int (nI τ.1), .int (nI τ.2.1), .ref (c + 1), .ref (c + 2), .ref (c + 3)])) := fun s t f g r => by rw [at_rHn (by omega)]; exact hc0
    have c1 : ∀ (s t : Int32) (f g r : Nat → Int32), am_at (rH h a b s t f g r) (c + 1) = some (AI 8 (fun p => sI (τ.2.2.1 p))) := fun s t f g r => by rw [at_rHn (by omega)]; exact hc.2.1
    have c2 : ∀ (s t : Int32) (f g r : Nat → Int32), am_at (rH h a b s t f g r) (c + 2) = some (AI 8 (fun p => cI (τ.2.2.1 p))) := fun s t f g r => by rw [at_rHn (by omega)]; exact hc.2.2.1
    have c3 : ∀ (s t : Int32) (f g r : Nat → Int32), am_at (rH h a b s t f g r) (c + 3) = some (AI 8 (fun p => nI (τ.2.2.2 p))) := fun s t f g r => by rw [at_rHn (by omega)]; exact hc.2.2.2
    simp only [e_16_0, e_16_1, e_16_2, e_16_5, e_16_8, e_16_9, e_16_10, e_16_13, e_16_16, e_16_17, e_16_20, e_16_21, e_16_22, e_16_25, e_16_26, e_16_31, e_16_32, e_16_35, e_16_36, e_16_37, e_16_40, e_16_41, e_16_46, e_16_47, e_16_50, e_16_51, e_16_52, e_16_55, e_16_56, e_16_61, lg_n, lg_i, lg_r, wd_nil, am_wd_i, am_wd_r, am_wd_l, am_gk_s, am_fld_s, List.getElem?_cons_zero, List.getElem?_cons_succ, am_bk_v, am_bk_n, bo_0, bo_1, am_pk_s, List.length_cons, List.length_nil, Nat.zero_add, List.set_cons_zero, List.set_cons_succ, Nat.reduceAdd, Nat.reduceLeDiff, Nat.reduceLT, c0, at_rH0, rH_s0]
    rw [c_16_28 (c1 _ _ _ _ _) at_rH1, rH_s1]
    simp only [e_16_0, e_16_1, e_16_2, e_16_5, e_16_8, e_16_9, e_16_10, e_16_13, e_16_16, e_16_17, e_16_20, e_16_21, e_16_22, e_16_25, e_16_26, e_16_31, e_16_32, e_16_35, e_16_36, e_16_37, e_16_40, e_16_41, e_16_46, e_16_47, e_16_50, e_16_51, e_16_52, e_16_55, e_16_56, e_16_61, lg_n, lg_i, lg_r, wd_nil, am_wd_i, am_wd_r, am_wd_l, am_gk_s, am_fld_s, List.getElem?_cons_zero, List.getElem?_cons_succ, am_bk_v, am_bk_n, bo_0, bo_1, am_pk_s, List.length_cons, List.length_nil, Nat.zero_add, List.set_cons_zero, List.set_cons_succ, Nat.reduceAdd, Nat.reduceLeDiff, Nat.reduceLT, c0, at_rH0, rH_s0]
    rw [c_16_43 (c2 _ _ _ _ _) at_rH2, rH_s2]
    simp only [e_16_0, e_16_1, e_16_2, e_16_5, e_16_8, e_16_9, e_16_10, e_16_13, e_16_16, e_16_17, e_16_20, e_16_21, e_16_22, e_16_25, e_16_26, e_16_31, e_16_32, e_16_35, e_16_36, e_16_37, e_16_40, e_16_41, e_16_46, e_16_47, e_16_50, e_16_51, e_16_52, e_16_55, e_16_56, e_16_61, lg_n, lg_i, lg_r, wd_nil, am_wd_i, am_wd_r, am_wd_l, am_gk_s, am_fld_s, List.getElem?_cons_zero, List.getElem?_cons_succ, am_bk_v, am_bk_n, bo_0, bo_1, am_pk_s, List.length_cons, List.length_nil, Nat.zero_add, List.set_cons_zero, List.set_cons_succ, Nat.reduceAdd, Nat.reduceLeDiff, Nat.reduceLT, c0, at_rH0, rH_s0]
    rw [c_16_58 (c3 _ _ _ _ _) at_rH3, rH_s3]
    simp only [e_16_0, e_16_1, e_16_2, e_16_5, e_16_8, e_16_9, e_16_10, e_16_13, e_16_16, e_16_17, e_16_20, e_16_21, e_16_22, e_16_25, e_16_26, e_16_31, e_16_32, e_16_35, e_16_36, e_16_37, e_16_40, e_16_41, e_16_46, e_16_47, e_16_50, e_16_51, e_16_52, e_16_55, e_16_56, e_16_61, lg_n, lg_i, lg_r, wd_nil, am_wd_i, am_wd_r, am_wd_l, am_gk_s, am_fld_s, List.getElem?_cons_zero, List.getElem?_cons_succ, am_bk_v, am_bk_n, bo_0, bo_1, am_pk_s, List.length_cons, List.length_nil, Nat.zero_add, List.set_cons_zero, List.set_cons_succ, Nat.reduceAdd, Nat.reduceLeDiff, Nat.reduceLT]
    rfl
  have := key (nI σ.1) (nI σ.2.1) (fun p => sI (σ.2.2.1 p)) (fun p => cI (σ.2.2.1 p)) (fun p => nI (σ.2.2.2 p))
  rw [← pH_rH, pH_self hh] at this
  exact this
theorem m_toldOf (hp : PlanAt h b P) (hh : HouseAt h a b σ) (hn : P.2.2.2.1 ≤ 8) (p w : Int32) : am_cal (d + 2) 28 [.ref a, .int p, .int w] h = some (some (.int (if 0 ≤ p.toInt ∧ p.toInt < P.2.2.2.1 then (if w = 3 then sI (σ.2.2.1 p.toInt.toNat) else if w = 4 then cI (σ.2.2.1 p.toInt.toNat) else if w = 5 then nI (σ.2.2.2 p.toInt.toNat) else -3) else -2)), h) := by
  refine (b_28 _ _ _).trans ?_; show am_ev _ 28 0 [some (.ref a), some (.int p), some (.int w)] [] _ = _
  obtain ⟨g0, g1, g2, g3, g4, g5⟩ := fl_house hh
  by_cases hpp : 0 ≤ p.toInt ∧ p.toInt < P.2.2.2.1
  · obtain ⟨q, hq⟩ : ∃ q : Nat, p = nI q ∧ q < 8 := ⟨p.toInt.toNat, by rw [i_eq, nI_toInt (by omega)]; omega, by omega⟩
    obtain ⟨rfl, hq8⟩ := hq
    have hqi := nI_toInt (show q < 2 ^ 31 by omega)
    simp only [e_28_0, e_28_1, e_28_4, e_28_5, e_28_8, e_28_11, e_28_13, e_28_14, e_28_15, e_28_40, e_28_41, e_28_44, e_28_45, e_28_46, e_28_47, e_28_48, e_28_51, e_28_52, e_28_53, e_28_54, e_28_55, e_28_58, e_28_59, e_28_60, e_28_61, e_28_63, lg_n, lg_i, lg_r, wd_nil, am_wd_i, am_wd_r, am_wd_l, am_gk_s, am_fld_s, List.getElem?_cons_zero, List.getElem?_cons_succ, am_bk_v, am_bk_n, bo_0, bo_1, am_pk_s, List.length_cons, List.length_nil, Nat.zero_add, List.set_cons_zero, List.set_cons_succ, Nat.reduceAdd, Nat.reduceLeDiff, Nat.reduceLT, g0, g3, g4, g5, is_plan hp, m_hasPerson hp (show P.2.2.2.1 < 2 ^ 31 by omega), z_if, hqi, hh.2.1, hh.2.2.1, hh.2.2.2, ak_AI hq8 (show 8 < 2 ^ 31 by decide), Int.toNat_natCast]
    rw [hqi] at hpp
    simp only [hpp, and_self, not_true_eq_false, if_false, if_true]
    by_cases w3 : w = 3
    · simp [w3]
    · by_cases w4 : w = 4
      · simp [w4]
      · by_cases w5 : w = 5
        · simp [w5]
        · simp [w3, w4, w5]
  · simp only [e_28_0, e_28_1, e_28_4, e_28_5, e_28_8, e_28_11, e_28_13, e_28_14, e_28_15, e_28_40, e_28_41, e_28_44, e_28_45, e_28_46, e_28_47, e_28_48, e_28_51, e_28_52, e_28_53, e_28_54, e_28_55, e_28_58, e_28_59, e_28_60, e_28_61, e_28_63, lg_n, lg_i, lg_r, wd_nil, am_wd_i, am_wd_r, am_wd_l, am_gk_s, am_fld_s, List.getElem?_cons_zero, List.getElem?_cons_succ, am_bk_v, am_bk_n, bo_0, bo_1, am_pk_s, List.length_cons, List.length_nil, Nat.zero_add, List.set_cons_zero, List.set_cons_succ, Nat.reduceAdd, Nat.reduceLeDiff, Nat.reduceLT, g0, is_plan hp, m_hasPerson hp (show P.2.2.2.1 < 2 ^ 31 by omega), z_if, if_pos hpp, if_neg hpp, if_true]
def cntN (g : Nat → Bool) : Nat → Nat
  | 0 => 0
  | n + 1 => cntN g n + (if g n then 1 else 0)
theorem cntN_cong {g g' : Nat → Bool} : ∀ {n : Nat}, (∀ k, k < n → g k = g' k) → cntN g n = cntN g' n
  | 0, _ => rfl
  | n + 1, h => by rw [cntN, cntN, cntN_cong (fun k hk => h k (by omega)), h n (by omega)]
theorem cntN_le (g : Nat → Bool) : ∀ n, cntN g n ≤ n
  | 0 => Nat.le_refl _
  | n + 1 => by have := cntN_le g n; unfold cntN; split <;> omega
theorem bitsN_bit (g : Nat → Bool) : ∀ n i, (bitsN g n).testBit i = (decide (i < n) && g i)
  | 0, i => by simp [bitsN]
  | n + 1, i => by
    unfold bitsN
    rw [Nat.testBit_or, bitsN_bit g n i]
    by_cases hi : i = n
    · subst hi
      cases hg : g i <;> simp
    · have : i < n + 1 ↔ i < n := by omega
      have h2 : (if g n = true then 2 ^ n else 0 : Nat).testBit i = false := by
        split
        · rw [Nat.testBit_two_pow]; simp; omega
        · simp
      rw [h2]
      simp [this]
def bcs (x : Int32) (k : UInt32) : Int32 := (x.toUInt32 >>> (k &&& 31)).toInt32
def bc1 (x : Int32) : Int32 := x - (bcs x 1 &&& 1431655765)
def bc2 (x : Int32) : Int32 := (x &&& 858993459) + (bcs x 2 &&& 858993459)
def bc3 (x : Int32) : Int32 := (x + bcs x 4) &&& 252645135
def bc4 (x : Int32) : Int32 := x + bcs x 8
def bc5 (x : Int32) : Int32 := (x + bcs x 16) &&& 63
theorem bc8 : ∀ n, n < 256 → bc5 (bc4 (bc3 (bc2 (bc1 (nI n))))) = nI (cntN (fun i => n.testBit i) 8) := by decide +kernel
theorem m_bitCount {n : Nat} (hn : n < 256) : am_cal (d + 1) 212 [.int (nI n)] h = some (some (.int (nI (cntN (fun i => n.testBit i) 8))), h) := by
  refine (b_212 _ _ _).trans ?_; show am_ev _ 212 0 [some (.int (nI n))] [] _ = _
  simp only [e_212_0, e_212_1, e_212_2, e_212_3, e_212_4, e_212_7, e_212_8, e_212_9, e_212_10, e_212_11, e_212_14, e_212_15, e_212_16, e_212_17, e_212_18, e_212_21, e_212_22, e_212_23, e_212_24, e_212_25, e_212_26, e_212_27, e_212_28, e_212_29, e_212_32, e_212_33, e_212_34, e_212_35, e_212_36, e_212_38, e_212_39, e_212_40, e_212_41, e_212_42, e_212_43, e_212_45, e_212_46, e_212_47, e_212_48, e_212_49, e_212_51, e_212_52, lg_n, lg_i, lg_r, wd_nil, am_wd_i, am_wd_r, am_wd_l, am_gk_s, am_fld_s, List.getElem?_cons_zero, List.getElem?_cons_succ, am_bk_v, am_bk_n, bo_0, bo_1, am_pk_s, List.length_cons, List.length_nil, Nat.zero_add, List.set_cons_zero, List.set_cons_succ, Nat.reduceAdd, Nat.reduceLeDiff, Nat.reduceLT]
  refine congrArg (fun z => some (some (Value.int z), h)) ?_
  exact bc8 n hn
theorem m_notThere (hp : PlanAt h b P) (hh : HouseAt h a b σ) (hn : P.2.2.2.1 ≤ 8) : am_cal (d + 2) 25 [.ref a] h = some (some (.int (nI (P.2.2.2.1 - cntN (fun p => σ.2.2.1 p == 1) P.2.2.2.1))), h) := by
  refine (b_25 _ _ _).trans ?_; show am_ev _ 25 0 [some (.ref a)] [] _ = _
  obtain ⟨g0, g1, g2, g3, g4, g5⟩ := fl_house hh
  obtain ⟨-, -, -, f3, -⟩ := fl_plan hp
  have hb := bitsN_lt (fun q => sI (σ.2.2.1 q) == 2) P.2.2.2.1
  have hb2 : 2 ^ P.2.2.2.1 ≤ 2 ^ 8 := Nat.pow_le_pow_right (by decide) hn
  have e1 : cntN (fun i => (bitsN (fun q => sI (σ.2.2.1 q) == 2) P.2.2.2.1).testBit i) 8 = cntN (fun p => σ.2.2.1 p == 1) P.2.2.2.1 := by
    have e2 : ∀ n, cntN (fun i => (bitsN (fun q => sI (σ.2.2.1 q) == 2) P.2.2.2.1).testBit i) (P.2.2.2.1 + n) = cntN (fun p => σ.2.2.1 p == 1) P.2.2.2.1 := by
      intro n
      induction n with
      | zero =>
        apply cntN_cong
        intro k hk
        rw [bitsN_bit]
        have := sI_2 (σ.2.2.1 k)
        have hk2 : decide (k < P.2.2.2.1) = true := decide_eq_true hk
        rw [hk2, Bool.true_and]
        by_cases hx : σ.2.2.1 k = 1
        · rw [this.2 hx, hx]; rfl
        · have h2 : ¬ sI (σ.2.2.1 k) = 2 := fun e => hx (this.1 e)
          rw [beq_eq_false_iff_ne.2 h2, beq_eq_false_iff_ne.2 hx]
      | succ n ih =>
        rw [← Nat.add_assoc, cntN, ih, bitsN_bit, decide_eq_false (show ¬ P.2.2.2.1 + n < P.2.2.2.1 by omega)]
        rfl
    have := e2 (8 - P.2.2.2.1)
    rwa [show P.2.2.2.1 + (8 - P.2.2.2.1) = 8 by omega] at this
  have hc := cntN_le (fun p => σ.2.2.1 p == 1) P.2.2.2.1
  simp only [e_25_0, e_25_1, e_25_4, e_25_7, e_25_8, e_25_9, e_25_12, e_25_15, e_25_16, lg_n, lg_i, lg_r, wd_nil, am_wd_i, am_wd_r, am_wd_l, am_gk_s, am_fld_s, List.getElem?_cons_zero, List.getElem?_cons_succ, am_bk_v, am_bk_n, bo_0, bo_1, am_pk_s, List.length_cons, List.length_nil, Nat.zero_add, List.set_cons_zero, List.set_cons_succ, Nat.reduceAdd, Nat.reduceLeDiff, Nat.reduceLT, g0, f3, is_house hh, m_peopleWho hp hh hn, m_bitCount (show bitsN (fun q => sI (σ.2.2.1 q) == 2) P.2.2.2.1 < 256 by omega), e1]
  rw [pk_sub hc]
end HS
