/-! the pure state: arrays as functions, plans, houses -/
def ar (n : Nat) (f : Nat → Int32) : Nat → Int32 := fun k => if k < n then f k else 0
theorem ar_at {n k : Nat} {f : Nat → Int32} (h : k < n) : ar n f k = f k := by simp [ar, h]
theorem ar_cong {n : Nat} {f g : Nat → Int32} (h : ∀ k, k < n → f k = g k) : ar n f = ar n g := by
  funext k
  unfold ar
  by_cases hk : k < n
  · rw [if_pos hk, if_pos hk, h k hk]
  · rw [if_neg hk, if_neg hk]
theorem ar_upd {n j : Nat} {f : Nat → Int32} {x : Int32} (hj : j < n) : upd (ar n f) j x = ar n (upd f j x) := by
  funext k
  unfold ar upd
  by_cases hk : k = j
  · subst hk; simp [hj]
  · simp [hk]
theorem ar_cpy {n : Nat} {f g : Nat → Int32} : va_cpy (ar n f) (ar n g) 0 0 n = ar n f := by
  funext k
  unfold va_cpy ar
  by_cases hk : k < n
  · simp [hk]
  · simp [hk]
/-- an int array of n places -/
def AI (n : Nat) (f : Nat → Int32) : va_E := .inl (0, n, .inl (ar n f))
/-- an array of kinds -/
def AK (f : Nat → Nat) : va_E := .inl (2, 8, .inr (.inr (.inr (.inr (fun k => if k < 8 then some (1000002 + f k) else none)))))
theorem ak_AI {n j : Nat} {f : Nat → Int32} {k : Int32 → Option am_R} (hj : j < n) (hn : n < 2 ^ 31) : am_ak (some (AI n f)) 0 10 (nI j) k = k (f j) := by
  unfold AI
  rw [am_ak_s _ _ (Or.inl rfl) hj hn, ar_at hj]
theorem sk_AI {n j : Nat} {f : Nat → Int32} {k : Nat → (Nat → Int32) → Option am_R} (hj : j < n) (hn : n < 2 ^ 31) : am_sk (some (AI n f)) 0 (nI j) k = k n (ar n f) := by
  unfold AI
  rw [am_sk_s _ _ hj hn]
theorem st_AI {n j : Nat} {f : Nat → Int32} {x : Int32} (hj : j < n) (hn : n < 2 ^ 31) : (Sum.inl (0, n, Sum.inl (upd (ar n f) (nI j).toNatClampNeg x)) : va_E) = AI n (upd f j x) := by
  unfold AI
  rw [nI_clamp (by omega), ar_upd hj]
theorem qk_AK {j : Nat} {f : Nat → Nat} {k : Value → Option am_R} (hj : j < 8) : am_qk (some (AK f)) (nI j) k = k (.ref (1000002 + f j)) := by
  unfold AK
  rw [am_qk_s _ _ hj (by decide), if_pos hj]
  rfl
/-- floors, room, shut, people, kinds, from, to -/
abbrev Pn : Type := Nat × Nat × Nat × Nat × (Nat → Nat) × (Nat → Nat) × (Nat → Nat)
/-- steps, shut, where each one is (0 waits, 1 there, c + 2 rides in c), steps ridden -/
abbrev Hn : Type := Nat × Nat × (Nat → Nat) × (Nat → Nat)
def sI (x : Nat) : Int32 := if x = 0 then 0 else if x = 1 then 2 else 1
def cI (x : Nat) : Int32 := if x < 2 then -1 else nI (x - 2)
def plan0 (b : Nat) (P : Pn) : va_E := .inr (4, [.int (nI P.1), .int (nI P.2.1), .int (nI P.2.2.1), .int (nI P.2.2.2.1), .ref (b + 1), .ref (b + 2), .ref (b + 3)])
def PlanAt (h : am_H) (b : Nat) (P : Pn) : Prop := am_at h b = some (plan0 b P) ∧ am_at h (b + 1) = some (AK P.2.2.2.2.1) ∧ am_at h (b + 2) = some (AI 8 (fun p => nI (P.2.2.2.2.2.1 p))) ∧ am_at h (b + 3) = some (AI 8 (fun p => nI (P.2.2.2.2.2.2 p)))
def house0 (a b : Nat) (s t : Nat) : va_E := .inr (1, [.ref b, .int (nI s), .int (nI t), .ref (a + 1), .ref (a + 2), .ref (a + 3)])
def HouseAt (h : am_H) (a b : Nat) (σ : Hn) : Prop := am_at h a = some (house0 a b σ.1 σ.2.1) ∧ am_at h (a + 1) = some (AI 8 (fun p => sI (σ.2.2.1 p))) ∧ am_at h (a + 2) = some (AI 8 (fun p => cI (σ.2.2.1 p))) ∧ am_at h (a + 3) = some (AI 8 (fun p => nI (σ.2.2.2 p)))
/-- a house laid anew -/
def pH (h : am_H) (a b : Nat) (σ : Hn) : am_H := am_set (am_set (am_set (am_set h a (house0 a b σ.1 σ.2.1)) (a + 1) (AI 8 (fun p => sI (σ.2.2.1 p)))) (a + 2) (AI 8 (fun p => cI (σ.2.2.1 p)))) (a + 3) (AI 8 (fun p => nI (σ.2.2.2 p)))
/-- the constants are where they are -/
def Stt (h : am_H) : Prop := ∀ j, 1 ≤ j → j < 23 → am_at h (1000000 + j) = am_stc 0 (fun _ => 0) j
theorem at_set_ne {h : am_H} {a k : Nat} {c : va_E} (hk : k ≠ a) : am_at (am_set h a c) k = am_at h k := by rw [am_at_set, if_neg hk]
theorem at_set_eq {h : am_H} {a : Nat} {c : va_E} : am_at (am_set h a c) a = some c := by rw [am_at_set, if_pos rfl]
theorem am_ext {h h' : am_H} (h1 : h.1 = h'.1) (h2 : h.2.1 = h'.2.1) (h3 : ∀ k, am_at h k = am_at h' k) : h = h' := by
  obtain ⟨a, b, f⟩ := h
  obtain ⟨a', b', f'⟩ := h'
  simp only at h1 h2
  subst h1; subst h2
  have : f = f' := funext h3
  subst this
  rfl
theorem at_pH (h : am_H) (a b : Nat) (σ : Hn) (k : Nat) : am_at (pH h a b σ) k = if k = a then some (house0 a b σ.1 σ.2.1) else if k = a + 1 then some (AI 8 (fun p => sI (σ.2.2.1 p))) else if k = a + 2 then some (AI 8 (fun p => cI (σ.2.2.1 p))) else if k = a + 3 then some (AI 8 (fun p => nI (σ.2.2.2 p))) else am_at h k := by
  unfold pH
  simp only [am_at_set]
  by_cases h3 : k = a + 3
  · subst h3; simp
  · by_cases h2 : k = a + 2
    · subst h2; simp
    · by_cases h1 : k = a + 1
      · subst h1; simp
      · simp [h1, h2, h3]
theorem at_pH_ne {h : am_H} {a b : Nat} {σ : Hn} {k : Nat} (hk : k < a ∨ a + 3 < k) : am_at (pH h a b σ) k = am_at h k := by
  rw [at_pH, if_neg (by omega), if_neg (by omega), if_neg (by omega), if_neg (by omega)]
theorem HouseAt_pH (h : am_H) (a b : Nat) (σ : Hn) : HouseAt (pH h a b σ) a b σ := by
  refine ⟨?_, ?_, ?_, ?_⟩ <;> rw [at_pH] <;> simp
theorem pH_pH (h : am_H) (a b : Nat) (σ τ : Hn) : pH (pH h a b σ) a b τ = pH h a b τ := by
  refine am_ext rfl rfl (fun k => ?_)
  rw [at_pH (pH h a b σ) a b τ k, at_pH h a b τ k]
  by_cases h0 : k = a
  · simp [h0]
  · by_cases h1 : k = a + 1
    · simp [h1]
    · by_cases h2 : k = a + 2
      · simp [h2]
      · by_cases h3 : k = a + 3
        · simp [h3]
        · simp only [if_neg h0, if_neg h1, if_neg h2, if_neg h3]
          exact at_pH_ne (a := a) (k := k) (by omega)
theorem pH_self {h : am_H} {a b : Nat} {σ : Hn} (hh : HouseAt h a b σ) : pH h a b σ = h := by
  refine am_ext rfl rfl (fun k => ?_)
  rw [at_pH]
  obtain ⟨h0, h1, h2, h3⟩ := hh
  by_cases e0 : k = a
  · subst e0; simp [h0]
  · by_cases e1 : k = a + 1
    · subst e1; simp [h1]
    · by_cases e2 : k = a + 2
      · subst e2; simp [h2]
      · by_cases e3 : k = a + 3
        · subst e3; simp [h3]
        · simp [e0, e1, e2, e3]
theorem PlanAt.keep {h h' : am_H} {b : Nat} {P : Pn} (hp : PlanAt h b P) (hk : ∀ k, b ≤ k → k ≤ b + 3 → am_at h' k = am_at h k) : PlanAt h' b P := by
  obtain ⟨h0, h1, h2, h3⟩ := hp
  exact ⟨by rw [hk b (by omega) (by omega)]; exact h0, by rw [hk (b + 1) (by omega) (by omega)]; exact h1, by rw [hk (b + 2) (by omega) (by omega)]; exact h2, by rw [hk (b + 3) (by omega) (by omega)]; exact h3⟩
theorem Stt.keep {h h' : am_H} (hs : Stt h) (hk : ∀ k, 1000000 ≤ k → am_at h' k = am_at h k) : Stt h' := fun j h1 h2 => by rw [hk _ (by omega)]; exact hs j h1 h2
theorem HouseAt.keep {h h' : am_H} {a b : Nat} {σ : Hn} (hp : HouseAt h a b σ) (hk : ∀ k, a ≤ k → k ≤ a + 3 → am_at h' k = am_at h k) : HouseAt h' a b σ := by
  obtain ⟨h0, h1, h2, h3⟩ := hp
  exact ⟨by rw [hk a (by omega) (by omega)]; exact h0, by rw [hk (a + 1) (by omega) (by omega)]; exact h1, by rw [hk (a + 2) (by omega) (by omega)]; exact h2, by rw [hk (a + 3) (by omega) (by omega)]; exact h3⟩
theorem is_plan {h : am_H} {b : Nat} {P : Pn} (hp : PlanAt h b P) : am_is (am_at h b) 4 = true := by rw [hp.1]; rfl
theorem is_house {h : am_H} {a b : Nat} {σ : Hn} (hp : HouseAt h a b σ) : am_is (am_at h a) 1 = true := by rw [hp.1]; rfl
theorem fl_plan {h : am_H} {b : Nat} {P : Pn} (hp : PlanAt h b P) : am_fld (am_at h b) 4 0 = some (.int (nI P.1)) ∧ am_fld (am_at h b) 4 1 = some (.int (nI P.2.1)) ∧ am_fld (am_at h b) 4 2 = some (.int (nI P.2.2.1)) ∧ am_fld (am_at h b) 4 3 = some (.int (nI P.2.2.2.1)) ∧ am_fld (am_at h b) 4 4 = some (.ref (b + 1)) ∧ am_fld (am_at h b) 4 5 = some (.ref (b + 2)) ∧ am_fld (am_at h b) 4 6 = some (.ref (b + 3)) := by
  rw [hp.1]; exact ⟨rfl, rfl, rfl, rfl, rfl, rfl, rfl⟩
theorem fl_house {h : am_H} {a b : Nat} {σ : Hn} (hp : HouseAt h a b σ) : am_fld (am_at h a) 1 0 = some (.ref b) ∧ am_fld (am_at h a) 1 1 = some (.int (nI σ.1)) ∧ am_fld (am_at h a) 1 2 = some (.int (nI σ.2.1)) ∧ am_fld (am_at h a) 1 3 = some (.ref (a + 1)) ∧ am_fld (am_at h a) 1 4 = some (.ref (a + 2)) ∧ am_fld (am_at h a) 1 5 = some (.ref (a + 3)) := by
  rw [hp.1]; exact ⟨rfl, rfl, rfl, rfl, rfl, rfl⟩
def kpar (k : Nat) : Nat := if k = 1 then 1 else if k = 2 then 1 else if k = 4 then 4 else 0
def ktak (k : Nat) : Nat := if k = 2 then 2 else 1
theorem at_kind {h : am_H} (hs : Stt h) {k : Nat} (hk : k < 5) : am_at h (1000002 + k) = some (.inr (20, [.int (nI k), .ref (1000007 + k), .int (nI (kpar k)), .int (nI (ktak k))])) := by
  have := hs (2 + k) (by omega) (by omega)
  rw [show 1000000 + (2 + k) = 1000002 + k by omega] at this
  rw [this]
  rcases (show k = 0 ∨ k = 1 ∨ k = 2 ∨ k = 3 ∨ k = 4 by omega) with rfl | rfl | rfl | rfl | rfl <;> rfl
theorem fl_kind {h : am_H} (hs : Stt h) {k : Nat} (hk : k < 5) : am_fld (am_at h (1000002 + k)) 20 0 = some (.int (nI k)) ∧ am_fld (am_at h (1000002 + k)) 20 1 = some (.ref (1000007 + k)) ∧ am_fld (am_at h (1000002 + k)) 20 2 = some (.int (nI (kpar k))) ∧ am_fld (am_at h (1000002 + k)) 20 3 = some (.int (nI (ktak k))) ∧ am_is (am_at h (1000002 + k)) 20 = true := by
  rw [at_kind hs hk]; exact ⟨rfl, rfl, rfl, rfl, rfl⟩
theorem bo_0 : (0 : Int32) &&& 1 = 0 := by decide +kernel
theorem bo_1 : (1 : Int32) &&& 1 = 1 := by decide +kernel
theorem bo_if {c : Prop} [Decidable c] : (if c then (1 : Int32) else 0) &&& 1 = if c then 1 else 0 := by split <;> decide +kernel
theorem lg_i (x : Int32) : am_lg (some (.int x)) = false := by simp [am_lg]
theorem lg_r (x : Nat) : am_lg (some (.ref x)) = false := by simp [am_lg]
theorem lg_n : am_lg none = false := by simp [am_lg]
theorem wd_nil : am_wd [] = 0 := by simp [am_wd]
