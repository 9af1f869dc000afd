/-! the class's constructors -/
theorem at_new {h : am_H} {n N : Nat} {c : va_E} (hN : h.1 = N) : am_at (am_new h n c) N = some c := by
  subst hN
  unfold am_at am_new
  simp only [if_true]
theorem at_new_ne {h : am_H} {n k : Nat} {c : va_E} (hk : k ≠ h.1) : am_at (am_new h n c) k = am_at h k := by
  unfold am_at am_new
  simp only [if_neg hk]
theorem blk {h : am_H} {a n : Nat} {Z x : va_E} (ha : a ≠ h.1) : ∃ h', h' = am_set (am_new h n Z) a x ∧ h'.1 = h.1 + 1 ∧ h'.2.1 = h.2.1 + n ∧ am_at h' a = some x ∧ am_at h' h.1 = some Z ∧ ∀ k, k ≠ a → k ≠ h.1 → am_at h' k = am_at h k := ⟨_, rfl, rfl, rfl, at_set_eq, by rw [at_set_ne (fun z => ha z.symm)]; exact at_new rfl, fun k h1 h2 => by rw [at_set_ne h1]; exact at_new_ne h2⟩
theorem nwb {h : am_H} {n : Nat} {Z : va_E} : ∃ h', h' = am_new h n Z ∧ h'.1 = h.1 + 1 ∧ h'.2.1 = h.2.1 + n ∧ am_at h' h.1 = some Z ∧ ∀ k, k ≠ h.1 → am_at h' k = am_at h k := ⟨_, rfl, rfl, rfl, at_new rfl, fun k h2 => at_new_ne h2⟩
theorem stb {h : am_H} {a : Nat} {x : va_E} : ∃ h', h' = am_set h a x ∧ h'.1 = h.1 ∧ h'.2.1 = h.2.1 ∧ am_at h' a = some x ∧ ∀ k, k ≠ a → am_at h' k = am_at h k := ⟨_, rfl, rfl, rfl, at_set_eq, fun k h1 => at_set_ne h1⟩
def NW (h h' : am_H) (a k z : Nat) : Prop := h'.1 = h.1 + k ∧ h'.2.1 = h.2.1 + z ∧ ∀ j, j ≠ a → (j < h.1 ∨ h.1 + k ≤ j) → am_at h' j = am_at h j
def Z8 (n : Nat) : va_E := AI n (fun _ => nI 0)
theorem Z8_eq (n : Nat) : (.inl (0, n, .inl (fun _ => 0)) : va_E) = Z8 n := by
  unfold Z8 AI ar
  refine congrArg (fun z => (.inl (0, n, .inl z) : va_E)) (funext fun k => ?_)
  rw [nI_0]
  split <;> rfl
/-- an array of references, filled so far -/
def ARp (t n i : Nat) (f : Nat → Nat) : va_E := .inl (t, n, .inr (.inr (.inr (.inr (fun k => if k < i then some (f k) else none)))))
theorem ARp_0 (t n : Nat) (f : Nat → Nat) : (.inl (t, n, .inr (.inr (.inr (.inr (fun _ => none))))) : va_E) = ARp t n 0 f := by
  unfold ARp
  refine congrArg (fun z => (Sum.inl (t, n, Sum.inr (Sum.inr (Sum.inr (Sum.inr z)))) : va_E)) (funext fun k => ?_)
  rw [if_neg (Nat.not_lt_zero k)]
theorem wk_ARp {t n i j c : Nat} {f : Nat → Nat} {b : Option va_E} {fs : List Value} {k : Nat → Nat → (Nat → Option Nat) → Option am_R} (hb : b = some (.inr (c, fs))) (hc : c = am_tc t) (hj : j < n) (hn : n < 2 ^ 31) : am_wk (some (ARp t n i f)) b (nI j) k = k t n (fun k => if k < i then some (f k) else none) := by
  have h1 : ¬ (nI j < 0 ∨ n ≤ (nI j).toNatClampNeg) := vp_in_nI hj hn
  rw [hb]
  unfold ARp am_wk
  dsimp only
  rw [if_pos ⟨hc, h1⟩]
theorem wt_ARp {t n i : Nat} {f : Nat → Nat} (hi : i < 2 ^ 31) : (Sum.inl (t, n, Sum.inr (Sum.inr (Sum.inr (Sum.inr (va_up (fun k => if k < i then some (f k) else none) (nI i).toNatClampNeg (some (f i))))))) : va_E) = ARp t n (i + 1) f := by
  unfold ARp
  rw [nI_clamp hi]
  refine congrArg (fun z => (Sum.inl (t, n, Sum.inr (Sum.inr (Sum.inr (Sum.inr z)))) : va_E)) (funext fun k => ?_)
  unfold va_up
  by_cases hk : k = i
  · subst hk; simp
  · by_cases hl : k < i
    · simp [hk, hl, show k < i + 1 by omega]
    · simp [hk, hl, show ¬ k < i + 1 by omega]
theorem ARp_n (t n : Nat) (f : Nat → Nat) : ARp t n n f = AR t n f := rfl
theorem AZ_0 (n : Nat) : (.inl (1, n, .inl (fun _ => 0)) : va_E) = AZ n (fun _ => false) := by
  unfold AZ
  refine congrArg (fun z => (.inl (1, n, .inl z) : va_E)) (funext fun k => ?_)
  rw [if_neg (fun z => Bool.noConfusion z.2)]
theorem df_0 : am_dflt 0 = [.null, .null, .null, .null, .int 0, .int 0, .int 0] := rfl
theorem df_1 : am_dflt 1 = [.null, .int 0, .int 0, .null, .null, .null] := rfl
theorem df_2 : am_dflt 2 = [.int 0, .int 0, .null] := rfl
theorem df_3 : am_dflt 3 = [.null, .null, .null, .int 0, .int 0] := rfl
theorem df_4 : am_dflt 4 = [.int 0, .int 0, .int 0, .int 0, .null, .null, .null] := rfl
theorem df_5 : am_dflt 5 = [.null, .int 0, .null, .int 0, .int 0, .int 0] := rfl
theorem df_6 : am_dflt 6 = [.null, .null, .null, .int 0, .null, .null, .null] := rfl
theorem df_7 : am_dflt 7 = [.null, .null, .null, .null, .null, .null, .null, .null] := rfl
theorem dl_0 : (am_dflt 0).length = 7 := rfl
theorem dl_1 : (am_dflt 1).length = 6 := rfl
theorem dl_2 : (am_dflt 2).length = 3 := rfl
theorem dl_3 : (am_dflt 3).length = 5 := rfl
theorem dl_4 : (am_dflt 4).length = 7 := rfl
theorem dl_5 : (am_dflt 5).length = 6 := rfl
theorem dl_6 : (am_dflt 6).length = 7 := rfl
theorem dl_7 : (am_dflt 7).length = 8 := rfl
section CT
variable {d : Nat} {h : am_H}
theorem w_0_7 {d : Nat} {ls : am_L} {st : List Value} {h : am_H} (hn : h.1 < 1000000) : am_ev d 0 7 ls (.int 6 :: st) h = am_ev d 0 9 ls (.ref h.1 :: st) (am_new h 6 (Z8 6)) := (e_0_7 (N := 6) (by decide +kernel) (by decide +kernel) (by decide) hn).trans (by rw [Z8_eq])
theorem w_0_15 {d : Nat} {ls : am_L} {st : List Value} {h : am_H} (hn : h.1 < 1000000) : am_ev d 0 15 ls (.int 6 :: st) h = am_ev d 0 17 ls (.ref h.1 :: st) (am_new h 6 (Z8 6)) := (e_0_15 (N := 6) (by decide +kernel) (by decide +kernel) (by decide) hn).trans (by rw [Z8_eq])
theorem w_14_7 {d : Nat} {ls : am_L} {st : List Value} {h : am_H} (hn : h.1 < 1000000) : am_ev d 14 7 ls (.int 8 :: st) h = am_ev d 14 9 ls (.ref h.1 :: st) (am_new h 8 (Z8 8)) := (e_14_7 (N := 8) (by decide +kernel) (by decide +kernel) (by decide) hn).trans (by rw [Z8_eq])
theorem w_14_15 {d : Nat} {ls : am_L} {st : List Value} {h : am_H} (hn : h.1 < 1000000) : am_ev d 14 15 ls (.int 8 :: st) h = am_ev d 14 17 ls (.ref h.1 :: st) (am_new h 8 (Z8 8)) := (e_14_15 (N := 8) (by decide +kernel) (by decide +kernel) (by decide) hn).trans (by rw [Z8_eq])
theorem w_14_23 {d : Nat} {ls : am_L} {st : List Value} {h : am_H} (hn : h.1 < 1000000) : am_ev d 14 23 ls (.int 8 :: st) h = am_ev d 14 25 ls (.ref h.1 :: st) (am_new h 8 (Z8 8)) := (e_14_23 (N := 8) (by decide +kernel) (by decide +kernel) (by decide) hn).trans (by rw [Z8_eq])
theorem w_39_12 {d : Nat} {ls : am_L} {st : List Value} {h : am_H} (hn : h.1 < 1000000) : am_ev d 39 12 ls (.int 12 :: st) h = am_ev d 39 14 ls (.ref h.1 :: st) (am_new h 12 (Z8 12)) := (e_39_12 (N := 12) (by decide +kernel) (by decide +kernel) (by decide) hn).trans (by rw [Z8_eq])
theorem w_49_7 {d : Nat} {ls : am_L} {st : List Value} {h : am_H} {f : Nat → Nat} (hn : h.1 < 1000000) : am_ev d 49 7 ls (.int 8 :: st) h = am_ev d 49 10 ls (.ref h.1 :: st) (am_new h 8 (ARp 3 8 0 f)) := (e_49_7 (N := 8) (by decide +kernel) (by decide +kernel) (by decide) hn).trans (by rw [ARp_0 3 8 f])
theorem w_49_15 {d : Nat} {ls : am_L} {st : List Value} {h : am_H} {f : Nat → Nat} (hn : h.1 < 1000000) : am_ev d 49 15 ls (.int 2 :: st) h = am_ev d 49 18 ls (.ref h.1 :: st) (am_new h 2 (ARp 3 2 0 f)) := (e_49_15 (N := 2) (by decide +kernel) (by decide +kernel) (by decide) hn).trans (by rw [ARp_0 3 2 f])
theorem w_49_23 {d : Nat} {ls : am_L} {st : List Value} {h : am_H} (hn : h.1 < 1000000) : am_ev d 49 23 ls (.int 2 :: st) h = am_ev d 49 25 ls (.ref h.1 :: st) (am_new h 2 (AZ 2 (fun _ => false))) := (e_49_23 (N := 2) (by decide +kernel) (by decide +kernel) (by decide) hn).trans (by rw [AZ_0])
theorem w_53_7 {d : Nat} {ls : am_L} {st : List Value} {h : am_H} {f : Nat → Nat} (hn : h.1 < 1000000) : am_ev d 53 7 ls (.int 8 :: st) h = am_ev d 53 10 ls (.ref h.1 :: st) (am_new h 8 (ARp 2 8 0 f)) := (e_53_7 (N := 8) (by decide +kernel) (by decide +kernel) (by decide) hn).trans (by rw [ARp_0 2 8 f])
theorem w_53_16 {d : Nat} {ls : am_L} {st : List Value} {h : am_H} (hn : h.1 < 1000000) : am_ev d 53 16 ls (.int 8 :: st) h = am_ev d 53 18 ls (.ref h.1 :: st) (am_new h 8 (Z8 8)) := (e_53_16 (N := 8) (by decide +kernel) (by decide +kernel) (by decide) hn).trans (by rw [Z8_eq])
theorem w_53_24 {d : Nat} {ls : am_L} {st : List Value} {h : am_H} (hn : h.1 < 1000000) : am_ev d 53 24 ls (.int 8 :: st) h = am_ev d 53 26 ls (.ref h.1 :: st) (am_new h 8 (Z8 8)) := (e_53_24 (N := 8) (by decide +kernel) (by decide +kernel) (by decide) hn).trans (by rw [Z8_eq])
theorem w_62_8 {d : Nat} {ls : am_L} {st : List Value} {h : am_H} (hn : h.1 < 1000000) : am_ev d 62 8 ls (.int 200 :: st) h = am_ev d 62 10 ls (.ref h.1 :: st) (am_new h 200 (Z8 200)) := (e_62_8 (N := 200) (by decide +kernel) (by decide +kernel) (by decide) hn).trans (by rw [Z8_eq])
theorem w_74_7 {d : Nat} {ls : am_L} {st : List Value} {h : am_H} (hn : h.1 < 1000000) : am_ev d 74 7 ls (.int 6 :: st) h = am_ev d 74 9 ls (.ref h.1 :: st) (am_new h 6 (Z8 6)) := (e_74_7 (N := 6) (by decide +kernel) (by decide +kernel) (by decide) hn).trans (by rw [Z8_eq])
theorem w_74_15 {d : Nat} {ls : am_L} {st : List Value} {h : am_H} (hn : h.1 < 1000000) : am_ev d 74 15 ls (.int 6 :: st) h = am_ev d 74 17 ls (.ref h.1 :: st) (am_new h 6 (Z8 6)) := (e_74_15 (N := 6) (by decide +kernel) (by decide +kernel) (by decide) hn).trans (by rw [Z8_eq])
theorem w_74_23 {d : Nat} {ls : am_L} {st : List Value} {h : am_H} (hn : h.1 < 1000000) : am_ev d 74 23 ls (.int 6 :: st) h = am_ev d 74 25 ls (.ref h.1 :: st) (am_new h 6 (Z8 6)) := (e_74_23 (N := 6) (by decide +kernel) (by decide +kernel) (by decide) hn).trans (by rw [Z8_eq])
theorem w_74_56 {d : Nat} {ls : am_L} {st : List Value} {h : am_H} (hn : h.1 < 1000000) : am_ev d 74 56 ls (.int 5 :: st) h = am_ev d 74 58 ls (.ref h.1 :: st) (am_new h 5 (Z8 5)) := (e_74_56 (N := 5) (by decide +kernel) (by decide +kernel) (by decide) hn).trans (by rw [Z8_eq])
theorem w_82_84 {d : Nat} {ls : am_L} {st : List Value} {h : am_H} {f : Nat → Nat} (hn : h.1 < 1000000) : am_ev d 82 84 ls (.int 3 :: st) h = am_ev d 82 87 ls (.ref h.1 :: st) (am_new h 3 (ARp 4 3 0 f)) := (e_82_84 (N := 3) (by decide +kernel) (by decide +kernel) (by decide) hn).trans (by rw [ARp_0 4 3 f])
theorem w_82_93 {d : Nat} {ls : am_L} {st : List Value} {h : am_H} (hn : h.1 < 1000000) : am_ev d 82 93 ls (.int 12 :: st) h = am_ev d 82 95 ls (.ref h.1 :: st) (am_new h 12 (Z8 12)) := (e_82_93 (N := 12) (by decide +kernel) (by decide +kernel) (by decide) hn).trans (by rw [Z8_eq])
theorem m_house0 {a b : Nat} (hN : h.1 = a + 1) (ha : a + 10 < 1000000) (a0 : am_at h a = some (.inr (1, am_dflt 1))) : ∃ h', am_cal (d + 2) 14 [.ref a, .ref b] h = some (none, h') ∧ RawAt h' a b ∧ NW h h' a 3 24 := by
  rw [df_1] at a0
  have m1 : am_at (am_new h 8 (Z8 8)) a = some (.inr (1, [.null, .int 0, .int 0, .null, .null, .null])) := by rw [at_new_ne (by omega)]; exact a0
  obtain ⟨h1, q1, n1, z1, a1, c1, k1⟩ := blk (h := h) (a := a) (n := 8) (Z := Z8 8) (x := .inr (1, [.null, .int 0, .int 0, .ref h.1, .null, .null])) (by omega)
  have N1 : h1.1 = a + 2 := by omega
  rw [hN] at a1 c1
  have m2 : am_at (am_new h1 8 (Z8 8)) a = some (.inr (1, [.null, .int 0, .int 0, .ref (a + 1), .null, .null])) := by rw [at_new_ne (by omega)]; exact a1
  obtain ⟨h2, q2, n2, z2, a2, c2, k2⟩ := blk (h := h1) (a := a) (n := 8) (Z := Z8 8) (x := .inr (1, [.null, .int 0, .int 0, .ref (a + 1), .ref h1.1, .null])) (by omega)
  have N2 : h2.1 = a + 3 := by omega
  rw [N1] at a2 c2
  have m3 : am_at (am_new h2 8 (Z8 8)) a = some (.inr (1, [.null, .int 0, .int 0, .ref (a + 1), .ref (a + 2), .null])) := by rw [at_new_ne (by omega)]; exact a2
  obtain ⟨h3, q3, n3, z3, a3, c3, k3⟩ := blk (h := h2) (a := a) (n := 8) (Z := Z8 8) (x := .inr (1, [.null, .int 0, .int 0, .ref (a + 1), .ref (a + 2), .ref h2.1])) (by omega)
  have N3 : h3.1 = a + 4 := by omega
  rw [N2] at a3 c3
  obtain ⟨h4, q4, n4, z4, a4, k4⟩ := stb (h := h3) (a := a) (x := .inr (1, [.ref b, .int 0, .int 0, .ref (a + 1), .ref (a + 2), .ref (a + 3)]))
  have N4 : h4.1 = a + 4 := by omega
  refine ⟨h4, ?_, ⟨0, 0, fun _ => nI 0, fun _ => nI 0, fun _ => nI 0, a4, by rw [k4 _ (by omega), k3 _ (by omega) (by omega), k2 _ (by omega) (by omega)]; exact c1, by rw [k4 _ (by omega), k3 _ (by omega) (by omega)]; exact c2, by rw [k4 _ (by omega)]; exact c3⟩, by omega, by omega, fun j hj1 hj2 => by rw [k4 _ (by omega), k3 _ (by omega) (by omega), k2 _ (by omega) (by omega), k1 _ (by omega) (by omega)]⟩
  · refine (b_14 _ _ _).trans ?_; show am_ev _ 14 0 [some (.ref a), some (.ref b)] [] _ = _
    simp only [e_14_0, e_14_1, e_14_4, e_14_5, lg_n, lg_i, lg_r, wd_nil, am_wd_i, am_wd_r, am_wd_l, am_gk_s, am_fld_s, List.getElem?_cons_zero, List.getElem?_cons_succ, am_bk_v, am_bk_n, bo_0, bo_1, am_pk_s, List.length_cons, List.length_nil, Nat.zero_add, List.set_cons_zero, List.set_cons_succ, Nat.reduceAdd, Nat.reduceLeDiff, Nat.reduceLT]
    rw [w_14_7 (h := h) (by omega)]
    simp only [e_14_9, e_14_12, e_14_13, lg_n, lg_i, lg_r, wd_nil, am_wd_i, am_wd_r, am_wd_l, am_gk_s, am_fld_s, List.getElem?_cons_zero, List.getElem?_cons_succ, am_bk_v, am_bk_n, bo_0, bo_1, am_pk_s, List.length_cons, List.length_nil, Nat.zero_add, List.set_cons_zero, List.set_cons_succ, Nat.reduceAdd, Nat.reduceLeDiff, Nat.reduceLT, m1]
    rw [← q1]
    rw [w_14_15 (h := h1) (by omega)]
    simp only [e_14_17, e_14_20, e_14_21, lg_n, lg_i, lg_r, wd_nil, am_wd_i, am_wd_r, am_wd_l, am_gk_s, am_fld_s, List.getElem?_cons_zero, List.getElem?_cons_succ, am_bk_v, am_bk_n, bo_0, bo_1, am_pk_s, List.length_cons, List.length_nil, Nat.zero_add, List.set_cons_zero, List.set_cons_succ, Nat.reduceAdd, Nat.reduceLeDiff, Nat.reduceLT, m2]
    rw [← q2]
    rw [w_14_23 (h := h2) (by omega)]
    simp only [e_14_25, e_14_28, e_14_29, lg_n, lg_i, lg_r, wd_nil, am_wd_i, am_wd_r, am_wd_l, am_gk_s, am_fld_s, List.getElem?_cons_zero, List.getElem?_cons_succ, am_bk_v, am_bk_n, bo_0, bo_1, am_pk_s, List.length_cons, List.length_nil, Nat.zero_add, List.set_cons_zero, List.set_cons_succ, Nat.reduceAdd, Nat.reduceLeDiff, Nat.reduceLT, m3]
    rw [← q3]
    simp only [e_14_30, lg_n, lg_i, lg_r, wd_nil, am_wd_i, am_wd_r, am_wd_l, am_gk_s, am_fld_s, List.getElem?_cons_zero, List.getElem?_cons_succ, am_bk_v, am_bk_n, bo_0, bo_1, am_pk_s, List.length_cons, List.length_nil, Nat.zero_add, List.set_cons_zero, List.set_cons_succ, Nat.reduceAdd, Nat.reduceLeDiff, Nat.reduceLT, a3]
    rw [← q4]
    exact e_14_33
theorem m_note0 {a : Nat} (hN : h.1 = a + 1) (ha : a + 10 < 1000000) (a0 : am_at h a = some (.inr (2, am_dflt 2))) : ∃ h', am_cal (d + 2) 39 [.ref a] h = some (none, h') ∧ NoteAt h' a 1 0 (fun _ => 0) ∧ NW h h' a 1 12 := by
  rw [df_2] at a0
  obtain ⟨h1, q1, n1, z1, a1, k1⟩ := stb (h := h) (a := a) (x := .inr (2, [.int 1, .int 0, .null]))
  have N1 : h1.1 = a + 1 := by omega
  have m2 : am_at (am_new h1 12 (Z8 12)) a = some (.inr (2, [.int 1, .int 0, .null])) := by rw [at_new_ne (by omega)]; exact a1
  obtain ⟨h2, q2, n2, z2, a2, c2, k2⟩ := blk (h := h1) (a := a) (n := 12) (Z := Z8 12) (x := .inr (2, [.int 1, .int 0, .ref h1.1])) (by omega)
  have N2 : h2.1 = a + 2 := by omega
  rw [N1] at a2 c2
  refine ⟨h2, ?_, ⟨by rw [a2]; unfold note0; rw [nI_0], c2⟩, by omega, by omega, fun j hj1 hj2 => by rw [k2 _ (by omega) (by omega), k1 _ (by omega)]⟩
  · refine (b_39 _ _ _).trans ?_; show am_ev _ 39 0 [some (.ref a)] [] _ = _
    simp only [e_39_0, e_39_1, e_39_4, e_39_5, e_39_6, e_39_9, e_39_10, lg_n, lg_i, lg_r, wd_nil, am_wd_i, am_wd_r, am_wd_l, am_gk_s, am_fld_s, List.getElem?_cons_zero, List.getElem?_cons_succ, am_bk_v, am_bk_n, bo_0, bo_1, am_pk_s, List.length_cons, List.length_nil, Nat.zero_add, List.set_cons_zero, List.set_cons_succ, Nat.reduceAdd, Nat.reduceLeDiff, Nat.reduceLT, a0, eq_self, or_true]
    rw [← q1]
    rw [w_39_12 (h := h1) (by omega)]
    simp only [e_39_14, lg_n, lg_i, lg_r, wd_nil, am_wd_i, am_wd_r, am_wd_l, am_gk_s, am_fld_s, List.getElem?_cons_zero, List.getElem?_cons_succ, am_bk_v, am_bk_n, bo_0, bo_1, am_pk_s, List.length_cons, List.length_nil, Nat.zero_add, List.set_cons_zero, List.set_cons_succ, Nat.reduceAdd, Nat.reduceLeDiff, Nat.reduceLT, m2]
    rw [← q2]
    exact e_39_17
theorem l_kinds0 {a : Nat} (hs : Stt h) (ha : a + 10 < 1000000) : ∀ j i (h : am_H), i + j = 8 → Stt h → am_fld (am_at h a) 4 4 = some (.ref (a + 1)) → am_at h (a + 1) = some (ARp 2 8 i (fun _ => 1000002)) → am_ev (d + 1) 53 31 [some (.ref a), some (.int (nI i))] [] h = am_ev (d + 1) 53 52 [some (.ref a), some (.int (nI 8))] [] (am_set h (a + 1) (ARp 2 8 8 (fun _ => 1000002))) := by
  have e8 : (8 : Int32) = nI 8 := by decide +kernel
  intro j
  induction j with
  | zero =>
    intro i h hi hs hf hA
    have : i = 8 := by omega
    subst this
    rw [set_self hA, e_53_31]
    simp only [e_53_32, e_53_34, lg_n, lg_i, lg_r, wd_nil, am_wd_i, am_wd_r, am_wd_l, am_gk_s, am_fld_s, List.getElem?_cons_zero, List.getElem?_cons_succ, am_bk_v, am_bk_n, bo_0, bo_1, am_pk_s, List.length_cons, List.length_nil, Nat.zero_add, List.set_cons_zero, List.set_cons_succ, Nat.reduceAdd, Nat.reduceLeDiff, Nat.reduceLT, e8, nI_leI (show 8 < 2 ^ 31 by decide) (show 8 < 2 ^ 31 by decide), Nat.le_refl, if_true]
  | succ j ih =>
    intro i h hi hs hf hA
    have ih' := ih (i + 1) (am_set h (a + 1) (ARp 2 8 (i + 1) (fun _ => 1000002))) (by omega) (hs.keep (fun k hk => at_set_ne (by omega))) (by rw [at_set_ne (by omega)]; exact hf) at_set_eq
    rw [set_set] at ih'
    obtain ⟨fs, hk⟩ : ∃ fs, am_at h 1000002 = some (.inr (20, fs)) := ⟨_, at_kind hs (k := 0) (by decide)⟩
    have hwt := wt_ARp (t := 2) (n := 8) (f := fun _ => 1000002) (show i < 2 ^ 31 by omega)
    rw [e_53_31]
    simp only [e_53_32, e_53_34, e_53_37, e_53_38, e_53_41, e_53_42, e_53_45, e_53_46, e_53_49, lg_n, lg_i, lg_r, wd_nil, am_wd_i, am_wd_r, am_wd_l, am_gk_s, am_fld_s, List.getElem?_cons_zero, List.getElem?_cons_succ, am_bk_v, am_bk_n, bo_0, bo_1, am_pk_s, List.length_cons, List.length_nil, Nat.zero_add, List.set_cons_zero, List.set_cons_succ, Nat.reduceAdd, Nat.reduceLeDiff, Nat.reduceLT, e8, nI_leI (show 8 < 2 ^ 31 by decide) (show i < 2 ^ 31 by omega), if_neg (show ¬ 8 ≤ i by omega), hf, hA, wk_ARp hk (show 20 = am_tc 2 from rfl) (show i < 8 by omega) (show 8 < 2 ^ 31 by decide), hwt, nI_1]
    exact ih'
theorem m_plan0 {a : Nat} (hN : h.1 = a + 1) (ha : a + 10 < 1000000) (hs : Stt h) (a0 : am_at h a = some (.inr (4, am_dflt 4))) : ∃ h', am_cal (d + 2) 53 [.ref a] h = some (none, h') ∧ PlanAt h' a (4, 2, 0, 0, (fun _ => 0), (fun _ => 0), (fun _ => 0)) ∧ NW h h' a 3 24 := by
  rw [df_4] at a0
  have m1 : am_at (am_new h 8 (ARp 2 8 0 (fun _ => 1000002))) a = some (.inr (4, [.int 0, .int 0, .int 0, .int 0, .null, .null, .null])) := by rw [at_new_ne (by omega)]; exact a0
  obtain ⟨h1, q1, n1, z1, a1, c1, k1⟩ := blk (h := h) (a := a) (n := 8) (Z := ARp 2 8 0 (fun _ => 1000002)) (x := .inr (4, [.int 0, .int 0, .int 0, .int 0, .ref h.1, .null, .null])) (by omega)
  have N1 : h1.1 = a + 2 := by omega
  rw [hN] at a1 c1
  have m2 : am_at (am_new h1 8 (Z8 8)) a = some (.inr (4, [.int 0, .int 0, .int 0, .int 0, .ref (a + 1), .null, .null])) := by rw [at_new_ne (by omega)]; exact a1
  obtain ⟨h2, q2, n2, z2, a2, c2, k2⟩ := blk (h := h1) (a := a) (n := 8) (Z := Z8 8) (x := .inr (4, [.int 0, .int 0, .int 0, .int 0, .ref (a + 1), .ref h1.1, .null])) (by omega)
  have N2 : h2.1 = a + 3 := by omega
  rw [N1] at a2 c2
  have m3 : am_at (am_new h2 8 (Z8 8)) a = some (.inr (4, [.int 0, .int 0, .int 0, .int 0, .ref (a + 1), .ref (a + 2), .null])) := by rw [at_new_ne (by omega)]; exact a2
  obtain ⟨h3, q3, n3, z3, a3, c3, k3⟩ := blk (h := h2) (a := a) (n := 8) (Z := Z8 8) (x := .inr (4, [.int 0, .int 0, .int 0, .int 0, .ref (a + 1), .ref (a + 2), .ref h2.1])) (by omega)
  have N3 : h3.1 = a + 4 := by omega
  rw [N2] at a3 c3
  have S3 : Stt h3 := hs.keep (fun k hk => by rw [k3 _ (by omega) (by omega), k2 _ (by omega) (by omega), k1 _ (by omega) (by omega)])
  have L3 := l_kinds0 (d := d) S3 ha 8 0 h3 (by omega) S3 (by rw [a3, am_fld_s]; rfl) (by rw [k3 _ (by omega) (by omega), k2 _ (by omega) (by omega)]; exact c1)
  rw [nI_0] at L3
  obtain ⟨h4, q4, n4, z4, a4, k4⟩ := stb (h := h3) (a := a + 1) (x := ARp 2 8 8 (fun _ => 1000002))
  have N4 : h4.1 = a + 4 := by omega
  have P4 : PlanAt h4 a (0, 0, 0, 0, (fun _ => 0), (fun _ => 0), (fun _ => 0)) := ⟨by rw [k4 _ (by omega), a3]; unfold plan0; simp only [nI_0], a4, by rw [k4 _ (by omega), k3 _ (by omega) (by omega)]; exact c2, by rw [k4 _ (by omega)]; exact c3⟩
  have C4 := m_clear (d := d) P4 4
  rw [show nI 4 = 4 by decide +kernel] at C4
  obtain ⟨h5, q5, n5, z5, a5, k5⟩ := stb (h := h4) (a := a) (x := plan0 a (4, 2, 0, 0, (fun _ => 0), (fun _ => 0), (fun _ => 0)))
  have N5 : h5.1 = a + 4 := by omega
  refine ⟨h5, ?_, ⟨a5, by rw [k5 _ (by omega)]; exact a4, by rw [k5 _ (by omega)]; exact P4.2.2.1, by rw [k5 _ (by omega)]; exact P4.2.2.2⟩, by omega, by omega, fun j hj1 hj2 => by rw [k5 _ (by omega), k4 _ (by omega), k3 _ (by omega) (by omega), k2 _ (by omega) (by omega), k1 _ (by omega) (by omega)]⟩
  · refine (b_53 _ _ _).trans ?_; show am_ev _ 53 0 [some (.ref a), none] [] _ = _
    simp only [e_53_0, e_53_1, e_53_4, e_53_5, lg_n, lg_i, lg_r, wd_nil, am_wd_i, am_wd_r, am_wd_l, am_gk_s, am_fld_s, List.getElem?_cons_zero, List.getElem?_cons_succ, am_bk_v, am_bk_n, bo_0, bo_1, am_pk_s, List.length_cons, List.length_nil, Nat.zero_add, List.set_cons_zero, List.set_cons_succ, Nat.reduceAdd, Nat.reduceLeDiff, Nat.reduceLT]
    rw [w_53_7 (f := fun _ => 1000002) (h := h) (by omega)]
    simp only [e_53_10, e_53_13, e_53_14, lg_n, lg_i, lg_r, wd_nil, am_wd_i, am_wd_r, am_wd_l, am_gk_s, am_fld_s, List.getElem?_cons_zero, List.getElem?_cons_succ, am_bk_v, am_bk_n, bo_0, bo_1, am_pk_s, List.length_cons, List.length_nil, Nat.zero_add, List.set_cons_zero, List.set_cons_succ, Nat.reduceAdd, Nat.reduceLeDiff, Nat.reduceLT, m1]
    rw [← q1]
    rw [w_53_16 (h := h1) (by omega)]
    simp only [e_53_18, e_53_21, e_53_22, lg_n, lg_i, lg_r, wd_nil, am_wd_i, am_wd_r, am_wd_l, am_gk_s, am_fld_s, List.getElem?_cons_zero, List.getElem?_cons_succ, am_bk_v, am_bk_n, bo_0, bo_1, am_pk_s, List.length_cons, List.length_nil, Nat.zero_add, List.set_cons_zero, List.set_cons_succ, Nat.reduceAdd, Nat.reduceLeDiff, Nat.reduceLT, m2]
    rw [← q2]
    rw [w_53_24 (h := h2) (by omega)]
    simp only [e_53_26, e_53_29, e_53_30, lg_n, lg_i, lg_r, wd_nil, am_wd_i, am_wd_r, am_wd_l, am_gk_s, am_fld_s, List.getElem?_cons_zero, List.getElem?_cons_succ, am_bk_v, am_bk_n, bo_0, bo_1, am_pk_s, List.length_cons, List.length_nil, Nat.zero_add, List.set_cons_zero, List.set_cons_succ, Nat.reduceAdd, Nat.reduceLeDiff, Nat.reduceLT, m3]
    rw [← q3]
    refine L3.trans ?_
    rw [← q4]
    simp only [e_53_52, e_53_53, e_53_54, lg_n, lg_i, lg_r, wd_nil, am_wd_i, am_wd_r, am_wd_l, am_gk_s, am_fld_s, List.getElem?_cons_zero, List.getElem?_cons_succ, am_bk_v, am_bk_n, bo_0, bo_1, am_pk_s, List.length_cons, List.length_nil, Nat.zero_add, List.set_cons_zero, List.set_cons_succ, Nat.reduceAdd, Nat.reduceLeDiff, Nat.reduceLT, is_plan P4, C4]
    rw [← q5]
    exact e_53_57
theorem m_read0 {a : Nat} (hN : h.1 = a + 1) (ha : a + 20 < 1000000) (hs : Stt h) (a0 : am_at h a = some (.inr (5, am_dflt 5))) : ∃ h', am_cal (d + 3) 62 [.ref a] h = some (none, h') ∧ RX h' a (fun _ => 0) 0 0 0 0 (4, 2, 0, 0, (fun _ => 0), (fun _ => 0), (fun _ => 0)) ∧ NW h h' a 5 231 := by
  rw [df_5] at a0
  have m1 : am_at (am_new h 200 (Z8 200)) a = some (.inr (5, [.null, .int 0, .null, .int 0, .int 0, .int 0])) := by rw [at_new_ne (by omega)]; exact a0
  obtain ⟨h1, q1, n1, z1, a1, c1, k1⟩ := blk (h := h) (a := a) (n := 200) (Z := Z8 200) (x := .inr (5, [.ref h.1, .int 0, .null, .int 0, .int 0, .int 0])) (by omega)
  have N1 : h1.1 = a + 2 := by omega
  rw [hN] at a1 c1
  obtain ⟨g2, r2, ng2, zg2, og2, kg2⟩ := nwb (h := h1) (n := (am_dflt 4).length) (Z := .inr (4, am_dflt 4))
  rw [N1] at og2
  have Ng2 : g2.1 = a + 3 := by omega
  have b2 : am_at g2 a = some (.inr (5, [.ref (a + 1), .int 0, .null, .int 0, .int 0, .int 0])) := by rw [kg2 _ (by omega)]; exact a1
  rw [dl_4] at zg2
  obtain ⟨h2, e2, s2, n2, z2, k2⟩ := m_plan0 (d := d) (h := g2) (a := a + 2) (by omega) (by omega) (hs.keep (fun k hk => by rw [kg2 _ (by omega), k1 _ (by omega) (by omega)])) og2
  have N2 : h2.1 = a + 6 := by omega
  have a2 : am_at h2 a = some (.inr (5, [.ref (a + 1), .int 0, .null, .int 0, .int 0, .int 0])) := by rw [k2 _ (by omega) (by omega)]; exact b2
  obtain ⟨h3, q3, n3, z3, a3, k3⟩ := stb (h := h2) (a := a) (x := .inr (5, [.ref (a + 1), .int 0, .ref (a + 2), .int 0, .int 0, .int 0]))
  have N3 : h3.1 = a + 6 := by omega
  refine ⟨h3, ?_, ⟨⟨hs.keep (fun k hk => by rw [k3 _ (by omega), k2 _ (by omega) (by omega), kg2 _ (by omega), k1 _ (by omega) (by omega)]), by rw [a3]; unfold rd0; simp only [nI_0], by rw [k3 _ (by omega), k2 _ (by omega) (by omega), kg2 _ (by omega)]; exact c1, by omega, by omega, fun _ => (by decide : 0 < 256)⟩, s2.keep (fun k _ _ => by rw [k3 _ (by omega)])⟩, by omega, by omega, fun j hj1 hj2 => by rw [k3 _ (by omega), k2 _ (by omega) (by omega), kg2 _ (by omega), k1 _ (by omega) (by omega)]⟩
  · refine (b_62 _ _ _).trans ?_; show am_ev _ 62 0 [some (.ref a)] [] _ = _
    simp only [e_62_0, e_62_1, e_62_4, e_62_5, lg_n, lg_i, lg_r, wd_nil, am_wd_i, am_wd_r, am_wd_l, am_gk_s, am_fld_s, List.getElem?_cons_zero, List.getElem?_cons_succ, am_bk_v, am_bk_n, bo_0, bo_1, am_pk_s, List.length_cons, List.length_nil, Nat.zero_add, List.set_cons_zero, List.set_cons_succ, Nat.reduceAdd, Nat.reduceLeDiff, Nat.reduceLT]
    rw [w_62_8 (h := h) (by omega)]
    simp only [e_62_10, e_62_13, lg_n, lg_i, lg_r, wd_nil, am_wd_i, am_wd_r, am_wd_l, am_gk_s, am_fld_s, List.getElem?_cons_zero, List.getElem?_cons_succ, am_bk_v, am_bk_n, bo_0, bo_1, am_pk_s, List.length_cons, List.length_nil, Nat.zero_add, List.set_cons_zero, List.set_cons_succ, Nat.reduceAdd, Nat.reduceLeDiff, Nat.reduceLT, m1]
    rw [← q1]
    rw [e_62_14 (h := h1) (by omega), ← r2, N1]
    simp only [e_62_17, e_62_18, e_62_21, lg_n, lg_i, lg_r, wd_nil, am_wd_i, am_wd_r, am_wd_l, am_gk_s, am_fld_s, List.getElem?_cons_zero, List.getElem?_cons_succ, am_bk_v, am_bk_n, bo_0, bo_1, am_pk_s, List.length_cons, List.length_nil, Nat.zero_add, List.set_cons_zero, List.set_cons_succ, Nat.reduceAdd, Nat.reduceLeDiff, Nat.reduceLT, b2, e2, a2]
    rw [← q3]
    exact e_62_24
theorem m_fore0 {a n b : Nat} (hN : h.1 = a + 1) (ha : a + 20 < 1000000) (hna : n < a) (hn : am_fld (am_at h n) 1 0 = some (.ref b)) (a0 : am_at h a = some (.inr (0, am_dflt 0))) : ∃ h', am_cal (d + 3) 0 [.ref a, .ref n] h = some (none, h') ∧ (am_at h' a = some (fore0 a n (a + 3) (0, 0, 0, (fun _ => 0), (fun _ => 0))) ∧ am_at h' (a + 1) = some (Z8 6) ∧ am_at h' (a + 2) = some (Z8 6) ∧ RawAt h' (a + 3) b) ∧ NW h h' a 6 42 := by
  rw [df_0] at a0
  have m1 : am_at (am_new h 6 (Z8 6)) a = some (.inr (0, [.null, .null, .null, .null, .int 0, .int 0, .int 0])) := by rw [at_new_ne (by omega)]; exact a0
  obtain ⟨h1, q1, n1, z1, a1, c1, k1⟩ := blk (h := h) (a := a) (n := 6) (Z := Z8 6) (x := .inr (0, [.null, .null, .ref h.1, .null, .int 0, .int 0, .int 0])) (by omega)
  have N1 : h1.1 = a + 2 := by omega
  rw [hN] at a1 c1
  have m2 : am_at (am_new h1 6 (Z8 6)) a = some (.inr (0, [.null, .null, .ref (a + 1), .null, .int 0, .int 0, .int 0])) := by rw [at_new_ne (by omega)]; exact a1
  obtain ⟨h2, q2, n2, z2, a2, c2, k2⟩ := blk (h := h1) (a := a) (n := 6) (Z := Z8 6) (x := .inr (0, [.null, .null, .ref (a + 1), .ref h1.1, .int 0, .int 0, .int 0])) (by omega)
  have N2 : h2.1 = a + 3 := by omega
  rw [N1] at a2 c2
  obtain ⟨h3, q3, n3, z3, a3, k3⟩ := stb (h := h2) (a := a) (x := .inr (0, [.ref n, .null, .ref (a + 1), .ref (a + 2), .int 0, .int 0, .int 0]))
  have N3 : h3.1 = a + 3 := by omega
  obtain ⟨g4, r4, ng4, zg4, og4, kg4⟩ := nwb (h := h3) (n := (am_dflt 1).length) (Z := .inr (1, am_dflt 1))
  rw [N3] at og4
  have Ng4 : g4.1 = a + 4 := by omega
  have b4 : am_at g4 a = some (.inr (0, [.ref n, .null, .ref (a + 1), .ref (a + 2), .int 0, .int 0, .int 0])) := by rw [kg4 _ (by omega)]; exact a3
  rw [dl_1] at zg4
  have fn : am_fld (am_at g4 n) 1 0 = some (.ref b) := by rw [kg4 _ (by omega), k3 _ (by omega), k2 _ (by omega) (by omega), k1 _ (by omega) (by omega)]; exact hn
  obtain ⟨h4, e4, s4, n4, z4, k4⟩ := m_house0 (d := d) (h := g4) (a := a + 3) (b := b) (by omega) (by omega) og4
  have N4 : h4.1 = a + 7 := by omega
  have a4 : am_at h4 a = some (.inr (0, [.ref n, .null, .ref (a + 1), .ref (a + 2), .int 0, .int 0, .int 0])) := by rw [k4 _ (by omega) (by omega)]; exact b4
  obtain ⟨h5, q5, n5, z5, a5, k5⟩ := stb (h := h4) (a := a) (x := .inr (0, [.ref n, .ref (a + 3), .ref (a + 1), .ref (a + 2), .int 0, .int 0, .int 0]))
  have N5 : h5.1 = a + 7 := by omega
  refine ⟨h5, ?_, ⟨by rw [a5]; unfold fore0; simp only [nI_0], by rw [k5 _ (by omega), k4 _ (by omega) (by omega), kg4 _ (by omega), k3 _ (by omega), k2 _ (by omega) (by omega)]; exact c1, by rw [k5 _ (by omega), k4 _ (by omega) (by omega), kg4 _ (by omega), k3 _ (by omega)]; exact c2, s4.keep (fun k _ _ => by rw [k5 _ (by omega)])⟩, by omega, by omega, fun j hj1 hj2 => by rw [k5 _ (by omega), k4 _ (by omega) (by omega), kg4 _ (by omega), k3 _ (by omega), k2 _ (by omega) (by omega), k1 _ (by omega) (by omega)]⟩
  · refine (b_0 _ _ _).trans ?_; show am_ev _ 0 0 [some (.ref a), some (.ref n)] [] _ = _
    simp only [e_0_0, e_0_1, e_0_4, e_0_5, lg_n, lg_i, lg_r, wd_nil, am_wd_i, am_wd_r, am_wd_l, am_gk_s, am_fld_s, List.getElem?_cons_zero, List.getElem?_cons_succ, am_bk_v, am_bk_n, bo_0, bo_1, am_pk_s, List.length_cons, List.length_nil, Nat.zero_add, List.set_cons_zero, List.set_cons_succ, Nat.reduceAdd, Nat.reduceLeDiff, Nat.reduceLT]
    rw [w_0_7 (h := h) (by omega)]
    simp only [e_0_9, e_0_12, e_0_13, lg_n, lg_i, lg_r, wd_nil, am_wd_i, am_wd_r, am_wd_l, am_gk_s, am_fld_s, List.getElem?_cons_zero, List.getElem?_cons_succ, am_bk_v, am_bk_n, bo_0, bo_1, am_pk_s, List.length_cons, List.length_nil, Nat.zero_add, List.set_cons_zero, List.set_cons_succ, Nat.reduceAdd, Nat.reduceLeDiff, Nat.reduceLT, m1]
    rw [← q1]
    rw [w_0_15 (h := h1) (by omega)]
    simp only [e_0_17, e_0_20, e_0_21, lg_n, lg_i, lg_r, wd_nil, am_wd_i, am_wd_r, am_wd_l, am_gk_s, am_fld_s, List.getElem?_cons_zero, List.getElem?_cons_succ, am_bk_v, am_bk_n, bo_0, bo_1, am_pk_s, List.length_cons, List.length_nil, Nat.zero_add, List.set_cons_zero, List.set_cons_succ, Nat.reduceAdd, Nat.reduceLeDiff, Nat.reduceLT, m2]
    rw [← q2]
    simp only [e_0_22, e_0_25, lg_n, lg_i, lg_r, wd_nil, am_wd_i, am_wd_r, am_wd_l, am_gk_s, am_fld_s, List.getElem?_cons_zero, List.getElem?_cons_succ, am_bk_v, am_bk_n, bo_0, bo_1, am_pk_s, List.length_cons, List.length_nil, Nat.zero_add, List.set_cons_zero, List.set_cons_succ, Nat.reduceAdd, Nat.reduceLeDiff, Nat.reduceLT, a2]
    rw [← q3]
    rw [e_0_26 (h := h3) (by omega), ← r4, N3]
    simp only [e_0_29, e_0_30, e_0_31, e_0_34, e_0_37, lg_n, lg_i, lg_r, wd_nil, am_wd_i, am_wd_r, am_wd_l, am_gk_s, am_fld_s, List.getElem?_cons_zero, List.getElem?_cons_succ, am_bk_v, am_bk_n, bo_0, bo_1, am_pk_s, List.length_cons, List.length_nil, Nat.zero_add, List.set_cons_zero, List.set_cons_succ, Nat.reduceAdd, Nat.reduceLeDiff, Nat.reduceLT, b4, e4, a4, fn]
    rw [← q5]
    exact e_0_40
theorem m_sigh0 {a : Nat} (hN : h.1 = a + 1) (ha : a + 20 < 1000000) (hs : Stt h) (a0 : am_at h a = some (.inr (6, am_dflt 6))) : ∃ h', am_cal (d + 3) 74 [.ref a] h = some (none, h') ∧ SG h' a 0 (fun _ => 0) (fun _ => 0) (fun _ => 0) (fun _ => nI 0) ∧ NW h h' a 12 84 := by
  rw [df_6] at a0
  have m1 : am_at (am_new h 6 (Z8 6)) a = some (.inr (6, [.null, .null, .null, .int 0, .null, .null, .null])) := by rw [at_new_ne (by omega)]; exact a0
  obtain ⟨h1, q1, n1, z1, a1, c1, k1⟩ := blk (h := h) (a := a) (n := 6) (Z := Z8 6) (x := .inr (6, [.ref h.1, .null, .null, .int 0, .null, .null, .null])) (by omega)
  have N1 : h1.1 = a + 2 := by omega
  rw [hN] at a1 c1
  have m2 : am_at (am_new h1 6 (Z8 6)) a = some (.inr (6, [.ref (a + 1), .null, .null, .int 0, .null, .null, .null])) := by rw [at_new_ne (by omega)]; exact a1
  obtain ⟨h2, q2, n2, z2, a2, c2, k2⟩ := blk (h := h1) (a := a) (n := 6) (Z := Z8 6) (x := .inr (6, [.ref (a + 1), .ref h1.1, .null, .int 0, .null, .null, .null])) (by omega)
  have N2 : h2.1 = a + 3 := by omega
  rw [N1] at a2 c2
  have m3 : am_at (am_new h2 6 (Z8 6)) a = some (.inr (6, [.ref (a + 1), .ref (a + 2), .null, .int 0, .null, .null, .null])) := by rw [at_new_ne (by omega)]; exact a2
  obtain ⟨h3, q3, n3, z3, a3, c3, k3⟩ := blk (h := h2) (a := a) (n := 6) (Z := Z8 6) (x := .inr (6, [.ref (a + 1), .ref (a + 2), .ref h2.1, .int 0, .null, .null, .null])) (by omega)
  have N3 : h3.1 = a + 4 := by omega
  rw [N2] at a3 c3
  obtain ⟨g4, r4, ng4, zg4, og4, kg4⟩ := nwb (h := h3) (n := (am_dflt 4).length) (Z := .inr (4, am_dflt 4))
  rw [N3] at og4
  have Ng4 : g4.1 = a + 5 := by omega
  have b4 : am_at g4 a = some (.inr (6, [.ref (a + 1), .ref (a + 2), .ref (a + 3), .int 0, .null, .null, .null])) := by rw [kg4 _ (by omega)]; exact a3
  rw [dl_4] at zg4
  obtain ⟨h4, e4, s4, n4, z4, k4⟩ := m_plan0 (d := d) (h := g4) (a := a + 4) (by omega) (by omega) (hs.keep (fun k hk => by rw [kg4 _ (by omega), k3 _ (by omega) (by omega), k2 _ (by omega) (by omega), k1 _ (by omega) (by omega)])) og4
  have N4 : h4.1 = a + 8 := by omega
  have a4 : am_at h4 a = some (.inr (6, [.ref (a + 1), .ref (a + 2), .ref (a + 3), .int 0, .null, .null, .null])) := by rw [k4 _ (by omega) (by omega)]; exact b4
  obtain ⟨h5, q5, n5, z5, a5, k5⟩ := stb (h := h4) (a := a) (x := .inr (6, [.ref (a + 1), .ref (a + 2), .ref (a + 3), .int 0, .ref (a + 4), .null, .null]))
  have N5 : h5.1 = a + 8 := by omega
  obtain ⟨g6, r6, ng6, zg6, og6, kg6⟩ := nwb (h := h5) (n := (am_dflt 1).length) (Z := .inr (1, am_dflt 1))
  rw [N5] at og6
  have Ng6 : g6.1 = a + 9 := by omega
  have b6 : am_at g6 a = some (.inr (6, [.ref (a + 1), .ref (a + 2), .ref (a + 3), .int 0, .ref (a + 4), .null, .null])) := by rw [kg6 _ (by omega)]; exact a5
  rw [dl_1] at zg6
  obtain ⟨h6, e6, s6, n6, z6, k6⟩ := m_house0 (d := d) (h := g6) (a := a + 8) (b := a + 4) (by omega) (by omega) og6
  have N6 : h6.1 = a + 12 := by omega
  have a6 : am_at h6 a = some (.inr (6, [.ref (a + 1), .ref (a + 2), .ref (a + 3), .int 0, .ref (a + 4), .null, .null])) := by rw [k6 _ (by omega) (by omega)]; exact b6
  obtain ⟨h7, q7, n7, z7, a7, k7⟩ := stb (h := h6) (a := a) (x := .inr (6, [.ref (a + 1), .ref (a + 2), .ref (a + 3), .int 0, .ref (a + 4), .ref (a + 8), .null]))
  have N7 : h7.1 = a + 12 := by omega
  have m8 : am_at (am_new h7 5 (Z8 5)) a = some (.inr (6, [.ref (a + 1), .ref (a + 2), .ref (a + 3), .int 0, .ref (a + 4), .ref (a + 8), .null])) := by rw [at_new_ne (by omega)]; exact a7
  obtain ⟨h8, q8, n8, z8, a8, c8, k8⟩ := blk (h := h7) (a := a) (n := 5) (Z := Z8 5) (x := .inr (6, [.ref (a + 1), .ref (a + 2), .ref (a + 3), .int 0, .ref (a + 4), .ref (a + 8), .ref h7.1])) (by omega)
  have N8 : h8.1 = a + 13 := by omega
  rw [N7] at a8 c8
  refine ⟨h8, ?_, ⟨hs.keep (fun k hk => by rw [k8 _ (by omega) (by omega), k7 _ (by omega), k6 _ (by omega) (by omega), kg6 _ (by omega), k5 _ (by omega), k4 _ (by omega) (by omega), kg4 _ (by omega), k3 _ (by omega) (by omega), k2 _ (by omega) (by omega), k1 _ (by omega) (by omega)]), by rw [a8]; unfold sg0; simp only [nI_0], by rw [k8 _ (by omega) (by omega), k7 _ (by omega), k6 _ (by omega) (by omega), kg6 _ (by omega), k5 _ (by omega), k4 _ (by omega) (by omega), kg4 _ (by omega), k3 _ (by omega) (by omega), k2 _ (by omega) (by omega)]; exact c1, by rw [k8 _ (by omega) (by omega), k7 _ (by omega), k6 _ (by omega) (by omega), kg6 _ (by omega), k5 _ (by omega), k4 _ (by omega) (by omega), kg4 _ (by omega), k3 _ (by omega) (by omega)]; exact c2, by rw [k8 _ (by omega) (by omega), k7 _ (by omega), k6 _ (by omega) (by omega), kg6 _ (by omega), k5 _ (by omega), k4 _ (by omega) (by omega), kg4 _ (by omega)]; exact c3, ⟨_, s4.keep (fun k _ _ => by rw [k8 _ (by omega) (by omega), k7 _ (by omega), k6 _ (by omega) (by omega), kg6 _ (by omega), k5 _ (by omega)]), fun p _ => by simp only; omega⟩, s6.keep (fun k _ _ => by rw [k8 _ (by omega) (by omega), k7 _ (by omega)]), c8, by omega⟩, by omega, by omega, fun j hj1 hj2 => by rw [k8 _ (by omega) (by omega), k7 _ (by omega), k6 _ (by omega) (by omega), kg6 _ (by omega), k5 _ (by omega), k4 _ (by omega) (by omega), kg4 _ (by omega), k3 _ (by omega) (by omega), k2 _ (by omega) (by omega), k1 _ (by omega) (by omega)]⟩
  · refine (b_74 _ _ _).trans ?_; show am_ev _ 74 0 [some (.ref a)] [] _ = _
    simp only [e_74_0, e_74_1, e_74_4, e_74_5, lg_n, lg_i, lg_r, wd_nil, am_wd_i, am_wd_r, am_wd_l, am_gk_s, am_fld_s, List.getElem?_cons_zero, List.getElem?_cons_succ, am_bk_v, am_bk_n, bo_0, bo_1, am_pk_s, List.length_cons, List.length_nil, Nat.zero_add, List.set_cons_zero, List.set_cons_succ, Nat.reduceAdd, Nat.reduceLeDiff, Nat.reduceLT]
    rw [w_74_7 (h := h) (by omega)]
    simp only [e_74_9, e_74_12, e_74_13, lg_n, lg_i, lg_r, wd_nil, am_wd_i, am_wd_r, am_wd_l, am_gk_s, am_fld_s, List.getElem?_cons_zero, List.getElem?_cons_succ, am_bk_v, am_bk_n, bo_0, bo_1, am_pk_s, List.length_cons, List.length_nil, Nat.zero_add, List.set_cons_zero, List.set_cons_succ, Nat.reduceAdd, Nat.reduceLeDiff, Nat.reduceLT, m1]
    rw [← q1]
    rw [w_74_15 (h := h1) (by omega)]
    simp only [e_74_17, e_74_20, e_74_21, lg_n, lg_i, lg_r, wd_nil, am_wd_i, am_wd_r, am_wd_l, am_gk_s, am_fld_s, List.getElem?_cons_zero, List.getElem?_cons_succ, am_bk_v, am_bk_n, bo_0, bo_1, am_pk_s, List.length_cons, List.length_nil, Nat.zero_add, List.set_cons_zero, List.set_cons_succ, Nat.reduceAdd, Nat.reduceLeDiff, Nat.reduceLT, m2]
    rw [← q2]
    rw [w_74_23 (h := h2) (by omega)]
    simp only [e_74_25, e_74_28, lg_n, lg_i, lg_r, wd_nil, am_wd_i, am_wd_r, am_wd_l, am_gk_s, am_fld_s, List.getElem?_cons_zero, List.getElem?_cons_succ, am_bk_v, am_bk_n, bo_0, bo_1, am_pk_s, List.length_cons, List.length_nil, Nat.zero_add, List.set_cons_zero, List.set_cons_succ, Nat.reduceAdd, Nat.reduceLeDiff, Nat.reduceLT, m3]
    rw [← q3]
    rw [e_74_29 (h := h3) (by omega), ← r4, N3]
    simp only [e_74_32, e_74_33, e_74_36, lg_n, lg_i, lg_r, wd_nil, am_wd_i, am_wd_r, am_wd_l, am_gk_s, am_fld_s, List.getElem?_cons_zero, List.getElem?_cons_succ, am_bk_v, am_bk_n, bo_0, bo_1, am_pk_s, List.length_cons, List.length_nil, Nat.zero_add, List.set_cons_zero, List.set_cons_succ, Nat.reduceAdd, Nat.reduceLeDiff, Nat.reduceLT, b4, e4, a4]
    rw [← q5]
    simp only [e_74_39, lg_n, lg_i, lg_r, wd_nil, am_wd_i, am_wd_r, am_wd_l, am_gk_s, am_fld_s, List.getElem?_cons_zero, List.getElem?_cons_succ, am_bk_v, am_bk_n, bo_0, bo_1, am_pk_s, List.length_cons, List.length_nil, Nat.zero_add, List.set_cons_zero, List.set_cons_succ, Nat.reduceAdd, Nat.reduceLeDiff, Nat.reduceLT]
    rw [e_74_40 (h := h5) (by omega), ← r6, N5]
    simp only [e_74_43, e_74_44, e_74_45, e_74_48, e_74_51, lg_n, lg_i, lg_r, wd_nil, am_wd_i, am_wd_r, am_wd_l, am_gk_s, am_fld_s, List.getElem?_cons_zero, List.getElem?_cons_succ, am_bk_v, am_bk_n, bo_0, bo_1, am_pk_s, List.length_cons, List.length_nil, Nat.zero_add, List.set_cons_zero, List.set_cons_succ, Nat.reduceAdd, Nat.reduceLeDiff, Nat.reduceLT, b6, e6, a6]
    rw [← q7]
    simp only [e_74_54, e_74_55, lg_n, lg_i, lg_r, wd_nil, am_wd_i, am_wd_r, am_wd_l, am_gk_s, am_fld_s, List.getElem?_cons_zero, List.getElem?_cons_succ, am_bk_v, am_bk_n, bo_0, bo_1, am_pk_s, List.length_cons, List.length_nil, Nat.zero_add, List.set_cons_zero, List.set_cons_succ, Nat.reduceAdd, Nat.reduceLeDiff, Nat.reduceLT]
    rw [w_74_56 (h := h7) (by omega)]
    simp only [e_74_58, lg_n, lg_i, lg_r, wd_nil, am_wd_i, am_wd_r, am_wd_l, am_gk_s, am_fld_s, List.getElem?_cons_zero, List.getElem?_cons_succ, am_bk_v, am_bk_n, bo_0, bo_1, am_pk_s, List.length_cons, List.length_nil, Nat.zero_add, List.set_cons_zero, List.set_cons_succ, Nat.reduceAdd, Nat.reduceLeDiff, Nat.reduceLT, m8]
    rw [← q8]
    exact e_74_61
end CT
