/-! notes -/
def note0 (a : Nat) (mi : Int32) (s : Nat) : va_E := .inr (2, [.int mi, .int (nI s), .ref (a + 1)])
def NoteAt (h : am_H) (a : Nat) (mi : Int32) (s : Nat) (f : Nat → Nat) : Prop := am_at h a = some (note0 a mi s) ∧ am_at h (a + 1) = some (AI 12 (fun k => nI (f k)))
def pN (h : am_H) (a : Nat) (mi : Int32) (s : Nat) (f : Nat → Nat) : am_H := am_set (am_set h a (note0 a mi s)) (a + 1) (AI 12 (fun k => nI (f k)))
theorem at_pN_ne {h : am_H} {a k : Nat} {mi : Int32} {s : Nat} {f : Nat → Nat} (hk : k < a ∨ a + 1 < k) : am_at (pN h a mi s f) k = am_at h k := by
  unfold pN
  rw [at_set_ne (by omega), at_set_ne (by omega)]
theorem NoteAt_pN (h : am_H) (a : Nat) (mi : Int32) (s : Nat) (f : Nat → Nat) : NoteAt (pN h a mi s f) a mi s f := by
  unfold pN
  exact ⟨by rw [at_set_ne (by omega), at_set_eq], at_set_eq⟩
theorem NoteAt.keep {h h' : am_H} {a : Nat} {mi : Int32} {s : Nat} {f : Nat → Nat} (hp : NoteAt h a mi s f) (hk : ∀ k, a ≤ k → k ≤ a + 1 → am_at h' k = am_at h k) : NoteAt h' a mi s f := ⟨by rw [hk a (by omega) (by omega)]; exact hp.1, by rw [hk (a + 1) (by omega) (by omega)]; exact hp.2⟩
theorem pN_s0 {h : am_H} {a : Nat} {mi mi' : Int32} {s s' : Nat} {f : Nat → Nat} : am_set (pN h a mi s f) a (.inr (2, [.int mi', .int (nI s'), .ref (a + 1)])) = pN h a mi' s' f := by
  refine am_ext rfl rfl (fun k => ?_)
  unfold pN
  simp only [am_at_set]
  by_cases h0 : k = a
  · subst h0; simp [note0]
  · simp [h0]
theorem pN_s1 {h : am_H} {a : Nat} {mi : Int32} {s : Nat} {f g : Nat → Nat} : am_set (pN h a mi s f) (a + 1) (AI 12 (fun k => nI (g k))) = pN h a mi s g := by unfold pN; rw [set_set]
theorem pN_self {h : am_H} {a : Nat} {mi : Int32} {s : Nat} {f : Nat → Nat} (hp : NoteAt h a mi s f) : pN h a mi s f = h := by
  refine am_ext rfl rfl (fun k => ?_)
  unfold pN
  simp only [am_at_set]
  by_cases h0 : k = a + 1
  · subst h0; simp [hp.2]
  · by_cases h1 : k = a
    · subst h1; simp [hp.1]
    · simp [h0, h1]
theorem fl_note {h : am_H} {a : Nat} {mi : Int32} {s : Nat} {f : Nat → Nat} (hp : NoteAt h a mi s f) : am_fld (am_at h a) 2 0 = some (.int mi) ∧ am_fld (am_at h a) 2 1 = some (.int (nI s)) ∧ am_fld (am_at h a) 2 2 = some (.ref (a + 1)) ∧ am_is (am_at h a) 2 = true := by
  rw [hp.1]; exact ⟨rfl, rfl, rfl, rfl⟩
theorem ar_cpy2 {N sp dp n : Nat} {f g : Nat → Int32} (h1 : sp + n ≤ N) (h2 : dp + n ≤ N) : va_cpy (ar N f) (ar N g) sp dp n = ar N (fun k => if dp ≤ k ∧ k < dp + n then f (sp + (k - dp)) else g k) := by
  funext k
  by_cases hk : dp ≤ k ∧ k < dp + n
  · rw [pk_cpy_in hk.1 hk.2, ar_at (by omega), ar_at (by omega)]
    simp only [if_pos hk]
  · rw [pk_cpy_out (by omega)]
    unfold ar
    split
    · simp only [if_neg hk]
    · rfl
def cpN (f g : Nat → Nat) (sp dp n : Nat) : Nat → Nat := fun k => if dp ≤ k ∧ k < dp + n then f (sp + (k - dp)) else g k
theorem cpN_map (f g : Nat → Nat) (sp dp n : Nat) : (fun k => if dp ≤ k ∧ k < dp + n then nI (f (sp + (k - dp))) else nI (g k)) = fun k => nI (cpN f g sp dp n k) := by
  funext k
  unfold cpN
  split <;> rfl
def revM : Nat → (Nat → Nat) → Nat → Nat → (Nat → Nat)
  | 0, f, _, _ => f
  | n + 1, f, a, b => if a < b then revM n (swp f a b) (a + 1) (b - 1) else f
def flpN (f : Nat → Nat) (i j : Nat) : Nat → Nat := fun k => if i ≤ k ∧ k < j then f (i + j - 1 - k) else f k
theorem revM_eq : ∀ m (f : Nat → Nat) a b, b ≤ a + m → revM m f a b = flpN f a (b + 1)
  | 0, f, a, b, h => by
    funext k
    unfold revM flpN
    split
    · rw [show a + (b + 1) - 1 - k = k by omega]
    · rfl
  | m + 1, f, a, b, h => by
    unfold revM
    by_cases hab : a < b
    · rw [if_pos hab, revM_eq m _ (a + 1) (b - 1) (by omega)]
      funext k
      unfold flpN
      by_cases h1 : a + 1 ≤ k ∧ k < b - 1 + 1
      · rw [if_pos h1, if_pos (by omega)]
        unfold swp
        rw [if_neg (by omega), if_neg (by omega)]
        congr 1
        omega
      · rw [if_neg h1]
        unfold swp
        by_cases h2 : k = b
        · subst h2
          rw [if_pos rfl, if_pos (by omega)]
          congr 1
          omega
        · rw [if_neg h2]
          by_cases h3 : k = a
          · subst h3
            rw [if_pos rfl, if_pos (by omega)]
            congr 1
            omega
          · rw [if_neg h3, if_neg (by omega)]
    · rw [if_neg hab]
      funext k
      unfold flpN
      split
      · rw [show a + (b + 1) - 1 - k = k by omega]
      · rfl
section NT
variable {d : Nat} {h : am_H} {a s : Nat} {mi : Int32} {f : Nat → Nat}
theorem pN_pN (h : am_H) (f g : Nat → Nat) (mi' : Int32) (s' : Nat) : pN (pN h a mi s f) a mi' s' g = pN h a mi' s' g := by
  show am_set (am_set (pN h a mi s f) a (.inr (2, [.int mi', .int (nI s'), .ref (a + 1)]))) (a + 1) _ = _
  rw [pN_s0, pN_s1]
theorem m_thing (w v : Int32) : am_cal (d + 1) 40 [.int w, .int v] h = some (some (.int (w * 100000 + v + 50000)), h) := by
  refine (b_40 _ _ _).trans ?_; show am_ev _ 40 0 [some (.int w), some (.int v)] [] _ = _
  simp only [e_40_0, e_40_1, e_40_3, e_40_4, e_40_5, e_40_6, e_40_8, e_40_9, lg_n, lg_i, lg_r, wd_nil, am_wd_i, am_wd_r, am_wd_l, am_gk_s, am_fld_s, List.getElem?_cons_zero, List.getElem?_cons_succ, am_bk_v, am_bk_n, bo_0, bo_1, am_pk_s, List.length_cons, List.length_nil, Nat.zero_add, List.set_cons_zero, List.set_cons_succ, Nat.reduceAdd, Nat.reduceLeDiff, Nat.reduceLT]
theorem m_sortOf {t : Nat} (ht : t < 2 ^ 31) : am_cal (d + 1) 41 [.int (nI t)] h = some (some (.int (nI (t / 100000))), h) := by
  refine (b_41 _ _ _).trans ?_; show am_ev _ 41 0 [some (.int (nI t))] [] _ = _
  have e1 : (100000 : Int32) = nI 100000 := by decide +kernel
  simp only [e_41_0, e_41_1, e_41_3, e_41_4, lg_n, lg_i, lg_r, wd_nil, am_wd_i, am_wd_r, am_wd_l, am_gk_s, am_fld_s, List.getElem?_cons_zero, List.getElem?_cons_succ, am_bk_v, am_bk_n, bo_0, bo_1, am_pk_s, List.length_cons, List.length_nil, Nat.zero_add, List.set_cons_zero, List.set_cons_succ, Nat.reduceAdd, Nat.reduceLeDiff, Nat.reduceLT, e1, if_neg (nI_ne0 (show 0 < 100000 by decide) (show 100000 < 2 ^ 31 by decide)), pk_div ht (show 0 < 100000 by decide) (show 100000 < 2 ^ 31 by decide)]
theorem m_valueOf {t : Nat} (ht : t < 2 ^ 31) : am_cal (d + 1) 42 [.int (nI t)] h = some (some (.int (nI (t % 100000) - 50000)), h) := by
  refine (b_42 _ _ _).trans ?_; show am_ev _ 42 0 [some (.int (nI t))] [] _ = _
  have e1 : (100000 : Int32) = nI 100000 := by decide +kernel
  simp only [e_42_0, e_42_1, e_42_3, e_42_4, e_42_6, e_42_7, lg_n, lg_i, lg_r, wd_nil, am_wd_i, am_wd_r, am_wd_l, am_gk_s, am_fld_s, List.getElem?_cons_zero, List.getElem?_cons_succ, am_bk_v, am_bk_n, bo_0, bo_1, am_pk_s, List.length_cons, List.length_nil, Nat.zero_add, List.set_cons_zero, List.set_cons_succ, Nat.reduceAdd, Nat.reduceLeDiff, Nat.reduceLT, e1, if_neg (nI_ne0 (show 0 < 100000 by decide) (show 100000 < 2 ^ 31 by decide)), pk_rem ht (show 0 < 100000 by decide) (show 100000 < 2 ^ 31 by decide)]
theorem m_setIn (hp : NoteAt h a mi s f) {c i m : Nat} {g : Nat → Nat} (hc : am_at h c = some (AI 12 (fun k => nI (g k)))) (hca : c ≠ a ∧ c ≠ a + 1) (hi : i ≤ s) (hm : s + m ≤ 12) : am_cal (d + 2) 43 [.ref a, .int (nI i), .ref c, .int (nI m)] h = some (none, pN h a mi (s + m) (cpN g (cpN f f i (i + m) (s - i)) 0 i m)) := by
  have key : am_cal (d + 2) 43 [.ref a, .int (nI i), .ref c, .int (nI m)] (pN h a mi s f) = some (none, pN h a mi (s + m) (cpN g (cpN f f i (i + m) (s - i)) 0 i m)) := by
    refine (b_43 _ _ _).trans ?_; show am_ev _ 43 0 [some (.ref a), some (.int (nI i)), some (.ref c), some (.int (nI m))] [] _ = _
    have b0 : ∀ s f, am_at (pN h a mi s f) a = some (.inr (2, [.int mi, .int (nI s), .ref (a + 1)])) := fun s f => (NoteAt_pN h a mi s f).1
    have b1 : ∀ s f, am_at (pN h a mi s f) (a + 1) = some (AI 12 (fun k => nI (f k))) := fun s f => (NoteAt_pN h a mi s f).2
    have c1 : ∀ s f, am_at (pN h a mi s f) c = some (AI 12 (fun k => nI (g k))) := fun s f => by rw [at_pN_ne (by omega)]; exact hc
    have hw : am_wd [] ≤ 8 := by simp [am_wd]
    have z1 := e_43_18 (d := d) (ls := [some (.ref a), some (.int (nI i)), some (.ref c), some (.int (nI m))]) (st := []) (sp := i) (dp := i + m) (n := s - i) hw (b1 s f) (b1 s f) (by omega) (by omega) (by decide)
    rw [ar_cpy2 (by omega) (by omega), cpN_map] at z1
    change _ = am_ev (d + 1) 43 21 _ _ (am_set (pN h a mi s f) (a + 1) (AI 12 _)) at z1
    rw [pN_s1] at z1
    have z2 := e_43_29 (d := d) (ls := [some (.ref a), some (.int (nI i)), some (.ref c), some (.int (nI m))]) (st := []) (sp := 0) (dp := i) (n := m) hw (c1 s (cpN f f i (i + m) (s - i))) (b1 s (cpN f f i (i + m) (s - i))) (by omega) (by omega) (by decide)
    rw [ar_cpy2 (by omega) (by omega), cpN_map] at z2
    change _ = am_ev (d + 1) 43 32 _ _ (am_set (pN h a mi s _) (a + 1) (AI 12 _)) at z2
    rw [pN_s1, nI_0] at z2
    simp only [e_43_0, e_43_1, e_43_4, e_43_5, e_43_6, e_43_9, e_43_10, e_43_11, e_43_12, e_43_13, e_43_16, e_43_17, lg_n, lg_i, lg_r, wd_nil, am_wd_i, am_wd_r, am_wd_l, am_gk_s, am_fld_s, List.getElem?_cons_zero, List.getElem?_cons_succ, am_bk_v, am_bk_n, bo_0, bo_1, am_pk_s, List.length_cons, List.length_nil, Nat.zero_add, List.set_cons_zero, List.set_cons_succ, Nat.reduceAdd, Nat.reduceLeDiff, Nat.reduceLT, b0, nI_add, pk_sub hi]
    rw [z1]
    simp only [e_43_21, e_43_22, e_43_23, e_43_24, e_43_27, e_43_28, lg_n, lg_i, lg_r, wd_nil, am_wd_i, am_wd_r, am_wd_l, am_gk_s, am_fld_s, List.getElem?_cons_zero, List.getElem?_cons_succ, am_bk_v, am_bk_n, bo_0, bo_1, am_pk_s, List.length_cons, List.length_nil, Nat.zero_add, List.set_cons_zero, List.set_cons_succ, Nat.reduceAdd, Nat.reduceLeDiff, Nat.reduceLT, b0]
    rw [z2]
    simp only [e_43_32, e_43_33, e_43_34, e_43_37, e_43_38, e_43_39, e_43_42, lg_n, lg_i, lg_r, wd_nil, am_wd_i, am_wd_r, am_wd_l, am_gk_s, am_fld_s, List.getElem?_cons_zero, List.getElem?_cons_succ, am_bk_v, am_bk_n, bo_0, bo_1, am_pk_s, List.length_cons, List.length_nil, Nat.zero_add, List.set_cons_zero, List.set_cons_succ, Nat.reduceAdd, Nat.reduceLeDiff, Nat.reduceLT, b0, nI_add, pN_s0]
  rw [pN_self hp] at key
  exact key
theorem m_takeOut (hp : NoteAt h a mi s f) {i j : Nat} (hij : i ≤ j) (hj : j ≤ s) (hs : s ≤ 12) : am_cal (d + 2) 44 [.ref a, .int (nI i), .int (nI j)] h = some (none, pN h a mi (s - (j - i)) (cpN f f j i (s - j))) := by
  have key : am_cal (d + 2) 44 [.ref a, .int (nI i), .int (nI j)] (pN h a mi s f) = some (none, pN h a mi (s - (j - i)) (cpN f f j i (s - j))) := by
    refine (b_44 _ _ _).trans ?_; show am_ev _ 44 0 [some (.ref a), some (.int (nI i)), some (.int (nI j))] [] _ = _
    have b0 : ∀ s f, am_at (pN h a mi s f) a = some (.inr (2, [.int mi, .int (nI s), .ref (a + 1)])) := fun s f => (NoteAt_pN h a mi s f).1
    have b1 : ∀ s f, am_at (pN h a mi s f) (a + 1) = some (AI 12 (fun k => nI (f k))) := fun s f => (NoteAt_pN h a mi s f).2
    have hw : am_wd [] ≤ 8 := by simp [am_wd]
    have z1 := e_44_16 (d := d) (ls := [some (.ref a), some (.int (nI i)), some (.int (nI j))]) (st := []) (sp := j) (dp := i) (n := s - j) hw (b1 s f) (b1 s f) (by omega) (by omega) (by decide)
    rw [ar_cpy2 (by omega) (by omega), cpN_map] at z1
    change _ = am_ev (d + 1) 44 19 _ _ (am_set (pN h a mi s f) (a + 1) (AI 12 _)) at z1
    rw [pN_s1] at z1
    simp only [e_44_0, e_44_1, e_44_4, e_44_5, e_44_6, e_44_9, e_44_10, e_44_11, e_44_14, e_44_15, lg_n, lg_i, lg_r, wd_nil, am_wd_i, am_wd_r, am_wd_l, am_gk_s, am_fld_s, List.getElem?_cons_zero, List.getElem?_cons_succ, am_bk_v, am_bk_n, bo_0, bo_1, am_pk_s, List.length_cons, List.length_nil, Nat.zero_add, List.set_cons_zero, List.set_cons_succ, Nat.reduceAdd, Nat.reduceLeDiff, Nat.reduceLT, b0, pk_sub hj]
    rw [z1]
    simp only [e_44_19, e_44_20, e_44_21, e_44_24, e_44_25, e_44_26, e_44_27, e_44_28, e_44_31, lg_n, lg_i, lg_r, wd_nil, am_wd_i, am_wd_r, am_wd_l, am_gk_s, am_fld_s, List.getElem?_cons_zero, List.getElem?_cons_succ, am_bk_v, am_bk_n, bo_0, bo_1, am_pk_s, List.length_cons, List.length_nil, Nat.zero_add, List.set_cons_zero, List.set_cons_succ, Nat.reduceAdd, Nat.reduceLeDiff, Nat.reduceLT, b0, pk_sub hij, pk_sub (show j - i ≤ s by omega), pN_s0]
  rw [pN_self hp] at key
  exact key
theorem m_readInto (hp : NoteAt h a mi s f) {c i j : Nat} {g : Nat → Nat} (hc : am_at h c = some (AI 12 (fun k => nI (g k)))) (hij : i ≤ j) (hj : j ≤ 12) : am_cal (d + 2) 45 [.ref a, .ref c, .int (nI i), .int (nI j)] h = some (none, am_set h c (AI 12 (fun k => nI (cpN f g i 0 (j - i) k)))) := by
  refine (b_45 _ _ _).trans ?_; show am_ev _ 45 0 [some (.ref a), some (.ref c), some (.int (nI i)), some (.int (nI j))] [] _ = _
  obtain ⟨-, -, k2, -⟩ := fl_note hp
  have hw : am_wd [] ≤ 8 := by simp [am_wd]
  have z1 := e_45_10 (d := d) (ls := [some (.ref a), some (.ref c), some (.int (nI i)), some (.int (nI j))]) (st := []) (sp := i) (dp := 0) (n := j - i) hw hp.2 hc (by omega) (by omega) (by decide)
  rw [ar_cpy2 (by omega) (by omega), cpN_map, nI_0] at z1
  simp only [e_45_0, e_45_1, e_45_4, e_45_5, e_45_6, e_45_7, e_45_8, e_45_9, lg_n, lg_i, lg_r, wd_nil, am_wd_i, am_wd_r, am_wd_l, am_gk_s, am_fld_s, List.getElem?_cons_zero, List.getElem?_cons_succ, am_bk_v, am_bk_n, bo_0, bo_1, am_pk_s, List.length_cons, List.length_nil, Nat.zero_add, List.set_cons_zero, List.set_cons_succ, Nat.reduceAdd, Nat.reduceLeDiff, Nat.reduceLT, k2, pk_sub hij]
  rw [z1]
  simp only [e_45_13, lg_n, lg_i, lg_r, wd_nil, am_wd_i, am_wd_r, am_wd_l, am_gk_s, am_fld_s, List.getElem?_cons_zero, List.getElem?_cons_succ, am_bk_v, am_bk_n, bo_0, bo_1, am_pk_s, List.length_cons, List.length_nil, Nat.zero_add, List.set_cons_zero, List.set_cons_succ, Nat.reduceAdd, Nat.reduceLeDiff, Nat.reduceLT]
  rfl
theorem l_flip {x1 x2 : Option Value} (hx1 : am_lg x1 = false) (hx2 : am_lg x2 = false) : ∀ m (h : am_H) (f : Nat → Nat) (p q : Nat) (z : Option Value), NoteAt h a mi s f → q < 12 → q ≤ p + m → p < 2 ^ 20 → am_ev d 47 7 [some (.ref a), x1, x2, some (.int (nI p)), some (.int (nI q)), z] [] h = some (none, pN h a mi s (revM m f p q)) := by
  intro m
  induction m with
  | zero =>
    intro h f p q z hp hq hqp hpp
    rw [e_47_7]
    simp only [e_47_0, e_47_1, e_47_2, e_47_3, e_47_4, e_47_5, e_47_8, e_47_10, e_47_13, e_47_14, e_47_17, e_47_18, e_47_19, e_47_21, e_47_22, e_47_25, e_47_26, e_47_27, e_47_30, e_47_32, e_47_33, e_47_34, e_47_35, e_47_38, e_47_40, e_47_42, e_47_43, e_47_46, e_47_49, e_47_52, lg_n, lg_i, lg_r, wd_nil, am_wd_i, am_wd_r, am_wd_l, am_gk_s, am_fld_s, List.getElem?_cons_zero, List.getElem?_cons_succ, am_bk_v, am_bk_n, bo_0, bo_1, am_pk_s, List.length_cons, List.length_nil, Nat.zero_add, List.set_cons_zero, List.set_cons_succ, Nat.reduceAdd, Nat.reduceLeDiff, Nat.reduceLT, nI_leI (show q < 2 ^ 31 by omega) (show p < 2 ^ 31 by omega), if_pos (show q ≤ p by omega), revM, pN_self hp]
  | succ m ih =>
    intro h f p q z hp hq hqp hpp
    by_cases hpq : p < q
    · obtain ⟨q, rfl⟩ : ∃ q', q = q' + 1 := ⟨q - 1, by omega⟩
      have ih' := ih (pN h a mi s (swp f p (q + 1))) (swp f p (q + 1)) (p + 1) q (some (.int (nI (f p)))) (NoteAt_pN _ _ _ _ _) (by omega) (by omega) (by omega)
      obtain ⟨-, -, k2, -⟩ := fl_note hp
      have hp12 : p < 12 := by omega
      have hsw : (upd (upd (fun i => nI (f i)) p (nI (f (q + 1)))) (q + 1) (nI (f p))) = fun k => nI (swp f p (q + 1) k) := by
        funext k
        unfold upd swp
        split
        · rfl
        · split <;> rfl
      have hset : am_set h (a + 1) (AI 12 (fun k => nI (swp f p (q + 1) k))) = pN h a mi s (swp f p (q + 1)) := by
        rw [← pN_self hp, pN_s1, pN_self hp]
      rw [e_47_7]
      simp only [e_47_0, e_47_1, e_47_2, e_47_3, e_47_4, e_47_5, e_47_8, e_47_10, e_47_13, e_47_14, e_47_17, e_47_18, e_47_19, e_47_21, e_47_22, e_47_25, e_47_26, e_47_27, e_47_30, e_47_32, e_47_33, e_47_34, e_47_35, e_47_38, e_47_40, e_47_42, e_47_49, e_47_52, lg_n, lg_i, lg_r, wd_nil, am_wd_i, am_wd_r, am_wd_l, am_gk_s, am_fld_s, List.getElem?_cons_zero, List.getElem?_cons_succ, am_bk_v, am_bk_n, bo_0, bo_1, am_pk_s, List.length_cons, List.length_nil, Nat.zero_add, List.set_cons_zero, List.set_cons_succ, Nat.reduceAdd, Nat.reduceLeDiff, Nat.reduceLT, nI_leI (show q + 1 < 2 ^ 31 by omega) (show p < 2 ^ 31 by omega), if_neg (show ¬ q + 1 ≤ p by omega), k2, hp.2, ak_AI hp12 (show 12 < 2 ^ 31 by decide), ak_AI hq (show 12 < 2 ^ 31 by decide), sk_AI hp12 (show 12 < 2 ^ 31 by decide), sk_AI hq (show 12 < 2 ^ 31 by decide), st_AI hp12 (show 12 < 2 ^ 31 by decide), st_AI hq (show 12 < 2 ^ 31 by decide), at_set_ne (show a ≠ a + 1 by omega), at_set_eq, set_set, hsw, hset]
      rw [e_47_43 hx2, nI_1, e_47_46 (lg_i _), pk_m1, e_47_49, ih']
      have hr : revM (m + 1) f p (q + 1) = revM m (swp f p (q + 1)) (p + 1) (q + 1 - 1) := by
        show (if p < q + 1 then _ else _) = _
        rw [if_pos hpq]
      rw [pN_pN, hr, show q + 1 - 1 = q by omega]
    · rw [e_47_7]
      simp only [e_47_0, e_47_1, e_47_2, e_47_3, e_47_4, e_47_5, e_47_8, e_47_10, e_47_13, e_47_14, e_47_17, e_47_18, e_47_19, e_47_21, e_47_22, e_47_25, e_47_26, e_47_27, e_47_30, e_47_32, e_47_33, e_47_34, e_47_35, e_47_38, e_47_40, e_47_42, e_47_43, e_47_46, e_47_49, e_47_52, lg_n, lg_i, lg_r, wd_nil, am_wd_i, am_wd_r, am_wd_l, am_gk_s, am_fld_s, List.getElem?_cons_zero, List.getElem?_cons_succ, am_bk_v, am_bk_n, bo_0, bo_1, am_pk_s, List.length_cons, List.length_nil, Nat.zero_add, List.set_cons_zero, List.set_cons_succ, Nat.reduceAdd, Nat.reduceLeDiff, Nat.reduceLT, nI_leI (show q < 2 ^ 31 by omega) (show p < 2 ^ 31 by omega), if_pos (show q ≤ p by omega), revM, if_neg hpq, pN_self hp]
theorem m_flip (hp : NoteAt h a mi s f) {i j : Nat} (hij : i ≤ j) (hj : j ≤ 12) : am_cal (d + 1) 47 [.ref a, .int (nI i), .int (nI j)] h = some (none, pN h a mi s (flpN f i j)) := by
  refine (b_47 _ _ _).trans ?_; show am_ev _ 47 0 [some (.ref a), some (.int (nI i)), some (.int (nI j)), none, none, none] [] _ = _
  simp only [e_47_0, e_47_1, e_47_2, e_47_3, e_47_4, e_47_5, lg_n, lg_i, lg_r, wd_nil, am_wd_i, am_wd_r, am_wd_l, am_gk_s, am_fld_s, List.getElem?_cons_zero, List.getElem?_cons_succ, am_bk_v, am_bk_n, bo_0, bo_1, am_pk_s, List.length_cons, List.length_nil, Nat.zero_add, List.set_cons_zero, List.set_cons_succ, Nat.reduceAdd, Nat.reduceLeDiff, Nat.reduceLT]
  by_cases h0 : j = 0
  · subst h0
    have : i = 0 := by omega
    subst this
    rw [e_47_7]
    have en : nI 0 - 1 ≤ nI 0 := by decide +kernel
    simp only [e_47_0, e_47_1, e_47_2, e_47_3, e_47_4, e_47_5, e_47_8, e_47_10, e_47_13, e_47_14, e_47_17, e_47_18, e_47_19, e_47_21, e_47_22, e_47_25, e_47_26, e_47_27, e_47_30, e_47_32, e_47_33, e_47_34, e_47_35, e_47_38, e_47_40, e_47_42, e_47_43, e_47_46, e_47_49, e_47_52, lg_n, lg_i, lg_r, wd_nil, am_wd_i, am_wd_r, am_wd_l, am_gk_s, am_fld_s, List.getElem?_cons_zero, List.getElem?_cons_succ, am_bk_v, am_bk_n, bo_0, bo_1, am_pk_s, List.length_cons, List.length_nil, Nat.zero_add, List.set_cons_zero, List.set_cons_succ, Nat.reduceAdd, Nat.reduceLeDiff, Nat.reduceLT, if_pos en]
    rw [show flpN f 0 0 = f by funext k; simp [flpN], pN_self hp]
  · rw [show (1 : Int32) = nI 1 by decide +kernel, pk_sub (by omega), l_flip (lg_i _) (lg_i _) 12 h f i (j - 1) none hp (by omega) (by omega) (by omega), revM_eq 12 f i (j - 1) (by omega), show j - 1 + 1 = j by omega]
theorem l_howMany (hp : NoteAt h a mi s f) (hs : s ≤ 12) {t : Nat} (ht : t < 2 ^ 31) (hf : ∀ k, k < s → f k < 2 ^ 31) : ∀ j p, p + j = s → am_ev d 48 4 [some (.ref a), some (.int (nI t)), some (.int (nI (cntN (fun k => f k == t) p))), some (.int (nI p))] [] h = some (some (.int (nI (cntN (fun k => f k == t) s))), h) := by
  obtain ⟨k0, k1, k2, -⟩ := fl_note hp
  intro j
  induction j with
  | zero =>
    intro p hpj
    have : p = s := by omega
    subst this
    rw [e_48_4]
    simp only [e_48_0, e_48_1, e_48_2, e_48_3, e_48_5, e_48_6, e_48_9, e_48_12, e_48_13, e_48_14, e_48_17, e_48_18, e_48_19, e_48_20, e_48_23, e_48_24, e_48_27, e_48_28, e_48_29, e_48_30, e_48_33, e_48_36, e_48_37, lg_n, lg_i, lg_r, wd_nil, am_wd_i, am_wd_r, am_wd_l, am_gk_s, am_fld_s, List.getElem?_cons_zero, List.getElem?_cons_succ, am_bk_v, am_bk_n, bo_0, bo_1, am_pk_s, List.length_cons, List.length_nil, Nat.zero_add, List.set_cons_zero, List.set_cons_succ, Nat.reduceAdd, Nat.reduceLeDiff, Nat.reduceLT, k1, nI_leI (show p < 2 ^ 31 by omega) (show p < 2 ^ 31 by omega), Nat.le_refl, if_true]
  | succ j ih =>
    intro p hpj
    have ih' := ih (p + 1) (by omega)
    have hfp := hf p (by omega)
    rw [e_48_4]
    simp only [e_48_0, e_48_1, e_48_2, e_48_3, e_48_5, e_48_6, e_48_9, e_48_12, e_48_13, e_48_14, e_48_17, e_48_18, e_48_19, e_48_20, e_48_23, e_48_24, e_48_27, e_48_28, e_48_29, e_48_30, e_48_33, e_48_36, e_48_37, lg_n, lg_i, lg_r, wd_nil, am_wd_i, am_wd_r, am_wd_l, am_gk_s, am_fld_s, List.getElem?_cons_zero, List.getElem?_cons_succ, am_bk_v, am_bk_n, bo_0, bo_1, am_pk_s, List.length_cons, List.length_nil, Nat.zero_add, List.set_cons_zero, List.set_cons_succ, Nat.reduceAdd, Nat.reduceLeDiff, Nat.reduceLT, k1, k2, hp.2, nI_leI (show s < 2 ^ 31 by omega) (show p < 2 ^ 31 by omega), if_neg (show ¬ s ≤ p by omega), ak_AI (show p < 12 by omega) (show 12 < 2 ^ 31 by decide), nI_eq hfp ht, nI_1]
    rw [cntN] at ih'
    by_cases hft : f p = t
    · rw [if_pos (show (f p == t) = true by simp [hft])] at ih'
      simp only [hft, not_true_eq_false, if_false, if_true]
      exact ih'
    · rw [if_neg (show ¬ (f p == t) = true by simp [hft])] at ih'
      simp only [hft, not_false_eq_true, if_true, if_false, Int32.add_zero]
      exact ih'
theorem m_howMany (hp : NoteAt h a mi s f) (hs : s ≤ 12) {t : Nat} (ht : t < 2 ^ 31) (hf : ∀ k, k < s → f k < 2 ^ 31) : am_cal (d + 1) 48 [.ref a, .int (nI t)] h = some (some (.int (nI (cntN (fun k => f k == t) s))), h) := by
  refine (b_48 _ _ _).trans ?_; show am_ev _ 48 0 [some (.ref a), some (.int (nI t)), none, none] [] _ = _
  simp only [e_48_0, e_48_1, e_48_2, e_48_3, lg_n, lg_i, lg_r, wd_nil, am_wd_i, am_wd_r, am_wd_l, am_gk_s, am_fld_s, List.getElem?_cons_zero, List.getElem?_cons_succ, am_bk_v, am_bk_n, bo_0, bo_1, am_pk_s, List.length_cons, List.length_nil, Nat.zero_add, List.set_cons_zero, List.set_cons_succ, Nat.reduceAdd, Nat.reduceLeDiff, Nat.reduceLT]
  exact l_howMany hp hs ht hf s 0 (by omega)
theorem m_floorMod {x : Int32} {n : Nat} (h1 : -20 ≤ x.toInt ∧ x.toInt ≤ 20) (hn : 1 ≤ n ∧ n ≤ 12) : am_cal (d + 1) 213 [.int x, .int (nI n)] h = some (some (.int (nI (x.toInt % n).toNat)), h) := by
  refine (b_213 _ _ _).trans ?_; show am_ev _ 213 0 [some (.int x), some (.int (nI n)), none] [] _ = _
  obtain ⟨k, hk, hx⟩ : ∃ k : Nat, k < 41 ∧ x = Int32.ofInt ((k : Int) - 20) := by
    refine ⟨(x.toInt + 20).toNat, by omega, ?_⟩
    rw [show ((x.toInt + 20).toNat : Int) - 20 = x.toInt by omega, Int32.ofInt_toInt]
  have key : ∀ k : Nat, k < 41 → ∀ n : Nat, n < 13 → 1 ≤ n → (if 0 ≤ Int32.ofInt ((k : Int) - 20) ^^^ nI n then Int32.ofInt ((k : Int) - 20) - Int32.ofInt ((k : Int) - 20) / nI n * nI n else if Int32.ofInt ((k : Int) - 20) - Int32.ofInt ((k : Int) - 20) / nI n * nI n = 0 then Int32.ofInt ((k : Int) - 20) - Int32.ofInt ((k : Int) - 20) / nI n * nI n else Int32.ofInt ((k : Int) - 20) - Int32.ofInt ((k : Int) - 20) / nI n * nI n + nI n) = nI ((Int32.ofInt ((k : Int) - 20)).toInt % n).toNat := by decide +kernel
  have key' := key k hk n (by omega) hn.1
  rw [← hx] at key'
  simp only [e_213_0, e_213_1, e_213_2, e_213_3, e_213_4, e_213_5, e_213_6, e_213_7, e_213_10, e_213_11, e_213_14, e_213_15, e_213_16, e_213_17, e_213_18, e_213_19, lg_n, lg_i, lg_r, wd_nil, am_wd_i, am_wd_r, am_wd_l, am_gk_s, am_fld_s, List.getElem?_cons_zero, List.getElem?_cons_succ, am_bk_v, am_bk_n, bo_0, bo_1, am_pk_s, List.length_cons, List.length_nil, Nat.zero_add, List.set_cons_zero, List.set_cons_succ, Nat.reduceAdd, Nat.reduceLeDiff, Nat.reduceLT, if_neg (nI_ne0 (show 0 < n by omega) (show n < 2 ^ 31 by omega))]
  rw [← key']
  split
  · rfl
  · split <;> rfl
/-- turned about by o places -/
def rotN (f : Nat → Nat) (i j o : Nat) : Nat → Nat := flpN (flpN (flpN f i j) i (i + o)) (i + o) j
theorem m_rotate (hp : NoteAt h a mi s f) {i j : Nat} {x : Int32} (h1 : -20 ≤ x.toInt ∧ x.toInt ≤ 20) (hij : i ≤ j) (hj : j ≤ 12) : am_cal (d + 2) 46 [.ref a, .int (nI i), .int (nI j), .int x] h = some (none, if i = j then h else pN h a mi s (rotN f i j (x.toInt % ((j - i : Nat) : Int)).toNat)) := by
  refine (b_46 _ _ _).trans ?_; show am_ev _ 46 0 [some (.ref a), some (.int (nI i)), some (.int (nI j)), some (.int x), none] [] _ = _
  by_cases he : i = j
  · subst he
    simp only [e_46_0, e_46_1, e_46_2, e_46_5, e_46_6, e_46_7, e_46_8, e_46_9, e_46_10, e_46_13, e_46_15, e_46_16, e_46_17, e_46_18, e_46_21, e_46_22, e_46_23, e_46_24, e_46_26, e_46_27, e_46_30, e_46_31, e_46_32, e_46_34, e_46_35, e_46_36, e_46_39, lg_n, lg_i, lg_r, wd_nil, am_wd_i, am_wd_r, am_wd_l, am_gk_s, am_fld_s, List.getElem?_cons_zero, List.getElem?_cons_succ, am_bk_v, am_bk_n, bo_0, bo_1, am_pk_s, List.length_cons, List.length_nil, Nat.zero_add, List.set_cons_zero, List.set_cons_succ, Nat.reduceAdd, Nat.reduceLeDiff, Nat.reduceLT, nI_ltI (show i < 2 ^ 31 by omega) (show i < 2 ^ 31 by omega), if_neg (Nat.lt_irrefl i), if_true]
  · have hfm := m_floorMod (d := d) (h := h) h1 (show 1 ≤ j - i ∧ j - i ≤ 12 by omega)
    have hb : (x.toInt % ((j - i : Nat) : Int)).toNat < j - i := by
      have := Int.emod_lt_of_pos x.toInt (show (0 : Int) < ((j - i : Nat) : Int) by omega)
      have := Int.emod_nonneg x.toInt (show ((j - i : Nat) : Int) ≠ 0 by omega)
      omega
    generalize (x.toInt % ((j - i : Nat) : Int)).toNat = o at *
    obtain ⟨-, -, -, k3⟩ := fl_note hp
    have p1 := NoteAt_pN h a mi s (flpN f i j)
    have p2 := NoteAt_pN h a mi s (flpN (flpN f i j) i (i + o))
    obtain ⟨-, -, -, k31⟩ := fl_note p1
    obtain ⟨-, -, -, k32⟩ := fl_note p2
    have f1 := m_flip (d := d) hp hij hj
    have f2 := m_flip (d := d) p1 (show i ≤ i + o by omega) (by omega)
    rw [pN_pN] at f2
    have f3 := m_flip (d := d) p2 (show i + o ≤ j by omega) hj
    rw [pN_pN] at f3
    simp only [e_46_0, e_46_1, e_46_2, e_46_5, e_46_6, e_46_7, e_46_8, e_46_9, e_46_10, e_46_13, e_46_15, e_46_16, e_46_17, e_46_18, e_46_21, e_46_22, e_46_23, e_46_24, e_46_26, e_46_27, e_46_30, e_46_31, e_46_32, e_46_34, e_46_35, e_46_36, e_46_39, lg_n, lg_i, lg_r, wd_nil, am_wd_i, am_wd_r, am_wd_l, am_gk_s, am_fld_s, List.getElem?_cons_zero, List.getElem?_cons_succ, am_bk_v, am_bk_n, bo_0, bo_1, am_pk_s, List.length_cons, List.length_nil, Nat.zero_add, List.set_cons_zero, List.set_cons_succ, Nat.reduceAdd, Nat.reduceLeDiff, Nat.reduceLT, nI_ltI (show i < 2 ^ 31 by omega) (show j < 2 ^ 31 by omega), if_pos (show i < j by omega), pk_sub hij, hfm, k3, k31, k32, f1, f2, f3, nI_add, if_neg he]
    rfl
end NT
