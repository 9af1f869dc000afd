/-! the model's calls: copies, the past -/
def cpI (f : Nat → Int32) (a b n : Nat) : Nat → Int32 := fun k => if b ≤ k ∧ k < b + n then f (a + (k - b)) else f k
theorem cpI_s {f : Nat → Int32} {a b i N : Nat} (hd : a + N ≤ b ∨ b + N ≤ a) (hi : i < N) : upd (cpI f a b i) (b + i) (cpI f a b i (a + i)) = cpI f a b (i + 1) := by
  funext k
  unfold upd cpI
  by_cases e : k = b + i
  · rw [if_pos e, if_neg (by omega), if_pos (by omega), e]
    congr 1; omega
  · rw [if_neg e]
    by_cases h1 : b ≤ k ∧ k < b + i
    · rw [if_pos h1, if_pos (by omega)]
    · rw [if_neg h1, if_neg (by omega)]
theorem cpI_RS (f : Nat → Int32) (a b : Nat) : RS f (cpI f a b 26) b := fun k hk => by unfold cpI; rw [if_neg (by omega)]
theorem RowH.cp {f : Nat → Int32} {a : Nat} {σ : Hn} (hR : RowH f a σ) (b : Nat) : RowH (cpI f a b 26) b σ := by
  have key : ∀ j, j < 26 → cpI f a b 26 (b + j) = f (a + j) := fun j hj => by unfold cpI; rw [if_pos (by omega)]; congr 1; omega
  refine ⟨fun p hp => ?_, by rw [key 24 (by decide)]; exact hR.2.1, by rw [key 25 (by decide)]; exact hR.2.2⟩
  obtain ⟨a1, a2, a3⟩ := hR.1 p hp
  refine ⟨by rw [key p (by omega)]; exact a1, ?_, ?_⟩
  · rw [Nat.add_assoc, key (8 + p) (by omega), ← Nat.add_assoc]; exact a2
  · rw [Nat.add_assoc, key (16 + p) (by omega), ← Nat.add_assoc]; exact a3
section MC
variable {d : Nat} {h : am_H} {f : Nat → Int32} {L : Nat → Nat}
theorem l_copyRow {a b N : Nat} (hd : a + N ≤ b ∨ b + N ≤ a) (ha : a + N ≤ 392) (hb : b + N ≤ 392) : ∀ j i (h : am_H), i + j = N → MB h (cpI f a b i) L → am_ev d 146 3 [some (.ref 87), some (.int (nI a)), some (.int (nI b)), some (.int (nI N)), some (.int (nI i))] [] h = some (none, am_set h 88 (AI 392 (cpI f a b N))) := by
  intro j
  induction j with
  | zero =>
    intro i h hi hM
    obtain ⟨m0, m1, m2, m3, m4⟩ := hM
    have : i = N := by omega
    subst this
    rw [e_146_3, set_self m3]
    simp only [e_146_5, e_146_6, e_146_33, lg_n, lg_i, lg_r, wd_nil, am_wd_i, am_wd_r, am_wd_l, am_gk_s, am_fld_s, List.getElem?_cons_zero, List.getElem?_cons_succ, am_bk_v, am_bk_n, bo_0, bo_1, am_pk_s, List.length_cons, List.length_nil, Nat.zero_add, List.set_cons_zero, List.set_cons_succ, Nat.reduceAdd, Nat.reduceLeDiff, Nat.reduceLT, nI_leI (show i < 2 ^ 31 by omega) (show i < 2 ^ 31 by omega), Nat.le_refl, if_true]
  | succ j ih =>
    intro i h hi hM
    have ih' := ih (i + 1) _ (by omega) (hM.set (cpI f a b (i + 1)))
    rw [set_set] at ih'
    obtain ⟨m0, m1, m2, m3, m4⟩ := hM
    rw [e_146_3]
    simp only [e_146_5, e_146_6, e_146_9, e_146_10, e_146_13, e_146_14, e_146_16, e_146_17, e_146_18, e_146_21, e_146_22, e_146_24, e_146_25, e_146_26, e_146_27, e_146_30, lg_n, lg_i, lg_r, wd_nil, am_wd_i, am_wd_r, am_wd_l, am_gk_s, am_fld_s, List.getElem?_cons_zero, List.getElem?_cons_succ, am_bk_v, am_bk_n, bo_0, bo_1, am_pk_s, List.length_cons, List.length_nil, Nat.zero_add, List.set_cons_zero, List.set_cons_succ, Nat.reduceAdd, Nat.reduceLeDiff, Nat.reduceLT, nI_leI (show N < 2 ^ 31 by omega) (show i < 2 ^ 31 by omega), if_neg (show ¬ N ≤ i by omega), m0, m3, nI_add, ak_AI (show a + i < 392 by omega) (show 392 < 2 ^ 31 by decide), sk_AI (show b + i < 392 by omega) (show 392 < 2 ^ 31 by decide), st_AI (show b + i < 392 by omega) (show 392 < 2 ^ 31 by decide), cpI_s hd (show i < N by omega), nI_1]
    exact ih'
theorem m_copyRow (hM : MB h f L) {a b N : Nat} (hd : a + N ≤ b ∨ b + N ≤ a) (ha : a + N ≤ 392) (hb : b + N ≤ 392) : am_cal (d + 1) 146 [.ref 87, .int (nI a), .int (nI b), .int (nI N)] h = some (none, am_set h 88 (AI 392 (cpI f a b N))) := by
  have h0 : cpI f a b 0 = f := by funext k; unfold cpI; rw [if_neg (by omega)]
  refine (b_146 _ _ _).trans ?_; show am_ev _ 146 0 [some (.ref 87), some (.int (nI a)), some (.int (nI b)), some (.int (nI N)), none] [] _ = _
  simp only [e_146_0, e_146_1, lg_n, lg_i, lg_r, wd_nil, am_wd_i, am_wd_r, am_wd_l, am_gk_s, am_fld_s, List.getElem?_cons_zero, List.getElem?_cons_succ, am_bk_v, am_bk_n, bo_0, bo_1, am_pk_s, List.length_cons, List.length_nil, Nat.zero_add, List.set_cons_zero, List.set_cons_succ, Nat.reduceAdd, Nat.reduceLeDiff, Nat.reduceLT]
  exact l_copyRow hd ha hb N 0 h (by omega) (by rw [h0]; exact hM)
def shI (f : Nat → Int32) (i : Nat) : Nat → Int32 := fun k => if 106 ≤ k ∧ k < 106 + i then f (k + 26) else f k
theorem l_shift {u n sn fi be rF rP cl dg : Int32} : ∀ j i (h : am_H), i + j = 182 → am_at h 87 = some (md0 u n sn fi be rF rP cl dg) → am_at h 88 = some (AI 392 (shI f i)) → am_ev d 165 11 [some (.ref 87), some (.int (nI i))] [] h = am_ev d 165 43 [some (.ref 87), some (.int (nI 182))] [] (am_set h 88 (AI 392 (shI f 182))) := by
  intro j
  have e182 : (182 : Int32) = nI 182 := by decide +kernel
  have e106 : (106 : Int32) = nI 106 := by decide +kernel
  have e132 : (132 : Int32) = nI 132 := by decide +kernel
  induction j with
  | zero =>
    intro i h hi h87 h88
    have : i = 182 := by omega
    subst this
    rw [e_165_11, set_self h88]
    simp only [e_165_12, e_165_15, lg_n, lg_i, lg_r, wd_nil, am_wd_i, am_wd_r, am_wd_l, am_gk_s, am_fld_s, List.getElem?_cons_zero, List.getElem?_cons_succ, am_bk_v, am_bk_n, bo_0, bo_1, am_pk_s, List.length_cons, List.length_nil, Nat.zero_add, List.set_cons_zero, List.set_cons_succ, Nat.reduceAdd, Nat.reduceLeDiff, Nat.reduceLT, e182, nI_leI (show 182 < 2 ^ 31 by decide) (show 182 < 2 ^ 31 by decide), Nat.le_refl, if_true]
  | succ j ih =>
    intro i h hi h87 h88
    have hs : upd (shI f i) (106 + i) (shI f i (132 + i)) = shI f (i + 1) := by
      funext k
      unfold upd shI
      by_cases e : k = 106 + i
      · rw [if_pos e, if_neg (by omega), if_pos (by omega), e]
        congr 1; omega
      · rw [if_neg e]
        by_cases h1 : 106 ≤ k ∧ k < 106 + i
        · rw [if_pos h1, if_pos (by omega)]
        · rw [if_neg h1, if_neg (by omega)]
    have ih' := ih (i + 1) (am_set h 88 (AI 392 (shI f (i + 1)))) (by omega) (by rw [at_set_ne (by decide)]; exact h87) at_set_eq
    rw [set_set] at ih'
    obtain ⟨k0, -⟩ := md_fl h87
    rw [e_165_11]
    simp only [e_165_12, e_165_15, e_165_18, e_165_19, e_165_22, e_165_24, e_165_25, e_165_26, e_165_27, e_165_30, e_165_33, e_165_34, e_165_35, e_165_36, e_165_37, e_165_40, lg_n, lg_i, lg_r, wd_nil, am_wd_i, am_wd_r, am_wd_l, am_gk_s, am_fld_s, List.getElem?_cons_zero, List.getElem?_cons_succ, am_bk_v, am_bk_n, bo_0, bo_1, am_pk_s, List.length_cons, List.length_nil, Nat.zero_add, List.set_cons_zero, List.set_cons_succ, Nat.reduceAdd, Nat.reduceLeDiff, Nat.reduceLT, e182, e106, e132, nI_leI (show 182 < 2 ^ 31 by decide) (show i < 2 ^ 31 by omega), if_neg (show ¬ 182 ≤ i by omega), k0, h88, nI_add, ak_AI (show 132 + i < 392 by omega) (show 392 < 2 ^ 31 by decide), sk_AI (show 106 + i < 392 by omega) (show 392 < 2 ^ 31 by decide), st_AI (show 106 + i < 392 by omega) (show 392 < 2 ^ 31 by decide), hs, nI_1]
    exact ih'
end MC
section MI
variable {d : Nat} {h : am_H} {P : Pn} {σ : Hn} {u : Nat} {pa : Nat → Hn} {kp : Nat → Bool} {ke : Nat → Hn} {t : Nat → Nat} {n sn : Nat} {sF sT sK : Nat → Nat} {nz : Nat → Nat} {nt : Nat → Nat → Nat}
theorem m_keepPast (hM : MI h P σ u pa kp ke t n sn sF sT sK nz nt) (hn : P.2.2.2.1 ≤ 8) (hu : u ≤ 8) : ∃ h', am_cal (d + 2) 165 [.ref 87] h = some (none, h') ∧ MI h' P σ (min (u + 1) 8) (pushN u pa σ) kp ke t n sn sF sT sK nz nt ∧ FM h h' := by
  obtain ⟨⟨fi, be, rF, rP, cl, dg, h1⟩, ⟨f, h2, h2'⟩, h3, h4, h5, h6⟩ := id hM
  have e8 : (8 : Int32) = nI 8 := by decide +kernel
  have e106 : (106 : Int32) = nI 106 := by decide +kernel
  have e26 : (26 : Int32) = nI 26 := by decide +kernel
  have h87 : ∀ w : Int32, md0 w (nI n) (nI sn) fi be rF rP cl dg = .inr (8, [.ref 88, .int w, .ref 89, .ref 90, .int (nI n), .int (nI sn), .ref 91, .ref 92, .ref 93, .ref 94, .ref 95, .ref 96, .int fi, .int be, .int rF, .int rP, .int cl, .int dg, .ref 97, .ref 98, .ref 99, .ref 100, .ref 101, .ref 102, .ref 103, .ref 104, .ref 105, .ref 106, .ref 107, .ref 108, .ref 109, .ref 110]) := fun w => rfl
  have mid : ∀ (v : Nat) (g : Nat → Int32) (h0 : am_H), v < 8 → am_at h0 87 = some (md0 (nI v) (nI n) (nI sn) fi be rF rP cl dg) → am_at h0 88 = some (AI 392 g) → am_at h0 106 = some (AI 8 (fun i => nI i)) → ∀ x1, am_ev (d + 1) 165 53 [some (.ref 87), x1] [] h0 = some (none, am_set (am_set h0 88 (AI 392 (cpI g 0 (106 + 26 * v) 26))) 87 (md0 (nI (v + 1)) (nI n) (nI sn) fi be rF rP cl dg)) := by
    intro v g h0 hv a87 a88 a106 x1
    obtain ⟨k0, k1, -, -, -, -, -, -, -, -, -, -, k12⟩ := md_fl a87
    obtain ⟨-, -, -, -, -, -, -, k7, -⟩ := md_fl2 a87
    have hcp := m_copyRow (d := d) (h := h0) (f := g) (L := fun i => i) ⟨k0, k7, k12, a88, a106⟩ (a := 0) (b := 106 + 26 * v) (N := 26) (by omega) (by omega) (by omega)
    rw [nI_0] at hcp
    have a87' : am_at (am_set h0 88 (AI 392 (cpI g 0 (106 + 26 * v) 26))) 87 = some (.inr (8, [.ref 88, .int (nI v), .ref 89, .ref 90, .int (nI n), .int (nI sn), .ref 91, .ref 92, .ref 93, .ref 94, .ref 95, .ref 96, .int fi, .int be, .int rF, .int rP, .int cl, .int dg, .ref 97, .ref 98, .ref 99, .ref 100, .ref 101, .ref 102, .ref 103, .ref 104, .ref 105, .ref 106, .ref 107, .ref 108, .ref 109, .ref 110])) := by rw [at_set_ne (by decide)]; exact a87
    simp only [e_165_53, e_165_54, e_165_55, e_165_57, e_165_59, e_165_60, e_165_63, e_165_64, e_165_65, e_165_67, lg_n, lg_i, lg_r, wd_nil, am_wd_i, am_wd_r, am_wd_l, am_gk_s, am_fld_s, List.getElem?_cons_zero, List.getElem?_cons_succ, am_bk_v, am_bk_n, bo_0, bo_1, am_pk_s, List.length_cons, List.length_nil, Nat.zero_add, List.set_cons_zero, List.set_cons_succ, Nat.reduceAdd, Nat.reduceLeDiff, Nat.reduceLT, k1, k12, e106, e26, pk_mul, nI_add, hcp]
    simp only [e_165_70, e_165_71, e_165_72, e_165_75, e_165_76, e_165_77, e_165_80, lg_n, lg_i, lg_r, wd_nil, am_wd_i, am_wd_r, am_wd_l, am_gk_s, am_fld_s, List.getElem?_cons_zero, List.getElem?_cons_succ, am_bk_v, am_bk_n, bo_0, bo_1, am_pk_s, List.length_cons, List.length_nil, Nat.zero_add, List.set_cons_zero, List.set_cons_succ, Nat.reduceAdd, Nat.reduceLeDiff, Nat.reduceLT, a87', nI_1]
    rfl
  by_cases h8 : u = 8
  · subst h8
    obtain ⟨k0, k1, -, -, -, -, -, -, -, -, -, -, k12⟩ := md_fl h1
    have hl := l_shift (d := d + 1) (f := f) 182 0 h (by omega) h1 (by rw [show shI f 0 = f by funext k; unfold shI; rw [if_neg (by omega)]]; exact h2)
    have b87 : am_at (am_set h 88 (AI 392 (shI f 182))) 87 = some (.inr (8, [.ref 88, .int (nI 8), .ref 89, .ref 90, .int (nI n), .int (nI sn), .ref 91, .ref 92, .ref 93, .ref 94, .ref 95, .ref 96, .int fi, .int be, .int rF, .int rP, .int cl, .int dg, .ref 97, .ref 98, .ref 99, .ref 100, .ref 101, .ref 102, .ref 103, .ref 104, .ref 105, .ref 106, .ref 107, .ref 108, .ref 109, .ref 110])) := by rw [at_set_ne (by decide)]; exact h1
    have hm := mid 7 (shI f 182) (am_set (am_set h 88 (AI 392 (shI f 182))) 87 (md0 (nI 7) (nI n) (nI sn) fi be rF rP cl dg)) (by decide) at_set_eq (by rw [at_set_ne (by decide)]; exact at_set_eq) (by rw [at_set_ne (by decide), at_set_ne (by decide)]; exact h6.2.2.1) (some (.int (nI 182)))
    have hrow : MRow (cpI (shI f 182) 0 (106 + 26 * 7) 26) P σ 8 (pushN 8 pa σ) kp ke := by
      obtain ⟨r1, r2, r3, r4, r5, r6⟩ := h2'
      have out : ∀ k, (k < 106 ∨ 314 ≤ k) → cpI (shI f 182) 0 (106 + 26 * 7) 26 k = f k := fun k hk => by unfold cpI shI; rw [if_neg (by omega), if_neg (by omega)]
      have outH : ∀ b τ, RowH f b τ → (b + 26 ≤ 106 ∨ 314 ≤ b) → RowH (cpI (shI f 182) 0 (106 + 26 * 7) 26) b τ := by
        intro b τ hR hb
        refine ⟨fun p hp => ?_, by rw [out _ (by omega)]; exact hR.2.1, by rw [out _ (by omega)]; exact hR.2.2⟩
        obtain ⟨a1, a2, a3⟩ := hR.1 p hp
        exact ⟨by rw [out _ (by omega)]; exact a1, by rw [out _ (by omega)]; exact a2, by rw [out _ (by omega)]; exact a3⟩
      have outP : ∀ b, RowP f b P → b + 53 ≤ 106 → RowP (cpI (shI f 182) 0 (106 + 26 * 7) 26) b P := by
        intro b hP hb
        refine ⟨by rw [out _ (by omega)]; exact hP.1, by rw [out _ (by omega)]; exact hP.2.1, by rw [out _ (by omega)]; exact hP.2.2.1, fun p hp => ?_⟩
        obtain ⟨a1, a2, a3⟩ := hP.2.2.2 p hp
        exact ⟨by rw [out _ (by omega)]; exact a1, by rw [out _ (by omega)]; exact a2, by rw [out _ (by omega)]; exact a3⟩
      refine ⟨outP 0 r1 (by omega), outH 0 _ r2 (by omega), outP 53 r3 (by omega), outH 53 _ r4 (by omega), fun i hi => ?_, fun k hk hq => outH _ _ (r6 k hk hq) (by omega)⟩
      unfold pushN
      by_cases hl : i + 1 = min (8 + 1) 8
      · rw [if_pos hl, show 106 + 26 * i = 106 + 26 * 7 by omega]
        refine RowH.cp ?_ _
        refine ⟨fun p hp => ?_, ?_, ?_⟩
        · obtain ⟨a1, a2, a3⟩ := r2.1 p hp
          exact ⟨by unfold shI; rw [if_neg (by omega)]; exact a1, by unfold shI; rw [if_neg (by omega)]; exact a2, by unfold shI; rw [if_neg (by omega)]; exact a3⟩
        · unfold shI; rw [if_neg (by omega)]; exact r2.2.1
        · unfold shI; rw [if_neg (by omega)]; exact r2.2.2
      · rw [if_neg hl]
        have hR := r5 (i + (8 + 1 - min (8 + 1) 8)) (by omega)
        rw [show i + (8 + 1 - min (8 + 1) 8) = i + 1 by omega] at hR ⊢
        have inn : ∀ k, 106 + 26 * i ≤ k → k < 106 + 26 * i + 26 → cpI (shI f 182) 0 (106 + 26 * 7) 26 k = f (k + 26) := fun k h1 h2 => by unfold cpI shI; rw [if_neg (by omega), if_pos (by omega)]
        refine ⟨fun p hp => ?_, ?_, ?_⟩
        · obtain ⟨a1, a2, a3⟩ := hR.1 p hp
          refine ⟨by rw [inn _ (by omega) (by omega)]; rw [← a1]; congr 1; omega, by rw [inn _ (by omega) (by omega)]; rw [← a2]; congr 1; omega, by rw [inn _ (by omega) (by omega)]; rw [← a3]; congr 1; omega⟩
        · rw [inn _ (by omega) (by omega), ← hR.2.1]; congr 1 <;> omega
        · rw [inn _ (by omega) (by omega), ← hR.2.2]; congr 1 <;> omega
    have hmin : min (8 + 1) 8 = 8 := rfl
    rw [hmin]
    refine ⟨am_set (am_set (am_set (am_set h 88 (AI 392 (shI f 182))) 87 (md0 (nI 7) (nI n) (nI sn) fi be rF rP cl dg)) 88 (AI 392 (cpI (shI f 182) 0 (106 + 26 * 7) 26))) 87 (md0 (nI (7 + 1)) (nI n) (nI sn) fi be rF rP cl dg), ?_, ⟨⟨fi, be, rF, rP, cl, dg, at_set_eq⟩, ⟨_, by rw [at_set_ne (by decide)]; exact at_set_eq, hrow⟩, by rw [at_set_ne (by decide), at_set_ne (by decide), at_set_ne (by decide), at_set_ne (by decide)]; exact h3, h4.keep (fun k _ _ => by rw [at_set_ne (by omega), at_set_ne (by omega), at_set_ne (by omega), at_set_ne (by omega)]), h5.keep (fun k _ => by rw [at_set_ne (by omega), at_set_ne (by omega), at_set_ne (by omega), at_set_ne (by omega)]), h6.keep (fun k _ _ => by rw [at_set_ne (by omega), at_set_ne (by omega), at_set_ne (by omega), at_set_ne (by omega)])⟩, (((FM.set (by decide) (by decide)).tr (FM.set (by decide) (by decide))).tr (FM.set (by decide) (by decide))).tr (FM.set (by decide) (by decide))⟩
    rw [← hm]
    refine (b_165 _ _ _).trans ?_; show am_ev _ 165 0 [some (.ref 87), none] [] _ = _
    simp only [e_165_0, e_165_1, e_165_4, e_165_6, e_165_9, e_165_10, lg_n, lg_i, lg_r, wd_nil, am_wd_i, am_wd_r, am_wd_l, am_gk_s, am_fld_s, List.getElem?_cons_zero, List.getElem?_cons_succ, am_bk_v, am_bk_n, bo_0, bo_1, am_pk_s, List.length_cons, List.length_nil, Nat.zero_add, List.set_cons_zero, List.set_cons_succ, Nat.reduceAdd, Nat.reduceLeDiff, Nat.reduceLT, k1, e8, eq_self, if_true]
    refine Eq.trans hl ?_
    simp only [e_165_43, e_165_44, e_165_45, e_165_48, e_165_49, e_165_50, lg_n, lg_i, lg_r, wd_nil, am_wd_i, am_wd_r, am_wd_l, am_gk_s, am_fld_s, List.getElem?_cons_zero, List.getElem?_cons_succ, am_bk_v, am_bk_n, bo_0, bo_1, am_pk_s, List.length_cons, List.length_nil, Nat.zero_add, List.set_cons_zero, List.set_cons_succ, Nat.reduceAdd, Nat.reduceLeDiff, Nat.reduceLT, b87, show nI 8 - 1 = nI 7 by decide +kernel]
    rfl
  · obtain ⟨k0, k1, -⟩ := md_fl h1
    have hm := mid u f h (by omega) h1 h2 h6.2.2.1 none
    have hrow : MRow (cpI f 0 (106 + 26 * u) 26) P σ (u + 1) (pushN u pa σ) kp ke := by
      obtain ⟨r1, r2, r3, r4, r5, r6⟩ := h2'
      have hr := cpI_RS f 0 (106 + 26 * u)
      refine ⟨r1.rs hn (by omega) hr, r2.rs hr (by omega), r3.rs2 hn hr (by omega), r4.rs hr (by omega), fun i hi => ?_, fun k hk hq => (r6 k hk hq).rs hr (by omega)⟩
      unfold pushN
      by_cases hl : i + 1 = min (u + 1) 8
      · rw [if_pos hl, show i = u by omega]
        exact r2.cp _
      · rw [if_neg hl, show i + (u + 1 - min (u + 1) 8) = i by omega]
        exact (r5 i (by omega)).rs hr (by omega)
    have hmin : min (u + 1) 8 = u + 1 := by omega
    refine ⟨am_set (am_set h 88 (AI 392 (cpI f 0 (106 + 26 * u) 26))) 87 (md0 (nI (u + 1)) (nI n) (nI sn) fi be rF rP cl dg), ?_, by rw [hmin]; exact ⟨⟨fi, be, rF, rP, cl, dg, at_set_eq⟩, ⟨_, by rw [at_set_ne (by decide)]; exact at_set_eq, hrow⟩, by rw [at_set_ne (by decide), at_set_ne (by decide)]; exact h3, h4.keep (fun k _ _ => by rw [at_set_ne (by omega), at_set_ne (by omega)]), h5.keep (fun k _ => by rw [at_set_ne (by omega), at_set_ne (by omega)]), h6.keep (fun k _ _ => by rw [at_set_ne (by omega), at_set_ne (by omega)])⟩, (FM.set (by decide) (by decide)).tr (FM.set (by decide) (by decide))⟩
    rw [← hm]
    refine (b_165 _ _ _).trans ?_; show am_ev _ 165 0 [some (.ref 87), none] [] _ = _
    simp only [e_165_0, e_165_1, e_165_4, e_165_6, e_165_9, e_165_10, lg_n, lg_i, lg_r, wd_nil, am_wd_i, am_wd_r, am_wd_l, am_gk_s, am_fld_s, List.getElem?_cons_zero, List.getElem?_cons_succ, am_bk_v, am_bk_n, bo_0, bo_1, am_pk_s, List.length_cons, List.length_nil, Nat.zero_add, List.set_cons_zero, List.set_cons_succ, Nat.reduceAdd, Nat.reduceLeDiff, Nat.reduceLT, k1, e8, nI_eq (show u < 2 ^ 31 by omega) (show 8 < 2 ^ 31 by decide), if_neg h8]
end MI
