/-! the model: what one dares -/
theorem al_eq (P : Pn) (σ : Hn) (p : Nat) : ∀ t, alongN P (aloneN σ p) t = (σ.1 + t, σ.2.1, (fun q => if q = p then 0 else 1), (fun _ => 0))
  | 0 => rfl
  | t + 1 => by
    show letOutN P ((alongN P (aloneN σ p) t).1 + 1, (alongN P (aloneN σ p) t).2) = _
    rw [al_eq P σ p t]
    unfold letOutN
    simp only
    have hx : ∀ q, ¬ 2 ≤ (if q = p then 0 else 1) := fun q => by split <;> omega
    have e1 : outX P (σ.1 + t + 1) (fun q => if q = p then 0 else 1) (fun _ => 0) P.2.2.2.1 = fun q => if q = p then 0 else 1 := by
      funext q
      unfold outX outN
      rw [if_neg]
      intro z
      exact hx q (of_decide_eq_true z.2).1
    have e2 : outY (fun q => if q = p then 0 else 1) (fun _ => 0) P.2.2.2.1 = fun _ => 0 := by
      funext q
      unfold outY
      rw [if_neg (fun z => hx q z.2)]
    rw [e1, e2]
    rfl
theorem al_fit (P : Pn) (s S : Nat) (p k c : Nat) : fitsN P (s, S, (fun q => if q = p then 0 else 1), (fun _ => 0)) k c = (!S.testBit c && decide (ktak k ≤ P.2.1)) := by
  have hx : ∀ q, ¬ (if q = p then 0 else 1) = c + 2 := fun q => by split <;> omega
  have hu : ∀ n, usedN P.2.2.2.2.1 (fun q => if q = p then 0 else 1) c n = 0 := by
    intro n
    induction n with
    | zero => rfl
    | succ n ih => rw [usedN, ih, if_neg (hx n)]
  have hb : ∀ n, bitsN (fun q => (if q = p then 0 else 1) == c + 2) n = 0 := by
    intro n
    induction n with
    | zero => rfl
    | succ n ih => rw [bitsN, ih, if_neg (by rw [beq_iff_eq]; exact hx n)]; rfl
  unfold fitsN
  simp only [hu, hb]
  simp
theorem lg_c0 {y : Nat} (hy : y < 2 ^ 62) : lg_cmp (lN y) 0 = 0 ↔ y = 0 := by
  have e0 : (0 : Int64) = lN 0 := by decide +kernel
  unfold lg_cmp
  by_cases h0 : y = 0
  · subst h0
    rw [e0, if_neg (show ¬ lN 0 > lN 0 from fun z => by have := Int64.lt_iff_toInt_lt.1 z; omega), if_pos rfl]
    simp
  · have : lN y > 0 := by rw [e0]; exact (pk_lLT (by omega) (by omega)).2 (by omega)
    rw [if_pos this]
    constructor
    · intro z; exact absurd z (by decide)
    · intro z; exact absurd z h0
theorem i_sub2 {a b c : Nat} (ha : a < 2 ^ 28) (hb : b < 2 ^ 28) (hc : c < 2 ^ 28) : nI a - nI b - nI c = nI a - nI (b + c) := by
  rw [i_eq, i_sub (by omega) (by omega), Int32.toInt_sub, i_sub (by omega) (by omega), nI_toInt (by omega), Int.bmod_def]
  omega
theorem cd_gcd : ∀ c, c < 9 → ∀ x, x < 11 → cdN 64 (10 ^ c) (10 ^ c - x ^ c) = Nat.gcd (10 ^ c - x ^ c) (10 ^ c) := by decide +kernel
section MI
variable {d : Nat} {h : am_H} {P : Pn} {σ : Hn} {u : Nat} {pa : Nat → Hn} {kp : Nat → Bool} {ke : Nat → Hn} {t : Nat → Nat} {n sn : Nat} {sF sT sK : Nat → Nat} {nz : Nat → Nat} {nt : Nat → Nat → Nat} {f : Nat → Int32} {L : Nat → Nat}
theorem m_could (hM : MB h f L) (hP : RowP f 0 P) (hR : RowH f 0 σ) (oP : OKP P) (hf : P.1 ≤ 15) (hs : σ.1 ≤ 999) (hS : σ.2.1 < 2 ^ 14) {p m : Nat} (hp : p < P.2.2.2.1) (hm : m ≤ 8) : am_cal (d + 2) 187 [.ref 87, .int (nI p), .int (nI m)] h = some (some (.int (if choiceN P (alongN P (aloneN σ p) m) p = 0 then 0 else 1)), h) := by
  have hn := oP.2.2.2.1
  have hp8 : p < 8 := by omega
  have hk := oP.2.2.2.2.1 p hp8
  obtain ⟨hfr, hto⟩ := oP.2.2.2.2.2 p hp
  have hP1 := oP.1
  have hR1 := oP.2.2.1
  obtain ⟨c1, c2, c3⟩ := hP.2.2.2 p hp
  rw [Nat.zero_add] at c1 c2 c3
  have hpl := m_places (d := d) hM hP
  have htk := m_takes (d := d) (h := h) hk
  have hu1 := m_looksUp (d := d) (h := h) hk true
  have hu0 := m_looksUp (d := d) (h := h) hk false
  simp only [if_true, Bool.false_eq_true, if_false, Bool.or_true, Bool.or_false, decide_eq_true_eq] at hu1 hu0
  obtain ⟨m0, m1, m2, m3, m4⟩ := hM
  obtain ⟨r1, r2, r3, -⟩ := hP
  obtain ⟨-, s2, s3⟩ := hR
  rw [Nat.zero_add] at r1 r2 r3 s2 s3
  have e29 : (29 : Int32) = nI 29 := by decide +kernel
  have e37 : (37 : Int32) = nI 37 := by decide +kernel
  have e45 : (45 : Int32) = nI 45 := by decide +kernel
  have e25 : (25 : Int32) = nI 25 := by decide +kernel
  have e24 : (24 : Int32) = nI 24 := by decide +kernel
  have e27 : (27 : Int32) = nI 27 := by decide +kernel
  have e3 : (3 : Int32) = nI 3 := by decide +kernel
  have hch : choiceN P (alongN P (aloneN σ p) m) p = (if (!σ.2.1.testBit (if P.2.2.2.2.1 p = 3 ∨ P.2.2.2.2.2.1 p < P.2.2.2.2.2.2 p then cabA P.1 (σ.1 + m) (P.2.2.2.2.2.1 p) else cabA P.1 (σ.1 + m) (2 * P.1 - 1 - P.2.2.2.2.2.1 p)) && decide (ktak (P.2.2.2.2.1 p) ≤ P.2.1)) = true then (if P.2.2.2.2.1 p = 3 ∨ P.2.2.2.2.2.1 p < P.2.2.2.2.2.2 p then cabA P.1 (σ.1 + m) (P.2.2.2.2.2.1 p) else cabA P.1 (σ.1 + m) (2 * P.1 - 1 - P.2.2.2.2.2.1 p)) + 1 else if (P.2.2.2.2.1 p = 3 ∨ P.2.2.2.2.1 p = 4) ∧ (!σ.2.1.testBit (if P.2.2.2.2.1 p = 3 ∨ P.2.2.2.2.2.1 p < P.2.2.2.2.2.2 p then cabA P.1 (σ.1 + m) (2 * P.1 - 1 - P.2.2.2.2.2.1 p) else cabA P.1 (σ.1 + m) (P.2.2.2.2.2.1 p)) && decide (ktak (P.2.2.2.2.1 p) ≤ P.2.1)) = true then (if P.2.2.2.2.1 p = 3 ∨ P.2.2.2.2.2.1 p < P.2.2.2.2.2.2 p then cabA P.1 (σ.1 + m) (2 * P.1 - 1 - P.2.2.2.2.2.1 p) else cabA P.1 (σ.1 + m) (P.2.2.2.2.2.1 p)) + 1 else 0) := by
    rw [al_eq]
    unfold choiceN
    simp only [al_fit]
    rw [if_pos ⟨hp, by simp⟩]
  rw [hch]
  have hl1 := cabA_lt (f := P.1) (s := σ.1 + m) (p := P.2.2.2.2.2.1 p) hP1
  have hl2 := cabA_lt (f := P.1) (s := σ.1 + m) (p := 2 * P.1 - 1 - P.2.2.2.2.2.1 p) hP1
  generalize P.2.2.2.2.1 p = k at *
  generalize P.2.2.2.2.2.1 p = a at *
  generalize P.2.2.2.2.2.2 p = b at *
  have hktk : ktak k ≤ 2 := by unfold ktak; split <;> omega
  have key : ∀ (pl po : Nat), pl + po = 2 * P.1 - 1 → ∀ (X : Nat) (x5 : Option Value), cabA P.1 (σ.1 + m) pl < 2 * P.1 → cabA P.1 (σ.1 + m) po < 2 * P.1 → am_lg x5 = false → am_ev (d + 1) 187 65 [some (.ref 87), some (.int (nI p)), some (.int (nI m)), some (.int (nI k)), some (.int (nI a)), x5, none, none, none] [.int (nI pl)] h = some (some (.int (if (if (!σ.2.1.testBit (cabA P.1 (σ.1 + m) pl) && decide (ktak k ≤ P.2.1)) = true then cabA P.1 (σ.1 + m) pl + 1 else if (k = 3 ∨ k = 4) ∧ (!σ.2.1.testBit (cabA P.1 (σ.1 + m) po) && decide (ktak k ≤ P.2.1)) = true then cabA P.1 (σ.1 + m) po + 1 else 0) = 0 then 0 else 1)), h) := by
    intro pl po hpo X x5 g1 g2 l5
    have hsub : nI (2 * P.1) - 1 - nI pl = nI po := by rw [show (1 : Int32) = nI 1 by decide +kernel, pk_sub (by omega), pk_sub (by omega), show 2 * P.1 - 1 - pl = po by omega]
    have j1 : _ = nI (cabA P.1 (σ.1 + m) pl) := jmod (a := pl) (s := σ.1 + m) (m := 2 * P.1) (by omega) (by omega) (by omega)
    have j2 : _ = nI (cabA P.1 (σ.1 + m) po) := jmod (a := po) (s := σ.1 + m) (m := 2 * P.1) (by omega) (by omega) (by omega)
    have hh1 := m_has (d := d) (h := h) (n := σ.2.1) (k := cabA P.1 (σ.1 + m) pl) (by omega) (by omega)
    have hh2 := m_has (d := d) (h := h) (n := σ.2.1) (k := cabA P.1 (σ.1 + m) po) (by omega) (by omega)
    generalize cabA P.1 (σ.1 + m) pl = U at *
    generalize cabA P.1 (σ.1 + m) po = W at *
    simp only [e_187_65, e_187_67, e_187_69, e_187_70, e_187_73, e_187_75, e_187_76, e_187_77, e_187_78, e_187_79, e_187_80, e_187_83, e_187_84, e_187_85, e_187_88, e_187_89, e_187_90, e_187_93, e_187_94, e_187_96, e_187_97, e_187_100, e_187_101, e_187_102, e_187_104, e_187_105, e_187_106, e_187_109, e_187_111, e_187_112, e_187_113, e_187_114, e_187_115, e_187_116, e_187_119, e_187_120, e_187_121, e_187_124, e_187_125, e_187_126, e_187_129, e_187_130, e_187_132, e_187_133, e_187_136, e_187_137, e_187_140, e_187_142, e_187_143, e_187_146, e_187_147, e_187_150, e_187_152, e_187_153, e_187_155, e_187_158, e_187_161, e_187_162, e_187_163, e_187_166, e_187_167, e_187_170, e_187_172, e_187_173, e_187_175, e_187_178, e_187_181, e_187_182, e_187_185, e_187_186, lg_n, lg_i, lg_r, wd_nil, am_wd_i, am_wd_r, am_wd_l, am_gk_s, am_fld_s, List.getElem?_cons_zero, List.getElem?_cons_succ, am_bk_v, am_bk_n, bo_0, bo_1, am_pk_s, List.length_cons, List.length_nil, Nat.zero_add, List.set_cons_zero, List.set_cons_succ, Nat.reduceAdd, Nat.reduceLeDiff, Nat.reduceLT, l5, m0, m2, m3, e24, e25, e27, e3, ak_AI (show 24 < 392 by decide) (show 392 < 2 ^ 31 by decide), ak_AI (show 25 < 392 by decide) (show 392 < 2 ^ 31 by decide), ak_AI (show 27 < 392 by decide) (show 392 < 2 ^ 31 by decide), s2, s3, r2, hpl, hsub, i_sub2 (show pl < 2 ^ 28 by omega) (show σ.1 < 2 ^ 28 by omega) (show m < 2 ^ 28 by omega), i_sub2 (show po < 2 ^ 28 by omega) (show σ.1 < 2 ^ 28 by omega) (show m < 2 ^ 28 by omega), if_neg (nI_ne0 (show 0 < 2 * P.1 by omega) (show 2 * P.1 < 2 ^ 31 by omega)), j1, j2, htk, nI_ltI (show P.2.1 < 2 ^ 31 by omega) (show ktak k < 2 ^ 31 by omega), nI_ltI (show k < 2 ^ 31 by omega) (show 3 < 2 ^ 31 by omega), hh1, hh2]
    by_cases q1 : P.2.1 < ktak k
    · rw [if_pos q1]
      have : ¬ ktak k ≤ P.2.1 := by omega
      simp [this]
    · rw [if_neg q1]
      have q1' : ktak k ≤ P.2.1 := by omega
      by_cases q2 : σ.2.1.testBit U = true
      · by_cases q3 : k < 3
        · have q4 : ¬ (k = 3 ∨ k = 4) := by omega
          simp [q2, q3, q4]
        · have q4 : k = 3 ∨ k = 4 := by omega
          by_cases q5 : σ.2.1.testBit W = true
          · simp [q2, q3, q5]
          · simp [q2, q3, q4, q5, q1']
      · simp [q2, q1']
  have hsub : nI (2 * P.1) - 1 - nI a = nI (2 * P.1 - 1 - a) := by rw [show (1 : Int32) = nI 1 by decide +kernel, pk_sub (by omega), pk_sub (by omega)]
  refine (b_187 _ _ _).trans ?_; show am_ev _ 187 0 [some (.ref 87), some (.int (nI p)), some (.int (nI m)), none, none, none, none, none, none] [] _ = _
  by_cases hab : a < b
  · simp only [if_pos (show k = 3 ∨ a < b from Or.inr hab)]
    simp only [e_187_0, e_187_1, e_187_4, e_187_6, e_187_7, e_187_8, e_187_9, e_187_10, e_187_11, e_187_14, e_187_16, e_187_17, e_187_18, e_187_19, e_187_21, e_187_22, e_187_23, e_187_26, e_187_28, e_187_29, e_187_30, e_187_31, e_187_33, e_187_36, e_187_37, e_187_40, e_187_41, e_187_44, e_187_46, e_187_48, e_187_51, e_187_53, lg_n, lg_i, lg_r, wd_nil, am_wd_i, am_wd_r, am_wd_l, am_gk_s, am_fld_s, List.getElem?_cons_zero, List.getElem?_cons_succ, am_bk_v, am_bk_n, bo_0, bo_1, am_pk_s, List.length_cons, List.length_nil, Nat.zero_add, List.set_cons_zero, List.set_cons_succ, Nat.reduceAdd, Nat.reduceLeDiff, Nat.reduceLT, m0, m2, m3, e29, e37, e45, nI_add, ak_AI (show 29 + p < 392 by omega) (show 392 < 2 ^ 31 by decide), ak_AI (show 37 + p < 392 by omega) (show 392 < 2 ^ 31 by decide), ak_AI (show 45 + p < 392 by omega) (show 392 < 2 ^ 31 by decide), c1, c2, c3, nI_leI (show b < 2 ^ 31 by omega) (show a < 2 ^ 31 by omega), if_neg (show ¬ b ≤ a by omega), hu1, one_ne, if_false]
    exact key a (2 * P.1 - 1 - a) (by omega) 0 _ hl1 hl2 (lg_i _)
  · by_cases hk3 : k = 3
    · rw [if_pos hk3] at hu0
      simp only [if_pos (show k = 3 ∨ a < b from Or.inl hk3)]
      simp only [e_187_0, e_187_1, e_187_4, e_187_6, e_187_7, e_187_8, e_187_9, e_187_10, e_187_11, e_187_14, e_187_16, e_187_17, e_187_18, e_187_19, e_187_21, e_187_22, e_187_23, e_187_26, e_187_28, e_187_29, e_187_30, e_187_31, e_187_33, e_187_36, e_187_37, e_187_40, e_187_41, e_187_44, e_187_46, e_187_48, e_187_51, e_187_53, lg_n, lg_i, lg_r, wd_nil, am_wd_i, am_wd_r, am_wd_l, am_gk_s, am_fld_s, List.getElem?_cons_zero, List.getElem?_cons_succ, am_bk_v, am_bk_n, bo_0, bo_1, am_pk_s, List.length_cons, List.length_nil, Nat.zero_add, List.set_cons_zero, List.set_cons_succ, Nat.reduceAdd, Nat.reduceLeDiff, Nat.reduceLT, m0, m2, m3, e29, e37, e45, nI_add, ak_AI (show 29 + p < 392 by omega) (show 392 < 2 ^ 31 by decide), ak_AI (show 37 + p < 392 by omega) (show 392 < 2 ^ 31 by decide), ak_AI (show 45 + p < 392 by omega) (show 392 < 2 ^ 31 by decide), c1, c2, c3, nI_leI (show b < 2 ^ 31 by omega) (show a < 2 ^ 31 by omega), if_pos (show b ≤ a by omega), hu0, one_ne, if_false]
      exact key a (2 * P.1 - 1 - a) (by omega) 0 _ hl1 hl2 (lg_i _)
    · rw [if_neg hk3] at hu0
      simp only [if_neg (show ¬ (k = 3 ∨ a < b) by omega)]
      simp only [e_187_0, e_187_1, e_187_4, e_187_6, e_187_7, e_187_8, e_187_9, e_187_10, e_187_11, e_187_14, e_187_16, e_187_17, e_187_18, e_187_19, e_187_21, e_187_22, e_187_23, e_187_26, e_187_28, e_187_29, e_187_30, e_187_31, e_187_33, e_187_36, e_187_37, e_187_40, e_187_41, e_187_44, e_187_46, e_187_48, e_187_51, e_187_53, e_187_56, e_187_57, e_187_60, e_187_61, e_187_62, e_187_64, lg_n, lg_i, lg_r, wd_nil, am_wd_i, am_wd_r, am_wd_l, am_gk_s, am_fld_s, List.getElem?_cons_zero, List.getElem?_cons_succ, am_bk_v, am_bk_n, bo_0, bo_1, am_pk_s, List.length_cons, List.length_nil, Nat.zero_add, List.set_cons_zero, List.set_cons_succ, Nat.reduceAdd, Nat.reduceLeDiff, Nat.reduceLT, m0, m2, m3, e29, e37, e45, nI_add, ak_AI (show 29 + p < 392 by omega) (show 392 < 2 ^ 31 by decide), ak_AI (show 37 + p < 392 by omega) (show 392 < 2 ^ 31 by decide), ak_AI (show 45 + p < 392 by omega) (show 392 < 2 ^ 31 by decide), c1, c2, c3, nI_leI (show b < 2 ^ 31 by omega) (show a < 2 ^ 31 by omega), if_pos (show b ≤ a by omega), hu0, if_true, hpl, hsub]
      exact key (2 * P.1 - 1 - a) a (by omega) 0 _ hl2 hl1 (lg_i _)
theorem l_gcd {x1 x2 x3 x5 x6 x8 : Option Value} {w : Int32} {A B : Nat} (hA : A < 2 ^ 62) (hB : B < 2 ^ 62) : ∀ y, y < 2 ^ 62 → ∀ x, x < 2 ^ 62 → 0 < Nat.gcd x y → ∀ z15 z16 : Option Value, am_ev d 188 128 [some (.ref 87), x1, x2, x3, some (.int w), x5, x6, some (.long (lN B)), x8, some (.long (lN A)), none, some (.long (lN x)), none, some (.long (lN y)), none, z15, z16] [] h = some (some (.int (nI ((if w = 0 then A else B) / Nat.gcd x y))), h) := by
  intro y
  induction y using Nat.strongRecOn with
  | ind y ih =>
    intro hy x hx hg z15 z16
    have hc := lg_c0 hy
    rw [e_188_128]
    by_cases h0 : y = 0
    · subst h0
      rw [Nat.gcd_zero_right] at hg ⊢
      have hx0 : ¬ lN x = 0 := by
        rw [show (0 : Int64) = lN 0 by decide +kernel, pk_lEQ (by omega) (by omega)]
        omega
      simp only [e_188_130, e_188_131, e_188_132, e_188_153, e_188_155, e_188_158, e_188_160, e_188_162, e_188_163, e_188_166, e_188_168, e_188_170, e_188_171, e_188_172, lg_n, lg_i, lg_r, wd_nil, am_wd_i, am_wd_r, am_wd_l, am_gk_s, am_fld_s, List.getElem?_cons_zero, List.getElem?_cons_succ, am_bk_v, am_bk_n, bo_0, bo_1, am_pk_s, List.length_cons, List.length_nil, Nat.zero_add, List.set_cons_zero, List.set_cons_succ, Nat.reduceAdd, Nat.reduceLeDiff, Nat.reduceLT, hc, if_true, if_neg hx0, pk_lDiv (show A < 2 ^ 63 by omega) hg (show x < 2 ^ 63 by omega), pk_lDiv (show B < 2 ^ 63 by omega) hg (show x < 2 ^ 63 by omega), lN_i]
      by_cases w0 : w = 0
      · rw [if_pos w0, if_pos w0]
      · rw [if_neg w0, if_neg w0]
    · have hy0 : ¬ lN y = 0 := by
        rw [show (0 : Int64) = lN 0 by decide +kernel, pk_lEQ (by omega) (by omega)]
        omega
      have hml := Nat.mod_lt x (show 0 < y by omega)
      have hge : Nat.gcd x y = Nat.gcd y (x % y) := by rw [Nat.gcd_comm x y, Nat.gcd_rec y x, Nat.gcd_comm]
      rw [hge] at hg ⊢
      have ih' := ih (x % y) hml (by omega) y hy hg (some (.long (lN (x % y)))) none
      simp only [e_188_130, e_188_131, e_188_132, e_188_135, e_188_137, e_188_139, e_188_140, e_188_142, e_188_144, e_188_146, e_188_148, e_188_150, lg_n, lg_i, lg_r, wd_nil, am_wd_i, am_wd_r, am_wd_l, am_gk_s, am_fld_s, List.getElem?_cons_zero, List.getElem?_cons_succ, am_bk_v, am_bk_n, bo_0, bo_1, am_pk_s, List.length_cons, List.length_nil, Nat.zero_add, List.set_cons_zero, List.set_cons_succ, Nat.reduceAdd, Nat.reduceLeDiff, Nat.reduceLT, hc, if_neg h0, if_neg hy0, pk_lRem (show x < 2 ^ 63 by omega) (show 0 < y by omega) (show y < 2 ^ 63 by omega)]
      exact ih'
theorem l_dares (hM : MB h f L) (hP : RowP f 0 P) (hR : RowH f 0 σ) (oP : OKP P) (hf : P.1 ≤ 15) (hs : σ.1 ≤ 999) (hS : σ.2.1 < 2 ^ 14) {p q N : Nat} (hp : p < P.2.2.2.1) (hq : q ≤ 10) (hN : N ≤ 8) {w : Int32} : ∀ j m, m + j = N → am_ev (d + 2) 188 58 [some (.ref 87), some (.int (nI p)), some (.int (nI q)), some (.int (nI N)), some (.int w), some (.long (lN (q ^ chanN P (aloneN σ p) p m))), none, some (.long (lN (10 ^ chanN P (aloneN σ p) p m))), none, some (.int (nI (m + 1))), none, none, none, none, none, none, none] [] h = some (some (.int (nI ((if w = 0 then 10 ^ chanN P (aloneN σ p) p N - q ^ chanN P (aloneN σ p) p N else 10 ^ chanN P (aloneN σ p) p N) / Nat.gcd (10 ^ chanN P (aloneN σ p) p N - q ^ chanN P (aloneN σ p) p N) (10 ^ chanN P (aloneN σ p) p N)))), h) := by
  have m2 := hM.2.2.1
  intro j
  induction j with
  | zero =>
    intro m hm
    have : m = N := by omega
    subst this
    have hcl := chanN_le P (aloneN σ p) p m
    generalize chanN P (aloneN σ p) p m = c at *
    have h10 : 10 ^ c ≤ 10 ^ 8 := Nat.pow_le_pow_right (by decide) (by omega)
    have h11 : 0 < 10 ^ c := Nat.pow_pos (by decide)
    have hqc : q ^ c ≤ 10 ^ c := Nat.pow_le_pow_left hq c
    rw [e_188_58]
    simp only [e_188_60, e_188_61, e_188_113, e_188_115, e_188_117, e_188_118, e_188_120, e_188_122, e_188_124, e_188_126, lg_n, lg_i, lg_r, wd_nil, am_wd_i, am_wd_r, am_wd_l, am_gk_s, am_fld_s, List.getElem?_cons_zero, List.getElem?_cons_succ, am_bk_v, am_bk_n, bo_0, bo_1, am_pk_s, List.length_cons, List.length_nil, Nat.zero_add, List.set_cons_zero, List.set_cons_succ, Nat.reduceAdd, Nat.reduceLeDiff, Nat.reduceLT, nI_ltI (show m < 2 ^ 31 by omega) (show m + 1 < 2 ^ 31 by omega), if_pos (show m < m + 1 by omega), lN_sub hqc]
    exact l_gcd (by omega) (by omega) (10 ^ c) (by omega) (10 ^ c - q ^ c) (by omega) (Nat.gcd_pos_of_pos_right _ h11) none none
  | succ j ih =>
    intro m hm
    have hco := m_could (d := d) hM hP hR oP hf hs hS hp (show m + 1 ≤ 8 by omega)
    have ih' := ih (m + 1) (by omega)
    have hch : chanN P (aloneN σ p) p (m + 1) = chanN P (aloneN σ p) p m + (if choiceN P (alongN P (aloneN σ p) (m + 1)) p = 0 then 0 else 1) := rfl
    rw [hch] at ih'
    have e10 : (10 : Int64) = lN 10 := by decide +kernel
    rw [e_188_58]
    by_cases h0 : choiceN P (alongN P (aloneN σ p) (m + 1)) p = 0
    · rw [if_pos h0] at hco ih'
      rw [Nat.add_zero] at ih'
      simp only [e_188_60, e_188_61, e_188_64, e_188_66, e_188_67, e_188_68, e_188_70, e_188_73, e_188_76, e_188_77, e_188_78, e_188_81, e_188_82, e_188_83, e_188_85, e_188_87, e_188_88, e_188_89, e_188_91, e_188_94, e_188_97, e_188_100, e_188_103, e_188_104, e_188_105, e_188_107, e_188_110, lg_n, lg_i, lg_r, wd_nil, am_wd_i, am_wd_r, am_wd_l, am_gk_s, am_fld_s, List.getElem?_cons_zero, List.getElem?_cons_succ, am_bk_v, am_bk_n, bo_0, bo_1, am_pk_s, List.length_cons, List.length_nil, Nat.zero_add, List.set_cons_zero, List.set_cons_succ, Nat.reduceAdd, Nat.reduceLeDiff, Nat.reduceLT, nI_ltI (show N < 2 ^ 31 by omega) (show m + 1 < 2 ^ 31 by omega), if_neg (show ¬ N < m + 1 by omega), m2, hco, if_true, Int64.mul_one, nI_1]
      exact ih'
    · rw [if_neg h0] at hco ih'
      rw [Nat.pow_succ, Nat.pow_succ] at ih'
      simp only [e_188_60, e_188_61, e_188_64, e_188_66, e_188_67, e_188_68, e_188_70, e_188_73, e_188_76, e_188_77, e_188_78, e_188_81, e_188_82, e_188_83, e_188_85, e_188_87, e_188_88, e_188_89, e_188_91, e_188_94, e_188_97, e_188_100, e_188_103, e_188_104, e_188_105, e_188_107, e_188_110, lg_n, lg_i, lg_r, wd_nil, am_wd_i, am_wd_r, am_wd_l, am_gk_s, am_fld_s, List.getElem?_cons_zero, List.getElem?_cons_succ, am_bk_v, am_bk_n, bo_0, bo_1, am_pk_s, List.length_cons, List.length_nil, Nat.zero_add, List.set_cons_zero, List.set_cons_succ, Nat.reduceAdd, Nat.reduceLeDiff, Nat.reduceLT, nI_ltI (show N < 2 ^ 31 by omega) (show m + 1 < 2 ^ 31 by omega), if_neg (show ¬ N < m + 1 by omega), m2, hco, one_ne, if_false, e10, nI_l (show q < 2 ^ 31 by omega), lN_mul, nI_1]
      exact ih'
theorem n_dares (hM : MI h P σ u pa kp ke t n sn sF sT sK nz nt) (hD : OKD P) (hO : HOK P σ) (p q m w : Int32) : am_cal (d + 8) 188 [.ref 87, .int p, .int q, .int m, .int w] h = some (some (.int (if 0 ≤ p.toInt ∧ p.toInt < P.2.2.2.1 then (if (0 ≤ q.toInt ∧ q.toInt ≤ 10) ∧ (0 ≤ m.toInt ∧ m.toInt ≤ 8) ∧ (0 ≤ w.toInt ∧ w.toInt ≤ 1) then nI ((if w = 0 then 10 ^ chanN P (aloneN σ p.toInt.toNat) p.toInt.toNat m.toInt.toNat - q.toInt.toNat ^ chanN P (aloneN σ p.toInt.toNat) p.toInt.toNat m.toInt.toNat else 10 ^ chanN P (aloneN σ p.toInt.toNat) p.toInt.toNat m.toInt.toNat) / max 1 (cdN 64 (10 ^ chanN P (aloneN σ p.toInt.toNat) p.toInt.toNat m.toInt.toNat) (10 ^ chanN P (aloneN σ p.toInt.toNat) p.toInt.toNat m.toInt.toNat - q.toInt.toNat ^ chanN P (aloneN σ p.toInt.toNat) p.toInt.toNat m.toInt.toNat))) else -3) else -2)), h) := by
  obtain ⟨⟨fi, be, rF, rP, cl, dg, h1⟩, ⟨f, h2, h2'⟩, h3, h4, h5, h6⟩ := id hM
  obtain ⟨oP, q1, q2, -⟩ := hD
  have hn := oP.2.2.2.1
  have hB := hM.mb h2
  have m2 := hB.2.2.1
  have hip := m_isPerson (d := d + 5) hB h2'.1 hn p
  have hq := m_in (d := d + 6) (h := h) q.toInt64 0 10
  have hm := m_in (d := d + 6) (h := h) m.toInt64 0 8
  have hw := m_in (d := d + 6) (h := h) w.toInt64 0 1
  rw [l_in32, show (0 : Int64).toInt = 0 from rfl, show (10 : Int64).toInt = 10 from rfl] at hq
  rw [l_in32, show (0 : Int64).toInt = 0 from rfl, show (8 : Int64).toInt = 8 from rfl] at hm
  rw [l_in32, show (0 : Int64).toInt = 0 from rfl, show (1 : Int64).toInt = 1 from rfl] at hw
  by_cases hin : 0 ≤ p.toInt ∧ p.toInt < P.2.2.2.1
  · rw [if_pos hin] at hip ⊢
    by_cases c1 : 0 ≤ q.toInt ∧ q.toInt ≤ 10
    · rw [if_pos c1] at hq
      by_cases c2 : 0 ≤ m.toInt ∧ m.toInt ≤ 8
      · rw [if_pos c2] at hm
        by_cases c3 : 0 ≤ w.toInt ∧ w.toInt ≤ 1
        · rw [if_pos c3] at hw
          rw [if_pos ⟨c1, c2, c3⟩]
          obtain ⟨a, rfl, ha⟩ : ∃ a : Nat, p = nI a ∧ a < P.2.2.2.1 := ⟨p.toInt.toNat, i_of p hin.1, by omega⟩
          obtain ⟨x, rfl, hx⟩ : ∃ x : Nat, q = nI x ∧ x ≤ 10 := ⟨q.toInt.toNat, i_of q c1.1, by omega⟩
          obtain ⟨N, rfl, hN⟩ : ∃ N : Nat, m = nI N ∧ N ≤ 8 := ⟨m.toInt.toNat, i_of m c2.1, by omega⟩
          rw [nI_toInt (show a < 2 ^ 31 by omega), nI_toInt (show x < 2 ^ 31 by omega), nI_toInt (show N < 2 ^ 31 by omega), Int.toNat_natCast, Int.toNat_natCast, Int.toNat_natCast]
          have hl := l_dares (d := d + 5) hB h2'.1 h2'.2.1 oP (by omega) hO.2.1 hO.2.2 ha hx hN (w := w) N 0 (by omega)
          rw [show chanN P (aloneN σ a) a 0 = 0 from rfl] at hl
          have hcl := chanN_le P (aloneN σ a) a N
          generalize chanN P (aloneN σ a) a N = c at *
          have hg : 0 < Nat.gcd (10 ^ c - x ^ c) (10 ^ c) := Nat.gcd_pos_of_pos_right _ (Nat.pow_pos (by decide))
          rw [cd_gcd c (by omega) x (by omega), Nat.max_eq_right hg]
          refine (b_188 _ _ _).trans ?_; show am_ev _ 188 0 [some (.ref 87), some (.int (nI a)), some (.int (nI x)), some (.int (nI N)), some (.int w), none, none, none, none, none, none, none, none, none, none, none, none] [] _ = _
          simp only [e_188_0, e_188_1, e_188_2, e_188_5, e_188_8, e_188_10, e_188_11, e_188_12, e_188_13, e_188_14, e_188_17, e_188_20, e_188_23, e_188_24, e_188_25, e_188_26, e_188_29, e_188_32, e_188_35, e_188_37, e_188_38, e_188_39, e_188_40, e_188_43, e_188_46, e_188_48, e_188_49, e_188_50, e_188_52, e_188_53, e_188_55, e_188_56, lg_n, lg_i, lg_r, wd_nil, am_wd_i, am_wd_r, am_wd_l, am_gk_s, am_fld_s, List.getElem?_cons_zero, List.getElem?_cons_succ, am_bk_v, am_bk_n, bo_0, bo_1, am_pk_s, List.length_cons, List.length_nil, Nat.zero_add, List.set_cons_zero, List.set_cons_succ, Nat.reduceAdd, Nat.reduceLeDiff, Nat.reduceLT, m2, hip, hq, hm, hw, one_ne, not_false_eq_true, if_true, if_false]
          exact hl
        · rw [if_neg c3] at hw
          rw [if_neg (fun z => c3 z.2.2)]
          refine (b_188 _ _ _).trans ?_; show am_ev _ 188 0 [some (.ref 87), some (.int p), some (.int q), some (.int m), some (.int w), none, none, none, none, none, none, none, none, none, none, none, none] [] _ = _
          simp only [e_188_0, e_188_1, e_188_2, e_188_5, e_188_8, e_188_10, e_188_11, e_188_12, e_188_13, e_188_14, e_188_17, e_188_20, e_188_23, e_188_24, e_188_25, e_188_26, e_188_29, e_188_32, e_188_35, e_188_37, e_188_38, e_188_39, e_188_40, e_188_43, e_188_46, e_188_48, e_188_49, e_188_50, e_188_52, e_188_53, e_188_55, e_188_56, lg_n, lg_i, lg_r, wd_nil, am_wd_i, am_wd_r, am_wd_l, am_gk_s, am_fld_s, List.getElem?_cons_zero, List.getElem?_cons_succ, am_bk_v, am_bk_n, bo_0, bo_1, am_pk_s, List.length_cons, List.length_nil, Nat.zero_add, List.set_cons_zero, List.set_cons_succ, Nat.reduceAdd, Nat.reduceLeDiff, Nat.reduceLT, m2, hip, hq, hm, hw, one_ne, not_false_eq_true, not_true_eq_false, if_true, if_false]
      · rw [if_neg c2] at hm
        rw [if_neg (fun z => c2 z.2.1)]
        refine (b_188 _ _ _).trans ?_; show am_ev _ 188 0 [some (.ref 87), some (.int p), some (.int q), some (.int m), some (.int w), none, none, none, none, none, none, none, none, none, none, none, none] [] _ = _
        simp only [e_188_0, e_188_1, e_188_2, e_188_5, e_188_8, e_188_10, e_188_11, e_188_12, e_188_13, e_188_14, e_188_17, e_188_20, e_188_23, e_188_24, e_188_25, e_188_26, e_188_29, e_188_32, e_188_35, e_188_37, e_188_38, e_188_39, e_188_40, e_188_43, e_188_46, e_188_48, e_188_49, e_188_50, e_188_52, e_188_53, e_188_55, e_188_56, lg_n, lg_i, lg_r, wd_nil, am_wd_i, am_wd_r, am_wd_l, am_gk_s, am_fld_s, List.getElem?_cons_zero, List.getElem?_cons_succ, am_bk_v, am_bk_n, bo_0, bo_1, am_pk_s, List.length_cons, List.length_nil, Nat.zero_add, List.set_cons_zero, List.set_cons_succ, Nat.reduceAdd, Nat.reduceLeDiff, Nat.reduceLT, m2, hip, hq, hm, one_ne, not_false_eq_true, not_true_eq_false, if_true, if_false]
    · rw [if_neg c1] at hq
      rw [if_neg (fun z => c1 z.1)]
      refine (b_188 _ _ _).trans ?_; show am_ev _ 188 0 [some (.ref 87), some (.int p), some (.int q), some (.int m), some (.int w), none, none, none, none, none, none, none, none, none, none, none, none] [] _ = _
      simp only [e_188_0, e_188_1, e_188_2, e_188_5, e_188_8, e_188_10, e_188_11, e_188_12, e_188_13, e_188_14, e_188_17, e_188_20, e_188_23, e_188_24, e_188_25, e_188_26, e_188_29, e_188_32, e_188_35, e_188_37, e_188_38, e_188_39, e_188_40, e_188_43, e_188_46, e_188_48, e_188_49, e_188_50, e_188_52, e_188_53, e_188_55, e_188_56, lg_n, lg_i, lg_r, wd_nil, am_wd_i, am_wd_r, am_wd_l, am_gk_s, am_fld_s, List.getElem?_cons_zero, List.getElem?_cons_succ, am_bk_v, am_bk_n, bo_0, bo_1, am_pk_s, List.length_cons, List.length_nil, Nat.zero_add, List.set_cons_zero, List.set_cons_succ, Nat.reduceAdd, Nat.reduceLeDiff, Nat.reduceLT, m2, hip, hq, one_ne, not_false_eq_true, not_true_eq_false, if_true, if_false]
  · rw [if_neg hin] at hip ⊢
    refine (b_188 _ _ _).trans ?_; show am_ev _ 188 0 [some (.ref 87), some (.int p), some (.int q), some (.int m), some (.int w), none, none, none, none, none, none, none, none, none, none, none, none] [] _ = _
    simp only [e_188_0, e_188_1, e_188_2, e_188_5, e_188_8, e_188_10, e_188_11, e_188_12, e_188_13, e_188_14, e_188_17, e_188_20, e_188_23, e_188_24, e_188_25, e_188_26, e_188_29, e_188_32, e_188_35, e_188_37, e_188_38, e_188_39, e_188_40, e_188_43, e_188_46, e_188_48, e_188_49, e_188_50, e_188_52, e_188_53, e_188_55, e_188_56, lg_n, lg_i, lg_r, wd_nil, am_wd_i, am_wd_r, am_wd_l, am_gk_s, am_fld_s, List.getElem?_cons_zero, List.getElem?_cons_succ, am_bk_v, am_bk_n, bo_0, bo_1, am_pk_s, List.length_cons, List.length_nil, Nat.zero_add, List.set_cons_zero, List.set_cons_succ, Nat.reduceAdd, Nat.reduceLeDiff, Nat.reduceLT, m2, hip, not_true_eq_false, if_true, if_false]
end MI
