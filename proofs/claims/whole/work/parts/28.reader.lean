/-! the reader: tokens and words -/
def wdN (w : Nat) : List Nat := [[112, 108, 97, 105, 110], [116, 105, 109, 105, 100], [98, 101, 97, 114, 101, 114], [105, 100, 108, 101, 114], [104, 97, 115, 116, 121], [104, 97, 108, 108], [114, 111, 111, 109], [115, 104, 117, 116]].getD w []
def srtN (c : Nat) : Nat := if 97 ≤ c ∧ c ≤ 122 then 1 else if 48 ≤ c ∧ c ≤ 57 then 2 else 3
def skN (t : Nat → Nat) : Nat → Nat → Nat
  | 0, p => p
  | j + 1, p => if t p = 32 then skN t j (p + 1) else p
def rnN (t : Nat → Nat) (s : Nat) : Nat → Nat → Nat
  | 0, p => p
  | j + 1, p => if srtN (t p) = s then rnN t s j (p + 1) else p
def tkB (t : Nat → Nat) (n e : Nat) : Nat := skN t (n - e) e
def tkE (t : Nat → Nat) (n e : Nat) : Nat := if tkB t n e < n then (if srtN (t (tkB t n e)) = 3 then tkB t n e + 1 else rnN t (srtN (t (tkB t n e))) (n - (tkB t n e + 1)) (tkB t n e + 1)) else tkB t n e
theorem skN_le (t : Nat → Nat) : ∀ j p, p ≤ skN t j p ∧ skN t j p ≤ p + j
  | 0, p => ⟨Nat.le_refl _, Nat.le_refl _⟩
  | j + 1, p => by
    have := skN_le t j (p + 1)
    unfold skN
    split <;> omega
theorem rnN_le (t : Nat → Nat) (s : Nat) : ∀ j p, p ≤ rnN t s j p ∧ rnN t s j p ≤ p + j
  | 0, p => ⟨Nat.le_refl _, Nat.le_refl _⟩
  | j + 1, p => by
    have := rnN_le t s j (p + 1)
    unfold rnN
    split <;> omega
theorem tk_le (t : Nat → Nat) {n e : Nat} (he : e ≤ n) : e ≤ tkB t n e ∧ tkB t n e ≤ n ∧ tkB t n e ≤ tkE t n e ∧ tkE t n e ≤ n := by
  have h1 := skN_le t (n - e) e
  unfold tkE
  have h2 := rnN_le t (srtN (t (tkB t n e))) (n - (tkB t n e + 1)) (tkB t n e + 1)
  unfold tkB at *
  refine ⟨h1.1, by omega, ?_, ?_⟩
  · split
    · split <;> omega
    · omega
  · split
    · split <;> omega
    · omega
def wordL (t : Nat → Nat) (b e : Nat) : List Nat := (List.range (e - b)).map (fun i => t (b + i))
def mtN (t : Nat → Nat) (b : Nat) (l : List Nat) : Nat → Nat → Bool
  | 0, _ => true
  | j + 1, k => if t (b + k) = l.getD k 0 then mtN t b l j (k + 1) else false
theorem mtN_iff (t : Nat → Nat) (b : Nat) (l : List Nat) : ∀ j k, mtN t b l j k = true ↔ ∀ i, k ≤ i → i < k + j → t (b + i) = l.getD i 0
  | 0, k => ⟨fun _ i h1 h2 => by omega, fun _ => rfl⟩
  | j + 1, k => by
    unfold mtN
    have ih := mtN_iff t b l j (k + 1)
    by_cases h : t (b + k) = l.getD k 0
    · rw [if_pos h, ih]
      constructor
      · intro h1 i h2 h3
        by_cases hi : i = k
        · subst hi; exact h
        · exact h1 i (by omega) (by omega)
      · intro h1 i h2 h3
        exact h1 i (by omega) (by omega)
    · rw [if_neg h]
      exact ⟨fun z => absurd z (by decide), fun z => absurd (z k (Nat.le_refl _) (by omega)) h⟩
theorem word_iff (t : Nat → Nat) (b e : Nat) (l : List Nat) : wordL t b e = l ↔ e - b = l.length ∧ mtN t b l l.length 0 = true := by
  rw [mtN_iff]
  unfold wordL
  constructor
  · intro h
    subst h
    refine ⟨by simp, fun i _ hi => ?_⟩
    rw [Nat.zero_add, List.length_map, List.length_range] at hi
    simp [List.getD, hi]
  · rintro ⟨h1, h2⟩
    apply List.ext_getElem
    · simp [h1]
    · intro i h3 h4
      have := h2 i (Nat.zero_le _) (by omega)
      simp only [List.getElem_map, List.getElem_range, this]
      simp [List.getD, h4]
def rd0 (v n c b e : Nat) : va_E := .inr (5, [.ref (v + 1), .int (nI n), .ref (v + 2), .int (nI c), .int (nI b), .int (nI e)])
def RD (h : am_H) (v : Nat) (t : Nat → Nat) (n c b e : Nat) : Prop := Stt h ∧ am_at h v = some (rd0 v n c b e) ∧ am_at h (v + 1) = some (AI 200 (fun k => nI (t k))) ∧ n ≤ 200 ∧ v + 5 < 1000000 ∧ ∀ k, t k < 256
theorem set_self {h : am_H} {a : Nat} {c : va_E} (hc : am_at h a = some c) : am_set h a c = h := by
  refine am_ext rfl rfl (fun k => ?_)
  rw [am_at_set]
  split
  · rename_i hk; subst hk; exact hc.symm
  · rfl
theorem rd_at {h : am_H} {v n c b e : Nat} : am_at (am_set h v (rd0 v n c b e)) v = some (.inr (5, [.ref (v + 1), .int (nI n), .ref (v + 2), .int (nI c), .int (nI b), .int (nI e)])) := at_set_eq
section RD
variable {d : Nat} {h : am_H} {v n c b e : Nat} {t : Nat → Nat}
theorem RD.fl (hR : RD h v t n c b e) : am_fld (am_at h v) 5 0 = some (.ref (v + 1)) ∧ am_fld (am_at h v) 5 1 = some (.int (nI n)) ∧ am_fld (am_at h v) 5 2 = some (.ref (v + 2)) ∧ am_fld (am_at h v) 5 3 = some (.int (nI c)) ∧ am_fld (am_at h v) 5 4 = some (.int (nI b)) ∧ am_fld (am_at h v) 5 5 = some (.int (nI e)) ∧ am_is (am_at h v) 5 = true := by
  rw [hR.2.1]; exact ⟨rfl, rfl, rfl, rfl, rfl, rfl, rfl⟩
theorem RD.set (hR : RD h v t n c b e) (c' b' e' : Nat) : RD (am_set h v (rd0 v n c' b' e')) v t n c' b' e' := by
  obtain ⟨h1, h2, h3, h4, h5, h6⟩ := hR
  exact ⟨h1.keep (fun k _ => at_set_ne (by omega)), at_set_eq, by rw [at_set_ne (by omega)]; exact h3, h4, h5, h6⟩
theorem m_sortR {x : Nat} (hx : x < 2 ^ 31) : am_cal (d + 1) 73 [.int (nI x)] h = some (some (.int (nI (srtN x))), h) := by
  refine (b_73 _ _ _).trans ?_; show am_ev _ 73 0 [some (.int (nI x))] [] _ = _
  have e1 : (97 : Int32) = nI 97 := by decide +kernel
  have e2 : (122 : Int32) = nI 122 := by decide +kernel
  have e3 : (48 : Int32) = nI 48 := by decide +kernel
  have e4 : (57 : Int32) = nI 57 := by decide +kernel
  simp only [e_73_0, e_73_1, e_73_3, e_73_6, e_73_7, e_73_9, e_73_12, e_73_13, e_73_14, e_73_15, e_73_17, e_73_20, e_73_21, e_73_23, e_73_26, e_73_27, e_73_30, e_73_31, lg_n, lg_i, lg_r, wd_nil, am_wd_i, am_wd_r, am_wd_l, am_gk_s, am_fld_s, List.getElem?_cons_zero, List.getElem?_cons_succ, am_bk_v, am_bk_n, bo_0, bo_1, am_pk_s, List.length_cons, List.length_nil, Nat.zero_add, List.set_cons_zero, List.set_cons_succ, Nat.reduceAdd, Nat.reduceLeDiff, Nat.reduceLT, e1, e2, e3, e4, nI_ltI hx (show 97 < 2 ^ 31 by decide), nI_ltI (show 122 < 2 ^ 31 by decide) hx, nI_ltI hx (show 48 < 2 ^ 31 by decide), nI_ltI (show 57 < 2 ^ 31 by decide) hx]
  unfold srtN
  by_cases h1 : x < 97
  · rw [if_pos h1, if_neg (show ¬ (97 ≤ x ∧ x ≤ 122) by omega)]
    by_cases h2 : x < 48
    · rw [if_pos h2, if_neg (by omega)]; rfl
    · rw [if_neg h2]
      by_cases h3 : 57 < x
      · rw [if_pos h3, if_neg (by omega)]; rfl
      · rw [if_neg h3, if_pos (by omega)]; rfl
  · rw [if_neg h1]
    by_cases h4 : 122 < x
    · rw [if_pos h4, if_neg (show ¬ (97 ≤ x ∧ x ≤ 122) by omega), if_neg (show ¬ x < 48 by omega), if_pos (show 57 < x by omega), if_neg (by omega)]; rfl
    · rw [if_neg h4, if_pos (by omega)]; rfl
theorem l_skip {z : Option Value} : ∀ j (h : am_H) b, b + j = n → RD h v t n c b e → am_ev d 72 8 [some (.ref v), z] [] h = am_ev d 72 46 [some (.ref v), z] [] (am_set h v (rd0 v n c (skN t j b) e)) := by
  intro j
  have e32 : (32 : Int32) = nI 32 := by decide +kernel
  induction j with
  | zero =>
    intro h b hb hR
    obtain ⟨k0, k1, k2, k3, k4, k5, k6⟩ := hR.fl
    have hn := hR.2.2.2.1
    have : b = n := by omega
    subst this
    rw [e_72_8]
    simp only [e_72_9, e_72_12, e_72_13, e_72_16, lg_n, lg_i, lg_r, wd_nil, am_wd_i, am_wd_r, am_wd_l, am_gk_s, am_fld_s, List.getElem?_cons_zero, List.getElem?_cons_succ, am_bk_v, am_bk_n, bo_0, bo_1, am_pk_s, List.length_cons, List.length_nil, Nat.zero_add, List.set_cons_zero, List.set_cons_succ, Nat.reduceAdd, Nat.reduceLeDiff, Nat.reduceLT, k1, k4, nI_leI (show b < 2 ^ 31 by omega) (show b < 2 ^ 31 by omega), Nat.le_refl, if_true, skN, set_self hR.2.1]
  | succ j ih =>
    intro h b hb hR
    obtain ⟨k0, k1, k2, k3, k4, k5, k6⟩ := hR.fl
    have hn := hR.2.2.2.1
    have ht := hR.2.2.2.2.2 b
    have hv := hR.2.1
    unfold rd0 at hv
    rw [e_72_8]
    simp only [e_72_9, e_72_12, e_72_13, e_72_16, e_72_19, e_72_20, e_72_23, e_72_24, e_72_27, e_72_28, e_72_30, e_72_33, e_72_34, e_72_35, e_72_38, e_72_39, e_72_40, e_72_43, lg_n, lg_i, lg_r, wd_nil, am_wd_i, am_wd_r, am_wd_l, am_gk_s, am_fld_s, List.getElem?_cons_zero, List.getElem?_cons_succ, am_bk_v, am_bk_n, bo_0, bo_1, am_pk_s, List.length_cons, List.length_nil, Nat.zero_add, List.set_cons_zero, List.set_cons_succ, Nat.reduceAdd, Nat.reduceLeDiff, Nat.reduceLT, hv, nI_leI (show n < 2 ^ 31 by omega) (show b < 2 ^ 31 by omega), if_neg (show ¬ n ≤ b by omega), hR.2.2.1, ak_AI (show b < 200 by omega) (show 200 < 2 ^ 31 by decide), e32, nI_eq (show t b < 2 ^ 31 by omega) (show 32 < 2 ^ 31 by decide), nI_1]
    unfold skN
    by_cases h32 : t b = 32
    · have ih' := ih _ (b + 1) (by omega) (hR.set c (b + 1) e)
      rw [set_set] at ih'
      rw [if_pos h32, if_pos h32]
      exact ih'
    · rw [if_neg h32, if_neg h32, set_self hR.2.1]
theorem l_run {s : Nat} (hs : s < 3) : ∀ j (h : am_H) e, e + j = n → RD h v t n c b e → am_ev (d + 1) 72 89 [some (.ref v), some (.int (nI s))] [] h = some (none, am_set h v (rd0 v n c b (rnN t s j e))) := by
  intro j
  have e3 : (3 : Int32) = nI 3 := by decide +kernel
  induction j with
  | zero =>
    intro h e he hR
    obtain ⟨k0, k1, k2, k3, k4, k5, k6⟩ := hR.fl
    have hn := hR.2.2.2.1
    have : e = n := by omega
    subst this
    rw [e_72_89]
    simp only [e_72_90, e_72_91, e_72_94, e_72_95, e_72_98, e_72_99, e_72_102, e_72_105, e_72_106, e_72_109, e_72_110, e_72_113, e_72_114, e_72_117, e_72_118, e_72_121, e_72_122, e_72_123, e_72_126, e_72_127, e_72_128, e_72_131, e_72_134, lg_n, lg_i, lg_r, wd_nil, am_wd_i, am_wd_r, am_wd_l, am_gk_s, am_fld_s, List.getElem?_cons_zero, List.getElem?_cons_succ, am_bk_v, am_bk_n, bo_0, bo_1, am_pk_s, List.length_cons, List.length_nil, Nat.zero_add, List.set_cons_zero, List.set_cons_succ, Nat.reduceAdd, Nat.reduceLeDiff, Nat.reduceLT, e3, nI_eq (show s < 2 ^ 31 by omega) (show 3 < 2 ^ 31 by decide), if_neg (show ¬ s = 3 by omega), k1, k5, nI_leI (show e < 2 ^ 31 by omega) (show e < 2 ^ 31 by omega), Nat.le_refl, if_true, rnN, set_self hR.2.1]
  | succ j ih =>
    intro h e he hR
    obtain ⟨k0, k1, k2, k3, k4, k5, k6⟩ := hR.fl
    have hn := hR.2.2.2.1
    have ht := hR.2.2.2.2.2 e
    have hv := hR.2.1
    unfold rd0 at hv
    have hsr : srtN (t e) ≤ 3 := by unfold srtN; repeat' split
                                    all_goals omega
    rw [e_72_89]
    simp only [e_72_90, e_72_91, e_72_94, e_72_95, e_72_98, e_72_99, e_72_102, e_72_105, e_72_106, e_72_109, e_72_110, e_72_113, e_72_114, e_72_117, e_72_118, e_72_121, e_72_122, e_72_123, e_72_126, e_72_127, e_72_128, e_72_131, e_72_134, lg_n, lg_i, lg_r, wd_nil, am_wd_i, am_wd_r, am_wd_l, am_gk_s, am_fld_s, List.getElem?_cons_zero, List.getElem?_cons_succ, am_bk_v, am_bk_n, bo_0, bo_1, am_pk_s, List.length_cons, List.length_nil, Nat.zero_add, List.set_cons_zero, List.set_cons_succ, Nat.reduceAdd, Nat.reduceLeDiff, Nat.reduceLT, e3, nI_eq (show s < 2 ^ 31 by omega) (show 3 < 2 ^ 31 by decide), if_neg (show ¬ s = 3 by omega), hv, nI_leI (show n < 2 ^ 31 by omega) (show e < 2 ^ 31 by omega), if_neg (show ¬ n ≤ e by omega), hR.2.2.1, ak_AI (show e < 200 by omega) (show 200 < 2 ^ 31 by decide), m_sortR (show t e < 2 ^ 31 by omega), nI_eq (show srtN (t e) < 2 ^ 31 by omega) (show s < 2 ^ 31 by omega), nI_1]
    unfold rnN
    by_cases hse : srtN (t e) = s
    · have ih' := ih _ (e + 1) (by omega) (hR.set c b (e + 1))
      rw [set_set] at ih'
      rw [if_pos hse, if_pos hse]
      exact ih'
    · rw [if_neg hse, if_neg hse, set_self hR.2.1]
theorem m_nextTok (hR : RD h v t n c b e) (he : e ≤ n) : am_cal (d + 2) 72 [.ref v] h = some (none, am_set h v (rd0 v n c (tkB t n e) (tkE t n e))) := by
  refine (b_72 _ _ _).trans ?_; show am_ev _ 72 0 [some (.ref v), none] [] _ = _
  obtain ⟨k0, k1, k2, k3, k4, k5, k6⟩ := hR.fl
  have hn := hR.2.2.2.1
  have hv := hR.2.1
  unfold rd0 at hv
  have hle := tk_le t he
  simp only [e_72_0, e_72_1, e_72_2, e_72_5, lg_n, lg_i, lg_r, wd_nil, am_wd_i, am_wd_r, am_wd_l, am_gk_s, am_fld_s, List.getElem?_cons_zero, List.getElem?_cons_succ, am_bk_v, am_bk_n, bo_0, bo_1, am_pk_s, List.length_cons, List.length_nil, Nat.zero_add, List.set_cons_zero, List.set_cons_succ, Nat.reduceAdd, Nat.reduceLeDiff, Nat.reduceLT, hv]
  have hs := l_skip (d := d + 1) (z := none) (n - e) _ e (by omega) (hR.set c e e)
  rw [set_set] at hs
  refine Eq.trans hs ?_
  have hR1 := hR.set c (tkB t n e) e
  change am_ev (d + 1) 72 46 _ _ (am_set h v (rd0 v n c (tkB t n e) e)) = _
  simp only [e_72_46, e_72_47, e_72_48, e_72_51, lg_n, lg_i, lg_r, wd_nil, am_wd_i, am_wd_r, am_wd_l, am_gk_s, am_fld_s, List.getElem?_cons_zero, List.getElem?_cons_succ, am_bk_v, am_bk_n, bo_0, bo_1, am_pk_s, List.length_cons, List.length_nil, Nat.zero_add, List.set_cons_zero, List.set_cons_succ, Nat.reduceAdd, Nat.reduceLeDiff, Nat.reduceLT, rd_at]
  have hR2 := hR.set c (tkB t n e) (tkB t n e)
  rw [set_set]
  change am_ev (d + 1) 72 54 _ _ (am_set h v (rd0 v n c (tkB t n e) (tkB t n e))) = _
  obtain ⟨r0, r1, r2, r3, r4, r5, r6⟩ := hR2.fl
  simp only [e_72_54, e_72_55, e_72_58, e_72_59, e_72_62, e_72_65, lg_n, lg_i, lg_r, wd_nil, am_wd_i, am_wd_r, am_wd_l, am_gk_s, am_fld_s, List.getElem?_cons_zero, List.getElem?_cons_succ, am_bk_v, am_bk_n, bo_0, bo_1, am_pk_s, List.length_cons, List.length_nil, Nat.zero_add, List.set_cons_zero, List.set_cons_succ, Nat.reduceAdd, Nat.reduceLeDiff, Nat.reduceLT, r1, r4, nI_ltI (show tkB t n e < 2 ^ 31 by omega) (show n < 2 ^ 31 by omega)]
  by_cases hlt : tkB t n e < n
  · rw [if_pos hlt]
    have hE : tkE t n e = if srtN (t (tkB t n e)) = 3 then tkB t n e + 1 else rnN t (srtN (t (tkB t n e))) (n - (tkB t n e + 1)) (tkB t n e + 1) := by unfold tkE; rw [if_pos hlt]
    have ht := hR.2.2.2.2.2 (tkB t n e)
    have hsr : srtN (t (tkB t n e)) ≤ 3 := by unfold srtN; repeat' split
                                              all_goals omega
    simp only [e_72_66, e_72_67, e_72_70, e_72_71, e_72_74, e_72_75, e_72_78, e_72_79, e_72_80, e_72_81, e_72_84, e_72_85, e_72_86, lg_n, lg_i, lg_r, wd_nil, am_wd_i, am_wd_r, am_wd_l, am_gk_s, am_fld_s, List.getElem?_cons_zero, List.getElem?_cons_succ, am_bk_v, am_bk_n, bo_0, bo_1, am_pk_s, List.length_cons, List.length_nil, Nat.zero_add, List.set_cons_zero, List.set_cons_succ, Nat.reduceAdd, Nat.reduceLeDiff, Nat.reduceLT, rd_at, hR2.2.2.1, ak_AI (show tkB t n e < 200 by omega) (show 200 < 2 ^ 31 by decide), m_sortR (show t (tkB t n e) < 2 ^ 31 by omega), nI_1, set_set]
    have hR3 := hR.set c (tkB t n e) (tkB t n e + 1)
    change am_ev (d + 1) 72 89 _ _ (am_set h v (rd0 v n c (tkB t n e) (tkB t n e + 1))) = _
    by_cases hs3 : srtN (t (tkB t n e)) = 3
    · rw [if_pos hs3] at hE
      rw [hs3, hE]
      rw [e_72_89]
      simp only [e_72_90, e_72_91, e_72_134, lg_n, lg_i, lg_r, wd_nil, am_wd_i, am_wd_r, am_wd_l, am_gk_s, am_fld_s, List.getElem?_cons_zero, List.getElem?_cons_succ, am_bk_v, am_bk_n, bo_0, bo_1, am_pk_s, List.length_cons, List.length_nil, Nat.zero_add, List.set_cons_zero, List.set_cons_succ, Nat.reduceAdd, Nat.reduceLeDiff, Nat.reduceLT, show (3 : Int32) = nI 3 by decide +kernel, if_true, eq_self]
    · rw [if_neg hs3] at hE
      have := l_run (d := d) (s := srtN (t (tkB t n e))) (by omega) (n - (tkB t n e + 1)) _ (tkB t n e + 1) (by omega) hR3
      rw [set_set] at this
      rw [hE]
      exact this
  · rw [if_neg hlt]
    have hE : tkE t n e = tkB t n e := by unfold tkE; rw [if_neg hlt]
    rw [hE]
end RD
theorem at_str {h : am_H} (hs : Stt h) {w : Nat} (hw : w < 8) : am_at h (1000007 + w) = some (.inr (21, [.ref (1000015 + w), .int 0])) ∧ am_at h (1000015 + w) = some (.inl (11, (wdN w).length, .inl (fun i => (am_byt.getD w []).getD i 0))) := by
  have h1 := hs (7 + w) (by omega) (by omega)
  have h2 := hs (15 + w) (by omega) (by omega)
  rw [show 1000000 + (7 + w) = 1000007 + w by omega] at h1
  rw [show 1000000 + (15 + w) = 1000015 + w by omega] at h2
  rw [h1, h2]
  rcases (show w = 0 ∨ w = 1 ∨ w = 2 ∨ w = 3 ∨ w = 4 ∨ w = 5 ∨ w = 6 ∨ w = 7 by omega) with rfl | rfl | rfl | rfl | rfl | rfl | rfl | rfl <;> exact ⟨rfl, rfl⟩
theorem byt_ok : ∀ w, w < 8 → ∀ i, i < (wdN w).length → (((am_byt.getD w []).getD i 0 &&& 255).toUInt32 % 65536).toInt32 = nI ((wdN w).getD i 0) ∧ (wdN w).length < 7 ∧ (wdN w).getD i 0 < 256 := by decide +kernel
section ST
variable {d : Nat} {h : am_H} {w : Nat}
theorem m_strLen (hs : Stt h) (hw : w < 8) : am_cal (d + 2) 216 [.ref (1000007 + w)] h = some (some (.int (nI (wdN w).length)), h) := by
  obtain ⟨a1, a2⟩ := at_str hs hw
  have hc : am_cal (d + 1) 218 [.ref (1000007 + w)] h = some (some (.int 0), h) := by
    refine (b_218 _ _ _).trans ?_; show am_ev _ 218 0 [some (.ref (1000007 + w))] [] _ = _
    simp only [e_218_0, e_218_3, e_218_6, e_218_7, e_218_10, e_218_13, lg_n, lg_i, lg_r, wd_nil, am_wd_i, am_wd_r, am_wd_l, am_gk_s, am_fld_s, List.getElem?_cons_zero, List.getElem?_cons_succ, am_bk_v, am_bk_n, bo_0, bo_1, am_pk_s, List.length_cons, List.length_nil, Nat.zero_add, List.set_cons_zero, List.set_cons_succ, Nat.reduceAdd, Nat.reduceLeDiff, Nat.reduceLT, a1, one_ne, if_false]
    exact e_218_14 rfl
  refine (b_216 _ _ _).trans ?_; show am_ev _ 216 0 [some (.ref (1000007 + w))] [] _ = _
  have hl : (wdN w).length < 7 := by
    rcases (show w = 0 ∨ w = 1 ∨ w = 2 ∨ w = 3 ∨ w = 4 ∨ w = 5 ∨ w = 6 ∨ w = 7 by omega) with rfl | rfl | rfl | rfl | rfl | rfl | rfl | rfl <;> decide
  simp only [e_216_0, e_216_1, lg_n, lg_i, lg_r, wd_nil, am_wd_i, am_wd_r, am_wd_l, am_gk_s, am_fld_s, List.getElem?_cons_zero, List.getElem?_cons_succ, am_bk_v, am_bk_n, bo_0, bo_1, am_pk_s, List.length_cons, List.length_nil, Nat.zero_add, List.set_cons_zero, List.set_cons_succ, Nat.reduceAdd, Nat.reduceLeDiff, Nat.reduceLT, a1]
  rw [e_216_4 a2]
  simp only [e_216_5, e_216_6, e_216_9, e_216_10, lg_n, lg_i, lg_r, wd_nil, am_wd_i, am_wd_r, am_wd_l, am_gk_s, am_fld_s, List.getElem?_cons_zero, List.getElem?_cons_succ, am_bk_v, am_bk_n, bo_0, bo_1, am_pk_s, List.length_cons, List.length_nil, Nat.zero_add, List.set_cons_zero, List.set_cons_succ, Nat.reduceAdd, Nat.reduceLeDiff, Nat.reduceLT, a1, is_c, hc]
  have : ∀ k, k < 7 → nI k >>> ((0 : Int32) &&& 31) = nI k := by decide +kernel
  rw [this _ hl]
theorem m_charAt (hs : Stt h) (hw : w < 8) {i : Nat} (hi : i < (wdN w).length) : am_cal (d + 4) 217 [.ref (1000007 + w), .int (nI i)] h = some (some (.int (nI ((wdN w).getD i 0))), h) := by
  obtain ⟨a1, a2⟩ := at_str hs hw
  obtain ⟨b1, b2, b3⟩ := byt_ok w hw i hi
  have hli := nI_ltI (show i < 2 ^ 31 by omega) (show (wdN w).length < 2 ^ 31 by omega)
  have hP : am_cal (d + 1) 222 [.int (nI i), .int (nI (wdN w).length), .float 0] h = some (some (.int (nI i)), h) := by
    refine (b_222 _ _ _).trans ?_; show am_ev _ 222 0 [some (.int (nI i)), some (.int (nI (wdN w).length)), some (.float 0)] [] _ = _
    simp only [e_222_0, e_222_1, e_222_4, e_222_5, e_222_6, e_222_9, e_222_10, e_222_11, e_222_16, e_222_17, lg_n, lg_i, lg_r, wd_nil, am_wd_i, am_wd_r, am_wd_l, am_gk_s, am_fld_s, List.getElem?_cons_zero, List.getElem?_cons_succ, am_bk_v, am_bk_n, bo_0, bo_1, am_pk_s, List.length_cons, List.length_nil, Nat.zero_add, List.set_cons_zero, List.set_cons_succ, Nat.reduceAdd, Nat.reduceLeDiff, Nat.reduceLT, if_neg (nI_pos (show i < 2 ^ 31 by omega)), hli, if_pos hi]
  have hS : am_cal (d + 2) 220 [.int (nI i), .int (nI (wdN w).length)] h = some (none, h) := by
    refine (b_220 _ _ _).trans ?_; show am_ev _ 220 0 [some (.int (nI i)), some (.int (nI (wdN w).length))] [] _ = _
    simp only [e_220_0, e_220_1, e_220_2, e_220_5, e_220_8, e_220_9, lg_n, lg_i, lg_r, wd_nil, am_wd_i, am_wd_r, am_wd_l, am_gk_s, am_fld_s, List.getElem?_cons_zero, List.getElem?_cons_succ, am_bk_v, am_bk_n, bo_0, bo_1, am_pk_s, List.length_cons, List.length_nil, Nat.zero_add, List.set_cons_zero, List.set_cons_succ, Nat.reduceAdd, Nat.reduceLeDiff, Nat.reduceLT, hP]
  have hL : am_cal (d + 3) 221 [.ref (1000015 + w), .int (nI i)] h = some (some (.int (nI ((wdN w).getD i 0))), h) := by
    refine (b_221 _ _ _).trans ?_; show am_ev _ 221 0 [some (.ref (1000015 + w)), some (.int (nI i))] [] _ = _
    simp only [e_221_0, e_221_1, lg_n, lg_i, lg_r, wd_nil, am_wd_i, am_wd_r, am_wd_l, am_gk_s, am_fld_s, List.getElem?_cons_zero, List.getElem?_cons_succ, am_bk_v, am_bk_n, bo_0, bo_1, am_pk_s, List.length_cons, List.length_nil, Nat.zero_add, List.set_cons_zero, List.set_cons_succ, Nat.reduceAdd, Nat.reduceLeDiff, Nat.reduceLT]
    rw [e_221_2 a2]
    simp only [e_221_3, e_221_6, e_221_7, e_221_8, e_221_9, e_221_12, e_221_13, e_221_14, lg_n, lg_i, lg_r, wd_nil, am_wd_i, am_wd_r, am_wd_l, am_gk_s, am_fld_s, List.getElem?_cons_zero, List.getElem?_cons_succ, am_bk_v, am_bk_n, bo_0, bo_1, am_pk_s, List.length_cons, List.length_nil, Nat.zero_add, List.set_cons_zero, List.set_cons_succ, Nat.reduceAdd, Nat.reduceLeDiff, Nat.reduceLT, hS, a2]
    rw [am_ak_s _ _ (Or.inr rfl) hi (by omega)]
    simp only [e_221_9, e_221_12, e_221_13, lg_n, lg_i, lg_r, wd_nil, am_wd_i, am_wd_r, am_wd_l, am_gk_s, am_fld_s, List.getElem?_cons_zero, List.getElem?_cons_succ, am_bk_v, am_bk_n, bo_0, bo_1, am_pk_s, List.length_cons, List.length_nil, Nat.zero_add, List.set_cons_zero, List.set_cons_succ, Nat.reduceAdd, Nat.reduceLeDiff, Nat.reduceLT, b1]
    exact e_221_14 (pk_charN (by omega)).1
  have hq : am_cal (d + 3) 219 [.ref (1000007 + w)] h = some (some (.int 1), h) := by
    refine (b_219 _ _ _).trans ?_; show am_ev _ 219 0 [some (.ref (1000007 + w))] [] _ = _
    simp only [e_219_0, e_219_3, e_219_6, e_219_7, e_219_10, e_219_13, e_219_14, e_219_17, e_219_18, lg_n, lg_i, lg_r, wd_nil, am_wd_i, am_wd_r, am_wd_l, am_gk_s, am_fld_s, List.getElem?_cons_zero, List.getElem?_cons_succ, am_bk_v, am_bk_n, bo_0, bo_1, am_pk_s, List.length_cons, List.length_nil, Nat.zero_add, List.set_cons_zero, List.set_cons_succ, Nat.reduceAdd, Nat.reduceLeDiff, Nat.reduceLT, a1, one_ne, if_false, if_true]
  refine (b_217 _ _ _).trans ?_; show am_ev _ 217 0 [some (.ref (1000007 + w)), some (.int (nI i))] [] _ = _
  simp only [e_217_0, e_217_1, e_217_4, e_217_7, e_217_8, e_217_11, e_217_12, lg_n, lg_i, lg_r, wd_nil, am_wd_i, am_wd_r, am_wd_l, am_gk_s, am_fld_s, List.getElem?_cons_zero, List.getElem?_cons_succ, am_bk_v, am_bk_n, bo_0, bo_1, am_pk_s, List.length_cons, List.length_nil, Nat.zero_add, List.set_cons_zero, List.set_cons_succ, Nat.reduceAdd, Nat.reduceLeDiff, Nat.reduceLT, a1, is_c, hq, one_ne, if_false, hL]
  exact e_217_15 (pk_charN (by omega)).1
end ST
