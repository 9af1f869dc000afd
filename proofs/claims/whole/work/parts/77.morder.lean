/-! the model's order -/
def FX4 (h h' : am_H) : Prop := h'.1 = h.1 ∧ h'.2.1 = h.2.1 ∧ ∀ k, k ≠ 88 → k ≠ 106 → k ≠ 107 → k ≠ 108 → am_at h' k = am_at h k
theorem FX4.rf {h : am_H} : FX4 h h := ⟨rfl, rfl, fun _ _ _ _ _ => rfl⟩
theorem FX4.tr {h h' h'' : am_H} (h1 : FX4 h h') (h2 : FX4 h' h'') : FX4 h h'' := ⟨h2.1.trans h1.1, h2.2.1.trans h1.2.1, fun k a b c e => (h2.2.2 k a b c e).trans (h1.2.2 k a b c e)⟩
theorem FX4.set {h : am_H} {a : Nat} {c : va_E} (ha : a = 88 ∨ a = 106 ∨ a = 107 ∨ a = 108) : FX4 h (am_set h a c) := ⟨rfl, rfl, fun k _ _ _ _ => at_set_ne (by omega)⟩
theorem FX4.fw {h h' : am_H} (h1 : FW h h') : FX4 h h' := ⟨h1.1, h1.2.1, fun k a _ b _ => h1.2.2 k a b⟩
theorem FX4.fm {h h' : am_H} (h1 : FX4 h h') : FM h h' := ⟨h1.1, h1.2.1, fun k hk => h1.2.2 k (by omega) (by omega) (by omega) (by omega)⟩
/-- who waits, rising -/
def wlN (P : Pn) (σ : Hn) : Nat → Nat := (upN P σ (fun _ => 0) 8).2
def wcN (P : Pn) (σ : Hn) : Nat := cntN (fun q => σ.2.2.1 q == 0) P.2.2.2.1
def obN (P : Pn) (σ : Hn) : Nat → Nat × Nat := bsN (fun k => smS P (wcN P σ) (lnN (wcN P σ) (wlN P σ) k) 61 σ)
def ordV (P : Pn) (σ : Hn) (k : Int32) : Int32 := if -1 ≤ k.toInt ∧ k.toInt ≤ 5 then (if 6 < wcN P σ then -1 else if k = -1 then nI (obN P σ (prT (wcN P σ)).length).1 else if k.toInt.toNat < wcN P σ then nI (lnN (wcN P σ) (wlN P σ) (obN P σ (prT (wcN P σ)).length).2 k.toInt.toNat) else -1) else -3
theorem wc_up {P : Pn} {σ : Hn} (hn : P.2.2.2.1 ≤ 8) (h6 : wcN P σ ≤ 6) (f0 : Nat → Nat) : (upN P σ f0 8).1 = wcN P σ := by
  rw [up_cnt, cnt_8 hn]
  unfold wcN at h6 ⊢
  omega
theorem wl_ok {P : Pn} {σ : Hn} (hn : P.2.2.2.1 ≤ 8) (h6 : wcN P σ ≤ 6) : (∀ a b, a < wcN P σ → b < wcN P σ → (wlN P σ a < wlN P σ b ↔ a < b)) ∧ ∀ a, a < wcN P σ → wlN P σ a < P.2.2.2.1 ∧ σ.2.2.1 (wlN P σ a) = 0 := by
  have hw := wc_up (σ := σ) hn h6 (fun _ => 0)
  obtain ⟨-, m2⟩ := up_mono P σ (fun _ => 0) 8
  refine ⟨fun a b ha hb => ⟨fun h => ?_, fun h => m2 a b h (by omega)⟩, fun a ha => upN_bd P σ (fun _ => 0) 8 a (by omega)⟩
  by_cases c : a < b
  · exact c
  · by_cases e : a = b
    · subst e; exact absurd h (Nat.lt_irrefl _)
    · have := m2 b a (by omega) (by omega)
      unfold wlN at h
      omega
theorem ln_lt {w : Nat} (hw : w < 7) {l : Nat → Nat} {k : Nat} (hk : k < (prT w).length) {B : Nat} (hl : ∀ a, a < w → l a < B) : ∀ i, i < w → lnN w l k i < B := by
  intro i hi
  obtain ⟨-, o2, -⟩ := prT_ok w hw
  obtain ⟨d1, -⟩ := dsA_ok (prT w) [] o2 k hk
  exact hl _ (okC_ok d1 i hi).1
theorem pr_pos {w : Nat} (hw : w < 7) : 0 < (prT w).length := (prT_ok w hw).2.2.2.1
section C
variable {d : Nat} {h : am_H} {P : Pn} {σ : Hn} {u : Nat} {pa : Nat → Hn} {kp : Nat → Bool} {ke : Nat → Hn} {t : Nat → Nat} {n sn : Nat} {sF sT sK : Nat → Nat} {nz : Nat → Nat} {nt : Nat → Nat → Nat}
theorem vo_ord {Φ : Fo} (hn : OKP P) (h6 : wcN P σ ≤ 6) (hV : VO P σ Φ) (h1 : Φ.2.2.1 = 1) : Φ.1 = wcN P σ ∧ Φ.2.1 = (obN P σ (prT (wcN P σ)).length).1 ∧ ∀ m, m < wcN P σ → Φ.2.2.2.1 m = lnN (wcN P σ) (wlN P σ) (obN P σ (prT (wcN P σ)).length).2 m := by
  rcases hV with z | ⟨-, be0, f0, z1, z2, z3⟩
  · rw [z] at h1; exact absurd h1 (by decide)
  · have hw := wc_up (σ := σ) hn.2.2.2.1 h6 f0
    have hw0 := wc_up (σ := σ) hn.2.2.2.1 h6 (fun _ => 0)
    obtain ⟨m1, m2⟩ := wl_ok (σ := σ) hn.2.2.2.1 h6
    obtain ⟨-, i2⟩ := up_ind P σ f0 (fun _ => 0) 8
    rw [hw] at z1 z2 z3 i2
    obtain ⟨N, hN⟩ : ∃ N : Nat, N = 720 := ⟨_, rfl⟩
    rw [← hN] at z2 z3
    have hpl := (prT_ok (wcN P σ) (by omega)).2.2.1
    have hb := ord_best (P := P) (σ := σ) (w := wcN P σ) (by omega) hn m1 m2 N 0 be0 (upN P σ f0 8).2 (pr_pos (by omega)) (by omega) (fun i hi => by rw [ln_0 (by omega) i hi]; exact i2 i hi) (fun z => absurd z (Nat.lt_irrefl 0))
    refine ⟨z1, ?_, fun m hm => ?_⟩
    · rw [z2]; exact hb.1
    · rw [z3]; exact hb.2 m hm
theorem k_order (hC : CI h P σ u pa kp ke t n sn sF sT sK nz nt) (hD : OKD P) (hO : HOK P σ) (k : Int32) : ∃ h', am_cal (d + 8) 101 [.ref 0, .int k] h = some (some (.int (ordV P σ k)), h') ∧ CI h' P σ u pa kp ke t n sn sF sT sK nz nt ∧ FC h h' := by
  obtain ⟨c1, c2, c3⟩ := c_order (d := d) hC hD hO k
  unfold ordV
  by_cases a1 : -1 ≤ k.toInt ∧ k.toInt ≤ 5
  · rw [if_pos a1]
    by_cases a2 : 6 < wcN P σ
    · rw [if_pos a2]
      exact ⟨h, c2 a1 a2, hC, FC.rf⟩
    · rw [if_neg a2]
      obtain ⟨h', Φ, e1, C1, F1, V1, V2⟩ := c3 a1 (show wcN P σ ≤ 6 by omega)
      obtain ⟨v1, v2, v3⟩ := vo_ord hD.1 (show wcN P σ ≤ 6 by omega) V1 V2
      refine ⟨h', ?_, C1, F1⟩
      rw [e1, v1, v2]
      by_cases a3 : k = -1
      · rw [if_pos a3, if_pos a3]
      · rw [if_neg a3, if_neg a3]
        by_cases a4 : k.toInt.toNat < wcN P σ
        · rw [if_pos a4, if_pos a4, v3 _ a4]
        · rw [if_neg a4, if_neg a4]
  · rw [if_neg a1]
    exact ⟨h, c1 a1, hC, FC.rf⟩
end C
section MO
variable {d : Nat} {h : am_H} {f : Nat → Int32} {L : Nat → Nat} {P : Pn} {σ : Hn}
theorem l_copyB {x1 x2 x3 x4 : Option Value} {s : Int32} : ∀ j i (h : am_H) (g : Nat → Int32), i + j = 8 → TU h L → am_fld (am_at h 87) 8 29 = some (.ref 108) → am_at h 108 = some (AI 8 g) → (∀ k, k < i → g k = nI (L k)) → am_ev d 186 65 [some (.ref 87), x1, x2, x3, x4, some (.int s), some (.int (nI i))] [] h = am_ev d 186 92 [some (.ref 87), x1, x2, x3, x4, some (.int s), some (.int (nI 8))] [] (am_set h 108 (AI 8 (fun k => nI (L k)))) := by
  have e8 : (8 : Int32) = nI 8 := by decide +kernel
  intro j
  induction j with
  | zero =>
    intro i h g hi hT hf h8 hg
    have : i = 8 := by omega
    subst this
    have hs : am_set h 108 (AI 8 (fun k => nI (L k))) = h := by
      rw [← AI_cong (f := g) (g := fun i => nI (L i)) hg]
      exact set_self h8
    rw [e_186_65, hs]
    simp only [e_186_67, e_186_69, lg_n, lg_i, lg_r, wd_nil, am_wd_i, am_wd_r, am_wd_l, am_gk_s, am_fld_s, List.getElem?_cons_zero, List.getElem?_cons_succ, am_bk_v, am_bk_n, bo_0, bo_1, am_pk_s, List.length_cons, List.length_nil, Nat.zero_add, List.set_cons_zero, List.set_cons_succ, Nat.reduceAdd, Nat.reduceLeDiff, Nat.reduceLT, e8, nI_leI (show 8 < 2 ^ 31 by decide) (show 8 < 2 ^ 31 by decide), Nat.le_refl, if_true]
  | succ j ih =>
    intro i h g hi hT hf h8 hg
    obtain ⟨t1, t2, t3⟩ := hT
    have ih' := ih (i + 1) (am_set h 108 (AI 8 (upd g i (nI (L i))))) _ (by omega) ⟨by rw [at_set_ne (by decide)]; exact t1, by rw [at_set_ne (by decide)]; exact t2, by rw [at_set_ne (by decide)]; exact t3⟩ (by rw [at_set_ne (by decide)]; exact hf) at_set_eq (fun k hk => by
      unfold upd
      by_cases c : k = i
      · rw [if_pos c, c]
      · rw [if_neg c]; exact hg k (by omega))
    rw [set_set] at ih'
    rw [e_186_65]
    simp only [e_186_67, e_186_69, e_186_72, e_186_73, e_186_76, e_186_78, e_186_79, e_186_82, e_186_84, e_186_85, e_186_86, e_186_89, lg_n, lg_i, lg_r, wd_nil, am_wd_i, am_wd_r, am_wd_l, am_gk_s, am_fld_s, List.getElem?_cons_zero, List.getElem?_cons_succ, am_bk_v, am_bk_n, bo_0, bo_1, am_pk_s, List.length_cons, List.length_nil, Nat.zero_add, List.set_cons_zero, List.set_cons_succ, Nat.reduceAdd, Nat.reduceLeDiff, Nat.reduceLT, e8, nI_leI (show 8 < 2 ^ 31 by decide) (show i < 2 ^ 31 by omega), if_neg (show ¬ 8 ≤ i by omega), hf, t1, t3, h8, ak_AI (show i < 8 by omega) (show 8 < 2 ^ 31 by decide), sk_AI (show i < 8 by omega) (show 8 < 2 ^ 31 by decide), st_AI (show i < 8 by omega) (show 8 < 2 ^ 31 by decide), nI_1]
    exact ih'
/-- how the least is held -/
def lsI (P : Pn) (σ : Hn) (k : Nat) : Int32 := if k = 0 then -1 else nI (obN P σ k).1
theorem ls_ne {o : Nat} (ho : o < 2 ^ 31) : nI o ≠ -1 := by
  intro z
  have := congrArg Int32.toInt z
  rw [nI_toInt ho, i_m1] at this
  omega
theorem s_line (hD : OKD P) (hO : HOK P σ) (h6 : wcN P σ ≤ 6) {T : Nat → Nat} (hTn : ∀ i, wcN P σ ≤ i → i < P.2.2.2.1 → T i < P.2.2.2.1 ∧ σ.2.2.1 (T i) ≠ 0) {x1 x5 x6 : Option Value} {k : Nat} {g g8 : Nat → Int32} {b : Nat → Nat} (hk : k < (prT (wcN P σ)).length) (hB : MB h f L) (hP : RowP f 0 P) (hR : RowH f 0 σ) (hL : ∀ i, i < wcN P σ → L i = lnN (wcN P σ) (wlN P σ) k i) (hLT : ∀ i, wcN P σ ≤ i → L i = T i) (f28 : am_fld (am_at h 87) 8 28 = some (.ref 107)) (h107 : am_at h 107 = some (AI 8 g)) (f29 : am_fld (am_at h 87) 8 29 = some (.ref 108)) (h108 : am_at h 108 = some (AI 8 g8)) (hg8 : 0 < k → ∀ i, i < 8 → g8 i = nI (b i)) (hb : 0 < k → ∀ i, i < wcN P σ → b i = lnN (wcN P σ) (wlN P σ) (obN P σ k).2 i) : ∃ (h' : am_H) (f' g' : Nat → Int32) (b' : Nat → Nat) (x5' x6' : Option Value), am_ev (d + 7) 186 37 [some (.ref 87), x1, some (.int (nI (wcN P σ))), some (.int (lsI P σ k)), some (.int 1), x5, x6] [] h = am_ev (d + 7) 186 92 [some (.ref 87), x1, some (.int (nI (wcN P σ))), some (.int (nI (obN P σ (k + 1)).1)), some (.int 1), x5', x6'] [] h' ∧ MB h' f' L ∧ RS f f' 366 ∧ am_at h' 107 = some (AI 8 g') ∧ am_at h' 108 = some (AI 8 (fun i => nI (b' i))) ∧ (∀ i, i < wcN P σ → b' i = lnN (wcN P σ) (wlN P σ) (obN P σ (k + 1)).2 i) ∧ FX4 h h' := by
  have oP := hD.1
  have hn := oP.2.2.2.1
  obtain ⟨m1, m2⟩ := wl_ok (σ := σ) hn h6
  have hwn : wcN P σ ≤ P.2.2.2.1 := cntN_le _ _
  have hLn : ∀ i, i < P.2.2.2.1 → L i < P.2.2.2.1 := by
    intro i hi
    by_cases c : i < wcN P σ
    · rw [hL i c]; exact ln_lt (by omega) hk (fun a ha => (m2 a ha).1) i c
    · rw [hLT i (by omega)]; exact (hTn i (by omega) hi).1
  obtain ⟨h2, f2, g2, e2, M2, S2, q107, F2⟩ := m_sumAll (d := d) hB hP hR hD hO hLn f28 h107
  rw [sm_turns hwn hL 61 σ (fun i z1 z2 => by rw [hLT i z1]; exact (hTn i z1 z2).2)] at e2
  have hs8 := smS_le (P := P) (w := wcN P σ) (f := lnN (wcN P σ) (wlN P σ) k) hn 61 σ
  have hob : obN P σ (k + 1) = if smS P (wcN P σ) (lnN (wcN P σ) (wlN P σ) k) 61 σ < (obN P σ k).1 then (smS P (wcN P σ) (lnN (wcN P σ) (wlN P σ) k) 61 σ, k) else obN P σ k := rfl
  have ho0 : k = 0 → (obN P σ k).1 = 489 := fun z => by rw [z]; rfl
  have ho9 : (obN P σ k).1 ≤ 489 := (bsN_lt (fun k => smS P (wcN P σ) (lnN (wcN P σ) (wlN P σ) k) 61 σ) k).1
  have f29' : am_fld (am_at h2 87) 8 29 = some (.ref 108) := by rw [F2.2.2 _ (by decide) (by decide)]; exact f29
  have h108' : am_at h2 108 = some (AI 8 g8) := by rw [F2.2.2 _ (by decide) (by decide)]; exact h108
  have hM3 : MB (am_set h2 108 (AI 8 (fun k => nI (L k)))) f2 L := ⟨by rw [at_set_ne (by decide)]; exact M2.1, by rw [at_set_ne (by decide)]; exact M2.2.1, by rw [at_set_ne (by decide)]; exact M2.2.2.1, by rw [at_set_ne (by decide)]; exact M2.2.2.2.1, by rw [at_set_ne (by decide)]; exact M2.2.2.2.2⟩
  generalize smS P (wcN P σ) (lnN (wcN P σ) (wlN P σ) k) 61 σ = S at *
  have hcp := l_copyB (d := d + 7) (x1 := x1) (x2 := some (.int (nI (wcN P σ)))) (x3 := some (.int (nI S))) (x4 := some (.int 1)) (s := nI S) 8 0 h2 g8 (by omega) M2.tu f29' h108' (fun k hk => absurd hk (Nat.not_lt_zero k))
  rw [nI_0] at hcp
  by_cases c0 : k = 0
  · have hlt : S < (obN P σ k).1 := by rw [ho0 c0]; omega
    rw [if_pos hlt] at hob
    have hl0 : lsI P σ k = -1 := by unfold lsI; rw [if_pos c0]
    refine ⟨_, f2, g2, L, some (.int (nI S)), some (.int (nI 8)), ?_, hM3, S2, by rw [at_set_ne (by decide)]; exact q107, at_set_eq, fun i hi => by rw [hob]; exact hL i hi, (FX4.fw F2).tr (FX4.set (by decide))⟩
    rw [e_186_37, hl0, hob]
    simp only [e_186_39, e_186_42, e_186_43, e_186_46, e_186_48, e_186_49, e_186_50, e_186_53, e_186_55, e_186_56, e_186_59, e_186_61, e_186_62, e_186_63, lg_n, lg_i, lg_r, wd_nil, am_wd_i, am_wd_r, am_wd_l, am_gk_s, am_fld_s, List.getElem?_cons_zero, List.getElem?_cons_succ, am_bk_v, am_bk_n, bo_0, bo_1, am_pk_s, List.length_cons, List.length_nil, Nat.zero_add, List.set_cons_zero, List.set_cons_succ, Nat.reduceAdd, Nat.reduceLeDiff, Nat.reduceLT, one_ne, if_false, hB.2.2.1, e2, eq_self, if_true]
    exact hcp
  · have hl1 : lsI P σ k = nI (obN P σ k).1 := by unfold lsI; rw [if_neg c0]
    have hne := ls_ne (show (obN P σ k).1 < 2 ^ 31 by omega)
    by_cases hlt : S < (obN P σ k).1
    · rw [if_pos hlt] at hob
      refine ⟨_, f2, g2, L, some (.int (nI S)), some (.int (nI 8)), ?_, hM3, S2, by rw [at_set_ne (by decide)]; exact q107, at_set_eq, fun i hi => by rw [hob]; exact hL i hi, (FX4.fw F2).tr (FX4.set (by decide))⟩
      rw [e_186_37, hl1, hob]
      simp only [e_186_39, e_186_42, e_186_43, e_186_46, e_186_48, e_186_49, e_186_50, e_186_53, e_186_55, e_186_56, e_186_59, e_186_61, e_186_62, e_186_63, lg_n, lg_i, lg_r, wd_nil, am_wd_i, am_wd_r, am_wd_l, am_gk_s, am_fld_s, List.getElem?_cons_zero, List.getElem?_cons_succ, am_bk_v, am_bk_n, bo_0, bo_1, am_pk_s, List.length_cons, List.length_nil, Nat.zero_add, List.set_cons_zero, List.set_cons_succ, Nat.reduceAdd, Nat.reduceLeDiff, Nat.reduceLT, one_ne, if_false, hB.2.2.1, e2, hne, nI_leI (show (obN P σ k).1 < 2 ^ 31 by omega) (show S < 2 ^ 31 by omega), if_neg (show ¬ (obN P σ k).1 ≤ S by omega)]
      exact hcp
    · rw [if_neg hlt] at hob
      refine ⟨h2, f2, g2, b, some (.int (nI S)), x6, ?_, M2, S2, q107, by rw [h108', AI_cong (hg8 (by omega))], fun i hi => by rw [hob]; exact hb (by omega) i hi, FX4.fw F2⟩
      rw [e_186_37, hl1, hob]
      simp only [e_186_39, e_186_42, e_186_43, e_186_46, e_186_48, e_186_49, e_186_50, e_186_53, e_186_55, e_186_56, lg_n, lg_i, lg_r, wd_nil, am_wd_i, am_wd_r, am_wd_l, am_gk_s, am_fld_s, List.getElem?_cons_zero, List.getElem?_cons_succ, am_bk_v, am_bk_n, bo_0, bo_1, am_pk_s, List.length_cons, List.length_nil, Nat.zero_add, List.set_cons_zero, List.set_cons_succ, Nat.reduceAdd, Nat.reduceLeDiff, Nat.reduceLT, one_ne, if_false, hB.2.2.1, e2, hne, nI_leI (show (obN P σ k).1 < 2 ^ 31 by omega) (show S < 2 ^ 31 by omega), if_pos (show (obN P σ k).1 ≤ S by omega)]
theorem l_lines (hD : OKD P) (hO : HOK P σ) (h6 : wcN P σ ≤ 6) {T : Nat → Nat} (hT8 : ∀ i, wcN P σ ≤ i → i < 8 → T i < 8) (hTn : ∀ i, wcN P σ ≤ i → i < P.2.2.2.1 → T i < P.2.2.2.1 ∧ σ.2.2.1 (T i) ≠ 0) {x1 : Option Value} : ∀ j k (h : am_H) (f g : Nat → Int32) (b : Nat → Nat) (g8 : Nat → Int32) (L : Nat → Nat) (x5 x6 : Option Value), k + j + 1 = (prT (wcN P σ)).length → MB h f L → RowP f 0 P → RowH f 0 σ → (∀ i, i < wcN P σ → L i = lnN (wcN P σ) (wlN P σ) k i) → (∀ i, wcN P σ ≤ i → L i = T i) → am_fld (am_at h 87) 8 28 = some (.ref 107) → am_at h 107 = some (AI 8 g) → am_fld (am_at h 87) 8 29 = some (.ref 108) → am_at h 108 = some (AI 8 g8) → (0 < k → ∀ i, i < 8 → g8 i = nI (b i)) → (0 < k → ∀ i, i < wcN P σ → b i = lnN (wcN P σ) (wlN P σ) (obN P σ k).2 i) → ∃ (h' : am_H) (f' g' : Nat → Int32) (b' L' : Nat → Nat) (x5' x6' : Option Value), am_ev (d + 7) 186 37 [some (.ref 87), x1, some (.int (nI (wcN P σ))), some (.int (lsI P σ k)), some (.int 1), x5, x6] [] h = am_ev (d + 7) 186 102 [some (.ref 87), x1, some (.int (nI (wcN P σ))), some (.int (nI (obN P σ (prT (wcN P σ)).length).1)), some (.int 0), x5', x6'] [] h' ∧ MB h' f' L' ∧ RS f f' 366 ∧ am_at h' 107 = some (AI 8 g') ∧ am_at h' 108 = some (AI 8 (fun i => nI (b' i))) ∧ (∀ i, i < wcN P σ → b' i = lnN (wcN P σ) (wlN P σ) (obN P σ (prT (wcN P σ)).length).2 i) ∧ FX4 h h' := by
  have oP := hD.1
  have hn := oP.2.2.2.1
  obtain ⟨m1, m2⟩ := wl_ok (σ := σ) hn h6
  have h8 : ∀ {k : Nat} {L : Nat → Nat}, k < (prT (wcN P σ)).length → (∀ i, i < wcN P σ → L i = lnN (wcN P σ) (wlN P σ) k i) → (∀ i, wcN P σ ≤ i → L i = T i) → ∀ i, i < 8 → L i < 8 := by
    intro k L hk hL hLT i hi
    by_cases c : i < wcN P σ
    · rw [hL i c]
      have := ln_lt (by omega) hk (fun a ha => (m2 a ha).1) i c
      omega
    · rw [hLT i (by omega)]; exact hT8 i (by omega) hi
  intro j
  induction j with
  | zero =>
    intro k h f g b g8 L x5 x6 hk hB hP hR hL hLT f28 h107 f29 h108 hg8 hb
    obtain ⟨h3, f3, g3, b3, y5, y6, e3, M3, S3, q107, q108, hb3, F3⟩ := s_line (d := d) (x1 := x1) (x5 := x5) (x6 := x6) hD hO h6 hTn (by omega) hB hP hR hL hLT f28 h107 f29 h108 hg8 hb
    have hno := (ln_next (by omega) m1 (show k < (prT (wcN P σ)).length by omega) hL).1 (by omega)
    have hnx := m_nextT (d := d + 5) M3.tu (h8 (by omega) hL hLT) h6
    rw [hno] at hnx
    have hK : (prT (wcN P σ)).length = k + 1 := by omega
    rw [hK]
    refine ⟨h3, f3, g3, b3, L, y5, y6, ?_, M3, S3, q107, q108, hb3, F3⟩
    refine e3.trans ?_
    simp only [e_186_92, e_186_93, e_186_94, e_186_97, e_186_99, lg_n, lg_i, lg_r, wd_nil, am_wd_i, am_wd_r, am_wd_l, am_gk_s, am_fld_s, List.getElem?_cons_zero, List.getElem?_cons_succ, am_bk_v, am_bk_n, bo_0, bo_1, am_pk_s, List.length_cons, List.length_nil, Nat.zero_add, List.set_cons_zero, List.set_cons_succ, Nat.reduceAdd, Nat.reduceLeDiff, Nat.reduceLT, M3.2.2.1, hnx]
    rw [e_186_37, e_186_39, if_pos rfl]
  | succ j ih =>
    intro k h f g b g8 L x5 x6 hk hB hP hR hL hLT f28 h107 f29 h108 hg8 hb
    obtain ⟨h3, f3, g3, b3, y5, y6, e3, M3, S3, q107, q108, hb3, F3⟩ := s_line (d := d) (x1 := x1) (x5 := x5) (x6 := x6) hD hO h6 hTn (by omega) hB hP hR hL hLT f28 h107 f29 h108 hg8 hb
    obtain ⟨L', hno, hL1, hL2⟩ := (ln_next (by omega) m1 (show k < (prT (wcN P σ)).length by omega) hL).2 (by omega)
    have hnx := m_nextT (d := d + 5) M3.tu (h8 (by omega) hL hLT) h6
    rw [hno] at hnx
    have hM4 : MB (am_set h3 106 (AI 8 (fun i => nI (L' i)))) f3 L' := ⟨by rw [at_set_ne (by decide)]; exact M3.1, by rw [at_set_ne (by decide)]; exact M3.2.1, by rw [at_set_ne (by decide)]; exact M3.2.2.1, by rw [at_set_ne (by decide)]; exact M3.2.2.2.1, at_set_eq⟩
    have hls : lsI P σ (k + 1) = nI (obN P σ (k + 1)).1 := by unfold lsI; rw [if_neg (by omega)]
    have F4 : FX4 h (am_set h3 106 (AI 8 (fun i => nI (L' i)))) := F3.tr (FX4.set (by decide))
    obtain ⟨h', f', g', b', L5, z5, z6, e5, M5, S5, r107, r108, hb5, F5⟩ := ih (k + 1) _ f3 g3 b3 (fun i => nI (b3 i)) L' y5 y6 (by omega) hM4 (hP.rs hn (by omega) S3) (hR.rs S3 (by omega)) hL1 (fun i hi => by rw [hL2 i hi]; exact hLT i hi) (by rw [F4.2.2 _ (by decide) (by decide) (by decide) (by decide)]; exact f28) (by rw [at_set_ne (by decide)]; exact q107) (by rw [F4.2.2 _ (by decide) (by decide) (by decide) (by decide)]; exact f29) (by rw [at_set_ne (by decide)]; exact q108) (fun _ i _ => rfl) (fun _ => hb3)
    rw [hls] at e5
    refine ⟨h', f', g', b', L5, z5, z6, ?_, M5, S3.tr S5, r107, r108, hb5, F4.tr F5⟩
    refine e3.trans ?_
    simp only [e_186_92, e_186_93, e_186_94, e_186_97, e_186_99, lg_n, lg_i, lg_r, wd_nil, am_wd_i, am_wd_r, am_wd_l, am_gk_s, am_fld_s, List.getElem?_cons_zero, List.getElem?_cons_succ, am_bk_v, am_bk_n, bo_0, bo_1, am_pk_s, List.length_cons, List.length_nil, Nat.zero_add, List.set_cons_zero, List.set_cons_succ, Nat.reduceAdd, Nat.reduceLeDiff, Nat.reduceLT, M3.2.2.1, hnx]
    exact e5
end MO
section MI
variable {d : Nat} {h : am_H} {P : Pn} {σ : Hn} {u : Nat} {pa : Nat → Hn} {kp : Nat → Bool} {ke : Nat → Hn} {t : Nat → Nat} {n sn : Nat} {sF sT sK : Nat → Nat} {nz : Nat → Nat} {nt : Nat → Nat → Nat}
theorem MI.fx (hM : MI h P σ u pa kp ke t n sn sF sT sK nz nt) {h' : am_H} {f f' : Nat → Int32} (hn : P.2.2.2.1 ≤ 8) (hu : u ≤ 8) (hR : MRow f P σ u pa kp ke) (hF : FX4 h h') (h88' : am_at h' 88 = some (AI 392 f')) (hS : RS f f' 366) {g g8 : Nat → Int32} (h106 : am_at h' 106 = some (AI 8 (fun i => nI i))) (h107 : am_at h' 107 = some (AI 8 g)) (h108 : am_at h' 108 = some (AI 8 g8)) : MI h' P σ u pa kp ke t n sn sF sT sK nz nt := by
  obtain ⟨⟨fi, be, rF, rP, cl, dg, h1⟩, h2, h3, h4, h5, ⟨⟨g1, s1⟩, s2, s3, s4, g5, s5⟩⟩ := hM
  have K : ∀ k, (k < 88 ∨ (88 < k ∧ k < 106) ∨ 108 < k) → am_at h' k = am_at h k := fun k hk => hF.2.2 k (by omega) (by omega) (by omega) (by omega)
  exact ⟨⟨fi, be, rF, rP, cl, dg, by rw [K _ (by decide)]; exact h1⟩, ⟨f', h88', hR.tried hn hu hS⟩, by rw [K _ (by decide)]; exact h3, h4.keep (fun k _ _ => K k (by omega)), h5.keep (fun k _ => K k (by omega)), ⟨⟨g1, by rw [K _ (by decide)]; exact s1⟩, fun w hw => by rw [K _ (by omega)]; exact s2 w hw, h106, ⟨g, h107⟩, g8, h108⟩⟩
theorem n_order (hM : MI h P σ u pa kp ke t n sn sF sT sK nz nt) (hD : OKD P) (hO : HOK P σ) (hu : u ≤ 8) (k : Int32) : ∃ h', am_cal (d + 8) 186 [.ref 87, .int k] h = some (some (.int (ordV P σ k)), h') ∧ MI h' P σ u pa kp ke t n sn sF sT sK nz nt ∧ FM h h' := by
  have oP := hD.1
  have hn := oP.2.2.2.1
  obtain ⟨f, h88, hR⟩ := hM.2.1
  have hB := hM.mb h88
  have hin := m_in (d := d + 6) (h := h) k.toInt64 (-1) 5
  rw [l_in32, show (-1 : Int64).toInt = -1 from rfl, show (5 : Int64).toInt = 5 from rfl] at hin
  have e6 : (6 : Int32) = nI 6 := by decide +kernel
  have e7 : (7 : Int32) = nI 7 := by decide +kernel
  have hwn : wcN P σ ≤ P.2.2.2.1 := cntN_le _ _
  unfold ordV
  by_cases a1 : -1 ≤ k.toInt ∧ k.toInt ≤ 5
  · rw [if_pos a1] at hin ⊢
    have ht := m_layTurns (d := d + 5) hB hR.1 hR.2.1 hn
    rw [show cntN (fun q => σ.2.2.1 q == 0) P.2.2.2.1 = wcN P σ from rfl] at ht
    have hB1 : MB (am_set h 106 (AI 8 (fun i => nI (tnN P σ (fun i => i) i)))) f (tnN P σ (fun i => i)) := ⟨by rw [at_set_ne (by decide)]; exact hB.1, by rw [at_set_ne (by decide)]; exact hB.2.1, by rw [at_set_ne (by decide)]; exact hB.2.2.1, by rw [at_set_ne (by decide)]; exact hB.2.2.2.1, at_set_eq⟩
    by_cases a2 : 6 < wcN P σ
    · rw [if_pos a2]
      have hr := m_rising (d := d + 6) hB1.tu
      rw [set_set, set_self hB.2.2.2.2] at hr
      refine ⟨h, ?_, hM, FM.rf⟩
      refine (b_186 _ _ _).trans ?_; show am_ev _ 186 0 [some (.ref 87), some (.int k), none, none, none, none, none] [] _ = _
      simp only [e_186_0, e_186_1, e_186_2, e_186_5, e_186_8, e_186_11, e_186_14, e_186_16, e_186_17, e_186_18, e_186_21, e_186_22, e_186_23, e_186_24, e_186_25, e_186_27, e_186_30, e_186_31, e_186_34, e_186_35, lg_n, lg_i, lg_r, wd_nil, am_wd_i, am_wd_r, am_wd_l, am_gk_s, am_fld_s, List.getElem?_cons_zero, List.getElem?_cons_succ, am_bk_v, am_bk_n, bo_0, bo_1, am_pk_s, List.length_cons, List.length_nil, Nat.zero_add, List.set_cons_zero, List.set_cons_succ, Nat.reduceAdd, Nat.reduceLeDiff, Nat.reduceLT, hin, one_ne, if_false, hB.2.2.1, ht, e7, nI_leI (show 7 < 2 ^ 31 by decide) (show wcN P σ < 2 ^ 31 by omega), if_pos (show 7 ≤ wcN P σ by omega)]
      rw [e_186_37]
      simp only [e_186_39, e_186_102, e_186_103, e_186_106, e_186_107, e_186_109, e_186_112, e_186_113, e_186_140, lg_n, lg_i, lg_r, wd_nil, am_wd_i, am_wd_r, am_wd_l, am_gk_s, am_fld_s, List.getElem?_cons_zero, List.getElem?_cons_succ, am_bk_v, am_bk_n, bo_0, bo_1, am_pk_s, List.length_cons, List.length_nil, Nat.zero_add, List.set_cons_zero, List.set_cons_succ, Nat.reduceAdd, Nat.reduceLeDiff, Nat.reduceLT, if_true, hB1.2.2.1, hr, e6, nI_leI (show wcN P σ < 2 ^ 31 by omega) (show 6 < 2 ^ 31 by decide), if_neg (show ¬ wcN P σ ≤ 6 by omega)]
    · rw [if_neg a2]
      have h6 : wcN P σ ≤ 6 := by omega
      obtain ⟨q1, q2, q3, q4⟩ := tn_ok (P := P) (σ := σ) hn (fun i => i) (fun _ => 0)
      obtain ⟨g7, h107⟩ := hM.2.2.2.2.2.2.2.2.1
      obtain ⟨g8, h108⟩ := hM.2.2.2.2.2.2.2.2.2
      have f28 := hM.f28
      have f29 : am_fld (am_at h 87) 8 29 = some (.ref 108) := by
        obtain ⟨fi, be, rF, rP, cl, dg, h1⟩ := hM.1
        exact (md_fl2 h1).2.2.2.2.2.2.2.2.2.1
      have hpp := pr_pos (w := wcN P σ) (by omega)
      obtain ⟨h2, f2, g2, b2, L2, y5, y6, e2, M2, S2, r107, r108, hb2, F2⟩ := l_lines (d := d) (x1 := some (.int k)) hD hO h6 (T := tnN P σ (fun i => i)) (fun i _ h2 => q2 i h2) (fun i h1 h2 => ⟨q3 i h2, q4 i h1 h2⟩) ((prT (wcN P σ)).length - 1) 0 _ f g7 (fun _ => 0) g8 (tnN P σ (fun i => i)) none none (by omega) hB1 hR.1 hR.2.1 (fun i hi => by rw [ln_0 (by omega) i hi]; exact q1 h6 i hi) (fun i _ => rfl) (by rw [at_set_ne (by decide)]; exact f28) (by rw [at_set_ne (by decide)]; exact h107) (by rw [at_set_ne (by decide)]; exact f29) (by rw [at_set_ne (by decide)]; exact h108) (fun z => absurd z (Nat.lt_irrefl 0)) (fun z => absurd z (Nat.lt_irrefl 0))
      have hr := m_rising (d := d + 6) M2.tu
      have F3 : FX4 h (am_set h2 106 (AI 8 (fun i => nI i))) := ((FX4.set (by decide)).tr F2).tr (FX4.set (by decide))
      have hMI := hM.fx hn hu hR F3 (by rw [at_set_ne (by decide)]; exact M2.2.2.2.1) S2 at_set_eq (by rw [at_set_ne (by decide)]; exact r107) (by rw [at_set_ne (by decide)]; exact r108)
      refine ⟨_, ?_, hMI, F3.fm⟩
      have f29' : am_fld (am_at (am_set h2 106 (AI 8 (fun i => nI i))) 87) 8 29 = some (.ref 108) := by rw [F3.2.2 _ (by decide) (by decide) (by decide) (by decide)]; exact f29
      have r108' : am_at (am_set h2 106 (AI 8 (fun i => nI i))) 108 = some (AI 8 (fun i => nI (b2 i))) := by rw [at_set_ne (by decide)]; exact r108
      have hls : lsI P σ 0 = -1 := rfl
      rw [hls] at e2
      have hA : am_cal (d + 8) 186 [.ref 87, .int k] h = am_ev (d + 7) 186 106 [some (.ref 87), some (.int k), some (.int (nI (wcN P σ))), some (.int (nI (obN P σ (prT (wcN P σ)).length).1)), some (.int 0), y5, y6] [] (am_set h2 106 (AI 8 (fun i => nI i))) := by
        refine (b_186 _ _ _).trans ?_; show am_ev _ 186 0 [some (.ref 87), some (.int k), none, none, none, none, none] [] _ = _
        simp only [e_186_0, e_186_1, e_186_2, e_186_5, e_186_8, e_186_11, e_186_14, e_186_16, e_186_17, e_186_18, e_186_21, e_186_22, e_186_23, e_186_24, e_186_25, e_186_27, e_186_30, e_186_31, e_186_34, e_186_35, lg_n, lg_i, lg_r, wd_nil, am_wd_i, am_wd_r, am_wd_l, am_gk_s, am_fld_s, List.getElem?_cons_zero, List.getElem?_cons_succ, am_bk_v, am_bk_n, bo_0, bo_1, am_pk_s, List.length_cons, List.length_nil, Nat.zero_add, List.set_cons_zero, List.set_cons_succ, Nat.reduceAdd, Nat.reduceLeDiff, Nat.reduceLT, hin, one_ne, if_false, hB.2.2.1, ht, e7, nI_leI (show 7 < 2 ^ 31 by decide) (show wcN P σ < 2 ^ 31 by omega), if_neg (show ¬ 7 ≤ wcN P σ by omega)]
        refine e2.trans ?_
        simp only [e_186_102, e_186_103, lg_n, lg_i, lg_r, wd_nil, am_wd_i, am_wd_r, am_wd_l, am_gk_s, am_fld_s, List.getElem?_cons_zero, List.getElem?_cons_succ, am_bk_v, am_bk_n, bo_0, bo_1, am_pk_s, List.length_cons, List.length_nil, Nat.zero_add, List.set_cons_zero, List.set_cons_succ, Nat.reduceAdd, Nat.reduceLeDiff, Nat.reduceLT, M2.2.2.1, hr]
      rw [hA]
      generalize (obN P σ (prT (wcN P σ)).length).1 = O1 at *
      by_cases hk : k = -1
      · simp only [e_186_106, e_186_107, e_186_109, e_186_112, e_186_113, e_186_116, e_186_117, e_186_118, e_186_121, e_186_122, e_186_140, lg_n, lg_i, lg_r, wd_nil, am_wd_i, am_wd_r, am_wd_l, am_gk_s, am_fld_s, List.getElem?_cons_zero, List.getElem?_cons_succ, am_bk_v, am_bk_n, bo_0, bo_1, am_pk_s, List.length_cons, List.length_nil, Nat.zero_add, List.set_cons_zero, List.set_cons_succ, Nat.reduceAdd, Nat.reduceLeDiff, Nat.reduceLT, e6, nI_leI (show wcN P σ < 2 ^ 31 by omega) (show 6 < 2 ^ 31 by decide), if_pos h6, if_pos hk]
      · rw [if_neg hk]
        obtain ⟨q, rfl, hq⟩ : ∃ q : Nat, k = nI q ∧ q ≤ 5 := by
          have hne : k.toInt ≠ -1 := fun z => hk (by rw [i_eq, z, i_m1])
          exact ⟨k.toInt.toNat, i_of k (by omega), by omega⟩
        rw [nI_toInt (show q < 2 ^ 31 by omega), Int.toNat_natCast]
        by_cases hlt : q < wcN P σ
        · rw [if_pos hlt, ← hb2 q hlt]
          simp only [e_186_106, e_186_107, e_186_109, e_186_112, e_186_113, e_186_116, e_186_117, e_186_118, e_186_125, e_186_126, e_186_127, e_186_130, e_186_131, e_186_134, e_186_135, e_186_136, e_186_140, lg_n, lg_i, lg_r, wd_nil, am_wd_i, am_wd_r, am_wd_l, am_gk_s, am_fld_s, List.getElem?_cons_zero, List.getElem?_cons_succ, am_bk_v, am_bk_n, bo_0, bo_1, am_pk_s, List.length_cons, List.length_nil, Nat.zero_add, List.set_cons_zero, List.set_cons_succ, Nat.reduceAdd, Nat.reduceLeDiff, Nat.reduceLT, e6, nI_leI (show wcN P σ < 2 ^ 31 by omega) (show 6 < 2 ^ 31 by decide), if_pos h6, if_neg hk, nI_leI (show wcN P σ < 2 ^ 31 by omega) (show q < 2 ^ 31 by omega), if_neg (show ¬ wcN P σ ≤ q by omega), f29', r108', ak_AI (show q < 8 by omega) (show 8 < 2 ^ 31 by decide)]
        · rw [if_neg hlt]
          simp only [e_186_106, e_186_107, e_186_109, e_186_112, e_186_113, e_186_116, e_186_117, e_186_118, e_186_125, e_186_126, e_186_127, e_186_139, e_186_140, lg_n, lg_i, lg_r, wd_nil, am_wd_i, am_wd_r, am_wd_l, am_gk_s, am_fld_s, List.getElem?_cons_zero, List.getElem?_cons_succ, am_bk_v, am_bk_n, bo_0, bo_1, am_pk_s, List.length_cons, List.length_nil, Nat.zero_add, List.set_cons_zero, List.set_cons_succ, Nat.reduceAdd, Nat.reduceLeDiff, Nat.reduceLT, e6, nI_leI (show wcN P σ < 2 ^ 31 by omega) (show 6 < 2 ^ 31 by decide), if_pos h6, if_neg hk, nI_leI (show wcN P σ < 2 ^ 31 by omega) (show q < 2 ^ 31 by omega), if_pos (show wcN P σ ≤ q by omega)]
  · rw [if_neg a1] at hin ⊢
    refine ⟨h, ?_, hM, FM.rf⟩
    refine (b_186 _ _ _).trans ?_; show am_ev _ 186 0 [some (.ref 87), some (.int k), none, none, none, none, none] [] _ = _
    simp only [e_186_0, e_186_1, e_186_2, e_186_5, e_186_8, e_186_11, e_186_14, e_186_16, lg_n, lg_i, lg_r, wd_nil, am_wd_i, am_wd_r, am_wd_l, am_gk_s, am_fld_s, List.getElem?_cons_zero, List.getElem?_cons_succ, am_bk_v, am_bk_n, bo_0, bo_1, am_pk_s, List.length_cons, List.length_nil, Nat.zero_add, List.set_cons_zero, List.set_cons_succ, Nat.reduceAdd, Nat.reduceLeDiff, Nat.reduceLT, hin, if_true]
end MI
