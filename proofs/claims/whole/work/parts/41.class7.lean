/-! the class's calls: notes changed -/
def thc (w v : Int32) : Nat := w.toInt.toNat * 100000 + (v.toInt + 50000).toNat
theorem rfT_0 {P : Pn} {x w v : Int32} (hn : P.2.2.2.1 ≤ 8) (h0 : rfT P x w v = 0) : (0 ≤ x.toInt ∧ x.toInt ≤ 2) ∧ (0 ≤ w.toInt ∧ w.toInt ≤ 2) ∧ (-9999 ≤ v.toInt ∧ v.toInt ≤ 9999) ∧ (w = 1 → 0 ≤ v.toInt ∧ v.toInt < P.2.2.2.1) ∧ (w = 2 → 0 ≤ v.toInt ∧ v.toInt ≤ 9) := by
  unfold rfT at h0
  by_cases c1 : ¬ (0 ≤ x.toInt ∧ x.toInt ≤ 2) ∨ (w = 1 ∧ ¬ (0 ≤ v.toInt ∧ v.toInt < P.2.2.2.1))
  · rw [if_pos c1] at h0; exact absurd h0 (by decide)
  · rw [if_neg c1] at h0
    by_cases c2 : ¬ (0 ≤ w.toInt ∧ w.toInt ≤ 2) ∨ (w = 0 ∧ ¬ (-9999 ≤ v.toInt ∧ v.toInt ≤ 9999)) ∨ (w = 2 ∧ ¬ (0 ≤ v.toInt ∧ v.toInt ≤ 9))
    · rw [if_pos c2] at h0; exact absurd h0 (by decide)
    · have a1 : 0 ≤ x.toInt ∧ x.toInt ≤ 2 := Classical.byContradiction (fun z => c1 (Or.inl z))
      have a2 : w = 1 → 0 ≤ v.toInt ∧ v.toInt < P.2.2.2.1 := fun hw => Classical.byContradiction (fun z => c1 (Or.inr ⟨hw, z⟩))
      have a3 : 0 ≤ w.toInt ∧ w.toInt ≤ 2 := Classical.byContradiction (fun z => c2 (Or.inl z))
      have a4 : w = 0 → -9999 ≤ v.toInt ∧ v.toInt ≤ 9999 := fun hw => Classical.byContradiction (fun z => c2 (Or.inr (Or.inl ⟨hw, z⟩)))
      have a5 : w = 2 → 0 ≤ v.toInt ∧ v.toInt ≤ 9 := fun hw => Classical.byContradiction (fun z => c2 (Or.inr (Or.inr ⟨hw, z⟩)))
      refine ⟨a1, a3, ?_, a2, a5⟩
      rcases (show w.toInt = 0 ∨ w.toInt = 1 ∨ w.toInt = 2 by omega) with e | e | e
      · exact a4 (by rw [i_eq, e, i_0])
      · have := a2 (by rw [i_eq, e, i_1]); omega
      · have := a5 (by rw [i_eq, e, i_2]); omega
theorem thc_ok {w v : Int32} (hw : 0 ≤ w.toInt ∧ w.toInt ≤ 2) (hv : -9999 ≤ v.toInt ∧ v.toInt ≤ 9999) : okT (thc w v) ∧ w * 100000 + v + 50000 = nI (thc w v) ∧ thc w v / 100000 = w.toInt.toNat ∧ ((thc w v % 100000 : Nat) : Int) = v.toInt + 50000 := by
  have hm : thc w v % 100000 = (v.toInt + 50000).toNat := by unfold thc; omega
  have hd : thc w v / 100000 = w.toInt.toNat := by unfold thc; omega
  refine ⟨⟨by unfold thc; omega, by rw [hm]; omega, by rw [hm]; omega⟩, ?_, hd, by rw [hm]; omega⟩
  rw [i_eq, nI_toInt (by unfold thc; omega), Int32.toInt_add, Int32.toInt_add, Int32.toInt_mul, show (100000 : Int32).toInt = 100000 from rfl, show (50000 : Int32).toInt = 50000 from rfl]
  unfold thc
  rw [Int.bmod_def, Int.bmod_def, Int.bmod_def]
  omega
def insN (th : Nat → Nat) (i c : Nat) : Nat → Nat := fun k => if k < i then th k else if k = i then c else th (k - 1)
def cutN (th : Nat → Nat) (i j : Nat) : Nat → Nat := fun k => if k < i then th k else th (k + (j - i))
def rotT (f : Nat → Nat) (i j o : Nat) : Nat → Nat := fun k => if i ≤ k ∧ k < j then (if k < i + o then f (k + (j - i) - o) else f (k - o)) else f k
def pasN (tht thf : Nat → Nat) (k i m : Nat) : Nat → Nat := fun x => if x < k then tht x else if x < k + m then thf (i + (x - k)) else tht (x - m)
theorem flp_in {f : Nat → Nat} {i j k : Nat} (h1 : i ≤ k) (h2 : k < j) : flpN f i j k = f (i + j - 1 - k) := by unfold flpN; rw [if_pos ⟨h1, h2⟩]
theorem flp_out {f : Nat → Nat} {i j k : Nat} (h1 : k < i ∨ j ≤ k) : flpN f i j k = f k := by unfold flpN; rw [if_neg (by omega)]
theorem rotN_eq (f : Nat → Nat) {i j o : Nat} (hij : i ≤ j) (ho : o ≤ j - i) : rotN f i j o = rotT f i j o := by
  funext k
  unfold rotN rotT
  by_cases h1 : i ≤ k ∧ k < j
  · rw [if_pos h1]
    by_cases h2 : k < i + o
    · rw [if_pos h2, flp_out (by omega), flp_in h1.1 h2, flp_in (by omega) (by omega)]
      congr 1; omega
    · rw [if_neg h2, flp_in (by omega) h1.2, flp_out (by omega), flp_in (by omega) (by omega)]
      congr 1; omega
  · rw [if_neg h1, flp_out (by omega), flp_out (by omega), flp_out (by omega)]
theorem sk0 {n : Nat} {f : Nat → Int32} {k : Nat → (Nat → Int32) → Option am_R} (hj : 0 < n) (hn : n < 2 ^ 31) : am_sk (some (AI n f)) 0 0 k = k n (ar n f) := by
  have := sk_AI (j := 0) (f := f) (k := k) hj hn
  rwa [nI_0] at this
theorem st0 {n : Nat} {f : Nat → Int32} {x : Int32} (hj : 0 < n) (hn : n < 2 ^ 31) : (Sum.inl (0, n, Sum.inl (upd (ar n f) (0 : Int32).toNatClampNeg x)) : va_E) = AI n (upd f 0 x) := by
  have := st_AI (j := 0) (f := f) (x := x) hj hn
  rwa [nI_0] at this
section CL
variable {d : Nat} {h : am_H} {P : Pn} {σ : Hn} {u : Nat} {pa : Nat → Hn} {kp : Nat → Bool} {ke : Nat → Hn} {t : Nat → Nat} {n sn : Nat} {sF sT sK : Nat → Nat} {nz : Nat → Nat} {nt : Nat → Nat → Nat}
def thn (nt : Nat → Nat → Nat) (q : Nat) (f : Nat → Nat) : Nat → Nat → Nat := fun i => if i = q then f else nt i
theorem c_insert (hC : CI h P σ u pa kp ke t n sn sF sT sK nz nt) (oP : OKP P) (hz : ∀ i, i < 3 → nz i ≤ 13) (x i w v : Int32) : (rfT P x w v ≠ 0 → am_cal (d + 8) 108 [.ref 0, .int x, .int i, .int w, .int v] h = some (some (.int (rfT P x w v)), h)) ∧ (rfT P x w v = 0 → nz x.toInt.toNat = 0 → am_cal (d + 8) 108 [.ref 0, .int x, .int i, .int w, .int v] h = some (some (.int (-11)), h)) ∧ (rfT P x w v = 0 → nz x.toInt.toNat ≠ 0 → ¬ (0 ≤ i.toInt ∧ i.toInt ≤ (nz x.toInt.toNat : Int) - 1) → am_cal (d + 8) 108 [.ref 0, .int x, .int i, .int w, .int v] h = some (some (.int (-12)), h)) ∧ (rfT P x w v = 0 → 0 ≤ i.toInt ∧ i.toInt ≤ (nz x.toInt.toNat : Int) - 1 → nz x.toInt.toNat = 13 → am_cal (d + 8) 108 [.ref 0, .int x, .int i, .int w, .int v] h = some (some (.int (-15)), h)) ∧ (rfT P x w v = 0 → 0 ≤ i.toInt ∧ i.toInt ≤ (nz x.toInt.toNat : Int) - 1 → nz x.toInt.toNat < 13 → ∃ h', am_cal (d + 8) 108 [.ref 0, .int x, .int i, .int w, .int v] h = some (some (.int (nI (nz x.toInt.toNat))), h') ∧ CI h' P σ u pa kp ke t n sn sF sT sK (updn nz x.toInt.toNat (nz x.toInt.toNat + 1)) (thn nt x.toInt.toNat (insN (nt x.toInt.toNat) i.toInt.toNat (thc w v))) ∧ FC h h') := by
  obtain ⟨f0, f1, f2, f3, f4, f5, f6, f7, f8⟩ := hC.fl
  have hrf := m_refT (d := d + 4) hC oP x w v
  refine ⟨fun hne => ?_, ?_⟩
  · refine (b_108 _ _ _).trans ?_; show am_ev _ 108 0 [some (.ref 0), some (.int x), some (.int i), some (.int w), some (.int v), none, none] [] _ = _
    simp only [e_108_0, e_108_1, e_108_2, e_108_3, e_108_5, e_108_8, e_108_10, e_108_12, e_108_15, e_108_17, lg_n, lg_i, lg_r, wd_nil, am_wd_i, am_wd_r, am_wd_l, am_gk_s, am_fld_s, List.getElem?_cons_zero, List.getElem?_cons_succ, am_bk_v, am_bk_n, bo_0, bo_1, am_pk_s, List.length_cons, List.length_nil, Nat.zero_add, List.set_cons_zero, List.set_cons_succ, Nat.reduceAdd, Nat.reduceLeDiff, Nat.reduceLT, f8, hrf, if_neg hne]
  · have main : rfT P x w v = 0 → (nz x.toInt.toNat = 0 → am_cal (d + 8) 108 [.ref 0, .int x, .int i, .int w, .int v] h = some (some (.int (-11)), h)) ∧ (nz x.toInt.toNat ≠ 0 → ¬ (0 ≤ i.toInt ∧ i.toInt ≤ (nz x.toInt.toNat : Int) - 1) → am_cal (d + 8) 108 [.ref 0, .int x, .int i, .int w, .int v] h = some (some (.int (-12)), h)) ∧ (0 ≤ i.toInt ∧ i.toInt ≤ (nz x.toInt.toNat : Int) - 1 → nz x.toInt.toNat = 13 → am_cal (d + 8) 108 [.ref 0, .int x, .int i, .int w, .int v] h = some (some (.int (-15)), h)) ∧ (0 ≤ i.toInt ∧ i.toInt ≤ (nz x.toInt.toNat : Int) - 1 → nz x.toInt.toNat < 13 → ∃ h', am_cal (d + 8) 108 [.ref 0, .int x, .int i, .int w, .int v] h = some (some (.int (nI (nz x.toInt.toNat))), h') ∧ CI h' P σ u pa kp ke t n sn sF sT sK (updn nz x.toInt.toNat (nz x.toInt.toNat + 1)) (thn nt x.toInt.toNat (insN (nt x.toInt.toNat) i.toInt.toNat (thc w v))) ∧ FC h h') := by
      intro h0
      obtain ⟨hx, hw, hv, -, -⟩ := rfT_0 oP.2.2.2.1 h0
      obtain ⟨ok, hth, -, -⟩ := thc_ok hw hv
      rw [h0] at hrf
      obtain ⟨q, rfl, hq⟩ : ∃ q : Nat, x = nI q ∧ q < 3 := ⟨x.toInt.toNat, i_of x hx.1, by omega⟩
      rw [nI_toInt (show q < 2 ^ 31 by omega), Int.toNat_natCast]
      have hN := hC.2.2.2.2.2.2.2.2
      obtain ⟨n1, ⟨g, n2⟩, n3⟩ := id hN
      obtain ⟨s, f, b1, b2⟩ := n3 q hq
      obtain ⟨k0, k1, k2, k3⟩ := fl_note b1
      have hzq := hz q hq
      have e12 : (12 : Int32) = nI 12 := by decide +kernel
      have hwi := m_within (d := d + 6) (h := h) i 0 (nI s)
      have hs31 : s < 2 ^ 31 ∨ nz q = 0 := by
        by_cases hm : nz q = 0
        · exact Or.inr hm
        · have := (b2 hm).1; left; omega
      refine ⟨fun hm => ?_, fun hm hi => ?_, fun hi h13 => ?_, fun hi h13 => ?_⟩
      · rw [if_pos hm] at k0
        refine (b_108 _ _ _).trans ?_; show am_ev _ 108 0 [some (.ref 0), some (.int (nI q)), some (.int i), some (.int w), some (.int v), none, none] [] _ = _
        simp only [e_108_0, e_108_1, e_108_2, e_108_3, e_108_5, e_108_8, e_108_10, e_108_12, e_108_15, e_108_17, e_108_18, e_108_19, e_108_22, e_108_23, e_108_24, e_108_26, e_108_28, e_108_31, e_108_34, e_108_36, lg_n, lg_i, lg_r, wd_nil, am_wd_i, am_wd_r, am_wd_l, am_gk_s, am_fld_s, List.getElem?_cons_zero, List.getElem?_cons_succ, am_bk_v, am_bk_n, bo_0, bo_1, am_pk_s, List.length_cons, List.length_nil, Nat.zero_add, List.set_cons_zero, List.set_cons_succ, Nat.reduceAdd, Nat.reduceLeDiff, Nat.reduceLT, f6, f8, hrf, if_true, n1, qk_AR hq (show 3 < 2 ^ 31 by decide), k0, one_ne, if_false]
      · rw [if_neg hm] at k0
        have hs := (b2 hm).1
        have hiff : ((0 : Int32) ≤ i ∧ i ≤ nI s) ↔ (0 ≤ i.toInt ∧ i.toInt ≤ (nz q : Int) - 1) := by rw [i_le, i_le, nI_toInt (by omega), i_0]; omega
        rw [if_neg (fun z => hi (hiff.1 z))] at hwi
        refine (b_108 _ _ _).trans ?_; show am_ev _ 108 0 [some (.ref 0), some (.int (nI q)), some (.int i), some (.int w), some (.int v), none, none] [] _ = _
        simp only [e_108_0, e_108_1, e_108_2, e_108_3, e_108_5, e_108_8, e_108_10, e_108_12, e_108_15, e_108_17, e_108_18, e_108_19, e_108_22, e_108_23, e_108_24, e_108_26, e_108_28, e_108_31, e_108_34, e_108_36, e_108_37, e_108_38, e_108_39, e_108_41, e_108_44, e_108_47, e_108_50, e_108_52, lg_n, lg_i, lg_r, wd_nil, am_wd_i, am_wd_r, am_wd_l, am_gk_s, am_fld_s, List.getElem?_cons_zero, List.getElem?_cons_succ, am_bk_v, am_bk_n, bo_0, bo_1, am_pk_s, List.length_cons, List.length_nil, Nat.zero_add, List.set_cons_zero, List.set_cons_succ, Nat.reduceAdd, Nat.reduceLeDiff, Nat.reduceLT, f6, f8, hrf, if_true, n1, qk_AR hq (show 3 < 2 ^ 31 by decide), k0, k1, one_ne, if_false, hwi, not_true_eq_false]
      · have hm : ¬ nz q = 0 := by omega
        rw [if_neg hm] at k0
        have hs := (b2 hm).1
        have hiff : ((0 : Int32) ≤ i ∧ i ≤ nI s) ↔ (0 ≤ i.toInt ∧ i.toInt ≤ (nz q : Int) - 1) := by rw [i_le, i_le, nI_toInt (by omega), i_0]; omega
        rw [if_pos (hiff.2 hi)] at hwi
        refine (b_108 _ _ _).trans ?_; show am_ev _ 108 0 [some (.ref 0), some (.int (nI q)), some (.int i), some (.int w), some (.int v), none, none] [] _ = _
        simp only [e_108_0, e_108_1, e_108_2, e_108_3, e_108_5, e_108_8, e_108_10, e_108_12, e_108_15, e_108_17, e_108_18, e_108_19, e_108_22, e_108_23, e_108_24, e_108_26, e_108_28, e_108_31, e_108_34, e_108_36, e_108_37, e_108_38, e_108_39, e_108_41, e_108_44, e_108_47, e_108_50, e_108_52, e_108_53, e_108_55, e_108_58, e_108_60, e_108_63, e_108_65, lg_n, lg_i, lg_r, wd_nil, am_wd_i, am_wd_r, am_wd_l, am_gk_s, am_fld_s, List.getElem?_cons_zero, List.getElem?_cons_succ, am_bk_v, am_bk_n, bo_0, bo_1, am_pk_s, List.length_cons, List.length_nil, Nat.zero_add, List.set_cons_zero, List.set_cons_succ, Nat.reduceAdd, Nat.reduceLeDiff, Nat.reduceLT, f6, f8, hrf, if_true, n1, qk_AR hq (show 3 < 2 ^ 31 by decide), k0, k1, one_ne, if_false, hwi, not_false_eq_true, e12, nI_ltI (show s < 2 ^ 31 by omega) (show 12 < 2 ^ 31 by decide), if_neg (show ¬ s < 12 by omega)]
      · have hm : ¬ nz q = 0 := by omega
        rw [if_neg hm] at k0 b1
        obtain ⟨hs, hfe⟩ := b2 hm
        have hiff : ((0 : Int32) ≤ i ∧ i ≤ nI s) ↔ (0 ≤ i.toInt ∧ i.toInt ≤ (nz q : Int) - 1) := by rw [i_le, i_le, nI_toInt (by omega), i_0]; omega
        rw [if_pos (hiff.2 hi)] at hwi
        obtain ⟨y, rfl, hy⟩ : ∃ y : Nat, i = nI y ∧ y ≤ s := ⟨i.toInt.toNat, i_of i hi.1, by omega⟩
        rw [nI_toInt (show y < 2 ^ 31 by omega), Int.toNat_natCast]
        obtain ⟨h1, hh1⟩ : ∃ h1, h1 = am_set h 80 (AI 12 (fun k => nI (updn g 0 (thc w v) k))) := ⟨_, rfl⟩
        have K1 : ∀ k, k ≠ 80 → am_at h1 k = am_at h k := fun k hk => by rw [hh1]; exact at_set_ne hk
        have g80 : am_at h1 80 = some (AI 12 (fun k => nI (updn g 0 (thc w v) k))) := by rw [hh1]; exact at_set_eq
        have B1 : NoteAt h1 (81 + 2 * q) 0 s f := b1.keep (fun k _ _ => K1 k (by omega))
        have hsi := m_setIn (d := d + 5) B1 (m := 1) g80 (by omega) hy (by omega)
        rw [show nI 1 = 1 by decide +kernel] at hsi
        have N1 : NS h1 nz nt := by
          refine ⟨by rw [K1 _ (by decide)]; exact n1, ⟨_, g80⟩, fun k hk => ?_⟩
          obtain ⟨s', f', c1, c2⟩ := n3 k hk
          exact ⟨s', f', c1.keep (fun r _ _ => K1 r (by omega)), c2⟩
        have N2 := ns_put N1 hq (z := nz q + 1) (s := s + 1) (f := cpN (updn g 0 (thc w v)) (cpN f f y (y + 1) (s - y)) 0 y 1) (th := insN (nt q) y (thc w v)) (mi := 0) (by rw [if_neg (by omega)]) (fun _ => ⟨by omega, fun k hk => by
          unfold cpN insN
          by_cases c1 : k < y
          · rw [if_pos c1, if_neg (by omega), if_neg (by omega), hfe k (by omega)]
          · rw [if_neg c1]
            by_cases c2 : k = y
            · rw [if_pos c2, if_pos (by omega), show 0 + (k - y) = 0 by omega]
              simp [updn]
            · rw [if_neg c2, if_neg (by omega), if_pos (by omega), show y + (k - (y + 1)) = k - 1 by omega, hfe (k - 1) (by omega)]⟩)
        have B2 := NoteAt_pN h1 (81 + 2 * q) 0 (s + 1) (cpN (updn g 0 (thc w v)) (cpN f f y (y + 1) (s - y)) 0 y 1)
        obtain ⟨r0, r1, r2, r3⟩ := fl_note B2
        obtain ⟨j0, j1, j2, j3⟩ := fl_note B1
        have CI1 : CI h1 P σ u pa kp ke t n sn sF sT sK nz nt := hC.ns N1 (fun k hk => K1 k (by omega))
        refine ⟨_, ?_, CI1.ns N2 (fun k hk => at_pN_ne (by omega)), FC.tr (by rw [hh1]; exact FC.set (by decide)) (FC.pN (by omega))⟩
        have z0 : am_at h1 0 = am_at h 0 := K1 0 (by decide)
        refine (b_108 _ _ _).trans ?_; show am_ev _ 108 0 [some (.ref 0), some (.int (nI q)), some (.int (nI y)), some (.int w), some (.int v), none, none] [] _ = _
        simp only [e_108_0, e_108_1, e_108_2, e_108_3, e_108_5, e_108_8, e_108_10, e_108_12, e_108_15, e_108_17, e_108_18, e_108_19, e_108_22, e_108_23, e_108_24, e_108_26, e_108_28, e_108_31, e_108_34, e_108_36, e_108_37, e_108_38, e_108_39, e_108_41, e_108_44, e_108_47, e_108_50, e_108_52, e_108_53, e_108_55, e_108_58, e_108_60, e_108_63, e_108_65, e_108_66, e_108_67, e_108_70, e_108_71, e_108_72, e_108_74, lg_n, lg_i, lg_r, wd_nil, am_wd_i, am_wd_r, am_wd_l, am_gk_s, am_fld_s, List.getElem?_cons_zero, List.getElem?_cons_succ, am_bk_v, am_bk_n, bo_0, bo_1, am_pk_s, List.length_cons, List.length_nil, Nat.zero_add, List.set_cons_zero, List.set_cons_succ, Nat.reduceAdd, Nat.reduceLeDiff, Nat.reduceLT, f6, f7, f8, hrf, if_true, n1, qk_AR hq (show 3 < 2 ^ 31 by decide), k0, k1, one_ne, if_false, hwi, not_false_eq_true, e12, nI_ltI (show s < 2 ^ 31 by omega) (show 12 < 2 ^ 31 by decide), if_pos (show s < 12 by omega), m_thing, hth]
        simp only [e_108_77, n2, sk0 (show 0 < 12 by decide) (show 12 < 2 ^ 31 by decide), st0 (show 0 < 12 by decide) (show 12 < 2 ^ 31 by decide), updn_map nI]
        rw [← hh1]
        simp only [e_108_78, e_108_80, e_108_81, e_108_82, e_108_85, e_108_86, e_108_89, e_108_91, e_108_94, lg_n, lg_i, lg_r, wd_nil, am_wd_i, am_wd_r, am_wd_l, am_gk_s, am_fld_s, List.getElem?_cons_zero, List.getElem?_cons_succ, am_bk_v, am_bk_n, bo_0, bo_1, am_pk_s, List.length_cons, List.length_nil, Nat.zero_add, List.set_cons_zero, List.set_cons_succ, Nat.reduceAdd, Nat.reduceLeDiff, Nat.reduceLT, z0, f7, j3, hsi, r1]
        rw [show nz q = s + 1 by omega]
    exact ⟨fun h0 => (main h0).1, fun h0 => (main h0).2.1, fun h0 => (main h0).2.2.1, fun h0 => (main h0).2.2.2⟩
end CL
