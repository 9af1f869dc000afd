/-! the class's calls: paste, count -/
/-- what a paste is refused for; 0: nothing -/
def rfP (nz : Nat → Nat) (x k y i j : Int32) : Int32 := if ¬ (0 ≤ x.toInt ∧ x.toInt ≤ 2) ∨ ¬ (0 ≤ y.toInt ∧ y.toInt ≤ 2) then -2 else if nz x.toInt.toNat = 0 ∨ nz y.toInt.toNat = 0 then -11 else if (i.toInt < 0 ∨ (nz y.toInt.toNat : Int) - 1 < j.toInt) ∨ ¬ (0 ≤ k.toInt ∧ k.toInt ≤ (nz x.toInt.toNat : Int) - 1) then -12 else if j.toInt < i.toInt then -13 else if 12 < (nz x.toInt.toNat : Int) - 1 + (j.toInt - i.toInt) then -15 else 0
section CL
variable {d : Nat} {h : am_H} {P : Pn} {σ : Hn} {u : Nat} {pa : Nat → Hn} {kp : Nat → Bool} {ke : Nat → Hn} {t : Nat → Nat} {n sn : Nat} {sF sT sK : Nat → Nat} {nz : Nat → Nat} {nt : Nat → Nat → Nat}
theorem c_paste (hC : CI h P σ u pa kp ke t n sn sF sT sK nz nt) (hz : ∀ i, i < 3 → nz i ≤ 13) (x k y i j : Int32) : (rfP nz x k y i j ≠ 0 → am_cal (d + 8) 113 [.ref 0, .int x, .int k, .int y, .int i, .int j] h = some (some (.int (rfP nz x k y i j)), h)) ∧ (rfP nz x k y i j = 0 → ∃ h', am_cal (d + 8) 113 [.ref 0, .int x, .int k, .int y, .int i, .int j] h = some (some (.int (nI (nz x.toInt.toNat - 1 + (j.toInt.toNat - i.toInt.toNat)))), h') ∧ CI h' P σ u pa kp ke t n sn sF sT sK (updn nz x.toInt.toNat (nz x.toInt.toNat + (j.toInt.toNat - i.toInt.toNat))) (thn nt x.toInt.toNat (pasN (nt x.toInt.toNat) (nt y.toInt.toNat) k.toInt.toNat i.toInt.toNat (j.toInt.toNat - i.toInt.toNat))) ∧ FC h h') := by
  obtain ⟨f0, f1, f2, f3, f4, f5, f6, f7, f8⟩ := hC.fl
  have hhx := m_hasNotes (d := d + 5) (h := h) x
  have hhy := m_hasNotes (d := d + 5) (h := h) y
  have hrf := m_refS (d := d + 4) hC hz y i j
  by_cases hA : 0 ≤ x.toInt ∧ x.toInt ≤ 2
  · rw [if_pos hA] at hhx
    by_cases hB : 0 ≤ y.toInt ∧ y.toInt ≤ 2
    · rw [if_pos hB] at hhy
      obtain ⟨q, rfl, hq⟩ : ∃ q : Nat, x = nI q ∧ q < 3 := ⟨x.toInt.toNat, i_of x hA.1, by omega⟩
      obtain ⟨r, rfl, hr⟩ : ∃ r : Nat, y = nI r ∧ r < 3 := ⟨y.toInt.toNat, i_of y hB.1, by omega⟩
      have hqi := nI_toInt (show q < 2 ^ 31 by omega)
      have hri := nI_toInt (show r < 2 ^ 31 by omega)
      have hN := hC.2.2.2.2.2.2.2.2
      obtain ⟨n1, ⟨g, n2⟩, n3⟩ := id hN
      obtain ⟨s, f, b1, b2⟩ := n3 q hq
      obtain ⟨s', f', b1', b2'⟩ := n3 r hr
      obtain ⟨k0, k1, k2, k3⟩ := fl_note b1
      obtain ⟨k0', k1', k2', k3'⟩ := fl_note b1'
      have hzq := hz q hq
      have hzr := hz r hr
      have e12 : (12 : Int32) = nI 12 := by decide +kernel
      unfold rfP
      unfold rfS at hrf
      rw [hqi, hri, Int.toNat_natCast, Int.toNat_natCast, if_neg (show ¬ (¬ (0 ≤ (q : Int) ∧ (q : Int) ≤ 2) ∨ ¬ (0 ≤ (r : Int) ∧ (r : Int) ≤ 2)) by omega)]
      rw [hri, Int.toNat_natCast, if_neg (show ¬ ¬ (0 ≤ (r : Int) ∧ (r : Int) ≤ 2) by omega)] at hrf
      by_cases hm : nz q = 0
      · rw [if_pos (Or.inl hm)]
        refine ⟨fun _ => ?_, fun z => absurd z (by decide)⟩
        rw [if_pos hm] at k0
        refine (b_113 _ _ _).trans ?_; show am_ev _ 113 0 [some (.ref 0), some (.int (nI q)), some (.int k), some (.int (nI r)), some (.int i), some (.int j), none] [] _ = _
        simp only [e_113_0, e_113_1, e_113_2, e_113_5, e_113_8, e_113_9, e_113_10, e_113_13, e_113_16, e_113_18, e_113_19, e_113_20, e_113_23, e_113_24, e_113_25, e_113_28, e_113_31, e_113_33, lg_n, lg_i, lg_r, wd_nil, am_wd_i, am_wd_r, am_wd_l, am_gk_s, am_fld_s, List.getElem?_cons_zero, List.getElem?_cons_succ, am_bk_v, am_bk_n, bo_0, bo_1, am_pk_s, List.length_cons, List.length_nil, Nat.zero_add, List.set_cons_zero, List.set_cons_succ, Nat.reduceAdd, Nat.reduceLeDiff, Nat.reduceLT, f6, f8, hhx, hhy, one_ne, not_false_eq_true, if_true, if_false, n1, qk_AR hq (show 3 < 2 ^ 31 by decide), k0]
      · rw [if_neg hm] at k0 b1
        obtain ⟨hs, hfe⟩ := b2 hm
        by_cases hm' : nz r = 0
        · rw [if_pos hm'] at hrf
          rw [if_pos (Or.inr hm')]
          refine ⟨fun _ => ?_, fun z => absurd z (by decide)⟩
          refine (b_113 _ _ _).trans ?_; show am_ev _ 113 0 [some (.ref 0), some (.int (nI q)), some (.int k), some (.int (nI r)), some (.int i), some (.int j), none] [] _ = _
          simp only [e_113_0, e_113_1, e_113_2, e_113_5, e_113_8, e_113_9, e_113_10, e_113_13, e_113_16, e_113_18, e_113_19, e_113_20, e_113_23, e_113_24, e_113_25, e_113_28, e_113_31, e_113_33, e_113_34, e_113_35, e_113_36, e_113_38, e_113_40, e_113_43, e_113_45, e_113_47, e_113_50, e_113_52, e_113_54, e_113_57, e_113_59, lg_n, lg_i, lg_r, wd_nil, am_wd_i, am_wd_r, am_wd_l, am_gk_s, am_fld_s, List.getElem?_cons_zero, List.getElem?_cons_succ, am_bk_v, am_bk_n, bo_0, bo_1, am_pk_s, List.length_cons, List.length_nil, Nat.zero_add, List.set_cons_zero, List.set_cons_succ, Nat.reduceAdd, Nat.reduceLeDiff, Nat.reduceLT, f6, f8, hhx, hhy, one_ne, not_false_eq_true, if_true, if_false, n1, qk_AR hq (show 3 < 2 ^ 31 by decide), k0, hrf, show ((-11 : Int32) = 0) = False by decide, show ((-11 : Int32) = -13) = False by decide]
        · rw [if_neg hm'] at hrf b1'
          obtain ⟨hs', hfe'⟩ := b2' hm'
          rw [if_neg (show ¬ (nz q = 0 ∨ nz r = 0) by omega)]
          have hwi := m_within (d := d + 6) (h := h) k 0 (nI s)
          have hiff : ((0 : Int32) ≤ k ∧ k ≤ nI s) ↔ (0 ≤ k.toInt ∧ k.toInt ≤ (nz q : Int) - 1) := by rw [i_le, i_le, nI_toInt (by omega), i_0]; omega
          by_cases c1 : i.toInt < 0 ∨ (nz r : Int) - 1 < j.toInt
          · rw [if_pos c1] at hrf
            rw [if_pos (Or.inl c1)]
            refine ⟨fun _ => ?_, fun z => absurd z (by decide)⟩
            refine (b_113 _ _ _).trans ?_; show am_ev _ 113 0 [some (.ref 0), some (.int (nI q)), some (.int k), some (.int (nI r)), some (.int i), some (.int j), none] [] _ = _
            simp only [e_113_0, e_113_1, e_113_2, e_113_5, e_113_8, e_113_9, e_113_10, e_113_13, e_113_16, e_113_18, e_113_19, e_113_20, e_113_23, e_113_24, e_113_25, e_113_28, e_113_31, e_113_33, e_113_34, e_113_35, e_113_36, e_113_38, e_113_40, e_113_43, e_113_45, e_113_47, e_113_50, e_113_52, e_113_54, e_113_57, e_113_59, lg_n, lg_i, lg_r, wd_nil, am_wd_i, am_wd_r, am_wd_l, am_gk_s, am_fld_s, List.getElem?_cons_zero, List.getElem?_cons_succ, am_bk_v, am_bk_n, bo_0, bo_1, am_pk_s, List.length_cons, List.length_nil, Nat.zero_add, List.set_cons_zero, List.set_cons_succ, Nat.reduceAdd, Nat.reduceLeDiff, Nat.reduceLT, f6, f8, hhx, hhy, one_ne, not_false_eq_true, if_true, if_false, n1, qk_AR hq (show 3 < 2 ^ 31 by decide), k0, hrf, show ((-12 : Int32) = 0) = False by decide, show ((-12 : Int32) = -13) = False by decide]
          · rw [if_neg c1] at hrf
            by_cases c2 : 0 ≤ k.toInt ∧ k.toInt ≤ (nz q : Int) - 1
            · rw [if_pos (hiff.2 c2)] at hwi
              rw [if_neg (show ¬ ((i.toInt < 0 ∨ (nz r : Int) - 1 < j.toInt) ∨ ¬ (0 ≤ k.toInt ∧ k.toInt ≤ (nz q : Int) - 1)) by omega)]
              by_cases c3 : j.toInt < i.toInt
              · rw [if_pos c3] at hrf ⊢
                refine ⟨fun _ => ?_, fun z => absurd z (by decide)⟩
                refine (b_113 _ _ _).trans ?_; show am_ev _ 113 0 [some (.ref 0), some (.int (nI q)), some (.int k), some (.int (nI r)), some (.int i), some (.int j), none] [] _ = _
                simp only [e_113_0, e_113_1, e_113_2, e_113_5, e_113_8, e_113_9, e_113_10, e_113_13, e_113_16, e_113_18, e_113_19, e_113_20, e_113_23, e_113_24, e_113_25, e_113_28, e_113_31, e_113_33, e_113_34, e_113_35, e_113_36, e_113_38, e_113_40, e_113_43, e_113_45, e_113_47, e_113_50, e_113_52, e_113_54, e_113_57, e_113_59, e_113_60, e_113_61, e_113_62, e_113_63, e_113_66, e_113_67, e_113_68, e_113_71, e_113_74, e_113_77, e_113_79, e_113_80, e_113_82, e_113_84, e_113_87, e_113_89, lg_n, lg_i, lg_r, wd_nil, am_wd_i, am_wd_r, am_wd_l, am_gk_s, am_fld_s, List.getElem?_cons_zero, List.getElem?_cons_succ, am_bk_v, am_bk_n, bo_0, bo_1, am_pk_s, List.length_cons, List.length_nil, Nat.zero_add, List.set_cons_zero, List.set_cons_succ, Nat.reduceAdd, Nat.reduceLeDiff, Nat.reduceLT, f6, f8, hhx, hhy, one_ne, not_false_eq_true, not_true_eq_false, if_true, if_false, n1, qk_AR hq (show 3 < 2 ^ 31 by decide), k0, k1, hrf, hwi, show ((-13 : Int32) = 0) = False by decide]
              · rw [if_neg c3] at hrf ⊢
                have hil := i.toInt_lt
                have hjl := j.toInt_lt
                have hkl := k.toInt_lt
                obtain ⟨a, rfl, hab31⟩ : ∃ a : Nat, i = nI a ∧ a < 2 ^ 31 := ⟨i.toInt.toNat, i_of i (by omega), by omega⟩
                obtain ⟨b, rfl, hbb31⟩ : ∃ b : Nat, j = nI b ∧ b < 2 ^ 31 := ⟨j.toInt.toNat, i_of j (by omega), by omega⟩
                obtain ⟨e, rfl, heb31⟩ : ∃ e : Nat, k = nI e ∧ e < 2 ^ 31 := ⟨k.toInt.toNat, i_of k c2.1, by omega⟩
                rw [nI_toInt hab31, nI_toInt hbb31] at c1 c3
                rw [nI_toInt heb31] at c2
                rw [nI_toInt hab31, nI_toInt hbb31, nI_toInt heb31, Int.toNat_natCast, Int.toNat_natCast, Int.toNat_natCast]
                have hab : a ≤ b := by omega
                have hbs : b ≤ s' := by omega
                have hes : e ≤ s := by omega
                by_cases c4 : 12 < (nz q : Int) - 1 + ((b : Int) - a)
                · rw [if_pos c4]
                  refine ⟨fun _ => ?_, fun z => absurd z (by decide)⟩
                  refine (b_113 _ _ _).trans ?_; show am_ev _ 113 0 [some (.ref 0), some (.int (nI q)), some (.int (nI e)), some (.int (nI r)), some (.int (nI a)), some (.int (nI b)), none] [] _ = _
                  simp only [e_113_0, e_113_1, e_113_2, e_113_5, e_113_8, e_113_9, e_113_10, e_113_13, e_113_16, e_113_18, e_113_19, e_113_20, e_113_23, e_113_24, e_113_25, e_113_28, e_113_31, e_113_33, e_113_34, e_113_35, e_113_36, e_113_38, e_113_40, e_113_43, e_113_45, e_113_47, e_113_50, e_113_52, e_113_54, e_113_57, e_113_59, e_113_60, e_113_61, e_113_62, e_113_63, e_113_66, e_113_67, e_113_68, e_113_71, e_113_74, e_113_77, e_113_79, e_113_80, e_113_82, e_113_84, e_113_87, e_113_89, e_113_90, e_113_91, e_113_94, e_113_95, e_113_96, e_113_99, e_113_101, e_113_103, e_113_104, e_113_105, e_113_107, e_113_110, e_113_112, lg_n, lg_i, lg_r, wd_nil, am_wd_i, am_wd_r, am_wd_l, am_gk_s, am_fld_s, List.getElem?_cons_zero, List.getElem?_cons_succ, am_bk_v, am_bk_n, bo_0, bo_1, am_pk_s, List.length_cons, List.length_nil, Nat.zero_add, List.set_cons_zero, List.set_cons_succ, Nat.reduceAdd, Nat.reduceLeDiff, Nat.reduceLT, f6, f8, hhx, hhy, one_ne, not_false_eq_true, not_true_eq_false, if_true, if_false, n1, qk_AR hq (show 3 < 2 ^ 31 by decide), k0, k1, hrf, hwi, show ((0 : Int32) = -13) = False by decide, pk_sub hab, nI_add, e12, nI_leI (show s + (b - a) < 2 ^ 31 by omega) (show 12 < 2 ^ 31 by decide), if_neg (show ¬ s + (b - a) ≤ 12 by omega)]
                · rw [if_neg c4]
                  refine ⟨fun z => absurd rfl z, fun _ => ?_⟩
                  have hri2 := m_readInto (d := d + 5) b1' n2 hab (show b ≤ 12 by omega)
                  obtain ⟨h1, hh1⟩ : ∃ h1, h1 = am_set h 80 (AI 12 (fun k => nI (cpN f' g a 0 (b - a) k))) := ⟨_, rfl⟩
                  rw [← hh1] at hri2
                  have K1 : ∀ k, k ≠ 80 → am_at h1 k = am_at h k := fun k hk => by rw [hh1]; exact at_set_ne hk
                  have g80 : am_at h1 80 = some (AI 12 (fun k => nI (cpN f' g a 0 (b - a) k))) := by rw [hh1]; exact at_set_eq
                  have B1 : NoteAt h1 (81 + 2 * q) 0 s f := b1.keep (fun k _ _ => K1 k (by omega))
                  have hsi := m_setIn (d := d + 5) B1 (m := b - a) g80 (by omega) hes (by omega)
                  have N1 : NS h1 nz nt := by
                    refine ⟨by rw [K1 _ (by decide)]; exact n1, ⟨_, g80⟩, fun k hk => ?_⟩
                    obtain ⟨s2, f2, c1, c2⟩ := n3 k hk
                    exact ⟨s2, f2, c1.keep (fun r _ _ => K1 r (by omega)), c2⟩
                  have N2 := ns_put N1 hq (z := nz q + (b - a)) (s := s + (b - a)) (f := cpN (cpN f' g a 0 (b - a)) (cpN f f e (e + (b - a)) (s - e)) 0 e (b - a)) (th := pasN (nt q) (nt r) e a (b - a)) (mi := 0) (by rw [if_neg (by omega)]) (fun _ => ⟨by omega, fun k hk => by
                    unfold cpN pasN
                    by_cases d1 : k < e
                    · rw [if_pos d1, if_neg (by omega), if_neg (by omega), hfe k (by omega)]
                    · rw [if_neg d1]
                      by_cases d2 : k < e + (b - a)
                      · rw [if_pos d2, if_pos (by omega), if_pos (by omega), show a + (0 + (k - e) - 0) = a + (k - e) by omega, hfe' _ (by omega)]
                      · rw [if_neg d2, if_neg (by omega), if_pos (by omega), show e + (k - (e + (b - a))) = k - (b - a) by omega, hfe _ (by omega)]⟩)
                  obtain ⟨r0, r1, r2, r3⟩ := fl_note (NoteAt_pN h1 (81 + 2 * q) 0 (s + (b - a)) (cpN (cpN f' g a 0 (b - a)) (cpN f f e (e + (b - a)) (s - e)) 0 e (b - a)))
                  obtain ⟨j0, j1, j2, j3⟩ := fl_note B1
                  have CI1 : CI h1 P σ u pa kp ke t n sn sF sT sK nz nt := hC.ns N1 (fun k hk => K1 k (by omega))
                  have CI2 := CI1.ns N2 (fun k hk => at_pN_ne (by omega))
                  obtain ⟨v0, v1, v2, v3, v4, v5, v6, v7, v8⟩ := CI1.fl
                  obtain ⟨w0, w1, w2, w3, w4, w5, w6, w7, w8⟩ := CI2.fl
                  refine ⟨_, ?_, CI2, FC.tr (by rw [hh1]; exact FC.set (by decide)) (FC.pN (by omega))⟩
                  refine (b_113 _ _ _).trans ?_; show am_ev _ 113 0 [some (.ref 0), some (.int (nI q)), some (.int (nI e)), some (.int (nI r)), some (.int (nI a)), some (.int (nI b)), none] [] _ = _
                  simp only [e_113_0, e_113_1, e_113_2, e_113_5, e_113_8, e_113_9, e_113_10, e_113_13, e_113_16, e_113_18, e_113_19, e_113_20, e_113_23, e_113_24, e_113_25, e_113_28, e_113_31, e_113_33, e_113_34, e_113_35, e_113_36, e_113_38, e_113_40, e_113_43, e_113_45, e_113_47, e_113_50, e_113_52, e_113_54, e_113_57, e_113_59, e_113_60, e_113_61, e_113_62, e_113_63, e_113_66, e_113_67, e_113_68, e_113_71, e_113_74, e_113_77, e_113_79, e_113_80, e_113_82, e_113_84, e_113_87, e_113_89, e_113_90, e_113_91, e_113_94, e_113_95, e_113_96, e_113_99, e_113_101, e_113_103, e_113_104, e_113_105, e_113_107, e_113_110, e_113_112, e_113_113, e_113_114, e_113_117, e_113_118, e_113_119, e_113_120, e_113_123, e_113_125, e_113_127, e_113_130, e_113_131, e_113_134, e_113_135, e_113_136, e_113_137, e_113_138, e_113_141, e_113_143, e_113_145, e_113_146, e_113_149, e_113_150, e_113_153, e_113_154, e_113_155, e_113_158, lg_n, lg_i, lg_r, wd_nil, am_wd_i, am_wd_r, am_wd_l, am_gk_s, am_fld_s, List.getElem?_cons_zero, List.getElem?_cons_succ, am_bk_v, am_bk_n, bo_0, bo_1, am_pk_s, List.length_cons, List.length_nil, Nat.zero_add, List.set_cons_zero, List.set_cons_succ, Nat.reduceAdd, Nat.reduceLeDiff, Nat.reduceLT, f6, f7, f8, hhx, hhy, one_ne, not_false_eq_true, not_true_eq_false, if_true, if_false, n1, qk_AR hq (show 3 < 2 ^ 31 by decide), qk_AR hr (show 3 < 2 ^ 31 by decide), k0, k1, hrf, hwi, show ((0 : Int32) = -13) = False by decide, pk_sub hab, nI_add, e12, nI_leI (show s + (b - a) < 2 ^ 31 by omega) (show 12 < 2 ^ 31 by decide), if_pos (show s + (b - a) ≤ 12 by omega), k3', hri2, v6, v7, N1.1, j3, hsi, w6, N2.1, r1]
                  rw [show nz q - 1 = s by omega]
            · rw [if_neg (fun z => c2 (hiff.1 z))] at hwi
              rw [if_pos (Or.inr c2)]
              refine ⟨fun _ => ?_, fun z => absurd z (by decide)⟩
              have hr0 : ∃ R : Int32, hrf = hrf ∧ (R = 0 ∨ R = -13) ∧ am_cal (d + 7) 124 [.ref 0, .int (nI r), .int i, .int j] h = some (some (.int R), h) := by
                by_cases c3 : j.toInt < i.toInt
                · rw [if_pos c3] at hrf; exact ⟨-13, rfl, Or.inr rfl, hrf⟩
                · rw [if_neg c3] at hrf; exact ⟨0, rfl, Or.inl rfl, hrf⟩
              obtain ⟨R, -, hR, hrR⟩ := hr0
              refine (b_113 _ _ _).trans ?_; show am_ev _ 113 0 [some (.ref 0), some (.int (nI q)), some (.int k), some (.int (nI r)), some (.int i), some (.int j), none] [] _ = _
              rcases hR with rfl | rfl
              · simp only [e_113_0, e_113_1, e_113_2, e_113_5, e_113_8, e_113_9, e_113_10, e_113_13, e_113_16, e_113_18, e_113_19, e_113_20, e_113_23, e_113_24, e_113_25, e_113_28, e_113_31, e_113_33, e_113_34, e_113_35, e_113_36, e_113_38, e_113_40, e_113_43, e_113_45, e_113_47, e_113_50, e_113_52, e_113_54, e_113_57, e_113_59, e_113_60, e_113_61, e_113_62, e_113_63, e_113_66, e_113_67, e_113_68, e_113_71, e_113_74, e_113_77, e_113_79, lg_n, lg_i, lg_r, wd_nil, am_wd_i, am_wd_r, am_wd_l, am_gk_s, am_fld_s, List.getElem?_cons_zero, List.getElem?_cons_succ, am_bk_v, am_bk_n, bo_0, bo_1, am_pk_s, List.length_cons, List.length_nil, Nat.zero_add, List.set_cons_zero, List.set_cons_succ, Nat.reduceAdd, Nat.reduceLeDiff, Nat.reduceLT, f6, f8, hhx, hhy, one_ne, not_false_eq_true, not_true_eq_false, if_true, if_false, n1, qk_AR hq (show 3 < 2 ^ 31 by decide), k0, k1, hrR, hwi]
              · simp only [e_113_0, e_113_1, e_113_2, e_113_5, e_113_8, e_113_9, e_113_10, e_113_13, e_113_16, e_113_18, e_113_19, e_113_20, e_113_23, e_113_24, e_113_25, e_113_28, e_113_31, e_113_33, e_113_34, e_113_35, e_113_36, e_113_38, e_113_40, e_113_43, e_113_45, e_113_47, e_113_50, e_113_52, e_113_54, e_113_57, e_113_59, e_113_60, e_113_61, e_113_62, e_113_63, e_113_66, e_113_67, e_113_68, e_113_71, e_113_74, e_113_77, e_113_79, lg_n, lg_i, lg_r, wd_nil, am_wd_i, am_wd_r, am_wd_l, am_gk_s, am_fld_s, List.getElem?_cons_zero, List.getElem?_cons_succ, am_bk_v, am_bk_n, bo_0, bo_1, am_pk_s, List.length_cons, List.length_nil, Nat.zero_add, List.set_cons_zero, List.set_cons_succ, Nat.reduceAdd, Nat.reduceLeDiff, Nat.reduceLT, f6, f8, hhx, hhy, one_ne, not_false_eq_true, not_true_eq_false, if_true, if_false, n1, qk_AR hq (show 3 < 2 ^ 31 by decide), k0, k1, hrR, hwi, show ((-13 : Int32) = 0) = False by decide]
    · rw [if_neg hB] at hhy
      have hv : rfP nz x k y i j = -2 := by unfold rfP; rw [if_pos (Or.inr hB)]
      rw [hv]
      refine ⟨fun _ => ?_, fun z => absurd z (by decide)⟩
      refine (b_113 _ _ _).trans ?_; show am_ev _ 113 0 [some (.ref 0), some (.int x), some (.int k), some (.int y), some (.int i), some (.int j), none] [] _ = _
      simp only [e_113_0, e_113_1, e_113_2, e_113_5, e_113_8, e_113_9, e_113_10, e_113_13, e_113_16, e_113_18, lg_n, lg_i, lg_r, wd_nil, am_wd_i, am_wd_r, am_wd_l, am_gk_s, am_fld_s, List.getElem?_cons_zero, List.getElem?_cons_succ, am_bk_v, am_bk_n, bo_0, bo_1, am_pk_s, List.length_cons, List.length_nil, Nat.zero_add, List.set_cons_zero, List.set_cons_succ, Nat.reduceAdd, Nat.reduceLeDiff, Nat.reduceLT, f8, hhx, hhy, one_ne, not_true_eq_false, if_true, if_false]
  · rw [if_neg hA] at hhx
    have hv : rfP nz x k y i j = -2 := by unfold rfP; rw [if_pos (Or.inl hA)]
    rw [hv]
    refine ⟨fun _ => ?_, fun z => absurd z (by decide)⟩
    refine (b_113 _ _ _).trans ?_; show am_ev _ 113 0 [some (.ref 0), some (.int x), some (.int k), some (.int y), some (.int i), some (.int j), none] [] _ = _
    simp only [e_113_0, e_113_1, e_113_2, e_113_5, e_113_8, e_113_9, e_113_10, e_113_13, e_113_16, e_113_18, lg_n, lg_i, lg_r, wd_nil, am_wd_i, am_wd_r, am_wd_l, am_gk_s, am_fld_s, List.getElem?_cons_zero, List.getElem?_cons_succ, am_bk_v, am_bk_n, bo_0, bo_1, am_pk_s, List.length_cons, List.length_nil, Nat.zero_add, List.set_cons_zero, List.set_cons_succ, Nat.reduceAdd, Nat.reduceLeDiff, Nat.reduceLT, f8, hhx, if_true]
def totN (nz : Nat → Nat) : Nat → Nat
  | 0 => 0
  | k + 1 => totN nz k + (nz k - 1)
theorem totN_le {nz : Nat → Nat} (hz : ∀ i, i < 3 → nz i ≤ 13) : ∀ k, k ≤ 3 → totN nz k ≤ 12 * k
  | 0, _ => Nat.le_refl _
  | k + 1, h => by
    have := totN_le hz k (by omega)
    have := hz k (by omega)
    unfold totN
    omega
theorem l_things (hC : CI h P σ u pa kp ke t n sn sF sT sK nz nt) : ∀ j k, k + j = 3 → am_ev d 125 4 [some (.ref 0), some (.int (nI (totN nz k))), some (.int (nI k))] [] h = some (some (.int (nI (totN nz 3))), h) := by
  obtain ⟨f0, f1, f2, f3, f4, f5, f6, f7, f8⟩ := hC.fl
  obtain ⟨n1, n2, n3⟩ := hC.2.2.2.2.2.2.2.2
  have e3 : (3 : Int32) = nI 3 := by decide +kernel
  intro j
  induction j with
  | zero =>
    intro k hk
    have : k = 3 := by omega
    subst this
    rw [e_125_4]
    simp only [e_125_5, e_125_6, e_125_43, e_125_44, lg_n, lg_i, lg_r, wd_nil, am_wd_i, am_wd_r, am_wd_l, am_gk_s, am_fld_s, List.getElem?_cons_zero, List.getElem?_cons_succ, am_bk_v, am_bk_n, bo_0, bo_1, am_pk_s, List.length_cons, List.length_nil, Nat.zero_add, List.set_cons_zero, List.set_cons_succ, Nat.reduceAdd, Nat.reduceLeDiff, Nat.reduceLT, e3, nI_leI (show 3 < 2 ^ 31 by decide) (show 3 < 2 ^ 31 by decide), Nat.le_refl, if_true]
  | succ j ih =>
    intro k hk
    have ih' := ih (k + 1) (by omega)
    have hk3 : k < 3 := by omega
    obtain ⟨s, f, b1, b2⟩ := n3 k hk3
    obtain ⟨k0, k1, k2, k3⟩ := fl_note b1
    rw [totN] at ih'
    rw [e_125_4]
    by_cases hm : nz k = 0
    · rw [if_pos hm] at k0
      rw [hm] at ih'
      simp only [e_125_5, e_125_6, e_125_9, e_125_10, e_125_11, e_125_14, e_125_15, e_125_16, e_125_19, e_125_22, e_125_23, e_125_26, e_125_27, e_125_30, e_125_31, e_125_32, e_125_35, e_125_36, e_125_37, e_125_40, lg_n, lg_i, lg_r, wd_nil, am_wd_i, am_wd_r, am_wd_l, am_gk_s, am_fld_s, List.getElem?_cons_zero, List.getElem?_cons_succ, am_bk_v, am_bk_n, bo_0, bo_1, am_pk_s, List.length_cons, List.length_nil, Nat.zero_add, List.set_cons_zero, List.set_cons_succ, Nat.reduceAdd, Nat.reduceLeDiff, Nat.reduceLT, e3, nI_leI (show 3 < 2 ^ 31 by decide) (show k < 2 ^ 31 by omega), if_neg (show ¬ 3 ≤ k by omega), f6, n1, qk_AR hk3 (show 3 < 2 ^ 31 by decide), k0, one_ne, if_false, Int32.add_zero, nI_1]
      exact ih'
    · rw [if_neg hm] at k0
      obtain ⟨hs, -⟩ := b2 hm
      rw [show nz k - 1 = s by omega] at ih'
      simp only [e_125_5, e_125_6, e_125_9, e_125_10, e_125_11, e_125_14, e_125_15, e_125_16, e_125_19, e_125_22, e_125_23, e_125_26, e_125_27, e_125_30, e_125_31, e_125_32, e_125_35, e_125_36, e_125_37, e_125_40, lg_n, lg_i, lg_r, wd_nil, am_wd_i, am_wd_r, am_wd_l, am_gk_s, am_fld_s, List.getElem?_cons_zero, List.getElem?_cons_succ, am_bk_v, am_bk_n, bo_0, bo_1, am_pk_s, List.length_cons, List.length_nil, Nat.zero_add, List.set_cons_zero, List.set_cons_succ, Nat.reduceAdd, Nat.reduceLeDiff, Nat.reduceLT, e3, nI_leI (show 3 < 2 ^ 31 by decide) (show k < 2 ^ 31 by omega), if_neg (show ¬ 3 ≤ k by omega), f6, n1, qk_AR hk3 (show 3 < 2 ^ 31 by decide), k0, k1, if_true, nI_add, nI_1]
      exact ih'
theorem c_count (hC : CI h P σ u pa kp ke t n sn sF sT sK nz nt) (oP : OKP P) (w : Int32) : am_cal (d + 8) 116 [.ref 0, .int w] h = some (some (.int (if w = 0 then nI P.1 else if w = 1 then nI P.2.2.2.1 else if w = 2 then nI σ.1 else if w = 3 then nI (bitsN (fun q => sI (σ.2.2.1 q) == 0) P.2.2.2.1) else if w = 4 then nI (bitsN (fun q => sI (σ.2.2.1 q) == 1) P.2.2.2.1) else if w = 5 then nI (bitsN (fun q => sI (σ.2.2.1 q) == 2) P.2.2.2.1) else if w = 6 then nI σ.2.1 else if w = 7 then nI P.2.1 else if w = 8 then nI sn else if w = 9 then nI (totN nz 3) else if w = 10 then nI u else if w = 11 then nI n else -3)), h) := by
  obtain ⟨f0, f1, f2, f3, f4, f5, f6, f7, f8⟩ := hC.fl
  have hn := oP.2.2.2.1
  have hp := hC.2.2.1
  have hh := hC.2.2.2.1
  obtain ⟨g0, g1, g2, g3, -⟩ := fl_plan hp
  obtain ⟨r0, r1, r2, -⟩ := fl_house hh
  obtain ⟨nx, hP⟩ := hC.2.2.2.2.1
  obtain ⟨p0, p1, p2, p3, p4, p5⟩ := hP.fl
  obtain ⟨c, b, e, D, hX, hD⟩ := hC.2.2.2.2.2.1
  obtain ⟨x0, x1, -⟩ := hX.1.fl
  obtain ⟨gg, hS⟩ := hC.2.2.2.2.2.2.2.1
  obtain ⟨y0, y1, y2, y3, -⟩ := hS.fl
  have hth : am_cal (d + 7) 125 [.ref 0] h = some (some (.int (nI (totN nz 3))), h) := by
    refine (b_125 _ _ _).trans ?_; show am_ev _ 125 0 [some (.ref 0), none, none] [] _ = _
    simp only [e_125_0, e_125_1, e_125_2, e_125_3, lg_n, lg_i, lg_r, wd_nil, am_wd_i, am_wd_r, am_wd_l, am_gk_s, am_fld_s, List.getElem?_cons_zero, List.getElem?_cons_succ, am_bk_v, am_bk_n, bo_0, bo_1, am_pk_s, List.length_cons, List.length_nil, Nat.zero_add, List.set_cons_zero, List.set_cons_succ, Nat.reduceAdd, Nat.reduceLeDiff, Nat.reduceLT]
    exact l_things hC 3 0 (by omega)
  refine (b_116 _ _ _).trans ?_; show am_ev _ 116 0 [some (.ref 0), some (.int w)] [] _ = _
  simp only [e_116_0, e_116_1, e_116_64, e_116_65, e_116_68, e_116_71, e_116_72, e_116_73, e_116_76, e_116_79, e_116_80, e_116_81, e_116_84, e_116_87, e_116_88, e_116_89, e_116_92, e_116_93, e_116_96, e_116_97, e_116_98, e_116_101, e_116_102, e_116_105, e_116_106, e_116_107, e_116_110, e_116_111, e_116_114, e_116_115, e_116_116, e_116_119, e_116_122, e_116_123, e_116_124, e_116_127, e_116_130, e_116_131, e_116_132, e_116_135, e_116_138, e_116_139, e_116_140, e_116_143, e_116_144, e_116_145, e_116_148, e_116_151, e_116_152, e_116_153, e_116_156, e_116_159, e_116_160, e_116_162, lg_n, lg_i, lg_r, wd_nil, am_wd_i, am_wd_r, am_wd_l, am_gk_s, am_fld_s, List.getElem?_cons_zero, List.getElem?_cons_succ, am_bk_v, am_bk_n, bo_0, bo_1, am_pk_s, List.length_cons, List.length_nil, Nat.zero_add, List.set_cons_zero, List.set_cons_succ, Nat.reduceAdd, Nat.reduceLeDiff, Nat.reduceLT, f0, f1, f2, f3, f5, f8, g0, g1, g3, r1, r2, is_house hh, m_peopleWho hp hh hn, p3, x1, y3, hth]
  by_cases w0 : w = 0
  · simp [w0]
  · by_cases w1 : w = 1
    · simp [w1]
    · by_cases w2 : w = 2
      · simp [w2]
      · by_cases w3 : w = 3
        · simp [w3]
        · by_cases w4 : w = 4
          · simp [w4]
          · by_cases w5 : w = 5
            · simp [w5]
            · by_cases w6 : w = 6
              · simp [w6]
              · by_cases w7 : w = 7
                · simp [w7]
                · by_cases w8 : w = 8
                  · simp [w8]
                  · by_cases w9 : w = 9
                    · simp [w9]
                    · by_cases w10 : w = 10
                      · simp [w10]
                      · by_cases w11 : w = 11
                        · simp [w11]
                        · simp [w0, w1, w2, w3, w4, w5, w6, w7, w8, w9, w10, w11]
end CL
